/-! the reference's couples that may be -/
def RCs (p1 : List Lin) (I : MI) (cls : Nat → Int) (told N a c : Nat) (I' : MI) : Prop := frK [97, 98, 99, 100, 108] I I' ∧ ∀ p q : Nat, p < N → q < N → (I' 108 (120 * p + q) = 0 ∨ I' 108 (120 * p + q) = 1) ∧ (I' 108 (120 * p + q) = 1 ↔ mE p1 I cls told a c p q)
theorem grd_le {E : Nat → Nat → Bool} : ∀ (r A : List Nat), (grd E r A).length ≤ r.length + A.length
  | [], A => by show A.length ≤ _; omega
  | p :: r, A => by
    by_cases h : feas E (p :: A)
    · rw [grd_y h]
      have := grd_le (E := E) r (p :: A)
      simp only [List.length_cons] at this ⊢
      omega
    · rw [grd_n h]
      have := grd_le (E := E) r A
      simp only [List.length_cons]
      omega
theorem iy120 {p q p' q' : Nat} (hq : q < 120) (hq' : q' < 120) (h : 120 * p' + q' = 120 * p + q) : p' = p ∧ q' = q := by omega
theorem iyb {p q N : Nat} (hp : p < N) (hq : q < N) (hN : N ≤ 120) : (0 : Int) ≤ ((120 * p + q : Nat) : Int) ∧ ((120 * p + q : Nat) : Int) < 14400 := by omega
section ENDSM
variable {G : Ctx} {h n : Nat} {I : MI} {J : MJ} {b : B3}
theorem s237_i {Q : MP} {p1 : List Lin} {cls : Nat → Int} {told N a p : Nat} (hh : 4 ≤ h) (hT : rTown 0 92 I) (hB : rBook 0 92 I) (ht : rTxt 16 92 1 I false p1) (hto : I 7 0 = told) (hN : N ≤ 120) (c1 : ∀ e : Nat, e < told → I 101 e = cls e) (c2 : ∀ p : Nat, p < N → I 105 p = srt I cls told p) (hcl : ∀ o, -1 ≤ cls o ∧ cls o < N) (ha : a < told) (hp : cls a = p) (hs : srt I cls told p = 0) : ∀ (m c : Nat) (I' : MI), c + m = told → RCs p1 I cls told N a c I' → (∀ I2, RCs p1 I cls told N (a + 1) 0 I2 → Tri G h 237 119 119 24 [some (vr 91), some (vi ((a : Int) + 1))] [] (I2, J, PP b) Q) → Tri G h 237 119 119 63 [some (vr 91), some (vi (a : Int)), some (vi (c : Int))] [] (I', J, PP b) Q := by
  have b1 := hB.1
  simp only [Nat.reduceAdd] at b1
  have hpa := hcl a
  intro m
  induction m with
  | zero =>
    intro c I' hc hC k
    obtain rfl : c = told := by omega
    refine x237_63 hh ?_
    rw [hC.1 92 (by decide), b1.2.2, hto]
    refine ⟨fun _ => ?_, fun q => by omega⟩
    rw [w32_id (by omega) (by omega)]
    exact k I' ⟨hC.1, fun p' q' h1 h2 => by rw [mE_next]; exact hC.2 p' q' h1 h2⟩
  | succ m ih =>
    intro c I' hc hC k
    obtain ⟨hf, hb⟩ := hC
    have e101 : ∀ e : Nat, e < told → I' 101 e = cls e := fun e he => by rw [hf 101 (by decide)]; exact c1 e he
    have skip : ∀ I2, frK [97, 98, 99, 100, 108] I I2 → (∀ j, I2 108 j = I' 108 j) → (∀ q : Nat, cls c = q → srt I cls told q = 1 → alN p1 I a c = true → False) → Tri G h 237 119 119 63 [some (vr 91), some (vi (a : Int)), some (vi ((c : Int) + 1))] [] (I2, J, PP b) Q := by
      intro I2 g1 g4 hn
      refine ih (c + 1) I2 (by omega) ⟨g1, fun p' q' h1 h2 => ?_⟩ k
      rw [g4, mE_s ha (by omega)]
      have := hb p' q' h1 h2
      exact ⟨this.1, fun z => Or.inl (this.2.1 z), fun z => z.elim this.2.2 fun z => (hn q' z.2.1 z.2.2.2.1 z.2.2.2.2).elim⟩
    refine x237_63 hh ?_
    rw [hf 92 (by decide), b1.2.2, hto, toN, e101 c (by omega), w32_id (x := (c : Int) + 1) (by omega) (by omega)]
    rcases clsR hcl c with e | ⟨q, e, hqN⟩
    · rw [e]
      exact ⟨fun z => by omega, fun _ => ⟨by omega, fun _ => skip I' hf (fun _ => rfl) (fun q h1 => by omega), fun z => absurd rfl z⟩⟩
    · rw [e, toN, hf 105 (by decide), c2 q hqN]
      refine ⟨fun z => by omega, fun _ => ⟨by omega, fun z => by omega, fun _ => ⟨by omega, by omega, fun q1 => skip I' hf (fun _ => rfl) (fun q' h1 h2 => ?_), fun q1 => ?_⟩⟩⟩
      · have : q' = q := by omega
        rw [this] at h2
        exact absurd h2 q1
      · have q2 := Decidable.of_not_not q1
        refine s227 (kk := 1) (t := 16) (p := p1) hh (by decide) (hT.k hf (by decide)) (hB.k hf (by decide)) (ht.k hf (by decide) (by decide) (by decide)) (x := a) (y := c) (by rw [hf 7 (by decide), hto]; omega) (by rw [hf 7 (by decide), hto]; omega) (by decide) fun I2 hf2 => ?_
        rw [alN_k p1 hf (by decide)]
        have g1 : frK [97, 98, 99, 100, 108] I I2 := hf.t (hf2.mo (by decide))
        have g4 : ∀ j, I2 108 j = I' 108 j := fun j => by rw [hf2 108 (by decide)]
        have g5 : ∀ e : Nat, e < told → I2 101 e = cls e := fun e he => by rw [hf2 101 (by decide)]; exact e101 e he
        cases hal : alN p1 I a c with
        | false =>
          refine ⟨fun z => absurd rfl z, fun _ => skip I2 g1 g4 (fun q' _ _ h3 => ?_)⟩
          rw [hal] at h3
          exact absurd h3 (by decide)
        | true =>
          refine ⟨fun _ => ?_, fun z => absurd (by decide) z⟩
          have ew : w32 (w32 (120 * (p : Int)) + (q : Int)) = ((120 * p + q : Nat) : Int) := by
            rw [w32_id (x := 120 * (p : Int)) (by omega) (by omega), w32_id (by omega) (by omega)]
            omega
          rw [toN, g5 a (by omega), g5 c (by omega), hp, e, ew, toN]
          clear ew
          have hpN : p < N := by omega
          refine ⟨by omega, by omega, iyb hpN hqN hN, ih (c + 1) _ (by omega) ⟨g1.u (by decide), fun p' q' h1 h2 => ?_⟩ k⟩
          have := hb p' q' h1 h2
          rw [u2_at, g4, mE_s ha (by omega)]
          by_cases z : 120 * p' + q' = 120 * p + q
          · obtain ⟨z1, z2⟩ := iy120 (by omega) (by omega) z
            rw [if_pos z]
            refine ⟨Or.inr rfl, fun _ => Or.inr ?_, fun _ => rfl⟩
            rw [z1, z2]
            exact ⟨hp, e, hs, q2, hal⟩
          · rw [if_neg z]
            refine ⟨this.1, fun w => Or.inl (this.2.1 w), fun w => w.elim this.2.2 fun w => ?_⟩
            obtain ⟨w1, w2, -⟩ := w
            exact absurd (by rw [Int.ofNat_inj.1 (w1.symm.trans hp), Int.ofNat_inj.1 (w2.symm.trans e)]) z
theorem s237_o {Q : MP} {p1 : List Lin} {cls : Nat → Int} {told N : Nat} (hh : 4 ≤ h) (hT : rTown 0 92 I) (hB : rBook 0 92 I) (ht : rTxt 16 92 1 I false p1) (hto : I 7 0 = told) (hN : N ≤ 120) (c1 : ∀ e : Nat, e < told → I 101 e = cls e) (c2 : ∀ p : Nat, p < N → I 105 p = srt I cls told p) (hcl : ∀ o, -1 ≤ cls o ∧ cls o < N) (k : ∀ I2, RCs p1 I cls told N told 0 I2 → Q none (I2, J, PP b)) : ∀ (m a : Nat) (I' : MI), a + m = told → RCs p1 I cls told N a 0 I' → Tri G h 237 119 119 24 [some (vr 91), some (vi (a : Int))] [] (I', J, PP b) Q := by
  have b1 := hB.1
  simp only [Nat.reduceAdd] at b1
  intro m
  induction m with
  | zero =>
    intro a I' ha hC
    obtain rfl : a = told := by omega
    refine x237_24 (Nat.zero_le _) ?_
    rw [hC.1 92 (by decide), b1.2.2, hto]
    exact ⟨fun _ => k I' hC, fun q => by omega⟩
  | succ m ih =>
    intro a I' ha hC
    have hf := hC.1
    have e101 : I' 101 a = cls a := by rw [hf 101 (by decide)]; exact c1 a (by omega)
    have skip : (∀ p : Nat, cls a = p → srt I cls told p ≠ 0) → Tri G h 237 119 119 24 [some (vr 91), some (vi ((a : Int) + 1))] [] (I', J, PP b) Q := fun hn => ih (a + 1) I' (by omega) ⟨hC.1, fun p' q' h1 h2 => by rw [mE_no hn]; exact hC.2 p' q' h1 h2⟩
    refine x237_24 (Nat.zero_le _) ?_
    rw [hf 92 (by decide), b1.2.2, hto, toN, e101, w32_id (x := (a : Int) + 1) (by omega) (by omega)]
    rcases clsR hcl a with e | ⟨p, e, hpN⟩
    · rw [e]
      exact ⟨fun z => by omega, fun _ => ⟨by omega, fun _ => skip (fun q h1 => by omega), fun z => absurd rfl z⟩⟩
    · rw [e, toN, hf 105 (by decide), c2 p hpN]
      refine ⟨fun z => by omega, fun _ => ⟨by omega, fun z => by omega, fun _ => ⟨by omega, by omega, fun q1 => ?_, fun q1 => skip (fun q' h1 => ?_)⟩⟩⟩
      · exact s237_i hh hT hB ht hto hN c1 c2 hcl (by omega) e q1 told 0 I' (by omega) hC fun I2 hC2 => ih (a + 1) I2 (by omega) hC2
      · have : q' = p := by omega
        rw [this]
        exact q1
theorem s237_0 {Q : MP} (k : ∀ I2, frK [108] I I2 → (∀ j : Nat, j < 14400 → I2 108 j = 0) → Tri G h 237 119 119 24 [some (vr 91), some (vi 0)] [] (I2, J, PP b) Q) : ∀ (m i : Nat) (I' : MI), i + m = 14400 → frK [108] I I' → (∀ j : Nat, j < i → I' 108 j = 0) → Tri G h 237 119 119 2 [some (vr 91), some (vi (i : Int))] [] (I', J, PP b) Q := by
  intro m
  induction m with
  | zero =>
    intro i I' hi hf h0
    refine x237_2 (Nat.zero_le _) ⟨fun _ => k I' hf (fun j hj => h0 j (by omega)), fun q => by omega⟩
  | succ m ih =>
    intro i I' hi hf h0
    refine x237_2 (Nat.zero_le _) ⟨fun q => by omega, fun _ => ⟨by omega, ?_⟩⟩
    rw [toN, w32_id (by omega) (by omega)]
    refine ih (i + 1) _ (by omega) (hf.u (by decide)) (fun j hj => ?_)
    rw [u2_at]
    split
    · rfl
    · exact h0 j (by omega)
theorem s237 {K : MI → MJ → B3 → Prop} {p1 : List Lin} {cls : Nat → Int} {told N : Nat} (hh : 5 ≤ h) (hT : rTown 0 92 I) (hB : rBook 0 92 I) (ht : rTxt 16 92 1 I false p1) (hto : I 7 0 = told) (hN : N ≤ 120) (c1 : ∀ e : Nat, e < told → I 101 e = cls e) (c2 : ∀ p : Nat, p < N → I 105 p = srt I cls told p) (hcl : ∀ o, -1 ≤ cls o ∧ cls o < N) (k : ∀ I2, RCs p1 I cls told N told 0 I2 → K I2 J b) : TriM G h 237 119 119 [vr 91] (I, J, PP b) (cVN K) := by
  refine x237_m hh (fun h hh => x237 (by omega) (s237_0 (I := I) (fun I2 hf h0 => ?_) 14400 0 I (by omega) frK.r (fun j hj => by omega)))
  refine s237_o (I := I) (by omega) hT hB ht hto hN c1 c2 hcl (fun I3 hC => cVN_r (k I3 hC)) told 0 I2 (by omega) ⟨hf.mo (by decide), fun p q hp hq => ?_⟩
  rw [h0 _ (by omega)]
  exact ⟨Or.inl rfl, fun z => absurd z (by decide), fun z => absurd z mE_0⟩
theorem s239_c {Q : MP} {E : Nat → Nat → Bool} {so : Nat → Int} {N : Nat} (hh : 130 ≤ h) (hES : ∀ p q, E p q = true → p < N ∧ q < N ∧ so p = 0 ∧ so q = 1) (hN : N ≤ 120) (h26 : I 91 26 = N) (c2 : ∀ p : Nat, p < N → I 105 p = so p) (hE : ∀ p q : Nat, p < N → q < N → I 108 (120 * p + q) = if E p q = true then 1 else 0) : ∀ (m p : Nat) (I' : MI) (A : List Nat) (l : Int), p + m = N → frK [106, 107] I I' → l = (N : Int) - A.length → MVr E A (cut N (I' 106)) → ED E N (I' 106) → A.Nodup → (∀ q ∈ A, q < p) → (∀ I2, frK [106, 107] I I2 → Q (some (vi ((N : Int) - ((grd E ((List.range' p m).filter (fun p => decide (so p = 0))) A).length : Nat)))) (I2, J, PP b)) → Tri G h 239 119 119 70 [some (vr 91), none, some (vi l), some (vi (p : Int))] [] (I', J, PP b) Q := by
  intro m
  induction m with
  | zero =>
    intro p I' A l hp hf hl hM hD hA hAp k
    refine x239_70 (Nat.zero_le _) ?_
    rw [hf 91 (by decide), h26, hl]
    exact ⟨fun _ => k I' hf, fun q => by omega⟩
  | succ m ih =>
    intro p I' A l hp hf hl hM hD hA hAp k
    have hpA : p ∉ A := fun z => by have := hAp p z; omega
    have hAl := nd_le hA (N := N) (fun q hq => by have := hAp q hq; omega)
    have er : (List.range' p (m + 1)).filter (fun p => decide (so p = 0)) = if so p = 0 then p :: (List.range' (p + 1) m).filter (fun p => decide (so p = 0)) else (List.range' (p + 1) m).filter (fun p => decide (so p = 0)) := by
      rw [List.range'_succ, List.filter_cons]
      by_cases z : so p = 0
      · rw [if_pos z, if_pos (decide_eq_true z)]
      · rw [if_neg z, if_neg (by simpa using z)]
    have seen : ∀ (m2 j : Nat) (I2 : MI), j + m2 = N → frK [106, 107] I I2 → I2 106 = I' 106 → (∀ i : Nat, i < j → I2 107 i = 0) → so p = 0 → Tri G h 239 119 119 93 [some (vr 91), none, some (vi l), some (vi (p : Int)), some (vi (j : Int))] [] (I2, J, PP b) Q := by
      intro m2
      induction m2 with
      | zero =>
        intro j I2 hj hf2 h106 h0 hso
        obtain rfl : j = N := by omega
        rw [er, if_pos hso] at k
        have hU : Ux j I2 = fun q => q < j := by
          funext q
          exact propext ⟨And.left, fun h => ⟨h, h0 q h⟩⟩
        have inj : ∀ q q', q < j → q' < j → I' 106 q = I' 106 q' → I' 106 q ≠ -1 → q = q' := by
          intro q q' hq hq' e hn
          exact hM.1 q q' (by rw [cut_in hq, cut_in hq']; exact e) (by rw [cut_in hq]; exact hn)
        have hpn : ∀ q, q < j → I' 106 q ≠ p := by
          intro q hq z
          rcases hM.2.1 q with g | ⟨p', g1, g2, -⟩
          · rw [cut_in hq] at g
            omega
          · rw [cut_in hq] at g2
            have : p' = p := by omega
            rw [this] at g1
            exact hpA g1
        refine x239_93 (by omega) ?_
        rw [hf2 91 (by decide), h26]
        refine ⟨fun _ => s238 (K := fun _ _ _ _ => True) (E := E) (N := j) hN h26 hE j h p I2 _ (cntE_b _ _).2 (by omega) (by omega) hf2 (fun q hq => Or.inl (h0 q hq)) (by rw [h106]; exact hD) ?_ ?_ (fun I3 hf3 hS hD3 => ?_) (fun I3 hf3 hF => ?_), fun q => by omega⟩
        · rw [hU, h106]
          exact inj
        · rw [hU, h106]
          exact hpn
        · rw [hU, h106] at hS
          have hM3 := hM.step hS (fun q hq => by
            rcases hD3 q hq with g | ⟨p', -, g2, g3⟩
            · exact Or.inl g
            · exact Or.inr ⟨p', g2, g3⟩)
          have hfe := hM3.fe
          refine ⟨fun q => absurd q (by decide), fun _ => ?_⟩
          rw [w32_id (x := l - 1) (by omega) (by omega), w32_id (by omega) (by omega)]
          refine ih (p + 1) I3 (p :: A) _ (by omega) hf3 (by rw [List.length_cons]; omega) hM3 hD3 (List.nodup_cons.2 ⟨hpA, hA⟩) (fun q hq => ?_) (fun I4 g => ?_)
          · rcases List.mem_cons.1 hq with rfl | hq
            · omega
            · have := hAp q hq
              omega
          · have := k I4 g
            rw [grd_y hfe] at this
            exact this
        · obtain ⟨f1, f2, f3, f4⟩ := hF
          rw [h106] at f1 f4
          have hno : ¬ feas E (p :: A) := by
            refine hM.no (T := fun q => q < j ∧ I3 107 q ≠ 0) (List.nodup_cons.2 ⟨hpA, hA⟩) (fun q hq => ?_) (fun q he => ?_) (fun q hq p' hp' q' he => ?_)
            · rw [cut_in hq.1]
              exact (f4 q hq.1 hq.2 (h0 q hq.1)).1
            · have := (hES p q he).2.1
              exact ⟨this, f3 q this this he⟩
            · have h9 := (hES p' q' he).2.1
              rw [cut_in hq.1] at hp'
              exact ⟨h9, (f4 q hq.1 hq.2 (h0 q hq.1)).2 p' hp' q' h9 he⟩
          refine ⟨fun _ => ?_, fun q => absurd rfl q⟩
          rw [w32_id (x := l - 0) (by omega) (by omega), w32_id (by omega) (by omega)]
          refine ih (p + 1) I3 A _ (by omega) hf3 (by omega) (by rw [f1]; exact hM) (by rw [f1]; exact hD) hA (fun q hq => by have := hAp q hq; omega) (fun I4 g => ?_)
          have := k I4 g
          rw [grd_n hno] at this
          exact this
      | succ m2 ih2 =>
        intro j I2 hj hf2 h106 h0 hso
        refine x239_93 (by omega) ?_
        rw [hf2 91 (by decide), h26, toN, w32_id (x := (j : Int) + 1) (by omega) (by omega)]
        refine ⟨fun q => by omega, fun _ => ⟨by omega, ih2 (j + 1) _ (by omega) (hf2.u (by decide)) (by rw [u2_ne (by decide)]; exact h106) (fun i hi => ?_) hso⟩⟩
        rw [u2_at]
        split
        · rfl
        · exact h0 i (by omega)
    refine x239_70 (Nat.zero_le _) ?_
    rw [hf 91 (by decide), h26, toN, hf 105 (by decide), c2 p (by omega), w32_id (x := (p : Int) + 1) (by omega) (by omega)]
    refine ⟨fun q => by omega, fun _ => ⟨by omega, fun q1 => seen N 0 I' (by omega) hf rfl (fun i hi => by omega) q1, fun q1 => ?_⟩⟩
    rw [er, if_neg q1] at k
    exact ih (p + 1) I' A l (by omega) hf hl hM hD hA (fun q hq => by have := hAp q hq; omega) k
theorem s239_w {Q : MP} {cls : Nat → Int} {told N : Nat} (hh : 5 ≤ h) (hB : rBook 0 92 I) (hto : I 7 0 = told) (hN : N ≤ 120) (h26 : I 91 26 = N) (c1 : ∀ e : Nat, e < told → I 101 e = cls e) (k : ∀ I2, frK [105, 106] I I2 → (∀ p : Nat, p < N → I2 105 p = srt I cls told p ∧ I2 106 p = -1) → TriM G h 237 119 119 [vr 91] (I2, J, PP b) (cVN fun I1 J1 b1 => (Tri G h 239 119 119 70 [some (vr 91), none, some (vi (I1 91 26)), some (vi 0)] [] (I1, J1, PP b1) Q))) : ∀ (m p : Nat) (I' : MI), p + m = N → frK [105, 106] I I' → (∀ j : Nat, j < p → I' 105 j = srt I cls told j ∧ I' 106 j = -1) → Tri G h 239 119 119 27 [some (vr 91), none, some (vi (p : Int))] [] (I', J, PP b) Q := by
  intro m
  induction m with
  | zero =>
    intro p I' hp hf h0
    obtain rfl : p = N := by omega
    refine x239_27 hh ?_
    rw [hf 91 (by decide), h26]
    exact ⟨fun _ => k I' hf h0, fun q => by omega⟩
  | succ m ih =>
    intro p I' hp hf h0
    refine x239_27 hh ?_
    rw [hf 91 (by decide), h26]
    refine ⟨fun q => by omega, fun _ => s232 (cls := cls) (told := told) (by omega) (hB.k hf (by decide)) (by rw [hf 7 (by decide)]; exact hto) (fun e he => by rw [hf 101 (by decide)]; exact c1 e he) ⟨by omega, by omega, ?_⟩⟩
    rw [toN, w32_id (by omega) (by omega), srt_c (hf 8 (by decide))]
    refine ih (p + 1) _ (by omega) ((hf.u (by decide)).u (by decide)) (fun j hj => ?_)
    rw [u2_ne (by decide), u2_at, u2_at, u2_ne (by decide)]
    by_cases e : j = p
    · rw [if_pos e, if_pos e, e]
      exact ⟨rfl, rfl⟩
    · rw [if_neg e, if_neg e]
      exact h0 j (by omega)
theorem s239 {K : Int → MI → MJ → B3 → Prop} {x : Int} {p0 p1 p2 : List Lin} {c : Nat} (hh : 140 ≤ h) (hI : INVp p0 p1 p2 c I J) (k : ∀ I2, INVp p0 p1 p2 c I2 J → K (if x = 0 then ((prs p0 I).2.length : Int) - coup p0 p1 I else if x = 1 then ((prs p0 I).2.length : Int) else -1) I2 J b) : TriM G h 239 119 119 [vr 91, vi x] (I, J, PP b) (cIN K) := by
  refine TriM_intro (h - 1) (by omega) (by decide) (Nat.le_of_ble_eq_true rfl) (Nat.le_refl _) (Nat.le_refl _) (x239 (by omega) ⟨fun q1 => ?_, fun q1 => cIN_r fun _ => ?_⟩)
  · refine r231 (by omega) hI fun I1 hI1 hR hPR hf1 => ?_
    have hT := hI1.1.1.1
    have hB := hI1.1.1.2.1
    obtain ⟨cls, told, N, hP⟩ := PF.ex p0 hB
    obtain ⟨hto, e1, e2, hN, hcl, hrow, hso⟩ := id hP
    obtain ⟨r1, r2, r3⟩ := hR
    have ep : prs p0 I1 = prs p0 I := prs_k p0 hf1 (by decide)
    have ec : coup p0 p1 I1 = coup p0 p1 I := coup_c p0 p1 (hf1 3 (by decide)) (hf1 4 (by decide)) (hf1 6 (by decide)) (hf1 7 (by decide)) (hf1 8 (by decide)) (hf1 9 (by decide)) (hf1 10 (by decide)) (hf1 11 (by decide)) (hf1 12 (by decide))
    rw [← ep, ← ec, ← e2] at k
    have h26 : I1 91 26 = N := by rw [r1, e2]
    have c1 : ∀ e : Nat, e < told → I1 101 e = cls e := fun e he => by rw [r2 e (by omega), e1]
    refine ⟨fun q2 => ?_, fun q2 => cIN_r fun _ => ?_⟩
    · have hx : x = 0 := by omega
      rw [if_pos hx, hP.co p1] at k
      refine s239_w (I := I1) (by omega) hB hto hN h26 c1 (fun I2 hf2 h0 => ?_) N 0 I1 (by omega) frK.r (fun j hj => by omega)
      have e8 : I2 8 = I1 8 := hf2 8 (by decide)
      refine s237 (p1 := p1) (cls := cls) (told := told) (N := N) (by omega) (hT.k hf2 (by decide)) (hB.k hf2 (by decide)) (hI1.1.2.1.2.1.k hf2 (by decide) (by decide) (by decide)) (by rw [hf2 7 (by decide)]; exact hto) hN (fun e he => by rw [hf2 101 (by decide)]; exact c1 e he) (fun p hp => by rw [srt_c e8]; exact (h0 p hp).1) hcl fun I3 hC => ?_
      have hf3 : frK [97, 98, 99, 100, 105, 106, 108] I1 I3 := (hf2.mo (by decide)).t (hC.1.mo (by decide))
      have h26' : I3 91 26 = N := by rw [hf3 91 (by decide)]; exact h26
      have h106 : ∀ q, q < N → I3 106 q = -1 := fun q hq => by rw [hC.1 106 (by decide)]; exact (h0 q hq).2
      have em : mE p1 I2 cls told told 0 = mE p1 I1 cls told told 0 := by
        unfold mE
        rw [srt_c e8, alN_k p1 hf2 (by decide)]
      rw [h26']
      refine s239_c (I := I3) (E := mayE p1 I1 cls told) (so := fun p => srt I1 cls told p) (N := N) (by omega) (hP.es p1) hN h26' (fun p hp => by rw [hC.1 105 (by decide)]; exact (h0 p hp).1) (fun p q hp hq => ?_) N 0 I3 [] _ (by omega) frK.r (by simp) ⟨fun q q' _ hn => ?_, fun q => Or.inl ?_, fun p hp => by simp at hp⟩ (fun q hq => Or.inl (h106 q hq)) List.nodup_nil (fun q hq => by simp at hq) (fun I4 hf4 => cIN_r fun _ => ?_)
      · have := hC.2 p q hp hq
        rw [em, ← mE_all] at this
        by_cases z : mayE p1 I1 cls told p q = true
        · rw [if_pos z]
          exact this.2.2 z
        · rw [if_neg z]
          rcases this.1 with g | g
          · exact g
          · exact absurd (this.2.1 g) z
      · exfalso
        by_cases hq : q < N
        · rw [cut_in hq] at hn
          exact hn (h106 q hq)
        · exact hn (cut_out hq)
      · by_cases hq : q < N
        · rw [cut_in hq]
          exact h106 q hq
        · exact cut_out hq
      · exact k I4 (hI1.k (hf3.mo (by decide) |>.t (hf4.mo (by decide)) : frK [97, 98, 99, 100, 105, 106, 107, 108] I1 I4) (by decide))
    · have hx : x = 1 := Decidable.of_not_not q2
      rw [if_neg (by omega), if_pos hx] at k
      rw [h26]
      exact k I1 hI1
  · have kk := k I hI
    rw [if_neg (by omega), if_neg (by omega)] at kk
    exact kk
theorem coup_le (p0 p1 : List Lin) (hB : rBook 0 92 I) : 0 ≤ coup p0 p1 I ∧ coup p0 p1 I ≤ 120 := by
  obtain ⟨cls, told, N, hP⟩ := PF.ex p0 hB
  rw [hP.co p1]
  have h1 := grd_le (E := mayE p1 I cls told) ((List.range' 0 N).filter (fun p => decide (srt I cls told p = 0))) []
  have h2 := List.length_filter_le (fun p => decide (srt I cls told (p : Nat) = 0)) (List.range' 0 N)
  rw [List.length_range'] at h2
  simp only [List.length_nil] at h1
  have := hP.2.2.2.1
  omega
theorem pub_ends {x : Int} (hI : INV n I J) (hn : n < 64) (hh : 200 ≤ h) : PairI G h 156 239 [vi x] (n + 1) I J b := by
  obtain ⟨p0, p1, p2, hp⟩ := (hI.suc hn).p
  refine x156_m (by omega) (fun h2 hh2 => x156 (by omega) (r81 (by omega) hp fun I1 J1 hp1 h3 hf1 => ?_))
  have c0 := (hp1.2.2.2 h3).1
  have hl := prs_len p0 I1
  have b1 := hp1.1.1.2.1.1
  simp only [Nat.reduceAdd] at b1
  have fin : ∀ v I2 J2, INVp p0 p1 p2 (n + 1) I2 J2 → v = (if x = 0 then ((prs p0 I2).2.length : Int) - coup p0 p1 I2 else if x = 1 then ((prs p0 I2).2.length : Int) else -1) → cIN (fun x_1 I1 J1 b1 => TriM G h 239 119 119 [vr 91, vi x] (I1, J1, PP b1) (cIN fun y I2 J2 _ => x_1 = y ∧ INV (n + 1) I2 J2)) (some (vi v)) (I2, J2, PP b) := fun v I2 J2 h1 hv => cIN_r fun _ => s239 (by omega) h1 fun I3 h4 => ⟨hv, h4.i⟩
  refine ⟨⟨fun q1 => s93 (by omega) hp1 h3 fun I2 J2 hp2 hf2 => ?_, fun q1 => fin _ I1 J1 hp1 ?_, trivial⟩, fun q1 q2 => fin _ I1 J1 hp1 ?_⟩
  · refine fin _ I2 J2 hp2 ?_
    have ec : coup p0 p1 I2 = coup p0 p1 I1 := coup_c p0 p1 (hf2 3 (by decide)) (hf2 4 (by decide)) (hf2 6 (by decide)) (hf2 7 (by decide)) (hf2 8 (by decide)) (hf2 9 (by decide)) (hf2 10 (by decide)) (hf2 11 (by decide)) (hf2 12 (by decide))
    rw [if_pos q1, ec, prs_k p0 hf2 (by decide), c0, w32_id]
    · have := coup_le p0 p1 hp1.1.1.2.1
      omega
    · have := coup_le p0 p1 hp1.1.1.2.1
      omega
  · rw [if_neg (by omega), if_pos q1, c0]
  · rw [if_neg q1, if_neg q2]
end ENDSM
