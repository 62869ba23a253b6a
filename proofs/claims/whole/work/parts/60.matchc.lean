/-! couples in the class's row of partners; at hol nobody -/
def CR (E : Nat → Nat → Bool) (so : Nat → Int) (N : Nat) (A : List Nat) (P : Nat → Int) (hol : Nat) : Prop := (∀ p ∈ A, ∃ q : Nat, q ≠ hol ∧ P p = q ∧ E p q = true ∧ P q = (p : Nat)) ∧ (∀ q : Nat, q < N → so q = 1 → q ≠ hol → P q = -1 ∨ ∃ p ∈ A, P q = (p : Nat) ∧ P p = q) ∧ (∀ p, p < N → so p = 0 → p ∉ A → P p = -1) ∧ ∀ p ∈ A, p < N ∧ so p = 0
theorem CR.mv {E : Nat → Nat → Bool} {so : Nat → Int} {N : Nat} {A : List Nat} {P : Nat → Int} (hES : ∀ p q, E p q = true → p < N ∧ q < N ∧ so p = 0 ∧ so q = 1) (h : CR E so N A P N) : MVr E A (fun q => if q < N ∧ so q = 1 then P q else -1) := by
  obtain ⟨h1, h2, h3, h4⟩ := h
  refine ⟨fun q q' e hn => ?_, fun q => ?_, fun p hp => ?_⟩
  · dsimp only at e hn
    by_cases c : q < N ∧ so q = 1
    · by_cases c' : q' < N ∧ so q' = 1
      · rw [if_pos c] at hn
        rw [if_pos c, if_pos c'] at e
        rcases h2 q c.1 c.2 (by omega) with g | ⟨p, g1, g2, g3⟩
        · exact absurd g hn
        · rcases h2 q' c'.1 c'.2 (by omega) with g' | ⟨p', g1', g2', g3'⟩
          · rw [e] at hn
            exact absurd g' hn
          · have : p = p' := by omega
            subst this
            omega
      · rw [if_neg c'] at e
        exact absurd e hn
    · rw [if_neg c] at hn
      exact absurd rfl hn
  · dsimp only
    by_cases c : q < N ∧ so q = 1
    · rw [if_pos c]
      rcases h2 q c.1 c.2 (by omega) with g | ⟨p, g1, g2, g3⟩
      · exact Or.inl g
      · obtain ⟨q2, -, k1, k2, -⟩ := h1 p g1
        have : q2 = q := by omega
        rw [this] at k2
        exact Or.inr ⟨p, g1, g2, k2⟩
    · rw [if_neg c]
      exact Or.inl rfl
  · obtain ⟨q, -, k1, k2, k3⟩ := h1 p hp
    have := hES p q k2
    exact ⟨q, by dsimp only; rw [if_pos ⟨this.2.1, this.2.2.2⟩]; exact k3⟩
theorem CR.hole {E : Nat → Nat → Bool} {so : Nat → Int} {N : Nat} {A : List Nat} {P : Nat → Int} {j : Nat} (h : CR E so N A P N) (hj : P j = -1) : CR E so N A P j := by
  obtain ⟨h1, h2, h3, h4⟩ := h
  refine ⟨fun p hp => ?_, fun q hq hs _ => h2 q hq hs (by omega), h3, h4⟩
  obtain ⟨q, -, k1, k2, k3⟩ := h1 p hp
  exact ⟨q, fun z => by rw [z, hj] at k3; omega, k1, k2, k3⟩
theorem CR.mid {E : Nat → Nat → Bool} {so : Nat → Int} {N : Nat} {A : List Nat} {P : Nat → Int} {hol p q' : Nat} (hES : ∀ p q, E p q = true → p < N ∧ q < N ∧ so p = 0 ∧ so q = 1) (h : CR E so N A P hol) (hp : p ∈ A) (hq : P p = (q' : Nat)) (hE : E p hol = true) : CR E so N A (up1 (up1 P p hol) hol p) q' := by
  obtain ⟨h1, h2, h3, h4⟩ := h
  have hs := hES p hol hE
  have hph : p ≠ hol := fun z => by rw [z] at hs; omega
  obtain ⟨q0, k0, k1, k2, k3⟩ := h1 p hp
  have hqq : q0 = q' := by omega
  subst hqq
  have e1 : up1 (up1 P p hol) hol (p : Int) p = hol := by rw [up1_n hph, up1_e]
  have e2 : up1 (up1 P p hol) hol (p : Int) hol = p := up1_e
  have e3 : ∀ x, x ≠ p → x ≠ hol → up1 (up1 P p hol) hol (p : Int) x = P x := fun x a c => by rw [up1_n c, up1_n a]
  refine ⟨fun p2 hp2 => ?_, fun q hq2 hs2 hne => ?_, fun p2 hp2 hs2 hn => ?_, h4⟩
  · by_cases e : p2 = p
    · subst e
      exact ⟨hol, fun z => k0 z.symm, e1, hE, e2⟩
    · obtain ⟨q2, g0, g1, g2, g3⟩ := h1 p2 hp2
      have hp2s := hES p2 q2 g2
      refine ⟨q2, fun z => by rw [z, k3] at g3; omega, ?_, g2, ?_⟩
      · rw [e3 p2 e (fun z => by rw [z] at hp2s; omega)]
        exact g1
      · rw [e3 q2 (fun z => by rw [z] at hp2s; omega) g0]
        exact g3
  · by_cases e : q = hol
    · subst e
      exact Or.inr ⟨p, hp, e2, e1⟩
    · have hqp : q ≠ p := fun z => by rw [z] at hs2; omega
      rw [e3 q hqp e]
      rcases h2 q hq2 hs2 e with g | ⟨p2, g1, g2, g3⟩
      · exact Or.inl g
      · refine Or.inr ⟨p2, g1, g2, ?_⟩
        have hp2 : p2 ≠ p := fun z => by rw [z, k1] at g3; omega
        have hp2h : p2 ≠ hol := fun z => by have := (h4 p2 g1).2; rw [z] at this; omega
        rw [e3 p2 hp2 hp2h]
        exact g3
  · have a1 : p2 ≠ p := fun z => hn (by rw [z]; exact hp)
    have a2 : p2 ≠ hol := fun z => by rw [z] at hs2; omega
    rw [e3 p2 a1 a2]
    exact h3 p2 hp2 hs2 hn
theorem CR.fin {E : Nat → Nat → Bool} {so : Nat → Int} {N : Nat} {A : List Nat} {P : Nat → Int} {hol p : Nat} (hES : ∀ p q, E p q = true → p < N ∧ q < N ∧ so p = 0 ∧ so q = 1) (h : CR E so N A P hol) (hp : p ∉ A) (hE : E p hol = true) : CR E so N (p :: A) (up1 (up1 P p hol) hol p) N := by
  obtain ⟨h1, h2, h3, h4⟩ := h
  have hs := hES p hol hE
  have hph : p ≠ hol := fun z => by rw [z] at hs; omega
  have e1 : up1 (up1 P p hol) hol (p : Int) p = hol := by rw [up1_n hph, up1_e]
  have e2 : up1 (up1 P p hol) hol (p : Int) hol = p := up1_e
  have e3 : ∀ x, x ≠ p → x ≠ hol → up1 (up1 P p hol) hol (p : Int) x = P x := fun x a c => by rw [up1_n c, up1_n a]
  refine ⟨fun p2 hp2 => ?_, fun q hq2 hs2 _ => ?_, fun p2 hp2 hs2 hn => ?_, fun p2 hp2 => ?_⟩
  · rcases List.mem_cons.1 hp2 with rfl | hp2
    · exact ⟨hol, by omega, e1, hE, e2⟩
    · obtain ⟨q2, g0, g1, g2, g3⟩ := h1 p2 hp2
      have hp2s := hES p2 q2 g2
      refine ⟨q2, by omega, ?_, g2, ?_⟩
      · rw [e3 p2 (fun z => hp (by rw [← z]; exact hp2)) (fun z => by rw [z] at hp2s; omega)]
        exact g1
      · rw [e3 q2 (fun z => by rw [z] at hp2s; omega) g0]
        exact g3
  · by_cases e : q = hol
    · subst e
      exact Or.inr ⟨p, List.mem_cons_self, e2, e1⟩
    · have hqp : q ≠ p := fun z => by rw [z] at hs2; omega
      rw [e3 q hqp e]
      rcases h2 q hq2 hs2 e with g | ⟨p2, g1, g2, g3⟩
      · exact Or.inl g
      · refine Or.inr ⟨p2, List.mem_cons_of_mem _ g1, g2, ?_⟩
        have hp2 : p2 ≠ p := fun z => hp (by rw [← z]; exact g1)
        have hp2h : p2 ≠ hol := fun z => by have := (h4 p2 g1).2; rw [z] at this; omega
        rw [e3 p2 hp2 hp2h]
        exact g3
  · have a1 : p2 ≠ p := fun z => hn (by rw [z]; exact List.mem_cons_self)
    have a2 : p2 ≠ hol := fun z => by rw [z] at hs2; omega
    rw [e3 p2 a1 a2]
    exact h3 p2 hp2 hs2 fun z => hn (List.mem_cons_of_mem _ z)
  · rcases List.mem_cons.1 hp2 with rfl | hp2
    · exact ⟨hs.1, hs.2.2.1⟩
    · exact h4 p2 hp2
theorem nd_inj : ∀ {V : List Nat} {i j q : Nat}, V.Nodup → V[i]? = some q → V[j]? = some q → i = j
  | [], i, j, q, _, h1, _ => by simp at h1
  | a :: V, 0, 0, q, _, _, _ => rfl
  | a :: V, 0, j + 1, q, h, h1, h2 => by
    simp only [List.getElem?_cons_zero, Option.some.injEq] at h1
    simp only [List.getElem?_cons_succ] at h2
    rw [← h1] at h2
    exact absurd (List.mem_of_getElem? h2) (List.nodup_cons.1 h).1
  | a :: V, i + 1, 0, q, h, h1, h2 => by
    simp only [List.getElem?_cons_zero, Option.some.injEq] at h2
    simp only [List.getElem?_cons_succ] at h1
    rw [← h2] at h1
    exact absurd (List.mem_of_getElem? h1) (List.nodup_cons.1 h).1
  | a :: V, i + 1, j + 1, q, h, h1, h2 => by
    simp only [List.getElem?_cons_succ] at h1 h2
    rw [nd_inj (List.nodup_cons.1 h).2 h1 h2]
/-- who was seen, and from whom -/
def VIS (E : Nat → Nat → Bool) (N : Nat) (A : List Nat) (P0 : Nat → Int) (p0 : Nat) (come : Nat → Int) (V : List Nat) : Prop := ∀ k q : Nat, V[k]? = some q → q < N ∧ ∃ p : Nat, come q = p ∧ E p q = true ∧ (p = p0 ∨ ∃ k' q' : Nat, k' < k ∧ V[k']? = some q' ∧ P0 p = (q' : Nat) ∧ p ∈ A)
section MATCHC
variable {G : Ctx} {h n : Nat} {I : MI} {J : MJ} {b : B3} {a : BitVec 64}
theorem s96_l {Q : MP} {E : Nat → Nat → Bool} {so : Nat → Int} {N : Nat} {A : List Nat} {P0 : Nat → Int} {p0 : Nat} {V : List Nat} (hh : 1 ≤ h) (hES : ∀ p q, E p q = true → p < N ∧ q < N ∧ so p = 0 ∧ so q = 1) (hN : N ≤ 120) (h72 : I 72 0 = N) (hp0 : p0 ∉ A) (hV : VIS E N A P0 p0 (I 81) V) (hnd : V.Nodup) (k : ∀ I2, frK [80] I I2 → CR E so N (p0 :: A) (I2 80) N → Q none (I2, J, PP b)) : ∀ (n kk i hq : Nat) (I' : MI), kk < n → V[kk]? = some hq → kk + 1 + i ≤ N → frK [80] I I' → CR E so N A (I' 80) hq → (∀ p ∈ A, ∀ k' q' : Nat, k' < kk → V[k']? = some q' → P0 p = (q' : Nat) → I' 80 p = (q' : Nat)) → Tri G h 96 119 119 4 [some (vr 72), none, some (vi (hq : Int)), some (vi (i : Int))] [] (I', J, PP b) Q := by
  intro n
  induction n with
  | zero => intro kk i hq I' hk; omega
  | succ n ih =>
    intro kk i hq I' hk hVk hi hf hC hst
    obtain ⟨hqN, p, hc, hE, hor⟩ := hV kk hq hVk
    have hs := hES p hq hE
    have row : (u2 (u2 I' 80 p (hq : Int)) 80 hq (p : Int)) 80 = up1 (up1 (I' 80) p hq) hq p := by
      funext x
      rw [u2_at]
      unfold up1
      rw [u2_at]
    refine x96_4 hh ?_
    rw [hf 72 (by decide), h72, hf 81 (by decide), toN, hc, toN, w32_id (by omega) (by omega)]
    refine ⟨fun q => by omega, fun _ => ⟨fun _ => ⟨by omega, fun _ => ⟨by omega, by omega, by omega, ?_⟩, fun q => by omega⟩, fun q => by omega⟩⟩
    have hf2 : frK [80] I (u2 (u2 I' 80 p (hq : Int)) 80 hq (p : Int)) := (hf.u (by decide)).u (by decide)
    by_cases hpp : p = p0
    · have hown : I' 80 p = -1 := hC.2.2.1 p hs.1 hs.2.2.1 (by rw [hpp]; exact hp0)
      have hfin := hC.fin hES (by rw [hpp]; exact hp0) hE
      rw [← row, hpp] at hfin
      rw [hpp] at hf2 hown ⊢
      rw [hown]
      have kk2 := k _ hf2 hfin
      refine x96_4 hh ?_
      rw [hf2 72 (by decide), h72]
      exact ⟨fun _ => kk2, fun _ => ⟨fun q => by omega, fun _ => kk2⟩⟩
    · rcases hor with hor | ⟨k', q', g1, g2, g3, g4⟩
      · exact absurd hor hpp
      · have hown := hst p g4 k' q' g1 g2 g3
        have hmid := hC.mid hES g4 hown hE
        rw [← row] at hmid
        rw [hown]
        refine ih k' (i + 1) q' _ (by omega) g2 (by omega) hf2 hmid fun p2 hp2 k2 q2 h1 h2 h3 => ?_
        have hold := hst p2 hp2 k2 q2 (by omega) h2 h3
        have hp2p : p2 ≠ p := by
          intro z
          rw [z, g3] at h3
          have e : q' = q2 := by omega
          rw [← e] at h2
          have := nd_inj hnd g2 h2
          omega
        have hp2h : p2 ≠ hq := fun z => by have := (hC.2.2.2 p2 hp2).2; rw [z] at this; omega
        rw [row, up1_n hp2h, up1_n hp2p]
        exact hold
/-- the search of the class -/
def BF (E : Nat → Nat → Bool) (N : Nat) (A : List Nat) (p0 : Nat) (I I' : MI) (V : List Nat) : Prop := frK [78, 81] I I' ∧ I' 78 0 = p0 ∧ (∀ k q : Nat, V[k]? = some q → I' 78 (k + 1) = I 80 q) ∧ (∀ q, q < N → (I' 81 q = -1 ↔ q ∉ V)) ∧ VIS E N A (I 80) p0 (I' 81) V ∧ V.Nodup ∧ ∀ q ∈ V, I 80 q ≠ -1
def CLd (E : Nat → Nat → Bool) (I' : MI) (i : Nat) (V : List Nat) : Prop := ∀ k, k < i → ∀ p : Nat, I' 78 k = p → ∀ q, E p q = true → q ∈ V
theorem BF.qu {E : Nat → Nat → Bool} {so : Nat → Int} {N : Nat} {A : List Nat} {p0 i : Nat} {I' : MI} {V : List Nat} (hES : ∀ p q, E p q = true → p < N ∧ q < N ∧ so p = 0 ∧ so q = 1) (hC : CR E so N A (I 80) N) (hp0N : p0 < N) (hB : BF E N A p0 I I' V) (hi : i < V.length + 1) : ∃ p : Nat, p < N ∧ I' 78 i = p ∧ (p = p0 ∨ ∃ k' q' : Nat, k' < V.length ∧ V[k']? = some q' ∧ I 80 p = (q' : Nat) ∧ p ∈ A) := by
  obtain ⟨hf, h0, h1, h2, h3, h4, h5⟩ := hB
  cases i with
  | zero => exact ⟨p0, hp0N, h0, Or.inl rfl⟩
  | succ k =>
    obtain ⟨q, hq⟩ : ∃ q, V[k]? = some q := ⟨V[k], List.getElem?_eq_getElem (by omega)⟩
    obtain ⟨g1, p', g2, g3, -⟩ := h3 k q hq
    have hs := hES p' q g3
    rcases hC.2.1 q g1 hs.2.2.2 (by omega) with g | ⟨p, e1, e2, e3⟩
    · exact absurd g (h5 q (List.mem_of_getElem? hq))
    · exact ⟨p, (hC.2.2.2 p e1).1, by rw [h1 k q hq, e2], Or.inr ⟨k, q, by omega, hq, e3, e1⟩⟩
theorem VIS.add {E : Nat → Nat → Bool} {N : Nat} {A : List Nat} {P0 come : Nat → Int} {p0 p j : Nat} {V : List Nat} (h : VIS E N A P0 p0 come V) (hj : j ∉ V) (hjN : j < N) (hE : E p j = true) (hor : p = p0 ∨ ∃ k' q' : Nat, k' < V.length ∧ V[k']? = some q' ∧ P0 p = (q' : Nat) ∧ p ∈ A) : VIS E N A P0 p0 (up1 come j p) (V ++ [j]) := by
  intro k q hq
  rcases app_some hq with ⟨a1, a2⟩ | ⟨rfl, rfl⟩
  · obtain ⟨g1, p', g2, g3, g4⟩ := h k q a2
    refine ⟨g1, p', ?_, g3, ?_⟩
    · rw [up1_n (fun z => hj (by rw [← z]; exact List.mem_of_getElem? a2))]
      exact g2
    · rcases g4 with g4 | ⟨k', q', c1, c2, c3⟩
      · exact Or.inl g4
      · exact Or.inr ⟨k', q', c1, by rw [List.getElem?_append_left (by omega)]; exact c2, c3⟩
  · refine ⟨hjN, p, up1_e, hE, ?_⟩
    rcases hor with g4 | ⟨k', q', c1, c2, c3⟩
    · exact Or.inl g4
    · exact Or.inr ⟨k', q', c1, by rw [List.getElem?_append_left c1]; exact c2, c3⟩
theorem VIS.mem {E : Nat → Nat → Bool} {so : Nat → Int} {N : Nat} {A : List Nat} {P0 come : Nat → Int} {p0 : Nat} {V : List Nat} (hES : ∀ p q, E p q = true → p < N ∧ q < N ∧ so p = 0 ∧ so q = 1) (h : VIS E N A P0 p0 come V) : ∀ q ∈ V, q < N ∧ so q = 1 := by
  intro q hq
  obtain ⟨k, hk, e⟩ := List.getElem_of_mem hq
  obtain ⟨g1, p, -, g3, -⟩ := h k q (by rw [List.getElem?_eq_getElem hk, e])
  exact ⟨g1, (hES p q g3).2.2.2⟩
theorem s95_i {Q : MP} {E : Nat → Nat → Bool} {so : Nat → Int} {N : Nat} {A : List Nat} {p0 i : Nat} (hh : 2 ≤ h) (hES : ∀ p q, E p q = true → p < N ∧ q < N ∧ so p = 0 ∧ so q = 1) (hN : N ≤ 120) (h72 : I 72 0 = N) (hp0 : p0 ∉ A) (hp0N : p0 < N ∧ so p0 = 0) (hC : CR E so N A (I 80) N) (hE : ∀ p q : Nat, p < N → q < N → bitJ J 79 (p * 128 + q) = E p q) (kS : ∀ I2, frK [78, 80, 81] I I2 → CR E so N (p0 :: A) (I2 80) N → Q (some (vi 1)) (I2, J, PP b)) : ∀ (m j : Nat) (I' : MI) (V : List Nat), j + m = N → BF E N A p0 I I' V → i < V.length + 1 → CLd E I' i V → (∀ p : Nat, I' 78 i = p → ∀ q, q < j → E p q = true → q ∈ V) → (∀ I2 V2, BF E N A p0 I I2 V2 → i + 1 ≤ V2.length + 1 → CLd E I2 (i + 1) V2 → Tri G h 95 119 119 19 [some (vr 72), none, some (vi ((V2.length : Int) + 1)), some (vi ((i : Int) + 1))] [] (I2, J, PP b) Q) → Tri G h 95 119 119 33 [some (vr 72), none, some (vi ((V.length : Int) + 1)), some (vi (i : Int)), some (vi (j : Int))] [] (I', J, PP b) Q := by
  intro m
  induction m with
  | zero =>
    intro j I' V hj hB hi hcl hcj k
    obtain rfl : j = N := by omega
    have hf := hB.1
    have hVl := nd_le hB.2.2.2.2.2.1 (fun q hq => (hB.2.2.2.2.1.mem hES q hq).1)
    refine x95_33 hh ?_
    rw [hf 72 (by decide), h72]
    refine ⟨fun _ => ?_, fun q => by omega⟩
    rw [w32_id (by omega) (by omega)]
    refine k I' V hB (by omega) fun k' hk' p hp q he => ?_
    by_cases e : k' = i
    · rw [e] at hp
      exact hcj p hp q (hES p q he).2.1 he
    · exact hcl k' (by omega) p hp q he
  | succ m ih =>
    intro j I' V hj hB hi hcl hcj k
    obtain ⟨hf, h0, h1, h2, h3, h4, h5⟩ := id hB
    have hjN : j < N := by omega
    have hmem := h3.mem hES
    have hVl : (p0 :: V).length ≤ N := nd_le (List.nodup_cons.2 ⟨fun z => by have := (hmem p0 z).2; omega, h4⟩) (fun q hq => by
      rcases List.mem_cons.1 hq with rfl | hq
      · exact hp0N.1
      · exact (hmem q hq).1)
    simp only [List.length_cons] at hVl
    obtain ⟨p, hpN, hp, hor⟩ := BF.qu hES hC hp0N.1 hB hi
    have skip : (E p j = true → j ∈ V) → Tri G h 95 119 119 33 [some (vr 72), none, some (vi ((V.length : Int) + 1)), some (vi (i : Int)), some (vi (w32 ((j : Int) + 1)))] [] (I', J, PP b) Q := by
      intro hs
      rw [w32_id (by omega) (by omega)]
      refine ih (j + 1) I' V (by omega) hB hi hcl (fun p' hp' q hq he => ?_) k
      by_cases e : q = j
      · have : p' = p := by omega
        rw [e, this] at he
        rw [e]
        exact hs he
      · exact hcj p' hp' q (by omega) he
    refine x95_33 hh ?_
    rw [hf 72 (by decide), h72, hf 80 (by decide)]
    simp only [toN]
    rw [hp, w32_id (x := (p : Int) * 128) (by omega) (by omega), w32_id (x := (p : Int) * 128 + j) (by omega) (by omega), show ((p : Int) * 128 + (j : Int)).toNat = p * 128 + j by omega, hE p j hpN hjN]
    refine ⟨fun q => by omega, fun _ => ⟨by omega, fun q1 => skip fun _ => Decidable.byContradiction fun z => q1 ((h2 j hjN).2 z), fun q1 => ⟨by omega, by omega, fun q2 => ⟨by omega, by omega, by omega, ?_⟩, fun q2 => skip fun z => absurd z q2⟩⟩⟩
    have hjV : j ∉ V := (h2 j hjN).1 (Decidable.of_not_not q1)
    have hs := hES p j q2
    have rowc : (u2 I' 81 j (p : Int)) 81 = up1 (I' 81) j p := by
      funext x
      rw [u2_at]
      rfl
    have hlL : (V ++ [j]).length = V.length + 1 := by simp
    have hnd2 : (V ++ [j]).Nodup := by
      rw [List.nodup_append]
      refine ⟨h4, by simp, fun a ha c hc e => ?_⟩
      simp at hc
      rw [e, hc] at ha
      exact hjV ha
    have hvis := h3.add hjV hjN q2 hor
    have hVl2 : (p0 :: (V ++ [j])).length ≤ N := nd_le (List.nodup_cons.2 ⟨fun z => by
        rcases List.mem_append.1 z with z | z
        · have := (hmem p0 z).2; omega
        · simp at z; rw [z] at hp0N; omega, hnd2⟩) (fun q hq => by
      rcases List.mem_cons.1 hq with rfl | hq
      · exact hp0N.1
      · rcases List.mem_append.1 hq with z | z
        · exact (hmem q z).1
        · simp at z; rw [z]; exact hjN)
    simp only [List.length_cons] at hVl2
    refine ⟨fun q3 => ⟨fun q => by omega, fun _ => ⟨by omega, by omega, ?_⟩⟩, fun q3 => ?_⟩
    · rw [w32_id (x := (V.length : Int) + 1 + 1) (by omega) (by omega), w32_id (by omega) (by omega), show ((V.length : Int) + 1).toNat = V.length + 1 by omega]
      have hB2 : BF E N A p0 I (u2 (u2 I' 81 j (p : Int)) 78 (V.length + 1) (I 80 j)) (V ++ [j]) := by
        refine ⟨(hf.u (by decide)).u (by decide), ?_, fun k2 q hq => ?_, fun q hq => ?_, ?_, hnd2, fun q hq => ?_⟩
        · rw [u2_at, if_neg (by omega), u2_ne (by decide)]
          exact h0
        · rw [u2_at]
          rcases app_some hq with ⟨a1, a2⟩ | ⟨rfl, rfl⟩
          · rw [if_neg (by omega), u2_ne (by decide)]
            exact h1 k2 q a2
          · rw [if_pos rfl]
        · rw [u2_ne (by decide), rowc]
          by_cases e : q = j
          · subst e
            rw [up1_e]
            exact ⟨fun z => by omega, fun z => absurd (List.mem_append.2 (Or.inr (by simp))) z⟩
          · rw [up1_n e, h2 q hq]
            simp [e]
        · rw [u2_ne (by decide), rowc]
          exact hvis
        · rcases List.mem_append.1 hq with z | z
          · exact h5 q z
          · simp at z
            rw [z]
            exact q3
      have e78 : ∀ k2, k2 < V.length + 1 → (u2 (u2 I' 81 j (p : Int)) 78 (V.length + 1) (I 80 j)) 78 k2 = I' 78 k2 := fun k2 hk2 => by rw [u2_at, if_neg (by omega), u2_ne (by decide)]
      have hgo := ih (j + 1) _ (V ++ [j]) (by omega) hB2 (by rw [hlL]; omega) (fun k2 hk2 p2 hp2 q hq => List.mem_append.2 (Or.inl (hcl k2 hk2 p2 (by rw [e78 k2 (by omega)] at hp2; exact hp2) q hq))) (fun p' hp' q hq he => ?_) k
      · rw [hlL] at hgo
        exact hgo
      · rw [e78 i hi] at hp'
        by_cases e : q = j
        · rw [e]
          exact List.mem_append.2 (Or.inr (by simp))
        · exact List.mem_append.2 (Or.inl (hcj p' hp' q (by omega) he))
    · have q3' : I 80 j = -1 := Decidable.of_not_not q3
      have hfj : frK [78, 81] I (u2 I' 81 j (p : Int)) := hf.u (by decide)
      refine x96_m (by omega) (fun h hh => x96 (Nat.zero_le _) (s96_l (I := u2 I' 81 j (p : Int)) (P0 := I 80) (V := V ++ [j]) (A := A) (p0 := p0) (by omega) hES hN (by rw [hfj 72 (by decide)]; exact h72) hp0 (by rw [rowc]; exact hvis) hnd2 (fun I2 hf2 hC2 => ⟨_, _, _, rfl, rfl, kS I2 ((hfj.mo (by decide)).t (hf2.mo (by decide))) hC2⟩) (V.length + 1) V.length 0 j _ (by omega) ?_ (by omega) frK.r ?_ ?_))
      · rw [List.getElem?_append_right (Nat.le_refl _), Nat.sub_self]
        rfl
      · rw [hfj 80 (by decide)]
        exact hC.hole q3'
      · intro p2 hp2 k2 q2 _ _ h7
        rw [hfj 80 (by decide)]
        exact h7
theorem s95 {K : Int → MI → MJ → B3 → Prop} {E : Nat → Nat → Bool} {so : Nat → Int} {N : Nat} {A : List Nat} {p0 : Nat} (hh : 3 ≤ h) (hES : ∀ p q, E p q = true → p < N ∧ q < N ∧ so p = 0 ∧ so q = 1) (hN : N ≤ 120) (h72 : I 72 0 = N) (hp0 : p0 ∉ A) (hAn : A.Nodup) (hp0N : p0 < N ∧ so p0 = 0) (hC : CR E so N A (I 80) N) (hE : ∀ p q : Nat, p < N → q < N → bitJ J 79 (p * 128 + q) = E p q) (kS : ∀ I2, frK [78, 80, 81] I I2 → CR E so N (p0 :: A) (I2 80) N → K 1 I2 J b) (kF : ∀ I2, frK [78, 80, 81] I I2 → CR E so N A (I2 80) N → ¬ feas E (p0 :: A) → K 0 I2 J b) : TriM G h 95 119 119 [vr 72, vi (p0 : Int)] (I, J, PP b) (cIN K) := by
  have outer : ∀ h, 2 ≤ h → ∀ (f i : Nat) (I' : MI) (V : List Nat), f + i = N + 1 → BF E N A p0 I I' V → i ≤ V.length + 1 → CLd E I' i V → Tri G h 95 119 119 19 [some (vr 72), none, some (vi ((V.length : Int) + 1)), some (vi (i : Int))] [] (I', J, PP b) (cIN K) := by
    intro h hh f
    induction f with
    | zero =>
      intro i I' V hi hB hiV hcl
      have hVl := nd_le hB.2.2.2.2.2.1 (fun q hq => (hB.2.2.2.2.1.mem hES q hq).1)
      have hiV2 : i = V.length + 1 := by omega
      refine x95_19 (Nat.zero_le _) ⟨fun _ => cIN_r fun _ => ?_, fun q => by omega⟩
      refine kF I' (hB.1.mo (by decide)) (by rw [hB.1 80 (by decide)]; exact hC) ((hC.mv hES).no (T := fun q => q ∈ V) (List.nodup_cons.2 ⟨hp0, hAn⟩) (fun q hq => ?_) (fun q he => hcl 0 (by omega) p0 hB.2.1 q he) (fun q hq p' hp' q' he => ?_))
      · have := hB.2.2.2.2.1.mem hES q hq
        show (if q < N ∧ so q = 1 then I 80 q else -1) ≠ -1
        rw [if_pos this]
        exact hB.2.2.2.2.2.2 q hq
      · have := hB.2.2.2.2.1.mem hES q hq
        have hp2 : (if q < N ∧ so q = 1 then I 80 q else -1) = (p' : Int) := hp'
        rw [if_pos this] at hp2
        obtain ⟨k, hk, e⟩ := List.getElem_of_mem hq
        exact hcl (k + 1) (by omega) p' (by rw [hB.2.2.1 k q (by rw [List.getElem?_eq_getElem hk, e])]; exact hp2) q' he
    | succ f ih =>
      intro i I' V hi hB hiV hcl
      have hmem := hB.2.2.2.2.1.mem hES
      have hVl := nd_le hB.2.2.2.2.2.1 (fun q hq => (hmem q hq).1)
      have hVl2 : (p0 :: V).length ≤ N := nd_le (List.nodup_cons.2 ⟨fun z => by have := (hmem p0 z).2; omega, hB.2.2.2.2.2.1⟩) (fun q hq => by
        rcases List.mem_cons.1 hq with rfl | hq
        · exact hp0N.1
        · exact (hmem q hq).1)
      simp only [List.length_cons] at hVl2
      by_cases hlt : i < V.length + 1
      · refine x95_19 (Nat.zero_le _) ⟨fun q => by omega, fun _ => ⟨fun q => by omega, fun _ => ?_⟩⟩
        exact s95_i (by omega) hES hN h72 hp0 hp0N hC hE (fun I2 hf2 hC2 => cIN_r fun _ => kS I2 hf2 hC2) N 0 I' V (by omega) hB hlt hcl (fun _ _ q hq => by omega) fun I2 V2 hB2 hi2 hcl2 => ih (i + 1) I2 V2 (by omega) hB2 hi2 hcl2
      · have hiV2 : i = V.length + 1 := by omega
        refine x95_19 (Nat.zero_le _) ⟨fun _ => cIN_r fun _ => ?_, fun q => by omega⟩
        refine kF I' (hB.1.mo (by decide)) (by rw [hB.1 80 (by decide)]; exact hC) ((hC.mv hES).no (T := fun q => q ∈ V) (List.nodup_cons.2 ⟨hp0, hAn⟩) (fun q hq => ?_) (fun q he => hcl 0 (by omega) p0 hB.2.1 q he) (fun q hq p' hp' q' he => ?_))
        · have := hmem q hq
          show (if q < N ∧ so q = 1 then I 80 q else -1) ≠ -1
          rw [if_pos this]
          exact hB.2.2.2.2.2.2 q hq
        · have := hmem q hq
          have hp2 : (if q < N ∧ so q = 1 then I 80 q else -1) = (p' : Int) := hp'
          rw [if_pos this] at hp2
          obtain ⟨k, hk, e⟩ := List.getElem_of_mem hq
          exact hcl (k + 1) (by omega) p' (by rw [hB.2.2.1 k q (by rw [List.getElem?_eq_getElem hk, e])]; exact hp2) q' he
  refine x95_m hh (fun h hh => x95 (by omega) (outer h (by omega) (N + 1) 0 _ [] (by omega) ⟨(frK.r.u1 (by decide)).u (by decide), u2e, fun k q hq => by simp at hq, fun q hq => ?_, fun k q hq => by simp at hq, List.nodup_nil, fun q hq => by simp at hq⟩ (Nat.zero_le _) (fun k hk => by omega)))
  rw [u2_ne (by decide), u1_at, if_pos (by omega)]
  simp
end MATCHC
