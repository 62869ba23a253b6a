/-! the same with new houses: what is told speaks of old ones -/
def tam (I I' : MI) : Prop := ∀ e : Nat, (e : Int) < I 7 0 → I' 3 (fact I e 2).toNat = I 3 (fact I e 2).toNat ∧ I' 4 (fact I e 2).toNat = I 4 (fact I e 2).toNat
theorem alN_t {I I' : MI} {a b : Nat} (p : List Lin) (ht : tam I I') (h6 : I' 6 = I 6) (h8 : I' 8 = I 8) (h11 : I' 11 = I 11) (h12 : I' 12 = I 12) (ha : (a : Int) < I 7 0) (hb : (b : Int) < I 7 0) : alN p I' a b = alN p I a b := by
  have e : likeV I' a b = likeV I a b := by
    funext s
    have ea := ht a ha
    have eb := ht b hb
    unfold fact at ea eb
    unfold likeV nam fact wayF
    rw [h6, h8, h11, h12, ea.1, ea.2, eb.1, eb.2]
  unfold alN alikB
  rw [e]
section PERS
variable {al al' : Nat → Nat → Bool} {kn : Nat → Bool} {told : Nat}
theorem bIn_t (h : ∀ a b, a < told → b < told → al' a b = al a b) {p : Int} {q : Nat} (hq : q < told) : ∀ (m o : Nat) (s : (Nat → Int) × List Nat), m + o ≤ told → bIn al' kn p q m o s = bIn al kn p q m o s
  | 0, _, _, _ => rfl
  | m + 1, o, s, hm => by
    simp only [bIn]
    rw [h q o hq (by omega)]
    exact bIn_t h hq m (o + 1) _ (by omega)
theorem bIn_lt {p : Int} {q : Nat} : ∀ (m o : Nat) (s : (Nat → Int) × List Nat), m + o ≤ told → (∀ e ∈ s.2, e < told) → ∀ e ∈ (bIn al kn p q m o s).2, e < told
  | 0, _, _, _, hs => hs
  | m + 1, o, s, hm, hs => by
    simp only [bIn]
    refine bIn_lt m (o + 1) _ (by omega) ?_
    split
    · intro e he
      rcases List.mem_append.1 he with h1 | h1
      · exact hs e h1
      · have h2 := List.mem_singleton.1 h1
        omega
    · exact hs
theorem bQu_t (h : ∀ a b, a < told → b < told → al' a b = al a b) {p : Int} : ∀ (f i : Nat) (s : (Nat → Int) × List Nat), (∀ e ∈ s.2, e < told) → bQu al' kn told p f i s = bQu al kn told p f i s
  | 0, _, _, _ => rfl
  | f + 1, i, s, hs => by
    simp only [bQu]
    cases hq : s.2[i]? with
    | none => rfl
    | some q =>
      have hq2 := hs q (List.mem_of_getElem? hq)
      simp only []
      rw [bIn_t h hq2 told 0 s (by omega)]
      exact bQu_t h f (i + 1) _ (bIn_lt told 0 s (by omega) hs)
theorem bAll_t (h : ∀ a b, a < told → b < told → al' a b = al a b) : ∀ (m e : Nat) (s : (Nat → Int) × List Nat), m + e ≤ told → bAll al' kn told m e s = bAll al kn told m e s
  | 0, _, _, _ => rfl
  | m + 1, e, s, hm => by
    simp only [bAll]
    rw [bQu_t h (told + 1) 0 (up1 s.1 e s.2.length, [e]) (fun x hx => by have h2 := List.mem_singleton.1 hx; omega)]
    exact bAll_t h m (e + 1) _ (by omega)
theorem persF_t (h : ∀ a b, a < told → b < told → al' a b = al a b) : persF al' kn told = persF al kn told := bAll_t h told 0 _ (by omega)
end PERS
theorem prs_t {I I' : MI} (p : List Lin) (ht : tam I I') (h6 : I' 6 = I 6) (h7 : I' 7 = I 7) (h8 : I' 8 = I 8) (h9 : I' 9 = I 9) (h10 : I' 10 = I 10) (h11 : I' 11 = I 11) (h12 : I' 12 = I 12) : prs p I' = prs p I := by
  unfold prs
  rw [knB_c h7 h9 h10, h7]
  exact persF_t fun a b ha hb => alN_t p ht h6 h8 h11 h12 (by omega) (by omega)
theorem mayE_t {I I' : MI} (p : List Lin) (ht : tam I I') (h6 : I' 6 = I 6) (h8 : I' 8 = I 8) (h11 : I' 11 = I 11) (h12 : I' 12 = I 12) (cls : Nat → Int) : mayE p I' cls (I 7 0).toNat = mayE p I cls (I 7 0).toNat := by
  funext x y
  unfold mayE
  rw [srt_c h8]
  refine decide_eq_decide.2 ⟨fun ⟨a, a1, a2, c, c1, c2, c3, c4, c5⟩ => ⟨a, a1, a2, c, c1, c2, c3, c4, ?_⟩, fun ⟨a, a1, a2, c, c1, c2, c3, c4, c5⟩ => ⟨a, a1, a2, c, c1, c2, c3, c4, ?_⟩⟩
  · rw [← alN_t p ht h6 h8 h11 h12 (by omega) (by omega)]
    exact c5
  · rw [alN_t p ht h6 h8 h11 h12 (by omega) (by omega)]
    exact c5
theorem coup_t {I I' : MI} (p0 p1 : List Lin) (ht : tam I I') (h6 : I' 6 = I 6) (h7 : I' 7 = I 7) (h8 : I' 8 = I 8) (h9 : I' 9 = I 9) (h10 : I' 10 = I 10) (h11 : I' 11 = I 11) (h12 : I' 12 = I 12) : coup p0 p1 I' = coup p0 p1 I := by
  unfold coup
  rw [prs_t p0 ht h6 h7 h8 h9 h10 h11 h12, h7, mayE_t p1 ht h6 h8 h11 h12, srt_c h8]
theorem likI.tm {p0 p1 : List Lin} {I I' : MI} {J J' : MJ} (h : likI p0 p1 I J) (ht : tam I I') (h6 : I' 6 = I 6) (h7 : I' 7 0 = I 7 0) (h8 : I' 8 = I 8) (h11 : I' 11 = I 11) (h12 : I' 12 = I 12) (j70 : J' 70 = J 70) (j71 : J' 71 = J 71) : likI p0 p1 I' J' := by
  intro k a b k2 ba a1
  have hh := h k a b k2 ba a1
  unfold bitJ at hh ⊢
  rw [j70, j71, h7]
  refine ⟨fun q => ?_, hh.2⟩
  have g := hh.1 q
  rw [alN_t p0 ht h6 h8 h11 h12 g.1 (by omega), alN_t p1 ht h6 h8 h11 h12 g.1 (by omega)]
  exact g
theorem perI.tm {p0 p1 : List Lin} {I I' : MI} {J J' : MJ} (h : perI p0 p1 I J) (ht : tam I I') (h6 : I' 6 = I 6) (h7 : I' 7 = I 7) (h8 : I' 8 = I 8) (h9 : I' 9 = I 9) (h10 : I' 10 = I 10) (h11 : I' 11 = I 11) (h12 : I' 12 = I 12) (h72 : I' 72 = I 72) (h73 : I' 73 = I 73) (h74 : I' 74 = I 74) (h75 : I' 75 = I 75) (h76 : I' 76 = I 76) (j77 : J' 77 = J 77) : perI p0 p1 I' J' := by
  unfold perI
  rw [prs_t p0 ht h6 h7 h8 h9 h10 h11 h12, coup_t p0 p1 ht h6 h7 h8 h9 h10 h11 h12, srt_c h8, inHs_c h8, h7, h72, h73, h74, h75, h76, j77]
  exact h
section PUBD
variable {G : Ctx} {h n : Nat} {I : MI} {J : MJ} {b : B3} {x y z v : Int}
theorem pub_house (hI : INV n I J) (hn : n < 64) (hh : 40 ≤ h) : PairI G h 138 191 [vi x, vi y, vi z] (n + 1) I J b := by
  have hI2 := hI.suc hn
  have hT : rTown 0 92 I := by
    obtain ⟨p0, p1, p2, ⟨a1, a2, a3, a4, a5⟩, -⟩ := hI
    exact a1
  obtain ⟨d1, d2, d3, d4, d5⟩ := hT
  simp only [Nat.reduceAdd] at d1 d2 d3 d4 d5
  have e3 := d1.2.2
  have no : ¬ ((0 ≤ x ∧ x < 12) ∧ (0 ≤ y ∧ y < 1000) ∧ (0 ≤ z ∧ z < 10) ∧ I 2 0 < 60) → cIN (fun x_1 I1 J1 b1 => TriM G h 191 119 119 [vr 91, vi x, vi y, vi z] (I1, J1, PP b1) (cIN fun y I2 J2 _ => x_1 = y ∧ INV (n + 1) I2 J2)) (some (vi (-1))) (I, J, PP b) := by
    intro hx
    refine cIN_r fun _ => x191_m (by omega) (fun h2 _ => x191 (by omega) ?_)
    exact ⟨fun q1 => ⟨fun q2 => ⟨fun q3 => ⟨fun q4 => absurd (show (0 ≤ x ∧ x < 12) ∧ (0 ≤ y ∧ y < 1000) ∧ (0 ≤ z ∧ z < 10) ∧ I 2 0 < 60 by omega) hx, fun q4 => cIN_r fun _ => ⟨rfl, hI2⟩⟩, fun q3 => cIN_r fun _ => ⟨rfl, hI2⟩⟩, fun q2 => cIN_r fun _ => ⟨rfl, hI2⟩⟩, fun q1 => cIN_r fun _ => ⟨rfl, hI2⟩⟩
  have yes : ((0 ≤ x ∧ x < 12) ∧ (0 ≤ y ∧ y < 1000) ∧ (0 ≤ z ∧ z < 10) ∧ I 2 0 < 60) → cIN (fun x_1 I1 J1 b1 => TriM G h 191 119 119 [vr 91, vi x, vi y, vi z] (I1, J1, PP b1) (cIN fun y I2 J2 _ => x_1 = y ∧ INV (n + 1) I2 J2)) (some (vi (I 2 0))) ((u2 (u2 (u2 (u2 I 3 (I 2 0).toNat x) 4 (I 2 0).toNat y) 5 (I 2 0).toNat z) 2 0 (I 2 0 + 1)), J, PP b) := by
    intro ⟨c1, c2, c3, c4⟩
    refine cIN_r fun _ => x191_m (by omega) (fun h2 _ => x191 (by omega) ?_)
    simp (disch := omega) only [u2n, u2j, u2e, w32_id, e3]
    refine ⟨fun q1 => ⟨fun q2 => ⟨fun q3 => ⟨fun q4 => ⟨by omega, by omega, by omega, cIN_r fun _ => ⟨by omega, ?_⟩⟩, fun q4 => absurd (show ¬ I 2 0 = 60 by omega) q4⟩, fun q3 => absurd (show 0 ≤ z ∧ z ≤ 9 by omega) q3⟩, fun q2 => absurd (show 0 ≤ y ∧ y ≤ 999 by omega) q2⟩, fun q1 => absurd c1 q1⟩
    obtain ⟨p0, p1, p2, ⟨a1, a2, a3, a4, a5⟩, ⟨t0, t1, t2⟩, hl, hp, htp, hf, ⟨k1, k2, k3⟩, hc, hcc⟩ := hI.suc hn
    have ht : rTown 0 92 (u2 (u2 (u2 (u2 (u2 (u2 (u2 (u2 I 3 (I 2 0).toNat x) 4 (I 2 0).toNat y) 5 (I 2 0).toNat z) 2 0 (I 2 0 + 1)) 92 (220 + 3 * I 2 0).toNat x) 92 (220 + 3 * I 2 0 + 1).toNat y) 92 (220 + 3 * I 2 0 + 2).toNat z) 92 3 (I 2 0 + 1)) := by
      refine ⟨?_, ?_, ?_, fun e e1 e2 => ?_, fun i j i1 i2 j1 j2 hij => ?_⟩
      · simp (disch := omega) only [Nat.reduceAdd, u2n, u2j, u2e, and_true, true_and]; omega
      · simp (disch := omega) only [Nat.reduceAdd, u2n, u2j, u2e, and_true, true_and]; omega
      · simp (disch := omega) only [Nat.reduceAdd, u2n, u2j, u2e, and_true, true_and]; omega
      · simp (disch := omega) only [Nat.reduceAdd, u2n, u2j, u2e, and_true, true_and] at e2
        by_cases he : e = I 2 0
        · subst he
          simp (disch := omega) only [Nat.reduceAdd, u2n, u2j, u2e, and_true, true_and]
          omega
        · simp (disch := omega) only [Nat.reduceAdd, u2n, u2j, u2e, and_true, true_and]
          exact d4 e e1 (by omega)
      · simp (disch := omega) only [Nat.reduceAdd, u2n, u2j, u2e, and_true, true_and]
        exact d5 i j i1 i2 j1 j2 hij
    have hm : tam I (u2 (u2 (u2 (u2 (u2 (u2 (u2 (u2 I 3 (I 2 0).toNat x) 4 (I 2 0).toNat y) 5 (I 2 0).toNat z) 2 0 (I 2 0 + 1)) 92 (220 + 3 * I 2 0).toNat x) 92 (220 + 3 * I 2 0 + 1).toNat y) 92 (220 + 3 * I 2 0 + 2).toNat z) 92 3 (I 2 0 + 1)) := by
      intro e he
      have f := (a2.2.2.2 e (by omega) he).2.1.2.2.1
      simp only [Nat.reduceAdd] at f
      unfold fact
      simp (disch := omega) only [Nat.reduceAdd, u2n, u2j, u2e, and_true, true_and]
    refine ⟨p0, p1, p2, ⟨ht, a2.fr (by simp (disch := omega) only [Nat.reduceAdd, u2n, u2j, u2e]; omega) ?_ ?_ ?_ ?_ ?_ ?_ ?_, a3.fr (by simp (disch := omega) only [Nat.reduceAdd, u2n, u2j, u2e]; omega) ?_ ?_ ?_ ?_, a4.fr ?_ ?_ ?_ ?_ ?_ ?_, ?_⟩, ⟨t0.fr ?_ ?_ ?_, t1.fr ?_ ?_ ?_, t2.fr ?_ ?_ ?_⟩, hl.tm hm ?_ ?_ ?_ ?_ ?_ ?_ ?_, hp.tm hm ?_ ?_ ?_ ?_ ?_ ?_ ?_ ?_ ?_ ?_ ?_ ?_ ?_, htp.fr ?_ ?_ ?_ ?_, ?_, ⟨?_, ?_, fun q => (k3 ?_).fr ?_ ?_⟩, hc, ?_⟩
    all_goals first
      | (simp (disch := decide) only [u2_ne, u1_ne]; done)
      | (intro j hj; simp (disch := omega) only [u2n, u2j, u1n]; done)
      | (simp (disch := omega) only [u2n, u2j, u2e, u1n]; first | done | omega | assumption | exact Int.le_refl _)
      | (intro k hk; simp (disch := omega) only [u2_ne, u1_ne]; done)
      | (simp (disch := omega) only [u2n, u2j, u2e] at q; exact q)
      | rfl
  refine x138_m (by omega) (fun h2 _ => x138 (by omega) ?_)
  refine ⟨fun q1 => ⟨fun q2 => ⟨fun q3 => ⟨fun q4 => ⟨by omega, by omega, by omega, ?_⟩, fun q4 => no (by omega)⟩, fun q3 => no (by omega)⟩, fun q2 => no (by omega)⟩, fun q1 => no (by omega)⟩
  simp (disch := omega) only [w32_id]
  rw [show I 2 0 + 1 - 1 = I 2 0 by omega]
  exact yes ⟨q1, q2, q3, q4⟩
end PUBD
