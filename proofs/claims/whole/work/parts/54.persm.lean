abbrev RCS : List Nat := [91, 97, 98, 99, 100, 101, 102, 103]
section PERSM
variable {G : Ctx} {h n : Nat} {I : MI} {J : MJ} {b : B3} {a : BitVec 64}
/-- the reference, while a person is gathered -/
def RG (I : MI) (told p : Nat) (L : List Nat) (I' : MI) (s : (Nat → Int) × List Nat) : Prop := (frK RCS I I' ∧ (∀ j, j ≠ 26 → I' 91 j = I 91 j) ∧ I' 91 26 = p) ∧ (∀ e : Nat, e < told → I' 101 e = s.1 e) ∧ (∀ q x : Nat, L[q]? = some x → I' 102 q = x) ∧ PQ told 0 (knB I) p s ∧ ∀ i q : Nat, s.2[i]? = some q → I' 103 i = q
theorem s231_in {Q : MP} {p0 : List Lin} {told e p i q : Nat} {L : List Nat} (hh : 4 ≤ h) (hT : rTown 0 92 I) (hB : rBook 0 92 I) (ht : rTxt 13 92 0 I false p0) (hto : I 7 0 = told) (hp : p < 120) (hi : i < 120) : ∀ (m o : Nat) (I' : MI) (s : (Nat → Int) × List Nat), o + m = told → RG I told p L I' s → s.2[i]? = some q → (∀ I2, RG I told p L I2 (bIn (alN p0 I) (knB I) p q m o s) → Tri G h 231 119 119 94 [some (vr 91), some (vi (e : Int)), some (vi ((bIn (alN p0 I) (knB I) p q m o s).2.length : Int)), some (vi ((i : Int) + 1))] [] (I2, J, PP b) Q) → Tri G h 231 119 119 102 [some (vr 91), some (vi (e : Int)), some (vi (s.2.length : Int)), some (vi (i : Int)), some (vi (o : Int))] [] (I', J, PP b) Q := by
  have b1 := hB.1
  simp only [Nat.reduceAdd] at b1
  intro m
  induction m with
  | zero =>
    intro o I' s ho hG hsi k
    have e92 := hG.1.1 92 (by decide)
    refine x231_102 hh ⟨fun _ => ?_, fun q9 => by rw [e92, b1.2.2] at q9; omega⟩
    rw [w32_id (by omega) (by omega)]
    exact k I' hG
  | succ m ih =>
    intro o I' s ho hG hsi k
    obtain ⟨⟨hf, hf91, h26⟩, h101, h102, hPQ, hqu⟩ := id hG
    have e7 := hf 7 (by decide)
    have e92 := hf 92 (by decide)
    have ek : knB I' = knB I := knB_k hf (by decide)
    have hB' := hB.k hf (by decide)
    have hT' := hT.k hf (by decide)
    have no : ¬ (s.1 o = -1 ∧ knB I o = true ∧ alN p0 I q o = true) → ∀ I2, RG I told p L I2 s → Tri G h 231 119 119 102 [some (vr 91), some (vi (e : Int)), some (vi (s.2.length : Int)), some (vi (i : Int)), some (vi (w32 ((o : Int) + 1)))] [] (I2, J, PP b) Q := by
      intro hn I2 hG2
      rw [bIn_n hn] at k
      rw [w32_id (by omega) (by omega)]
      exact ih (o + 1) I2 s (by omega) hG2 hsi k
    refine x231_102 hh ?_
    rw [e92, b1.2.2, toN, h101 o (by omega), ek]
    refine ⟨fun q9 => by omega, fun _ => ⟨by omega, fun q1 => no (fun z => q1 z.1) I' hG, fun q1 => ⟨⟨hB', by omega, by rw [e7]; omega⟩, fun q2 => ⟨by omega, ?_⟩, fun q2 => no (fun z => q2 z.2.1) I' hG⟩⟩⟩
    have hc : s.1 o = -1 := Decidable.of_not_not q1
    have hqm := hPQ.1 q (List.mem_of_getElem? hsi)
    rw [toN, hqu i q hsi]
    refine s227 (kk := 0) (t := 13) (p := p0) (by omega) (by decide) hT' hB' (ht.k hf (by decide) (by decide) (by decide)) (x := q) (y := o) (by rw [e7]; omega) (by rw [e7]; omega) (by decide) fun I2 hf2 => ?_
    rw [alN_k p0 hf (by decide)]
    have hG2 : RG I told p L I2 s := ⟨⟨hf.t (hf2.mo (by decide)), fun j hj => by rw [hf2 91 (by decide)]; exact hf91 j hj, by rw [hf2 91 (by decide)]; exact h26⟩, by rw [hf2 101 (by decide)]; exact h101, by rw [hf2 102 (by decide)]; exact h102, hPQ, by rw [hf2 103 (by decide)]; exact hqu⟩
    cases ha : alN p0 I q o with
    | false => exact ⟨fun q9 => absurd rfl q9, fun _ => no (fun z => by rw [ha] at z; exact absurd z.2.2 (by decide)) I2 hG2⟩
    | true =>
      have hroom := hPQ.room (by omega) (show o < told by omega) hc
      refine ⟨fun _ => ⟨by omega, by omega, ?_⟩, fun q9 => absurd (by decide) q9⟩
      rw [bIn_y ⟨hc, q2, ha⟩] at k
      have hlL : (s.2 ++ [o]).length = s.2.length + 1 := by simp
      have hgo := ih (o + 1) (u2 (u2 I2 101 o (I2 91 26)) 103 s.2.length o) (up1 s.1 o p, s.2 ++ [o]) (by omega) ⟨⟨(hG2.1.1.u (by decide)).u (by decide), fun j hj => by rw [u2_ne (by decide), u2_ne (by decide)]; exact hG2.1.2.1 j hj, by rw [u2_ne (by decide), u2_ne (by decide)]; exact hG2.1.2.2⟩, fun e2 he2 => ?_, fun q3 x3 h3 => by rw [u2_ne (by decide), u2_ne (by decide)]; exact hG2.2.2.1 q3 x3 h3, hPQ.step (by omega) (by omega) hc, fun i2 q3 h3 => ?_⟩ ?_ k
      · rw [w32_id (by omega) (by omega), w32_id (by omega) (by omega), toN]
        rw [show ((up1 s.1 o (p : Int), s.2 ++ [o]).2.length : Int) = (s.2.length : Int) + 1 from by show ((s.2 ++ [o]).length : Int) = _; rw [hlL]; rfl] at hgo
        exact hgo
      · show _ = up1 s.1 o p e2
        rw [u2_ne (by decide), u2_at, hG2.1.2.2]
        unfold up1
        split
        · rfl
        · exact hG2.2.1 e2 he2
      · rw [u2_at]
        rcases app_some h3 with ⟨h4, h5⟩ | ⟨rfl, rfl⟩
        · rw [if_neg (by omega), u2_ne (by decide)]
          exact hG2.2.2.2.2 i2 q3 h5
        · rw [if_pos rfl]
      · show (s.2 ++ [o])[i]? = some q
        rw [List.getElem?_append_left (List.getElem?_eq_some_iff.1 hsi).1]
        exact hsi
theorem s231_qu {Q : MP} {p0 : List Lin} {told e p : Nat} {L : List Nat} (hh : 4 ≤ h) (hT : rTown 0 92 I) (hB : rBook 0 92 I) (ht : rTxt 13 92 0 I false p0) (hto : I 7 0 = told) (hp : p < 120) (he : e < told) : ∀ (f i : Nat) (I' : MI) (s : (Nat → Int) × List Nat), f + i = told + 1 → RG I told p L I' s → (∀ I2, RG I told p L I2 (bQu (alN p0 I) (knB I) told p f i s) → Tri G h 231 119 119 32 [some (vr 91), some (vi ((e : Int) + 1))] [] (u2 I2 91 26 ((p : Int) + 1), J, PP b) Q) → Tri G h 231 119 119 94 [some (vr 91), some (vi (e : Int)), some (vi (s.2.length : Int)), some (vi (i : Int))] [] (I', J, PP b) Q := by
  have b1 := hB.1
  simp only [Nat.reduceAdd] at b1
  intro f
  induction f with
  | zero =>
    intro i I' s hf hG k
    have hlen := hG.2.2.2.1.len
    refine x231_94 (Nat.zero_le _) ?_
    rw [hG.1.2.2, w32_id (by omega) (by omega), w32_id (by omega) (by omega)]
    exact ⟨fun _ => k I' hG, fun q => by omega⟩
  | succ f ih =>
    intro i I' s hf hG k
    have hlen := hG.2.2.2.1.len
    refine x231_94 (Nat.zero_le _) ?_
    by_cases hi : s.2.length ≤ i
    · have hn : s.2[i]? = none := List.getElem?_eq_none hi
      rw [bQu_n hn] at k
      rw [hG.1.2.2, w32_id (by omega) (by omega), w32_id (by omega) (by omega)]
      exact ⟨fun _ => k I' hG, fun q => by omega⟩
    · obtain ⟨q, hq⟩ : ∃ q, s.2[i]? = some q := ⟨s.2[i], List.getElem?_eq_getElem (by omega)⟩
      rw [bQu_s hq] at k
      exact ⟨fun q9 => by omega, fun _ => s231_in hh hT hB ht hto hp (by omega) told 0 I' s (by omega) hG hq fun I2 hG2 => ih (i + 1) I2 _ (by omega) hG2 k⟩
/-- the reference, between two persons -/
def RO (I : MI) (told e : Nat) (I' : MI) (s : (Nat → Int) × List Nat) : Prop := (frK RCS I I' ∧ (∀ j, j ≠ 26 → I' 91 j = I 91 j) ∧ I' 91 26 = s.2.length) ∧ (∀ e : Nat, e < told → I' 101 e = s.1 e) ∧ (∀ q x : Nat, s.2[q]? = some x → I' 102 q = x) ∧ s.2.length ≤ e ∧ (∀ o, told ≤ o → s.1 o = -1) ∧ ∀ o, -1 ≤ s.1 o ∧ s.1 o < s.2.length
theorem s231_o {Q : MP} {p0 : List Lin} {told : Nat} (hh : 4 ≤ h) (hT : rTown 0 92 I) (hB : rBook 0 92 I) (ht : rTxt 13 92 0 I false p0) (hto : I 7 0 = told) : ∀ (m e : Nat) (I' : MI) (s : (Nat → Int) × List Nat), e + m = told → RO I told e I' s → (∀ I2, RO I told told I2 (bAll (alN p0 I) (knB I) told m e s) → Q none (I2, J, PP b)) → Tri G h 231 119 119 32 [some (vr 91), some (vi (e : Int))] [] (I', J, PP b) Q := by
  have b1 := hB.1
  simp only [Nat.reduceAdd] at b1
  intro m
  induction m with
  | zero =>
    intro e I' s he hO k
    obtain rfl : e = told := by omega
    have e92 := hO.1.1 92 (by decide)
    exact x231_32 (by omega) ⟨fun _ => k I' hO, fun q => by rw [e92, b1.2.2] at q; omega⟩
  | succ m ih =>
    intro e I' s he hO k
    obtain ⟨⟨hf, hf91, h26⟩, h101, h102, o1, o2, o3⟩ := id hO
    have e92 := hf 92 (by decide)
    have ek : knB I' = knB I := knB_k hf (by decide)
    have no : ¬ (s.1 e = -1 ∧ knB I e = true) → Tri G h 231 119 119 32 [some (vr 91), some (vi (w32 ((e : Int) + 1)))] [] (I', J, PP b) Q := by
      intro hn
      rw [bAll_n hn] at k
      rw [w32_id (by omega) (by omega)]
      exact ih (e + 1) I' s (by omega) ⟨hO.1, h101, h102, by omega, o2, o3⟩ k
    refine x231_32 (by omega) ?_
    rw [e92, b1.2.2, toN, h101 e (by omega), ek, h26, toN]
    refine ⟨fun q9 => by omega, fun _ => ⟨by omega, fun q1 => no (fun z => q1 z.1), fun q1 => ⟨⟨hB.k hf (by decide), by omega, by rw [hf 7 (by decide)]; omega⟩, fun q2 => ⟨by omega, by omega, ?_⟩, fun q2 => no (fun z => q2 z.2)⟩⟩⟩
    have hc : s.1 e = -1 := Decidable.of_not_not q1
    rw [bAll_y ⟨hc, q2⟩] at k
    have hPQ0 : PQ told 0 (knB I) s.2.length (s.1, []) := ⟨fun q hq => by simp at hq, o2, by rw [cntE_z (fun i => decide_eq_false (by have := (o3 i).2; show ¬ s.1 i = _; omega))]; rfl, fun o => ⟨(o3 o).1, by have := (o3 o).2; show s.1 o ≤ _; omega⟩, fun o ho => by omega⟩
    have hPQ1 := hPQ0.step (by omega) (by omega) hc
    have hlL : (s.2 ++ [e]).length = s.2.length + 1 := by simp
    refine s231_qu (I := I) (p0 := p0) (told := told) (p := s.2.length) (L := s.2 ++ [e]) hh hT hB ht hto (by omega) (by omega) (told + 1) 0 _ (up1 s.1 e s.2.length, [e]) (by omega) ⟨⟨((hf.u (by decide)).u (by decide)).u (by decide), fun j hj => ?_, ?_⟩, fun e2 he2 => ?_, fun q3 x3 h3 => ?_, hPQ1, fun i2 q3 h3 => ?_⟩ fun I2 hG2 => ?_
    · rw [u2_ne (by decide), u2_ne (by decide), u2_ne (by decide)]
      exact hf91 j hj
    · rw [u2_ne (by decide), u2_ne (by decide), u2_ne (by decide)]
      exact h26
    · show _ = up1 s.1 e s.2.length e2
      rw [u2_ne (by decide), u2_ne (by decide), u2_at]
      unfold up1
      split
      · rfl
      · exact h101 e2 he2
    · rw [u2_ne (by decide), u2_at]
      rcases app_some h3 with ⟨h4, h5⟩ | ⟨rfl, rfl⟩
      · rw [if_neg (by omega), u2_ne (by decide)]
        exact h102 q3 x3 h5
      · rw [if_pos rfl]
    · rcases app_some (Q := []) h3 with ⟨h4, h5⟩ | ⟨rfl, rfl⟩
      · simp at h5
      · rw [u2_at, if_pos (by rfl)]
    · refine ih (e + 1) _ ((bQu (alN p0 I) (knB I) told s.2.length (told + 1) 0 (up1 s.1 e s.2.length, [e])).1, s.2 ++ [e]) (by omega) ⟨⟨hG2.1.1.u (by decide), fun j hj => ?_, ?_⟩, fun e2 he2 => ?_, fun q3 x3 h3 => ?_, by rw [hlL]; omega, hG2.2.2.2.1.2.1, fun o => ?_⟩ k
      · rw [u2_at, if_neg hj]
        exact hG2.1.2.1 j hj
      · rw [u2e]
        show _ = ((s.2 ++ [e]).length : Int)
        rw [hlL]
        rfl
      · rw [u2_ne (by decide)]
        exact hG2.2.1 e2 he2
      · rw [u2_ne (by decide)]
        exact hG2.2.2.1 q3 x3 h3
      · have := hG2.2.2.2.1.2.2.2.1 o
        rw [hlL]
        refine ⟨this.1, ?_⟩
        have h2 := this.2
        show (bQu (alN p0 I) (knB I) told s.2.length (told + 1) 0 (up1 s.1 e s.2.length, [e])).1 o < ((s.2.length + 1 : Nat) : Int)
        omega
theorem s231_0 {Q : MP} {told : Nat} (hB : rBook 0 92 I) (hto : I 7 0 = told) (k : ∀ I2, frK RCS I I2 → (∀ j, j ≠ 26 → I2 91 j = I 91 j) → I2 91 26 = 0 → (∀ e : Nat, e < told → I2 101 e = -1) → Tri G h 231 119 119 32 [some (vr 91), some (vi 0)] [] (I2, J, PP b) Q) : ∀ (m e : Nat) (I' : MI), e + m = told → frK RCS I I' → (∀ j, j ≠ 26 → I' 91 j = I 91 j) → I' 91 26 = 0 → (∀ j : Nat, j < e → I' 101 j = -1) → Tri G h 231 119 119 7 [some (vr 91), some (vi (e : Int))] [] (I', J, PP b) Q := by
  have b1 := hB.1
  simp only [Nat.reduceAdd] at b1
  intro m
  induction m with
  | zero =>
    intro e I' he hf h1 h2 h3
    refine x231_7 (Nat.zero_le _) ?_
    rw [hf 92 (by decide), b1.2.2]
    exact ⟨fun _ => k I' hf h1 h2 fun e2 he2 => h3 e2 (by omega), fun q => by omega⟩
  | succ m ih =>
    intro e I' he hf h1 h2 h3
    refine x231_7 (Nat.zero_le _) ?_
    rw [hf 92 (by decide), b1.2.2, toN, w32_id (by omega) (by omega)]
    refine ⟨fun q => by omega, fun _ => ⟨by omega, ih (e + 1) _ (by omega) (hf.u (by decide)) (fun j hj => by rw [u2_ne (by decide)]; exact h1 j hj) (by rw [u2_ne (by decide)]; exact h2) fun j hj => ?_⟩⟩
    rw [u2_at]
    split
    · rfl
    · exact h3 j (by omega)
/-- the reference has the persons -/
def RP (p0 : List Lin) (I : MI) : Prop := I 91 26 = (prs p0 I).2.length ∧ (∀ e : Nat, (e : Int) < I 7 0 → I 101 e = (prs p0 I).1 e) ∧ ∀ q x : Nat, (prs p0 I).2[q]? = some x → I 102 q = x
theorem prs_k {S : List Nat} {I I' : MI} (p0 : List Lin) (hf : frK S I I') (hS : ∀ k ∈ [3, 4, 6, 7, 8, 9, 10, 11, 12], k ∉ S) : prs p0 I' = prs p0 I := prs_c p0 (hf 3 (hS 3 (by decide))) (hf 4 (hS 4 (by decide))) (hf 6 (hS 6 (by decide))) (hf 7 (hS 7 (by decide))) (hf 8 (hS 8 (by decide))) (hf 9 (hS 9 (by decide))) (hf 10 (hS 10 (by decide))) (hf 11 (hS 11 (by decide))) (hf 12 (hS 12 (by decide)))
/-- what the persons are -/
def PRS (told : Nat) (s : (Nat → Int) × List Nat) : Prop := s.2.length ≤ told ∧ (∀ o, told ≤ o → s.1 o = -1) ∧ ∀ o, -1 ≤ s.1 o ∧ s.1 o < s.2.length
theorem s231 {K : MI → MJ → B3 → Prop} {p0 : List Lin} (hh : 5 ≤ h) (hT : rTown 0 92 I) (hB : rBook 0 92 I) (ht : rTxt 13 92 0 I false p0) (k : ∀ I2, frK RCS I I2 → (∀ j, j ≠ 26 → I2 91 j = I 91 j) → RP p0 I2 → PRS (I 7 0).toNat (prs p0 I) → K I2 J b) : TriM G h 231 119 119 [vr 91] (I, J, PP b) (cVN K) := by
  have b1 := hB.1
  simp only [Nat.reduceAdd] at b1
  obtain ⟨told, hto⟩ : ∃ t : Nat, I 7 0 = t := ⟨(I 7 0).toNat, by omega⟩
  refine x231_m hh (fun h hh => x231 (Nat.zero_le _) (s231_0 (I := I) hB hto (fun I2 hf h1 h2 h3 => ?_) told 0 _ (by omega) (frK.r.u (by decide)) (fun j hj => by rw [u2_at, if_neg hj]) u2e (fun j hj => by omega)))
  refine s231_o (I := I) (p0 := p0) (by omega) hT hB ht hto told 0 I2 (fun _ => -1, []) (by omega) ⟨⟨hf, h1, h2⟩, h3, fun q x hx => by simp at hx, Nat.zero_le _, fun _ _ => rfl, fun o => ?_⟩ fun I3 hO => ⟨_, _, _, rfl, rfl, ?_⟩
  · show -1 ≤ (-1 : Int) ∧ (-1 : Int) < (([] : List Nat).length : Nat)
    decide
  · obtain ⟨⟨hf3, h31, h32⟩, h4, h5, h6, h7, h8⟩ := hO
    have hpr : prs p0 I = bAll (alN p0 I) (knB I) told told 0 (fun _ => -1, []) := by
      unfold prs persF
      rw [hto, toN]
    have hpr3 : prs p0 I3 = prs p0 I := prs_k p0 hf3 (by decide)
    rw [← hpr] at h32 h4 h5 h6 h7 h8
    refine k I3 hf3 h31 ⟨by rw [hpr3]; exact h32, fun e he => ?_, by rw [hpr3]; exact h5⟩ ⟨by rw [hto, toN]; exact h6, by rw [hto, toN]; exact h7, h8⟩
    rw [hpr3]
    rw [hf3 7 (by decide), hto] at he
    exact h4 e (by omega)
end PERSM
