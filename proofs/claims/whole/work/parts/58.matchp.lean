/-! couples: pure -/
theorem pig : ∀ (l l' : List Nat) (g : Nat → Nat), l.Nodup → (∀ s ∈ l, g s ∈ l') → (∀ s ∈ l, ∀ t ∈ l, g s = g t → s = t) → l.length ≤ l'.length
  | [], _, _, _, _, _ => Nat.zero_le _
  | s :: l, l', g, hn, hm, hi => by
    have hn2 := List.nodup_cons.1 hn
    have h1 := pig l (l'.erase (g s)) g hn2.2 (fun t ht => (List.mem_erase_of_ne (fun e => by
      have := hi t (List.mem_cons_of_mem _ ht) s List.mem_cons_self e
      rw [this] at ht
      exact hn2.1 ht)).2 (hm t (List.mem_cons_of_mem _ ht))) (fun a ha c hc => hi a (List.mem_cons_of_mem _ ha) c (List.mem_cons_of_mem _ hc))
    have h2 := List.length_erase_of_mem (hm s List.mem_cons_self)
    have h3 : 0 < l'.length := List.length_pos_of_mem (hm s List.mem_cons_self)
    simp only [List.length_cons]
    omega
theorem nd_le {V : List Nat} {N : Nat} (hn : V.Nodup) (hV : ∀ q ∈ V, q < N) : V.length ≤ N := by
  have := pig V (List.range N) id hn (fun s hs => List.mem_range.2 (hV s hs)) (fun s _ t _ e => e)
  rw [List.length_range] at this
  exact this
def MVr (E : Nat → Nat → Bool) (A : List Nat) (M : Nat → Int) : Prop := (∀ q q', M q = M q' → M q ≠ -1 → q = q') ∧ (∀ q, M q = -1 ∨ ∃ p ∈ A, M q = (p : Nat) ∧ E p q = true) ∧ ∀ p ∈ A, ∃ q, M q = (p : Nat)
theorem MVr.fe {E : Nat → Nat → Bool} {A : List Nat} {M : Nat → Int} (h : MVr E A M) : feas E A := by
  obtain ⟨h1, h2, h3⟩ := h
  have h4 : ∀ p, ∃ q, p ∈ A → M q = (p : Nat) := by
    intro p
    by_cases hp : p ∈ A
    · obtain ⟨q, hq⟩ := h3 p hp
      exact ⟨q, fun _ => hq⟩
    · exact ⟨0, fun z => absurd z hp⟩
  refine ⟨fun p => Classical.choose (h4 p), fun p hp => ?_, fun p hp q hq e => ?_⟩
  · have g := Classical.choose_spec (h4 p) hp
    rcases h2 (Classical.choose (h4 p)) with h5 | ⟨p', hp', e1, e2⟩
    · omega
    · have : p' = p := by omega
      rw [this] at e2
      exact e2
  · have g1 := Classical.choose_spec (h4 p) hp
    have g2 := Classical.choose_spec (h4 q) hq
    have e' : Classical.choose (h4 p) = Classical.choose (h4 q) := e
    rw [e'] at g1
    omega
theorem MVr.no {E : Nat → Nat → Bool} {A : List Nat} {M : Nat → Int} {p : Nat} {T : Nat → Prop} (h : MVr E A M) (hA : (p :: A).Nodup) (hT : ∀ q, T q → M q ≠ -1) (hp : ∀ q, E p q = true → T q) (hc : ∀ q, T q → ∀ p' : Nat, M q = p' → ∀ q', E p' q' = true → T q') : ¬ feas E (p :: A) := by
  rintro ⟨f, f1, f2⟩
  obtain ⟨h1, h2, h3⟩ := h
  have hS : ∃ S : Nat → Bool, ∀ s, S s = true ↔ (s = p ∨ ∃ q, T q ∧ M q = (s : Nat)) := ⟨fun s => @decide (s = p ∨ ∃ q, T q ∧ M q = (s : Nat)) (Classical.propDecidable _), fun s => by simp⟩
  obtain ⟨S, hS⟩ := hS
  have key : ∀ s, s ∈ (p :: A).filter S → ∃ p', p' ∈ A ∧ M (f s) = (p' : Nat) ∧ T (f s) := by
    intro s hs
    obtain ⟨hs1, hs2⟩ := List.mem_filter.1 hs
    have hE := f1 s hs1
    have ht : T (f s) := by
      rcases (hS s).1 hs2 with rfl | ⟨q, hq1, hq2⟩
      · exact hp _ hE
      · exact hc q hq1 s hq2 _ hE
    rcases h2 (f s) with h5 | ⟨p', hp', e1, -⟩
    · exact absurd h5 (hT _ ht)
    · exact ⟨p', hp', e1, ht⟩
  have hpl : p ∈ (p :: A).filter S := List.mem_filter.2 ⟨List.mem_cons_self, (hS p).2 (Or.inl rfl)⟩
  have hn : ((p :: A).filter S).Nodup := hA.filter S
  have hnp := (List.nodup_cons.1 hA).1
  have := pig ((p :: A).filter S) (((p :: A).filter S).erase p) (fun s => (M (f s)).toNat) hn (fun s hs => ?_) (fun s hs t ht e => ?_)
  · have h5 := List.length_erase_of_mem hpl
    have h6 := List.length_pos_of_mem hpl
    omega
  · obtain ⟨p', hp', e1, ht⟩ := key s hs
    show (M (f s)).toNat ∈ _
    rw [e1, toN]
    refine (List.mem_erase_of_ne (fun z => hnp (by rw [← z]; exact hp'))).2 (List.mem_filter.2 ⟨List.mem_cons_of_mem _ hp', (hS p').2 (Or.inr ⟨f s, ht, e1⟩)⟩)
  · obtain ⟨p', hp', e1, ht1⟩ := key s hs
    obtain ⟨p'', hp'', e2, ht2⟩ := key t ht
    have e3 : (M (f s)).toNat = (M (f t)).toNat := e
    rw [e1, e2, toN, toN] at e3
    have := h1 (f s) (f t) (by rw [e1, e2, e3]) (by omega)
    exact f2 s (List.mem_filter.1 hs).1 t (List.mem_filter.1 ht).1 this
/-! the reference's step -/
def SU (U : Nat → Prop) (p : Int) (M M2 : Nat → Int) : Prop := (∀ q, ¬ U q → M2 q = M q) ∧ (∀ q q', U q → U q' → M2 q = M2 q' → M2 q ≠ -1 → q = q') ∧ (∀ q, U q → M2 q ≠ -1 → M2 q = p ∨ ∃ q', U q' ∧ M q' = M2 q) ∧ (p ≠ -1 → ∃ q, U q ∧ M2 q = p) ∧ ∀ q', U q' → M q' ≠ -1 → ∃ q, U q ∧ M2 q = M q'
theorem SU.none {U : Nat → Prop} {M : Nat → Int} (inj : ∀ q q', U q → U q' → M q = M q' → M q ≠ -1 → q = q') : SU U (-1) M M := ⟨fun _ _ => rfl, inj, fun q hq _ => Or.inr ⟨q, hq, rfl⟩, fun z => absurd rfl z, fun q hq _ => ⟨q, hq, rfl⟩⟩
theorem SU.up {U U3 : Nat → Prop} {j : Nat} {p : Int} {M M4 : Nat → Int} (h3 : SU U3 (M j) M M4) (hU : ∀ q, U3 q → U q) (hj : U j) (hj3 : ¬ U3 j) (inj : ∀ q q', U q → U q' → M q = M q' → M q ≠ -1 → q = q') (hp : ∀ q, U q → M q ≠ p) (hp1 : p ≠ -1) : SU U p M (up1 M4 j p) := by
  obtain ⟨a1, a2, a3, a4, a5⟩ := h3
  have img : ∀ q, U q → q ≠ j → M4 q ≠ -1 → ∃ q', U q' ∧ M q' = M4 q ∧ (U3 q → U3 q' ∨ q' = j) ∧ (¬ U3 q → q' = q) := by
    intro q hq hqj hm
    by_cases h : U3 q
    · rcases a3 q h hm with h4 | ⟨q', h4, h5⟩
      · exact ⟨j, hj, h4.symm, fun _ => Or.inr rfl, fun z => absurd h z⟩
      · exact ⟨q', hU _ h4, h5, fun _ => Or.inl h4, fun z => absurd h z⟩
    · exact ⟨q, hq, (a1 q h).symm, fun z => absurd z h, fun _ => rfl⟩
  refine ⟨fun q hq => ?_, fun q q' hq hq' e hn => ?_, fun q hq hn => ?_, fun _ => ⟨j, hj, up1_e⟩, fun q' hq' hn => ?_⟩
  · have : q ≠ j := fun z => hq (by rw [z]; exact hj)
    rw [up1_n this]
    exact a1 q (fun z => hq (hU q z))
  · by_cases e1 : q = j
    · by_cases e2 : q' = j
      · rw [e1, e2]
      · exfalso
        rw [e1, up1_e, up1_n e2] at e
        obtain ⟨q2, g1, g2, -⟩ := img q' hq' e2 (by rw [← e]; exact hp1)
        exact hp q2 g1 (by rw [g2, ← e])
    · by_cases e2 : q' = j
      · exfalso
        rw [e2, up1_e, up1_n e1] at e
        obtain ⟨q2, g1, g2, -⟩ := img q hq e1 (by rw [e]; exact hp1)
        exact hp q2 g1 (by rw [g2, e])
      · rw [up1_n e1, up1_n e2] at e
        rw [up1_n e1] at hn
        by_cases u1 : U3 q
        · by_cases u2' : U3 q'
          · exact a2 q q' u1 u2' e hn
          · exfalso
            obtain ⟨q2, g1, g2, g3, -⟩ := img q hq e1 hn
            have g4 := inj q2 q' g1 hq' (by rw [g2, e, a1 q' u2']) (by rw [g2]; exact hn)
            rcases g3 u1 with g5 | g5
            · rw [g4] at g5
              exact u2' g5
            · exact e2 (by rw [← g4, g5])
        · by_cases u2' : U3 q'
          · exfalso
            obtain ⟨q2, g1, g2, g3, -⟩ := img q' hq' e2 (by rw [← e]; exact hn)
            have g4 := inj q2 q g1 hq (by rw [g2, ← e, a1 q u1]) (by rw [g2, ← e]; exact hn)
            rcases g3 u2' with g5 | g5
            · rw [g4] at g5
              exact u1 g5
            · exact e1 (by rw [← g4, g5])
          · rw [a1 q u1, a1 q' u2'] at e
            rw [a1 q u1] at hn
            exact inj q q' hq hq' e hn
  · by_cases e1 : q = j
    · rw [e1, up1_e]
      exact Or.inl rfl
    · rw [up1_n e1] at hn ⊢
      obtain ⟨q2, g1, g2, -⟩ := img q hq e1 hn
      exact Or.inr ⟨q2, g1, g2⟩
  · by_cases e1 : q' = j
    · obtain ⟨q, g1, g2⟩ := a4 (by rw [← e1]; exact hn)
      refine ⟨q, hU q g1, ?_⟩
      rw [up1_n (fun z => hj3 (by rw [← z]; exact g1)), g2, e1]
    · by_cases u1 : U3 q'
      · obtain ⟨q, g1, g2⟩ := a5 q' u1 hn
        refine ⟨q, hU q g1, ?_⟩
        rw [up1_n (fun z => hj3 (by rw [← z]; exact g1)), g2]
      · refine ⟨q', hq', ?_⟩
        rw [up1_n e1, a1 q' u1]
/-- what lies outside the first n -/
def cut (n : Nat) (f : Nat → Int) : Nat → Int := fun q => if q < n then f q else -1
theorem cut_in {n q : Nat} {f : Nat → Int} (h : q < n) : cut n f q = f q := if_pos h
theorem cut_out {n q : Nat} {f : Nat → Int} (h : ¬ q < n) : cut n f q = -1 := if_neg h
theorem MVr.step {E : Nat → Nat → Bool} {A : List Nat} {N p : Nat} {m m2 : Nat → Int} (h : MVr E A (cut N m)) (hs : SU (fun q => q < N) p m m2) (he : ∀ q, q < N → m2 q = -1 ∨ ∃ p' : Nat, m2 q = p' ∧ E p' q = true) : MVr E (p :: A) (cut N m2) := by
  obtain ⟨h1, h2, h3⟩ := h
  obtain ⟨a1, a2, a3, a4, a5⟩ := hs
  refine ⟨fun q q' e hn => ?_, fun q => ?_, fun p' hp' => ?_⟩
  · by_cases u1 : q < N
    · by_cases u2' : q' < N
      · rw [cut_in u1, cut_in u2'] at e
        rw [cut_in u1] at hn
        exact a2 q q' u1 u2' e hn
      · rw [cut_out u2'] at e
        exact absurd e hn
    · rw [cut_out u1] at hn
      exact absurd rfl hn
  · by_cases u1 : q < N
    · rw [cut_in u1]
      rcases he q u1 with g | ⟨p', g1, g2⟩
      · exact Or.inl g
      · right
        rcases a3 q u1 (by omega) with g3 | ⟨q', g3, g4⟩
        · have : p' = p := by omega
          subst this
          exact ⟨p', List.mem_cons_self, g1, g2⟩
        · rcases h2 q' with g5 | ⟨p2, g5, g6, -⟩
          · rw [cut_in g3] at g5
            omega
          · rw [cut_in g3] at g6
            have : p' = p2 := by omega
            subst this
            exact ⟨p', List.mem_cons_of_mem _ g5, g1, g2⟩
    · exact Or.inl (cut_out u1)
  · rcases List.mem_cons.1 hp' with rfl | hp'
    · obtain ⟨q, g1, g2⟩ := a4 (by omega)
      exact ⟨q, by rw [cut_in g1]; exact g2⟩
    · obtain ⟨q', g1⟩ := h3 p' hp'
      have u1 : q' < N := by
        apply Decidable.byContradiction
        intro z
        rw [cut_out z] at g1
        omega
      rw [cut_in u1] at g1
      obtain ⟨q, g2, g3⟩ := a5 q' u1 (by omega)
      exact ⟨q, by rw [cut_in g2, g3, g1]⟩

