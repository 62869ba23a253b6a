theorem u2n {α : Type} {f : Nat → Nat → α} {k j a c : Nat} {x : α} (h : a ≠ k) : u2 f k j x a c = f a c := by rw [u2_ne h]
theorem u2j {α : Type} {f : Nat → Nat → α} {k j c : Nat} {x : α} (h : c ≠ j) : u2 f k j x k c = f k c := by rw [u2_at, if_neg h]
theorem u2e {α : Type} {f : Nat → Nat → α} {k j : Nat} {x : α} : u2 f k j x k j = x := by rw [u2_at, if_pos rfl]
theorem u1n {α : Type} {f : Nat → Nat → α} {k a c : Nat} {g : Nat → α} (h : a ≠ k) : u1 f k g a c = f a c := by rw [u1_ne h]
theorem u1e {α : Type} {f : Nat → Nat → α} {k c : Nat} {g : Nat → α} : u1 f k g k c = g c := by rw [u1_at]
theorem u1_same {α : Type} {f : Nat → Nat → α} {k : Nat} : u1 f k (f k) = f := by
  funext a c
  by_cases h : a = k
  · rw [h, u1e]
  · rw [u1n h]
/-- a row filled up to a place -/
theorem fill_0 {α : Type} {f : Nat → Nat → α} {k : Nat} {x : α} : u1 f k (fun j => if j < 0 then x else f k j) = f := by
  have : (fun j => if j < 0 then x else f k j) = f k := by funext j; rw [if_neg (by omega)]
  rw [this, u1_same]
theorem fill_s {α : Type} {f : Nat → Nat → α} {k i : Nat} {x : α} : u2 (u1 f k (fun j => if j < i then x else f k j)) k i x = u1 f k (fun j => if j < i + 1 then x else f k j) := by
  funext a c
  by_cases h : a = k
  · subst h
    rw [u1e]
    by_cases hc : c = i
    · subst hc
      rw [u2e, if_pos (by omega)]
    · rw [u2j hc, u1e]
      by_cases h2 : c < i
      · rw [if_pos h2, if_pos (by omega)]
      · rw [if_neg h2, if_neg (by omega)]
  · rw [u2n h, u1n h, u1n h]
set_option maxRecDepth 100000 in
theorem x0_r73 {G : Ctx} {h : Nat} {Q : MP} {I : Nat → Nat → Int} {J : Nat → Nat → BitVec 64} {b : B3} {v : Int} (hh : 0 ≤ h) (H : Tri G h 0 119 119 5 [some (vr 73), some (vi v), some (vi 0), some (vi 120)] [] (I, J, PP b) Q) : Tri G h 0 119 119 0 [some (vr 73), some (vi v)] [] (I, J, PP b) Q := wp_at ck0 [(5, [true, true, true, true])] 400 H
set_option maxRecDepth 100000 in
theorem x0_r73_5 {G : Ctx} {h : Nat} {Q : MP} {I : Nat → Nat → Int} {J : Nat → Nat → BitVec 64} {b : B3} {l1 l2 l3 : Int} (hh : 0 ≤ h) (H : ((l3 ≤ l2) → (Q none (I, J, PP b))) ∧ (¬ (l3 ≤ l2) → ((0 ≤ l2 ∧ l2 < (120 : Int)) ∧ (Tri G h 0 119 119 5 [some (vr 73), some (vi l1), some (vi (w32 (l2 + 1))), some (vi l3)] [] (u2 I 73 l2.toNat l1, J, PP b) Q)))) : Tri G h 0 119 119 5 [some (vr 73), some (vi l1), some (vi l2), some (vi l3)] [] (I, J, PP b) Q := wp_at ck0 [(5, [true, true, true, true])] 400 H
theorem x0_r73_m {G : Ctx} {h : Nat} {Q : MP} {I : Nat → Nat → Int} {J : Nat → Nat → BitVec 64} {b : B3} {v : Int} (hh : 1 ≤ h) (H : ∀ h, 0 ≤ h → Tri G h 0 119 119 0 [some (vr 73), some (vi v)] [] (I, J, PP b) Q) : TriM G h 0 119 119 [vr 73, vi v] (I, J, PP b) Q := TriM_intro (h - 1) (by omega) (by decide) (Nat.le_of_ble_eq_true rfl) (Nat.le_refl _) (Nat.le_refl _) (H (h - 1) (by omega))
theorem x0_r73_l {G : Ctx} {h : Nat} {I : Nat → Nat → Int} {J : Nat → Nat → BitVec 64} {b : B3} {Q : MP} {v : Int} (H : Q none (u1 I 73 (fun j => if j < 120 then v else I 73 j), J, PP b)) : ∀ (m i : Nat), i + m = 120 → Tri G h 0 119 119 5 [some (vr 73), some (vi v), some (vi (i : Int)), some (vi 120)] [] (u1 I 73 (fun j => if j < i then v else I 73 j), J, PP b) Q := by
  intro m
  induction m with
  | zero =>
    intro i hi
    refine x0_r73_5 (Nat.zero_le _) ⟨fun q => ?_, fun q => by omega⟩
    rw [show i = 120 by omega]
    exact H
  | succ m ih =>
    intro i hi
    refine x0_r73_5 (Nat.zero_le _) ⟨fun q => by omega, fun q => ⟨⟨by omega, by omega⟩, ?_⟩⟩
    rw [w32_id (by omega) (by omega), show ((i : Int)).toNat = i by omega, fill_s]
    exact ih (i + 1) (by omega)
theorem sx0_r73 {G : Ctx} {h : Nat} {I : Nat → Nat → Int} {J : Nat → Nat → BitVec 64} {b : B3} {K : MS → Prop} {v : Int} (hh : 1 ≤ h) (k1 : K (u1 I 73 (fun j => if j < 120 then v else I 73 j), J, PP b)) : TriM G h 0 119 119 [vr 73, vi v] (I, J, PP b) (cV' K) := by
  refine x0_r73_m hh (fun h hh => x0_r73 hh ?_)
  have h1 := x0_r73_l (G := G) (h := h) (I := I) (J := J) (b := b) (Q := cV' K) (v := v) (cV_r k1) 120 0 (by omega)
  rw [fill_0] at h1
  exact h1
set_option maxRecDepth 100000 in
theorem x0_r80 {G : Ctx} {h : Nat} {Q : MP} {I : Nat → Nat → Int} {J : Nat → Nat → BitVec 64} {b : B3} {v : Int} (hh : 0 ≤ h) (H : Tri G h 0 119 119 5 [some (vr 80), some (vi v), some (vi 0), some (vi 120)] [] (I, J, PP b) Q) : Tri G h 0 119 119 0 [some (vr 80), some (vi v)] [] (I, J, PP b) Q := wp_at ck0 [(5, [true, true, true, true])] 400 H
set_option maxRecDepth 100000 in
theorem x0_r80_5 {G : Ctx} {h : Nat} {Q : MP} {I : Nat → Nat → Int} {J : Nat → Nat → BitVec 64} {b : B3} {l1 l2 l3 : Int} (hh : 0 ≤ h) (H : ((l3 ≤ l2) → (Q none (I, J, PP b))) ∧ (¬ (l3 ≤ l2) → ((0 ≤ l2 ∧ l2 < (120 : Int)) ∧ (Tri G h 0 119 119 5 [some (vr 80), some (vi l1), some (vi (w32 (l2 + 1))), some (vi l3)] [] (u2 I 80 l2.toNat l1, J, PP b) Q)))) : Tri G h 0 119 119 5 [some (vr 80), some (vi l1), some (vi l2), some (vi l3)] [] (I, J, PP b) Q := wp_at ck0 [(5, [true, true, true, true])] 400 H
theorem x0_r80_m {G : Ctx} {h : Nat} {Q : MP} {I : Nat → Nat → Int} {J : Nat → Nat → BitVec 64} {b : B3} {v : Int} (hh : 1 ≤ h) (H : ∀ h, 0 ≤ h → Tri G h 0 119 119 0 [some (vr 80), some (vi v)] [] (I, J, PP b) Q) : TriM G h 0 119 119 [vr 80, vi v] (I, J, PP b) Q := TriM_intro (h - 1) (by omega) (by decide) (Nat.le_of_ble_eq_true rfl) (Nat.le_refl _) (Nat.le_refl _) (H (h - 1) (by omega))
theorem x0_r80_l {G : Ctx} {h : Nat} {I : Nat → Nat → Int} {J : Nat → Nat → BitVec 64} {b : B3} {Q : MP} {v : Int} (H : Q none (u1 I 80 (fun j => if j < 120 then v else I 80 j), J, PP b)) : ∀ (m i : Nat), i + m = 120 → Tri G h 0 119 119 5 [some (vr 80), some (vi v), some (vi (i : Int)), some (vi 120)] [] (u1 I 80 (fun j => if j < i then v else I 80 j), J, PP b) Q := by
  intro m
  induction m with
  | zero =>
    intro i hi
    refine x0_r80_5 (Nat.zero_le _) ⟨fun q => ?_, fun q => by omega⟩
    rw [show i = 120 by omega]
    exact H
  | succ m ih =>
    intro i hi
    refine x0_r80_5 (Nat.zero_le _) ⟨fun q => by omega, fun q => ⟨⟨by omega, by omega⟩, ?_⟩⟩
    rw [w32_id (by omega) (by omega), show ((i : Int)).toNat = i by omega, fill_s]
    exact ih (i + 1) (by omega)
theorem sx0_r80 {G : Ctx} {h : Nat} {I : Nat → Nat → Int} {J : Nat → Nat → BitVec 64} {b : B3} {K : MS → Prop} {v : Int} (hh : 1 ≤ h) (k1 : K (u1 I 80 (fun j => if j < 120 then v else I 80 j), J, PP b)) : TriM G h 0 119 119 [vr 80, vi v] (I, J, PP b) (cV' K) := by
  refine x0_r80_m hh (fun h hh => x0_r80 hh ?_)
  have h1 := x0_r80_l (G := G) (h := h) (I := I) (J := J) (b := b) (Q := cV' K) (v := v) (cV_r k1) 120 0 (by omega)
  rw [fill_0] at h1
  exact h1
set_option maxRecDepth 100000 in
theorem x0_r81 {G : Ctx} {h : Nat} {Q : MP} {I : Nat → Nat → Int} {J : Nat → Nat → BitVec 64} {b : B3} {v : Int} (hh : 0 ≤ h) (H : Tri G h 0 119 119 5 [some (vr 81), some (vi v), some (vi 0), some (vi 120)] [] (I, J, PP b) Q) : Tri G h 0 119 119 0 [some (vr 81), some (vi v)] [] (I, J, PP b) Q := wp_at ck0 [(5, [true, true, true, true])] 400 H
set_option maxRecDepth 100000 in
theorem x0_r81_5 {G : Ctx} {h : Nat} {Q : MP} {I : Nat → Nat → Int} {J : Nat → Nat → BitVec 64} {b : B3} {l1 l2 l3 : Int} (hh : 0 ≤ h) (H : ((l3 ≤ l2) → (Q none (I, J, PP b))) ∧ (¬ (l3 ≤ l2) → ((0 ≤ l2 ∧ l2 < (120 : Int)) ∧ (Tri G h 0 119 119 5 [some (vr 81), some (vi l1), some (vi (w32 (l2 + 1))), some (vi l3)] [] (u2 I 81 l2.toNat l1, J, PP b) Q)))) : Tri G h 0 119 119 5 [some (vr 81), some (vi l1), some (vi l2), some (vi l3)] [] (I, J, PP b) Q := wp_at ck0 [(5, [true, true, true, true])] 400 H
theorem x0_r81_m {G : Ctx} {h : Nat} {Q : MP} {I : Nat → Nat → Int} {J : Nat → Nat → BitVec 64} {b : B3} {v : Int} (hh : 1 ≤ h) (H : ∀ h, 0 ≤ h → Tri G h 0 119 119 0 [some (vr 81), some (vi v)] [] (I, J, PP b) Q) : TriM G h 0 119 119 [vr 81, vi v] (I, J, PP b) Q := TriM_intro (h - 1) (by omega) (by decide) (Nat.le_of_ble_eq_true rfl) (Nat.le_refl _) (Nat.le_refl _) (H (h - 1) (by omega))
theorem x0_r81_l {G : Ctx} {h : Nat} {I : Nat → Nat → Int} {J : Nat → Nat → BitVec 64} {b : B3} {Q : MP} {v : Int} (H : Q none (u1 I 81 (fun j => if j < 120 then v else I 81 j), J, PP b)) : ∀ (m i : Nat), i + m = 120 → Tri G h 0 119 119 5 [some (vr 81), some (vi v), some (vi (i : Int)), some (vi 120)] [] (u1 I 81 (fun j => if j < i then v else I 81 j), J, PP b) Q := by
  intro m
  induction m with
  | zero =>
    intro i hi
    refine x0_r81_5 (Nat.zero_le _) ⟨fun q => ?_, fun q => by omega⟩
    rw [show i = 120 by omega]
    exact H
  | succ m ih =>
    intro i hi
    refine x0_r81_5 (Nat.zero_le _) ⟨fun q => by omega, fun q => ⟨⟨by omega, by omega⟩, ?_⟩⟩
    rw [w32_id (by omega) (by omega), show ((i : Int)).toNat = i by omega, fill_s]
    exact ih (i + 1) (by omega)
theorem sx0_r81 {G : Ctx} {h : Nat} {I : Nat → Nat → Int} {J : Nat → Nat → BitVec 64} {b : B3} {K : MS → Prop} {v : Int} (hh : 1 ≤ h) (k1 : K (u1 I 81 (fun j => if j < 120 then v else I 81 j), J, PP b)) : TriM G h 0 119 119 [vr 81, vi v] (I, J, PP b) (cV' K) := by
  refine x0_r81_m hh (fun h hh => x0_r81 hh ?_)
  have h1 := x0_r81_l (G := G) (h := h) (I := I) (J := J) (b := b) (Q := cV' K) (v := v) (cV_r k1) 120 0 (by omega)
  rw [fill_0] at h1
  exact h1
set_option maxRecDepth 100000 in
theorem x0_r83 {G : Ctx} {h : Nat} {Q : MP} {I : Nat → Nat → Int} {J : Nat → Nat → BitVec 64} {b : B3} {v : Int} (hh : 0 ≤ h) (H : Tri G h 0 119 119 5 [some (vr 83), some (vi v), some (vi 0), some (vi 10)] [] (I, J, PP b) Q) : Tri G h 0 119 119 0 [some (vr 83), some (vi v)] [] (I, J, PP b) Q := wp_at ck0 [(5, [true, true, true, true])] 400 H
set_option maxRecDepth 100000 in
theorem x0_r83_5 {G : Ctx} {h : Nat} {Q : MP} {I : Nat → Nat → Int} {J : Nat → Nat → BitVec 64} {b : B3} {l1 l2 l3 : Int} (hh : 0 ≤ h) (H : ((l3 ≤ l2) → (Q none (I, J, PP b))) ∧ (¬ (l3 ≤ l2) → ((0 ≤ l2 ∧ l2 < (10 : Int)) ∧ (Tri G h 0 119 119 5 [some (vr 83), some (vi l1), some (vi (w32 (l2 + 1))), some (vi l3)] [] (u2 I 83 l2.toNat l1, J, PP b) Q)))) : Tri G h 0 119 119 5 [some (vr 83), some (vi l1), some (vi l2), some (vi l3)] [] (I, J, PP b) Q := wp_at ck0 [(5, [true, true, true, true])] 400 H
theorem x0_r83_m {G : Ctx} {h : Nat} {Q : MP} {I : Nat → Nat → Int} {J : Nat → Nat → BitVec 64} {b : B3} {v : Int} (hh : 1 ≤ h) (H : ∀ h, 0 ≤ h → Tri G h 0 119 119 0 [some (vr 83), some (vi v)] [] (I, J, PP b) Q) : TriM G h 0 119 119 [vr 83, vi v] (I, J, PP b) Q := TriM_intro (h - 1) (by omega) (by decide) (Nat.le_of_ble_eq_true rfl) (Nat.le_refl _) (Nat.le_refl _) (H (h - 1) (by omega))
theorem x0_r83_l {G : Ctx} {h : Nat} {I : Nat → Nat → Int} {J : Nat → Nat → BitVec 64} {b : B3} {Q : MP} {v : Int} (H : Q none (u1 I 83 (fun j => if j < 10 then v else I 83 j), J, PP b)) : ∀ (m i : Nat), i + m = 10 → Tri G h 0 119 119 5 [some (vr 83), some (vi v), some (vi (i : Int)), some (vi 10)] [] (u1 I 83 (fun j => if j < i then v else I 83 j), J, PP b) Q := by
  intro m
  induction m with
  | zero =>
    intro i hi
    refine x0_r83_5 (Nat.zero_le _) ⟨fun q => ?_, fun q => by omega⟩
    rw [show i = 10 by omega]
    exact H
  | succ m ih =>
    intro i hi
    refine x0_r83_5 (Nat.zero_le _) ⟨fun q => by omega, fun q => ⟨⟨by omega, by omega⟩, ?_⟩⟩
    rw [w32_id (by omega) (by omega), show ((i : Int)).toNat = i by omega, fill_s]
    exact ih (i + 1) (by omega)
theorem sx0_r83 {G : Ctx} {h : Nat} {I : Nat → Nat → Int} {J : Nat → Nat → BitVec 64} {b : B3} {K : MS → Prop} {v : Int} (hh : 1 ≤ h) (k1 : K (u1 I 83 (fun j => if j < 10 then v else I 83 j), J, PP b)) : TriM G h 0 119 119 [vr 83, vi v] (I, J, PP b) (cV' K) := by
  refine x0_r83_m hh (fun h hh => x0_r83 hh ?_)
  have h1 := x0_r83_l (G := G) (h := h) (I := I) (J := J) (b := b) (Q := cV' K) (v := v) (cV_r k1) 10 0 (by omega)
  rw [fill_0] at h1
  exact h1
set_option maxRecDepth 100000 in
theorem x1_r70 {G : Ctx} {h : Nat} {Q : MP} {I : Nat → Nat → Int} {J : Nat → Nat → BitVec 64} {b : B3} {v : BitVec 64} (hh : 0 ≤ h) (H : Tri G h 1 119 119 6 [some (vr 70), some (vl v), none, some (vi 0), some (vi 224)] [] (I, J, PP b) Q) : Tri G h 1 119 119 0 [some (vr 70), some (vl v), none] [] (I, J, PP b) Q := wp_at ck1 [(6, [true, true, false, true, true])] 400 H
set_option maxRecDepth 100000 in
theorem x1_r70_6 {G : Ctx} {h : Nat} {Q : MP} {I : Nat → Nat → Int} {J : Nat → Nat → BitVec 64} {b : B3} {l3 l4 : Int} {l1 : BitVec 64} (hh : 0 ≤ h) (H : ((l4 ≤ l3) → (Q none (I, J, PP b))) ∧ (¬ (l4 ≤ l3) → ((0 ≤ l3 ∧ l3 < (224 : Int)) ∧ (Tri G h 1 119 119 6 [some (vr 70), some (vl l1), none, some (vi (w32 (l3 + 1))), some (vi l4)] [] (I, u2 J 70 l3.toNat l1, PP b) Q)))) : Tri G h 1 119 119 6 [some (vr 70), some (vl l1), none, some (vi l3), some (vi l4)] [] (I, J, PP b) Q := wp_at ck1 [(6, [true, true, false, true, true])] 400 H
theorem x1_r70_m {G : Ctx} {h : Nat} {Q : MP} {I : Nat → Nat → Int} {J : Nat → Nat → BitVec 64} {b : B3} {v : BitVec 64} (hh : 1 ≤ h) (H : ∀ h, 0 ≤ h → Tri G h 1 119 119 0 [some (vr 70), some (vl v), none] [] (I, J, PP b) Q) : TriM G h 1 119 119 [vr 70, vl v] (I, J, PP b) Q := TriM_intro (h - 1) (by omega) (by decide) (Nat.le_of_ble_eq_true rfl) (Nat.le_refl _) (Nat.le_refl _) (H (h - 1) (by omega))
theorem x1_r70_l {G : Ctx} {h : Nat} {I : Nat → Nat → Int} {J : Nat → Nat → BitVec 64} {b : B3} {Q : MP} {v : BitVec 64} (H : Q none (I, u1 J 70 (fun j => if j < 224 then v else J 70 j), PP b)) : ∀ (m i : Nat), i + m = 224 → Tri G h 1 119 119 6 [some (vr 70), some (vl v), none, some (vi (i : Int)), some (vi 224)] [] (I, u1 J 70 (fun j => if j < i then v else J 70 j), PP b) Q := by
  intro m
  induction m with
  | zero =>
    intro i hi
    refine x1_r70_6 (Nat.zero_le _) ⟨fun q => ?_, fun q => by omega⟩
    rw [show i = 224 by omega]
    exact H
  | succ m ih =>
    intro i hi
    refine x1_r70_6 (Nat.zero_le _) ⟨fun q => by omega, fun q => ⟨⟨by omega, by omega⟩, ?_⟩⟩
    rw [w32_id (by omega) (by omega), show ((i : Int)).toNat = i by omega, fill_s]
    exact ih (i + 1) (by omega)
theorem sx1_r70 {G : Ctx} {h : Nat} {I : Nat → Nat → Int} {J : Nat → Nat → BitVec 64} {b : B3} {K : MS → Prop} {v : BitVec 64} (hh : 1 ≤ h) (k1 : K (I, u1 J 70 (fun j => if j < 224 then v else J 70 j), PP b)) : TriM G h 1 119 119 [vr 70, vl v] (I, J, PP b) (cV' K) := by
  refine x1_r70_m hh (fun h hh => x1_r70 hh ?_)
  have h1 := x1_r70_l (G := G) (h := h) (I := I) (J := J) (b := b) (Q := cV' K) (v := v) (cV_r k1) 224 0 (by omega)
  rw [fill_0] at h1
  exact h1
set_option maxRecDepth 100000 in
theorem x1_r71 {G : Ctx} {h : Nat} {Q : MP} {I : Nat → Nat → Int} {J : Nat → Nat → BitVec 64} {b : B3} {v : BitVec 64} (hh : 0 ≤ h) (H : Tri G h 1 119 119 6 [some (vr 71), some (vl v), none, some (vi 0), some (vi 224)] [] (I, J, PP b) Q) : Tri G h 1 119 119 0 [some (vr 71), some (vl v), none] [] (I, J, PP b) Q := wp_at ck1 [(6, [true, true, false, true, true])] 400 H
set_option maxRecDepth 100000 in
theorem x1_r71_6 {G : Ctx} {h : Nat} {Q : MP} {I : Nat → Nat → Int} {J : Nat → Nat → BitVec 64} {b : B3} {l3 l4 : Int} {l1 : BitVec 64} (hh : 0 ≤ h) (H : ((l4 ≤ l3) → (Q none (I, J, PP b))) ∧ (¬ (l4 ≤ l3) → ((0 ≤ l3 ∧ l3 < (224 : Int)) ∧ (Tri G h 1 119 119 6 [some (vr 71), some (vl l1), none, some (vi (w32 (l3 + 1))), some (vi l4)] [] (I, u2 J 71 l3.toNat l1, PP b) Q)))) : Tri G h 1 119 119 6 [some (vr 71), some (vl l1), none, some (vi l3), some (vi l4)] [] (I, J, PP b) Q := wp_at ck1 [(6, [true, true, false, true, true])] 400 H
theorem x1_r71_m {G : Ctx} {h : Nat} {Q : MP} {I : Nat → Nat → Int} {J : Nat → Nat → BitVec 64} {b : B3} {v : BitVec 64} (hh : 1 ≤ h) (H : ∀ h, 0 ≤ h → Tri G h 1 119 119 0 [some (vr 71), some (vl v), none] [] (I, J, PP b) Q) : TriM G h 1 119 119 [vr 71, vl v] (I, J, PP b) Q := TriM_intro (h - 1) (by omega) (by decide) (Nat.le_of_ble_eq_true rfl) (Nat.le_refl _) (Nat.le_refl _) (H (h - 1) (by omega))
theorem x1_r71_l {G : Ctx} {h : Nat} {I : Nat → Nat → Int} {J : Nat → Nat → BitVec 64} {b : B3} {Q : MP} {v : BitVec 64} (H : Q none (I, u1 J 71 (fun j => if j < 224 then v else J 71 j), PP b)) : ∀ (m i : Nat), i + m = 224 → Tri G h 1 119 119 6 [some (vr 71), some (vl v), none, some (vi (i : Int)), some (vi 224)] [] (I, u1 J 71 (fun j => if j < i then v else J 71 j), PP b) Q := by
  intro m
  induction m with
  | zero =>
    intro i hi
    refine x1_r71_6 (Nat.zero_le _) ⟨fun q => ?_, fun q => by omega⟩
    rw [show i = 224 by omega]
    exact H
  | succ m ih =>
    intro i hi
    refine x1_r71_6 (Nat.zero_le _) ⟨fun q => by omega, fun q => ⟨⟨by omega, by omega⟩, ?_⟩⟩
    rw [w32_id (by omega) (by omega), show ((i : Int)).toNat = i by omega, fill_s]
    exact ih (i + 1) (by omega)
theorem sx1_r71 {G : Ctx} {h : Nat} {I : Nat → Nat → Int} {J : Nat → Nat → BitVec 64} {b : B3} {K : MS → Prop} {v : BitVec 64} (hh : 1 ≤ h) (k1 : K (I, u1 J 71 (fun j => if j < 224 then v else J 71 j), PP b)) : TriM G h 1 119 119 [vr 71, vl v] (I, J, PP b) (cV' K) := by
  refine x1_r71_m hh (fun h hh => x1_r71 hh ?_)
  have h1 := x1_r71_l (G := G) (h := h) (I := I) (J := J) (b := b) (Q := cV' K) (v := v) (cV_r k1) 224 0 (by omega)
  rw [fill_0] at h1
  exact h1
set_option maxRecDepth 100000 in
theorem x1_r79 {G : Ctx} {h : Nat} {Q : MP} {I : Nat → Nat → Int} {J : Nat → Nat → BitVec 64} {b : B3} {v : BitVec 64} (hh : 0 ≤ h) (H : Tri G h 1 119 119 6 [some (vr 79), some (vl v), none, some (vi 0), some (vi 240)] [] (I, J, PP b) Q) : Tri G h 1 119 119 0 [some (vr 79), some (vl v), none] [] (I, J, PP b) Q := wp_at ck1 [(6, [true, true, false, true, true])] 400 H
set_option maxRecDepth 100000 in
theorem x1_r79_6 {G : Ctx} {h : Nat} {Q : MP} {I : Nat → Nat → Int} {J : Nat → Nat → BitVec 64} {b : B3} {l3 l4 : Int} {l1 : BitVec 64} (hh : 0 ≤ h) (H : ((l4 ≤ l3) → (Q none (I, J, PP b))) ∧ (¬ (l4 ≤ l3) → ((0 ≤ l3 ∧ l3 < (240 : Int)) ∧ (Tri G h 1 119 119 6 [some (vr 79), some (vl l1), none, some (vi (w32 (l3 + 1))), some (vi l4)] [] (I, u2 J 79 l3.toNat l1, PP b) Q)))) : Tri G h 1 119 119 6 [some (vr 79), some (vl l1), none, some (vi l3), some (vi l4)] [] (I, J, PP b) Q := wp_at ck1 [(6, [true, true, false, true, true])] 400 H
theorem x1_r79_m {G : Ctx} {h : Nat} {Q : MP} {I : Nat → Nat → Int} {J : Nat → Nat → BitVec 64} {b : B3} {v : BitVec 64} (hh : 1 ≤ h) (H : ∀ h, 0 ≤ h → Tri G h 1 119 119 0 [some (vr 79), some (vl v), none] [] (I, J, PP b) Q) : TriM G h 1 119 119 [vr 79, vl v] (I, J, PP b) Q := TriM_intro (h - 1) (by omega) (by decide) (Nat.le_of_ble_eq_true rfl) (Nat.le_refl _) (Nat.le_refl _) (H (h - 1) (by omega))
theorem x1_r79_l {G : Ctx} {h : Nat} {I : Nat → Nat → Int} {J : Nat → Nat → BitVec 64} {b : B3} {Q : MP} {v : BitVec 64} (H : Q none (I, u1 J 79 (fun j => if j < 240 then v else J 79 j), PP b)) : ∀ (m i : Nat), i + m = 240 → Tri G h 1 119 119 6 [some (vr 79), some (vl v), none, some (vi (i : Int)), some (vi 240)] [] (I, u1 J 79 (fun j => if j < i then v else J 79 j), PP b) Q := by
  intro m
  induction m with
  | zero =>
    intro i hi
    refine x1_r79_6 (Nat.zero_le _) ⟨fun q => ?_, fun q => by omega⟩
    rw [show i = 240 by omega]
    exact H
  | succ m ih =>
    intro i hi
    refine x1_r79_6 (Nat.zero_le _) ⟨fun q => by omega, fun q => ⟨⟨by omega, by omega⟩, ?_⟩⟩
    rw [w32_id (by omega) (by omega), show ((i : Int)).toNat = i by omega, fill_s]
    exact ih (i + 1) (by omega)
theorem sx1_r79 {G : Ctx} {h : Nat} {I : Nat → Nat → Int} {J : Nat → Nat → BitVec 64} {b : B3} {K : MS → Prop} {v : BitVec 64} (hh : 1 ≤ h) (k1 : K (I, u1 J 79 (fun j => if j < 240 then v else J 79 j), PP b)) : TriM G h 1 119 119 [vr 79, vl v] (I, J, PP b) (cV' K) := by
  refine x1_r79_m hh (fun h hh => x1_r79 hh ?_)
  have h1 := x1_r79_l (G := G) (h := h) (I := I) (J := J) (b := b) (Q := cV' K) (v := v) (cV_r k1) 240 0 (by omega)
  rw [fill_0] at h1
  exact h1
set_option maxRecDepth 100000 in
theorem x1_r84 {G : Ctx} {h : Nat} {Q : MP} {I : Nat → Nat → Int} {J : Nat → Nat → BitVec 64} {b : B3} {v : BitVec 64} (hh : 0 ≤ h) (H : Tri G h 1 119 119 6 [some (vr 84), some (vl v), none, some (vi 0), some (vi 3616)] [] (I, J, PP b) Q) : Tri G h 1 119 119 0 [some (vr 84), some (vl v), none] [] (I, J, PP b) Q := wp_at ck1 [(6, [true, true, false, true, true])] 400 H
set_option maxRecDepth 100000 in
theorem x1_r84_6 {G : Ctx} {h : Nat} {Q : MP} {I : Nat → Nat → Int} {J : Nat → Nat → BitVec 64} {b : B3} {l3 l4 : Int} {l1 : BitVec 64} (hh : 0 ≤ h) (H : ((l4 ≤ l3) → (Q none (I, J, PP b))) ∧ (¬ (l4 ≤ l3) → ((0 ≤ l3 ∧ l3 < (3616 : Int)) ∧ (Tri G h 1 119 119 6 [some (vr 84), some (vl l1), none, some (vi (w32 (l3 + 1))), some (vi l4)] [] (I, u2 J 84 l3.toNat l1, PP b) Q)))) : Tri G h 1 119 119 6 [some (vr 84), some (vl l1), none, some (vi l3), some (vi l4)] [] (I, J, PP b) Q := wp_at ck1 [(6, [true, true, false, true, true])] 400 H
theorem x1_r84_m {G : Ctx} {h : Nat} {Q : MP} {I : Nat → Nat → Int} {J : Nat → Nat → BitVec 64} {b : B3} {v : BitVec 64} (hh : 1 ≤ h) (H : ∀ h, 0 ≤ h → Tri G h 1 119 119 0 [some (vr 84), some (vl v), none] [] (I, J, PP b) Q) : TriM G h 1 119 119 [vr 84, vl v] (I, J, PP b) Q := TriM_intro (h - 1) (by omega) (by decide) (Nat.le_of_ble_eq_true rfl) (Nat.le_refl _) (Nat.le_refl _) (H (h - 1) (by omega))
theorem x1_r84_l {G : Ctx} {h : Nat} {I : Nat → Nat → Int} {J : Nat → Nat → BitVec 64} {b : B3} {Q : MP} {v : BitVec 64} (H : Q none (I, u1 J 84 (fun j => if j < 3616 then v else J 84 j), PP b)) : ∀ (m i : Nat), i + m = 3616 → Tri G h 1 119 119 6 [some (vr 84), some (vl v), none, some (vi (i : Int)), some (vi 3616)] [] (I, u1 J 84 (fun j => if j < i then v else J 84 j), PP b) Q := by
  intro m
  induction m with
  | zero =>
    intro i hi
    refine x1_r84_6 (Nat.zero_le _) ⟨fun q => ?_, fun q => by omega⟩
    rw [show i = 3616 by omega]
    exact H
  | succ m ih =>
    intro i hi
    refine x1_r84_6 (Nat.zero_le _) ⟨fun q => by omega, fun q => ⟨⟨by omega, by omega⟩, ?_⟩⟩
    rw [w32_id (by omega) (by omega), show ((i : Int)).toNat = i by omega, fill_s]
    exact ih (i + 1) (by omega)
theorem sx1_r84 {G : Ctx} {h : Nat} {I : Nat → Nat → Int} {J : Nat → Nat → BitVec 64} {b : B3} {K : MS → Prop} {v : BitVec 64} (hh : 1 ≤ h) (k1 : K (I, u1 J 84 (fun j => if j < 3616 then v else J 84 j), PP b)) : TriM G h 1 119 119 [vr 84, vl v] (I, J, PP b) (cV' K) := by
  refine x1_r84_m hh (fun h hh => x1_r84 hh ?_)
  have h1 := x1_r84_l (G := G) (h := h) (I := I) (J := J) (b := b) (Q := cV' K) (v := v) (cV_r k1) 3616 0 (by omega)
  rw [fill_0] at h1
  exact h1
