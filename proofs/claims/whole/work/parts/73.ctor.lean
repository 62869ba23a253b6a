/-! the constructors: the state afterwards, as a list of writings, the latest first -/
abbrev Op : Type := Nat ⊕ (Nat × Nat × Int) ⊕ (Nat × Nat × Nat) ⊕ (Nat × Nat × Int)
abbrev oN (k : Nat) : Op := .inl k
abbrev oW (k j : Nat) (v : Int) : Op := .inr (.inl (k, j, v))
abbrev oR (k j v : Nat) : Op := .inr (.inr (.inl (k, j, v)))
abbrev oF (k L : Nat) (v : Int) : Op := .inr (.inr (.inr (k, L, v)))
def op1 (o : Op) (s : MS) : MS := match o with
  | .inl k => (u1 s.1 k (fun _ => 0), u1 s.2.1 k (fun _ => 0), u1 s.2.2 k (fun _ => 1000))
  | .inr (.inl (k, j, v)) => (u2 s.1 k j v, s.2.1, s.2.2)
  | .inr (.inr (.inl (k, j, v))) => (s.1, s.2.1, u2 s.2.2 k j v)
  | .inr (.inr (.inr (k, L, v))) => (u1 s.1 k (fun j => if j < L then v else s.1 k j), s.2.1, s.2.2)
def ops : List Op → MS → MS
  | [], s => s
  | o :: t, s => op1 o (ops t s)
set_option maxRecDepth 100000 in
theorem yf_7_6 {G : Ctx} {h : Nat} {Q : MP} {I : Nat → Nat → Int} {J : Nat → Nat → BitVec 64} {P : Nat → Nat → Nat} {v : Int} (hh : 0 ≤ h) (H : Tri G h 0 7 7 5 [some (vr 6), some (vi v), some (vi 0), some (vi 144)] [] (I, J, P) Q) : Tri G h 0 7 7 0 [some (vr 6), some (vi v)] [] (I, J, P) Q := wp_at ck0 [(5, [true, true, true, true])] 400 H
set_option maxRecDepth 100000 in
theorem yf_7_6_5 {G : Ctx} {h : Nat} {Q : MP} {I : Nat → Nat → Int} {J : Nat → Nat → BitVec 64} {P : Nat → Nat → Nat} {l1 l2 l3 : Int} (hh : 0 ≤ h) (H : ((l3 ≤ l2) → (Q none (I, J, P))) ∧ (¬ (l3 ≤ l2) → ((0 ≤ l2 ∧ l2 < (144 : Int)) ∧ (Tri G h 0 7 7 5 [some (vr 6), some (vi l1), some (vi (w32 (l2 + 1))), some (vi l3)] [] (u2 I 6 l2.toNat l1, J, P) Q)))) : Tri G h 0 7 7 5 [some (vr 6), some (vi l1), some (vi l2), some (vi l3)] [] (I, J, P) Q := wp_at ck0 [(5, [true, true, true, true])] 400 H
theorem yf_7_6_m {G : Ctx} {h : Nat} {Q : MP} {I : Nat → Nat → Int} {J : Nat → Nat → BitVec 64} {P : Nat → Nat → Nat} {v : Int} (hh : 1 ≤ h) (H : ∀ h, 0 ≤ h → Tri G h 0 7 7 0 [some (vr 6), some (vi v)] [] (I, J, P) Q) : TriM G h 0 7 7 [vr 6, vi v] (I, J, P) Q := TriM_intro (h - 1) (by omega) (by decide) (Nat.le_of_ble_eq_true rfl) (by decide) (by decide) (H (h - 1) (by omega))
theorem yf_7_6_l {G : Ctx} {h : Nat} {I : Nat → Nat → Int} {J : Nat → Nat → BitVec 64} {P : Nat → Nat → Nat} {Q : MP} {v : Int} (H : Q none (u1 I 6 (fun j => if j < 144 then v else I 6 j), J, P)) : ∀ (m i : Nat), i + m = 144 → Tri G h 0 7 7 5 [some (vr 6), some (vi v), some (vi (i : Int)), some (vi 144)] [] (u1 I 6 (fun j => if j < i then v else I 6 j), J, P) Q := by
  intro m
  induction m with
  | zero =>
    intro i hi
    refine yf_7_6_5 (Nat.zero_le _) ⟨fun q => ?_, fun q => by omega⟩
    rw [show i = 144 by omega]
    exact H
  | succ m ih =>
    intro i hi
    refine yf_7_6_5 (Nat.zero_le _) ⟨fun q => by omega, fun q => ⟨⟨by omega, by omega⟩, ?_⟩⟩
    rw [w32_id (by omega) (by omega), show ((i : Int)).toNat = i by omega, fill_s]
    exact ih (i + 1) (by omega)
theorem sf_7_6 {G : Ctx} {h : Nat} {I : Nat → Nat → Int} {J : Nat → Nat → BitVec 64} {P : Nat → Nat → Nat} {K : MS → Prop} {v : Int} (hh : 1 ≤ h) (k1 : K (u1 I 6 (fun j => if j < 144 then v else I 6 j), J, P)) : TriM G h 0 7 7 [vr 6, vi v] (I, J, P) (cV' K) := by
  refine yf_7_6_m hh (fun h hh => yf_7_6 hh ?_)
  have h1 := yf_7_6_l (G := G) (h := h) (I := I) (J := J) (P := P) (Q := cV' K) (v := v) (cV_r k1) 144 0 (by omega)
  rw [fill_0] at h1
  exact h1
set_option maxRecDepth 100000 in
theorem c118_2 {G : Ctx} {h : Nat} {Q : MP} {I : Nat → Nat → Int} {J : Nat → Nat → BitVec 64} {P : Nat → Nat → Nat} (hh : 1 ≤ h) (H : Q none (ops [oF 6 144 100, oR 2 6 6, oN 6, oR 2 5 5, oN 5, oR 2 4 4, oN 4, oR 2 3 3, oN 3, oW 2 2 5, oW 2 1 2, oW 2 0 0] (I, J, P))) : Tri G h 118 7 3 0 [some (vr 2)] [] (I, J, P) Q := wp_at ck118 [] 400 (And.intro (by omega) (sf_7_6 (by omega) H))
theorem c118_2_m {G : Ctx} {h : Nat} {Q : MP} {I : Nat → Nat → Int} {J : Nat → Nat → BitVec 64} {P : Nat → Nat → Nat} (hh : 2 ≤ h) (H : Q none (ops [oF 6 144 100, oR 2 6 6, oN 6, oR 2 5 5, oN 5, oR 2 4 4, oN 4, oR 2 3 3, oN 3, oW 2 2 5, oW 2 1 2, oW 2 0 0] (I, J, P))) : TriM G h 118 3 7 [vr 2] (I, J, P) Q := TriM_intro (h - 1) (by omega) (by decide) (Nat.le_of_ble_eq_true rfl) (by decide) (by decide) (c118_2 (by omega) H)
set_option maxRecDepth 100000 in
theorem c21_7 {G : Ctx} {h : Nat} {Q : MP} {I : Nat → Nat → Int} {J : Nat → Nat → BitVec 64} {P : Nat → Nat → Nat} (hh : 1 ≤ h) (H : Q none (ops [oR 7 7 12, oN 12, oR 7 6 11, oN 11, oR 7 5 10, oN 10, oR 7 4 9, oN 9, oR 7 3 8, oN 8, oW 7 2 (-1), oW 7 1 0, oW 7 0 0] (I, J, P))) : Tri G h 21 13 8 0 [some (vr 7)] [] (I, J, P) Q := wp_at ck21 [] 400 (And.intro (by omega) H)
theorem c21_7_m {G : Ctx} {h : Nat} {Q : MP} {I : Nat → Nat → Int} {J : Nat → Nat → BitVec 64} {P : Nat → Nat → Nat} (hh : 2 ≤ h) (H : Q none (ops [oR 7 7 12, oN 12, oR 7 6 11, oN 11, oR 7 5 10, oN 10, oR 7 4 9, oN 9, oR 7 3 8, oN 8, oW 7 2 (-1), oW 7 1 0, oW 7 0 0] (I, J, P))) : TriM G h 21 8 13 [vr 7] (I, J, P) Q := TriM_intro (h - 1) (by omega) (by decide) (Nat.le_of_ble_eq_true rfl) (by decide) (by decide) (c21_7 (by omega) H)
set_option maxRecDepth 100000 in
theorem c111_13 {G : Ctx} {h : Nat} {Q : MP} {I : Nat → Nat → Int} {J : Nat → Nat → BitVec 64} {P : Nat → Nat → Nat} (hh : 1 ≤ h) (H : Q none (ops [oR 13 3 15, oN 15, oW 13 2 0, oR 13 1 14, oN 14, oW 13 0 0] (I, J, P))) : Tri G h 111 16 14 0 [some (vr 13)] [] (I, J, P) Q := wp_at ck111 [] 400 (And.intro (by omega) H)
theorem c111_13_m {G : Ctx} {h : Nat} {Q : MP} {I : Nat → Nat → Int} {J : Nat → Nat → BitVec 64} {P : Nat → Nat → Nat} (hh : 2 ≤ h) (H : Q none (ops [oR 13 3 15, oN 15, oW 13 2 0, oR 13 1 14, oN 14, oW 13 0 0] (I, J, P))) : TriM G h 111 14 16 [vr 13] (I, J, P) Q := TriM_intro (h - 1) (by omega) (by decide) (Nat.le_of_ble_eq_true rfl) (by decide) (by decide) (c111_13 (by omega) H)
set_option maxRecDepth 100000 in
theorem c111_16 {G : Ctx} {h : Nat} {Q : MP} {I : Nat → Nat → Int} {J : Nat → Nat → BitVec 64} {P : Nat → Nat → Nat} (hh : 1 ≤ h) (H : Q none (ops [oR 16 3 18, oN 18, oW 16 2 0, oR 16 1 17, oN 17, oW 16 0 0] (I, J, P))) : Tri G h 111 19 17 0 [some (vr 16)] [] (I, J, P) Q := wp_at ck111 [] 400 (And.intro (by omega) H)
theorem c111_16_m {G : Ctx} {h : Nat} {Q : MP} {I : Nat → Nat → Int} {J : Nat → Nat → BitVec 64} {P : Nat → Nat → Nat} (hh : 2 ≤ h) (H : Q none (ops [oR 16 3 18, oN 18, oW 16 2 0, oR 16 1 17, oN 17, oW 16 0 0] (I, J, P))) : TriM G h 111 17 19 [vr 16] (I, J, P) Q := TriM_intro (h - 1) (by omega) (by decide) (Nat.le_of_ble_eq_true rfl) (by decide) (by decide) (c111_16 (by omega) H)
set_option maxRecDepth 100000 in
theorem c111_19 {G : Ctx} {h : Nat} {Q : MP} {I : Nat → Nat → Int} {J : Nat → Nat → BitVec 64} {P : Nat → Nat → Nat} (hh : 1 ≤ h) (H : Q none (ops [oR 19 3 21, oN 21, oW 19 2 0, oR 19 1 20, oN 20, oW 19 0 0] (I, J, P))) : Tri G h 111 22 20 0 [some (vr 19)] [] (I, J, P) Q := wp_at ck111 [] 400 (And.intro (by omega) H)
theorem c111_19_m {G : Ctx} {h : Nat} {Q : MP} {I : Nat → Nat → Int} {J : Nat → Nat → BitVec 64} {P : Nat → Nat → Nat} (hh : 2 ≤ h) (H : Q none (ops [oR 19 3 21, oN 21, oW 19 2 0, oR 19 1 20, oN 20, oW 19 0 0] (I, J, P))) : TriM G h 111 20 22 [vr 19] (I, J, P) Q := TriM_intro (h - 1) (by omega) (by decide) (Nat.le_of_ble_eq_true rfl) (by decide) (by decide) (c111_19 (by omega) H)
set_option maxRecDepth 100000 in
theorem c97_22 {G : Ctx} {h : Nat} {Q : MP} {I : Nat → Nat → Int} {J : Nat → Nat → BitVec 64} {P : Nat → Nat → Nat} (hh : 1 ≤ h) (H : Q none (ops [oR 22 2 24, oN 24, oR 22 1 23, oN 23, oW 22 0 0] (I, J, P))) : Tri G h 97 25 23 0 [some (vr 22)] [] (I, J, P) Q := wp_at ck97 [] 400 (And.intro (by omega) H)
theorem c97_22_m {G : Ctx} {h : Nat} {Q : MP} {I : Nat → Nat → Int} {J : Nat → Nat → BitVec 64} {P : Nat → Nat → Nat} (hh : 2 ≤ h) (H : Q none (ops [oR 22 2 24, oN 24, oR 22 1 23, oN 23, oW 22 0 0] (I, J, P))) : TriM G h 97 23 25 [vr 22] (I, J, P) Q := TriM_intro (h - 1) (by omega) (by decide) (Nat.le_of_ble_eq_true rfl) (by decide) (by decide) (c97_22 (by omega) H)
set_option maxRecDepth 100000 in
theorem yf_30_26 {G : Ctx} {h : Nat} {Q : MP} {I : Nat → Nat → Int} {J : Nat → Nat → BitVec 64} {P : Nat → Nat → Nat} {v : Int} (hh : 0 ≤ h) (H : Tri G h 0 30 30 5 [some (vr 26), some (vi v), some (vi 0), some (vi 5)] [] (I, J, P) Q) : Tri G h 0 30 30 0 [some (vr 26), some (vi v)] [] (I, J, P) Q := wp_at ck0 [(5, [true, true, true, true])] 400 H
set_option maxRecDepth 100000 in
theorem yf_30_26_5 {G : Ctx} {h : Nat} {Q : MP} {I : Nat → Nat → Int} {J : Nat → Nat → BitVec 64} {P : Nat → Nat → Nat} {l1 l2 l3 : Int} (hh : 0 ≤ h) (H : ((l3 ≤ l2) → (Q none (I, J, P))) ∧ (¬ (l3 ≤ l2) → ((0 ≤ l2 ∧ l2 < (5 : Int)) ∧ (Tri G h 0 30 30 5 [some (vr 26), some (vi l1), some (vi (w32 (l2 + 1))), some (vi l3)] [] (u2 I 26 l2.toNat l1, J, P) Q)))) : Tri G h 0 30 30 5 [some (vr 26), some (vi l1), some (vi l2), some (vi l3)] [] (I, J, P) Q := wp_at ck0 [(5, [true, true, true, true])] 400 H
theorem yf_30_26_m {G : Ctx} {h : Nat} {Q : MP} {I : Nat → Nat → Int} {J : Nat → Nat → BitVec 64} {P : Nat → Nat → Nat} {v : Int} (hh : 1 ≤ h) (H : ∀ h, 0 ≤ h → Tri G h 0 30 30 0 [some (vr 26), some (vi v)] [] (I, J, P) Q) : TriM G h 0 30 30 [vr 26, vi v] (I, J, P) Q := TriM_intro (h - 1) (by omega) (by decide) (Nat.le_of_ble_eq_true rfl) (by decide) (by decide) (H (h - 1) (by omega))
theorem yf_30_26_l {G : Ctx} {h : Nat} {I : Nat → Nat → Int} {J : Nat → Nat → BitVec 64} {P : Nat → Nat → Nat} {Q : MP} {v : Int} (H : Q none (u1 I 26 (fun j => if j < 5 then v else I 26 j), J, P)) : ∀ (m i : Nat), i + m = 5 → Tri G h 0 30 30 5 [some (vr 26), some (vi v), some (vi (i : Int)), some (vi 5)] [] (u1 I 26 (fun j => if j < i then v else I 26 j), J, P) Q := by
  intro m
  induction m with
  | zero =>
    intro i hi
    refine yf_30_26_5 (Nat.zero_le _) ⟨fun q => ?_, fun q => by omega⟩
    rw [show i = 5 by omega]
    exact H
  | succ m ih =>
    intro i hi
    refine yf_30_26_5 (Nat.zero_le _) ⟨fun q => by omega, fun q => ⟨⟨by omega, by omega⟩, ?_⟩⟩
    rw [w32_id (by omega) (by omega), show ((i : Int)).toNat = i by omega, fill_s]
    exact ih (i + 1) (by omega)
theorem sf_30_26 {G : Ctx} {h : Nat} {I : Nat → Nat → Int} {J : Nat → Nat → BitVec 64} {P : Nat → Nat → Nat} {K : MS → Prop} {v : Int} (hh : 1 ≤ h) (k1 : K (u1 I 26 (fun j => if j < 5 then v else I 26 j), J, P)) : TriM G h 0 30 30 [vr 26, vi v] (I, J, P) (cV' K) := by
  refine yf_30_26_m hh (fun h hh => yf_30_26 hh ?_)
  have h1 := yf_30_26_l (G := G) (h := h) (I := I) (J := J) (P := P) (Q := cV' K) (v := v) (cV_r k1) 5 0 (by omega)
  rw [fill_0] at h1
  exact h1
set_option maxRecDepth 100000 in
theorem yf_30_29 {G : Ctx} {h : Nat} {Q : MP} {I : Nat → Nat → Int} {J : Nat → Nat → BitVec 64} {P : Nat → Nat → Nat} {v : Int} (hh : 0 ≤ h) (H : Tri G h 0 30 30 5 [some (vr 29), some (vi v), some (vi 0), some (vi 24)] [] (I, J, P) Q) : Tri G h 0 30 30 0 [some (vr 29), some (vi v)] [] (I, J, P) Q := wp_at ck0 [(5, [true, true, true, true])] 400 H
set_option maxRecDepth 100000 in
theorem yf_30_29_5 {G : Ctx} {h : Nat} {Q : MP} {I : Nat → Nat → Int} {J : Nat → Nat → BitVec 64} {P : Nat → Nat → Nat} {l1 l2 l3 : Int} (hh : 0 ≤ h) (H : ((l3 ≤ l2) → (Q none (I, J, P))) ∧ (¬ (l3 ≤ l2) → ((0 ≤ l2 ∧ l2 < (24 : Int)) ∧ (Tri G h 0 30 30 5 [some (vr 29), some (vi l1), some (vi (w32 (l2 + 1))), some (vi l3)] [] (u2 I 29 l2.toNat l1, J, P) Q)))) : Tri G h 0 30 30 5 [some (vr 29), some (vi l1), some (vi l2), some (vi l3)] [] (I, J, P) Q := wp_at ck0 [(5, [true, true, true, true])] 400 H
theorem yf_30_29_m {G : Ctx} {h : Nat} {Q : MP} {I : Nat → Nat → Int} {J : Nat → Nat → BitVec 64} {P : Nat → Nat → Nat} {v : Int} (hh : 1 ≤ h) (H : ∀ h, 0 ≤ h → Tri G h 0 30 30 0 [some (vr 29), some (vi v)] [] (I, J, P) Q) : TriM G h 0 30 30 [vr 29, vi v] (I, J, P) Q := TriM_intro (h - 1) (by omega) (by decide) (Nat.le_of_ble_eq_true rfl) (by decide) (by decide) (H (h - 1) (by omega))
theorem yf_30_29_l {G : Ctx} {h : Nat} {I : Nat → Nat → Int} {J : Nat → Nat → BitVec 64} {P : Nat → Nat → Nat} {Q : MP} {v : Int} (H : Q none (u1 I 29 (fun j => if j < 24 then v else I 29 j), J, P)) : ∀ (m i : Nat), i + m = 24 → Tri G h 0 30 30 5 [some (vr 29), some (vi v), some (vi (i : Int)), some (vi 24)] [] (u1 I 29 (fun j => if j < i then v else I 29 j), J, P) Q := by
  intro m
  induction m with
  | zero =>
    intro i hi
    refine yf_30_29_5 (Nat.zero_le _) ⟨fun q => ?_, fun q => by omega⟩
    rw [show i = 24 by omega]
    exact H
  | succ m ih =>
    intro i hi
    refine yf_30_29_5 (Nat.zero_le _) ⟨fun q => by omega, fun q => ⟨⟨by omega, by omega⟩, ?_⟩⟩
    rw [w32_id (by omega) (by omega), show ((i : Int)).toNat = i by omega, fill_s]
    exact ih (i + 1) (by omega)
theorem sf_30_29 {G : Ctx} {h : Nat} {I : Nat → Nat → Int} {J : Nat → Nat → BitVec 64} {P : Nat → Nat → Nat} {K : MS → Prop} {v : Int} (hh : 1 ≤ h) (k1 : K (u1 I 29 (fun j => if j < 24 then v else I 29 j), J, P)) : TriM G h 0 30 30 [vr 29, vi v] (I, J, P) (cV' K) := by
  refine yf_30_29_m hh (fun h hh => yf_30_29 hh ?_)
  have h1 := yf_30_29_l (G := G) (h := h) (I := I) (J := J) (P := P) (Q := cV' K) (v := v) (cV_r k1) 24 0 (by omega)
  rw [fill_0] at h1
  exact h1
set_option maxRecDepth 100000 in
theorem c46_25 {G : Ctx} {h : Nat} {Q : MP} {I : Nat → Nat → Int} {J : Nat → Nat → BitVec 64} {P : Nat → Nat → Nat} (hh : 1 ≤ h) (H : Q none (ops [oF 29 24 (-1), oF 26 5 (-1), oR 25 5 29, oN 29, oR 25 4 28, oN 28, oR 25 3 27, oN 27, oR 25 2 26, oN 26, oW 25 1 1, oW 25 0 1] (I, J, P))) : Tri G h 46 30 26 0 [some (vr 25)] [] (I, J, P) Q := wp_at ck46 [] 400 (And.intro (by omega) (sf_30_26 (by omega) (sf_30_29 (by omega) H)))
theorem c46_25_m {G : Ctx} {h : Nat} {Q : MP} {I : Nat → Nat → Int} {J : Nat → Nat → BitVec 64} {P : Nat → Nat → Nat} (hh : 2 ≤ h) (H : Q none (ops [oF 29 24 (-1), oF 26 5 (-1), oR 25 5 29, oN 29, oR 25 4 28, oN 28, oR 25 3 27, oN 27, oR 25 2 26, oN 26, oW 25 1 1, oW 25 0 1] (I, J, P))) : TriM G h 46 26 30 [vr 25] (I, J, P) Q := TriM_intro (h - 1) (by omega) (by decide) (Nat.le_of_ble_eq_true rfl) (by decide) (by decide) (c46_25 (by omega) H)
set_option maxRecDepth 100000 in
theorem c128_1 {G : Ctx} {h : Nat} {Q : MP} {I : Nat → Nat → Int} {J : Nat → Nat → BitVec 64} {P : Nat → Nat → Nat} (hh : 2 ≤ h) (H : Q none (ops [oR 1 8 30, oN 30, oR 1 7 25, oF 29 24 (-1), oF 26 5 (-1), oR 25 5 29, oN 29, oR 25 4 28, oN 28, oR 25 3 27, oN 27, oR 25 2 26, oN 26, oW 25 1 1, oW 25 0 1, oN 25, oR 1 6 22, oR 22 2 24, oN 24, oR 22 1 23, oN 23, oW 22 0 0, oN 22, oR 1 5 19, oR 19 3 21, oN 21, oW 19 2 0, oR 19 1 20, oN 20, oW 19 0 0, oN 19, oR 1 4 16, oR 16 3 18, oN 18, oW 16 2 0, oR 16 1 17, oN 17, oW 16 0 0, oN 16, oR 1 3 13, oR 13 3 15, oN 15, oW 13 2 0, oR 13 1 14, oN 14, oW 13 0 0, oN 13, oR 1 2 7, oR 7 7 12, oN 12, oR 7 6 11, oN 11, oR 7 5 10, oN 10, oR 7 4 9, oN 9, oR 7 3 8, oN 8, oW 7 2 (-1), oW 7 1 0, oW 7 0 0, oN 7, oR 1 1 2, oF 6 144 100, oR 2 6 6, oN 6, oR 2 5 5, oN 5, oR 2 4 4, oN 4, oR 2 3 3, oN 3, oW 2 2 5, oW 2 1 2, oW 2 0 0, oN 2, oW 1 0 0] (I, J, P))) : Tri G h 128 31 2 0 [some (vr 1)] [] (I, J, P) Q := wp_at ck128 [] 400 (And.intro (by omega) (c118_2_m (by omega) (And.intro rfl (c21_7_m (by omega) (And.intro rfl (c111_13_m (by omega) (And.intro rfl (c111_16_m (by omega) (And.intro rfl (c111_19_m (by omega) (And.intro rfl (c97_22_m (by omega) (And.intro rfl (c46_25_m (by omega) (And.intro rfl H)))))))))))))))
theorem c128_1_m {G : Ctx} {h : Nat} {Q : MP} {I : Nat → Nat → Int} {J : Nat → Nat → BitVec 64} {P : Nat → Nat → Nat} (hh : 3 ≤ h) (H : Q none (ops [oR 1 8 30, oN 30, oR 1 7 25, oF 29 24 (-1), oF 26 5 (-1), oR 25 5 29, oN 29, oR 25 4 28, oN 28, oR 25 3 27, oN 27, oR 25 2 26, oN 26, oW 25 1 1, oW 25 0 1, oN 25, oR 1 6 22, oR 22 2 24, oN 24, oR 22 1 23, oN 23, oW 22 0 0, oN 22, oR 1 5 19, oR 19 3 21, oN 21, oW 19 2 0, oR 19 1 20, oN 20, oW 19 0 0, oN 19, oR 1 4 16, oR 16 3 18, oN 18, oW 16 2 0, oR 16 1 17, oN 17, oW 16 0 0, oN 16, oR 1 3 13, oR 13 3 15, oN 15, oW 13 2 0, oR 13 1 14, oN 14, oW 13 0 0, oN 13, oR 1 2 7, oR 7 7 12, oN 12, oR 7 6 11, oN 11, oR 7 5 10, oN 10, oR 7 4 9, oN 9, oR 7 3 8, oN 8, oW 7 2 (-1), oW 7 1 0, oW 7 0 0, oN 7, oR 1 1 2, oF 6 144 100, oR 2 6 6, oN 6, oR 2 5 5, oN 5, oR 2 4 4, oN 4, oR 2 3 3, oN 3, oW 2 2 5, oW 2 1 2, oW 2 0 0, oN 2, oW 1 0 0] (I, J, P))) : TriM G h 128 2 31 [vr 1] (I, J, P) Q := TriM_intro (h - 1) (by omega) (by decide) (Nat.le_of_ble_eq_true rfl) (by decide) (by decide) (c128_1 (by omega) H)
set_option maxRecDepth 100000 in
theorem yf_37_36 {G : Ctx} {h : Nat} {Q : MP} {I : Nat → Nat → Int} {J : Nat → Nat → BitVec 64} {P : Nat → Nat → Nat} {v : Int} (hh : 0 ≤ h) (H : Tri G h 0 37 37 5 [some (vr 36), some (vi v), some (vi 0), some (vi 144)] [] (I, J, P) Q) : Tri G h 0 37 37 0 [some (vr 36), some (vi v)] [] (I, J, P) Q := wp_at ck0 [(5, [true, true, true, true])] 400 H
set_option maxRecDepth 100000 in
theorem yf_37_36_5 {G : Ctx} {h : Nat} {Q : MP} {I : Nat → Nat → Int} {J : Nat → Nat → BitVec 64} {P : Nat → Nat → Nat} {l1 l2 l3 : Int} (hh : 0 ≤ h) (H : ((l3 ≤ l2) → (Q none (I, J, P))) ∧ (¬ (l3 ≤ l2) → ((0 ≤ l2 ∧ l2 < (144 : Int)) ∧ (Tri G h 0 37 37 5 [some (vr 36), some (vi l1), some (vi (w32 (l2 + 1))), some (vi l3)] [] (u2 I 36 l2.toNat l1, J, P) Q)))) : Tri G h 0 37 37 5 [some (vr 36), some (vi l1), some (vi l2), some (vi l3)] [] (I, J, P) Q := wp_at ck0 [(5, [true, true, true, true])] 400 H
theorem yf_37_36_m {G : Ctx} {h : Nat} {Q : MP} {I : Nat → Nat → Int} {J : Nat → Nat → BitVec 64} {P : Nat → Nat → Nat} {v : Int} (hh : 1 ≤ h) (H : ∀ h, 0 ≤ h → Tri G h 0 37 37 0 [some (vr 36), some (vi v)] [] (I, J, P) Q) : TriM G h 0 37 37 [vr 36, vi v] (I, J, P) Q := TriM_intro (h - 1) (by omega) (by decide) (Nat.le_of_ble_eq_true rfl) (by decide) (by decide) (H (h - 1) (by omega))
theorem yf_37_36_l {G : Ctx} {h : Nat} {I : Nat → Nat → Int} {J : Nat → Nat → BitVec 64} {P : Nat → Nat → Nat} {Q : MP} {v : Int} (H : Q none (u1 I 36 (fun j => if j < 144 then v else I 36 j), J, P)) : ∀ (m i : Nat), i + m = 144 → Tri G h 0 37 37 5 [some (vr 36), some (vi v), some (vi (i : Int)), some (vi 144)] [] (u1 I 36 (fun j => if j < i then v else I 36 j), J, P) Q := by
  intro m
  induction m with
  | zero =>
    intro i hi
    refine yf_37_36_5 (Nat.zero_le _) ⟨fun q => ?_, fun q => by omega⟩
    rw [show i = 144 by omega]
    exact H
  | succ m ih =>
    intro i hi
    refine yf_37_36_5 (Nat.zero_le _) ⟨fun q => by omega, fun q => ⟨⟨by omega, by omega⟩, ?_⟩⟩
    rw [w32_id (by omega) (by omega), show ((i : Int)).toNat = i by omega, fill_s]
    exact ih (i + 1) (by omega)
theorem sf_37_36 {G : Ctx} {h : Nat} {I : Nat → Nat → Int} {J : Nat → Nat → BitVec 64} {P : Nat → Nat → Nat} {K : MS → Prop} {v : Int} (hh : 1 ≤ h) (k1 : K (u1 I 36 (fun j => if j < 144 then v else I 36 j), J, P)) : TriM G h 0 37 37 [vr 36, vi v] (I, J, P) (cV' K) := by
  refine yf_37_36_m hh (fun h hh => yf_37_36 hh ?_)
  have h1 := yf_37_36_l (G := G) (h := h) (I := I) (J := J) (P := P) (Q := cV' K) (v := v) (cV_r k1) 144 0 (by omega)
  rw [fill_0] at h1
  exact h1
set_option maxRecDepth 100000 in
theorem c118_32 {G : Ctx} {h : Nat} {Q : MP} {I : Nat → Nat → Int} {J : Nat → Nat → BitVec 64} {P : Nat → Nat → Nat} (hh : 1 ≤ h) (H : Q none (ops [oF 36 144 100, oR 32 6 36, oN 36, oR 32 5 35, oN 35, oR 32 4 34, oN 34, oR 32 3 33, oN 33, oW 32 2 5, oW 32 1 2, oW 32 0 0] (I, J, P))) : Tri G h 118 37 33 0 [some (vr 32)] [] (I, J, P) Q := wp_at ck118 [] 400 (And.intro (by omega) (sf_37_36 (by omega) H))
theorem c118_32_m {G : Ctx} {h : Nat} {Q : MP} {I : Nat → Nat → Int} {J : Nat → Nat → BitVec 64} {P : Nat → Nat → Nat} (hh : 2 ≤ h) (H : Q none (ops [oF 36 144 100, oR 32 6 36, oN 36, oR 32 5 35, oN 35, oR 32 4 34, oN 34, oR 32 3 33, oN 33, oW 32 2 5, oW 32 1 2, oW 32 0 0] (I, J, P))) : TriM G h 118 33 37 [vr 32] (I, J, P) Q := TriM_intro (h - 1) (by omega) (by decide) (Nat.le_of_ble_eq_true rfl) (by decide) (by decide) (c118_32 (by omega) H)
set_option maxRecDepth 100000 in
theorem c21_37 {G : Ctx} {h : Nat} {Q : MP} {I : Nat → Nat → Int} {J : Nat → Nat → BitVec 64} {P : Nat → Nat → Nat} (hh : 1 ≤ h) (H : Q none (ops [oR 37 7 42, oN 42, oR 37 6 41, oN 41, oR 37 5 40, oN 40, oR 37 4 39, oN 39, oR 37 3 38, oN 38, oW 37 2 (-1), oW 37 1 0, oW 37 0 0] (I, J, P))) : Tri G h 21 43 38 0 [some (vr 37)] [] (I, J, P) Q := wp_at ck21 [] 400 (And.intro (by omega) H)
theorem c21_37_m {G : Ctx} {h : Nat} {Q : MP} {I : Nat → Nat → Int} {J : Nat → Nat → BitVec 64} {P : Nat → Nat → Nat} (hh : 2 ≤ h) (H : Q none (ops [oR 37 7 42, oN 42, oR 37 6 41, oN 41, oR 37 5 40, oN 40, oR 37 4 39, oN 39, oR 37 3 38, oN 38, oW 37 2 (-1), oW 37 1 0, oW 37 0 0] (I, J, P))) : TriM G h 21 38 43 [vr 37] (I, J, P) Q := TriM_intro (h - 1) (by omega) (by decide) (Nat.le_of_ble_eq_true rfl) (by decide) (by decide) (c21_37 (by omega) H)
set_option maxRecDepth 100000 in
theorem c111_43 {G : Ctx} {h : Nat} {Q : MP} {I : Nat → Nat → Int} {J : Nat → Nat → BitVec 64} {P : Nat → Nat → Nat} (hh : 1 ≤ h) (H : Q none (ops [oR 43 3 45, oN 45, oW 43 2 0, oR 43 1 44, oN 44, oW 43 0 0] (I, J, P))) : Tri G h 111 46 44 0 [some (vr 43)] [] (I, J, P) Q := wp_at ck111 [] 400 (And.intro (by omega) H)
theorem c111_43_m {G : Ctx} {h : Nat} {Q : MP} {I : Nat → Nat → Int} {J : Nat → Nat → BitVec 64} {P : Nat → Nat → Nat} (hh : 2 ≤ h) (H : Q none (ops [oR 43 3 45, oN 45, oW 43 2 0, oR 43 1 44, oN 44, oW 43 0 0] (I, J, P))) : TriM G h 111 44 46 [vr 43] (I, J, P) Q := TriM_intro (h - 1) (by omega) (by decide) (Nat.le_of_ble_eq_true rfl) (by decide) (by decide) (c111_43 (by omega) H)
set_option maxRecDepth 100000 in
theorem c111_46 {G : Ctx} {h : Nat} {Q : MP} {I : Nat → Nat → Int} {J : Nat → Nat → BitVec 64} {P : Nat → Nat → Nat} (hh : 1 ≤ h) (H : Q none (ops [oR 46 3 48, oN 48, oW 46 2 0, oR 46 1 47, oN 47, oW 46 0 0] (I, J, P))) : Tri G h 111 49 47 0 [some (vr 46)] [] (I, J, P) Q := wp_at ck111 [] 400 (And.intro (by omega) H)
theorem c111_46_m {G : Ctx} {h : Nat} {Q : MP} {I : Nat → Nat → Int} {J : Nat → Nat → BitVec 64} {P : Nat → Nat → Nat} (hh : 2 ≤ h) (H : Q none (ops [oR 46 3 48, oN 48, oW 46 2 0, oR 46 1 47, oN 47, oW 46 0 0] (I, J, P))) : TriM G h 111 47 49 [vr 46] (I, J, P) Q := TriM_intro (h - 1) (by omega) (by decide) (Nat.le_of_ble_eq_true rfl) (by decide) (by decide) (c111_46 (by omega) H)
set_option maxRecDepth 100000 in
theorem c111_49 {G : Ctx} {h : Nat} {Q : MP} {I : Nat → Nat → Int} {J : Nat → Nat → BitVec 64} {P : Nat → Nat → Nat} (hh : 1 ≤ h) (H : Q none (ops [oR 49 3 51, oN 51, oW 49 2 0, oR 49 1 50, oN 50, oW 49 0 0] (I, J, P))) : Tri G h 111 52 50 0 [some (vr 49)] [] (I, J, P) Q := wp_at ck111 [] 400 (And.intro (by omega) H)
theorem c111_49_m {G : Ctx} {h : Nat} {Q : MP} {I : Nat → Nat → Int} {J : Nat → Nat → BitVec 64} {P : Nat → Nat → Nat} (hh : 2 ≤ h) (H : Q none (ops [oR 49 3 51, oN 51, oW 49 2 0, oR 49 1 50, oN 50, oW 49 0 0] (I, J, P))) : TriM G h 111 50 52 [vr 49] (I, J, P) Q := TriM_intro (h - 1) (by omega) (by decide) (Nat.le_of_ble_eq_true rfl) (by decide) (by decide) (c111_49 (by omega) H)
set_option maxRecDepth 100000 in
theorem c97_52 {G : Ctx} {h : Nat} {Q : MP} {I : Nat → Nat → Int} {J : Nat → Nat → BitVec 64} {P : Nat → Nat → Nat} (hh : 1 ≤ h) (H : Q none (ops [oR 52 2 54, oN 54, oR 52 1 53, oN 53, oW 52 0 0] (I, J, P))) : Tri G h 97 55 53 0 [some (vr 52)] [] (I, J, P) Q := wp_at ck97 [] 400 (And.intro (by omega) H)
theorem c97_52_m {G : Ctx} {h : Nat} {Q : MP} {I : Nat → Nat → Int} {J : Nat → Nat → BitVec 64} {P : Nat → Nat → Nat} (hh : 2 ≤ h) (H : Q none (ops [oR 52 2 54, oN 54, oR 52 1 53, oN 53, oW 52 0 0] (I, J, P))) : TriM G h 97 53 55 [vr 52] (I, J, P) Q := TriM_intro (h - 1) (by omega) (by decide) (Nat.le_of_ble_eq_true rfl) (by decide) (by decide) (c97_52 (by omega) H)
set_option maxRecDepth 100000 in
theorem yf_60_56 {G : Ctx} {h : Nat} {Q : MP} {I : Nat → Nat → Int} {J : Nat → Nat → BitVec 64} {P : Nat → Nat → Nat} {v : Int} (hh : 0 ≤ h) (H : Tri G h 0 60 60 5 [some (vr 56), some (vi v), some (vi 0), some (vi 5)] [] (I, J, P) Q) : Tri G h 0 60 60 0 [some (vr 56), some (vi v)] [] (I, J, P) Q := wp_at ck0 [(5, [true, true, true, true])] 400 H
set_option maxRecDepth 100000 in
theorem yf_60_56_5 {G : Ctx} {h : Nat} {Q : MP} {I : Nat → Nat → Int} {J : Nat → Nat → BitVec 64} {P : Nat → Nat → Nat} {l1 l2 l3 : Int} (hh : 0 ≤ h) (H : ((l3 ≤ l2) → (Q none (I, J, P))) ∧ (¬ (l3 ≤ l2) → ((0 ≤ l2 ∧ l2 < (5 : Int)) ∧ (Tri G h 0 60 60 5 [some (vr 56), some (vi l1), some (vi (w32 (l2 + 1))), some (vi l3)] [] (u2 I 56 l2.toNat l1, J, P) Q)))) : Tri G h 0 60 60 5 [some (vr 56), some (vi l1), some (vi l2), some (vi l3)] [] (I, J, P) Q := wp_at ck0 [(5, [true, true, true, true])] 400 H
theorem yf_60_56_m {G : Ctx} {h : Nat} {Q : MP} {I : Nat → Nat → Int} {J : Nat → Nat → BitVec 64} {P : Nat → Nat → Nat} {v : Int} (hh : 1 ≤ h) (H : ∀ h, 0 ≤ h → Tri G h 0 60 60 0 [some (vr 56), some (vi v)] [] (I, J, P) Q) : TriM G h 0 60 60 [vr 56, vi v] (I, J, P) Q := TriM_intro (h - 1) (by omega) (by decide) (Nat.le_of_ble_eq_true rfl) (by decide) (by decide) (H (h - 1) (by omega))
theorem yf_60_56_l {G : Ctx} {h : Nat} {I : Nat → Nat → Int} {J : Nat → Nat → BitVec 64} {P : Nat → Nat → Nat} {Q : MP} {v : Int} (H : Q none (u1 I 56 (fun j => if j < 5 then v else I 56 j), J, P)) : ∀ (m i : Nat), i + m = 5 → Tri G h 0 60 60 5 [some (vr 56), some (vi v), some (vi (i : Int)), some (vi 5)] [] (u1 I 56 (fun j => if j < i then v else I 56 j), J, P) Q := by
  intro m
  induction m with
  | zero =>
    intro i hi
    refine yf_60_56_5 (Nat.zero_le _) ⟨fun q => ?_, fun q => by omega⟩
    rw [show i = 5 by omega]
    exact H
  | succ m ih =>
    intro i hi
    refine yf_60_56_5 (Nat.zero_le _) ⟨fun q => by omega, fun q => ⟨⟨by omega, by omega⟩, ?_⟩⟩
    rw [w32_id (by omega) (by omega), show ((i : Int)).toNat = i by omega, fill_s]
    exact ih (i + 1) (by omega)
theorem sf_60_56 {G : Ctx} {h : Nat} {I : Nat → Nat → Int} {J : Nat → Nat → BitVec 64} {P : Nat → Nat → Nat} {K : MS → Prop} {v : Int} (hh : 1 ≤ h) (k1 : K (u1 I 56 (fun j => if j < 5 then v else I 56 j), J, P)) : TriM G h 0 60 60 [vr 56, vi v] (I, J, P) (cV' K) := by
  refine yf_60_56_m hh (fun h hh => yf_60_56 hh ?_)
  have h1 := yf_60_56_l (G := G) (h := h) (I := I) (J := J) (P := P) (Q := cV' K) (v := v) (cV_r k1) 5 0 (by omega)
  rw [fill_0] at h1
  exact h1
set_option maxRecDepth 100000 in
theorem yf_60_59 {G : Ctx} {h : Nat} {Q : MP} {I : Nat → Nat → Int} {J : Nat → Nat → BitVec 64} {P : Nat → Nat → Nat} {v : Int} (hh : 0 ≤ h) (H : Tri G h 0 60 60 5 [some (vr 59), some (vi v), some (vi 0), some (vi 24)] [] (I, J, P) Q) : Tri G h 0 60 60 0 [some (vr 59), some (vi v)] [] (I, J, P) Q := wp_at ck0 [(5, [true, true, true, true])] 400 H
set_option maxRecDepth 100000 in
theorem yf_60_59_5 {G : Ctx} {h : Nat} {Q : MP} {I : Nat → Nat → Int} {J : Nat → Nat → BitVec 64} {P : Nat → Nat → Nat} {l1 l2 l3 : Int} (hh : 0 ≤ h) (H : ((l3 ≤ l2) → (Q none (I, J, P))) ∧ (¬ (l3 ≤ l2) → ((0 ≤ l2 ∧ l2 < (24 : Int)) ∧ (Tri G h 0 60 60 5 [some (vr 59), some (vi l1), some (vi (w32 (l2 + 1))), some (vi l3)] [] (u2 I 59 l2.toNat l1, J, P) Q)))) : Tri G h 0 60 60 5 [some (vr 59), some (vi l1), some (vi l2), some (vi l3)] [] (I, J, P) Q := wp_at ck0 [(5, [true, true, true, true])] 400 H
theorem yf_60_59_m {G : Ctx} {h : Nat} {Q : MP} {I : Nat → Nat → Int} {J : Nat → Nat → BitVec 64} {P : Nat → Nat → Nat} {v : Int} (hh : 1 ≤ h) (H : ∀ h, 0 ≤ h → Tri G h 0 60 60 0 [some (vr 59), some (vi v)] [] (I, J, P) Q) : TriM G h 0 60 60 [vr 59, vi v] (I, J, P) Q := TriM_intro (h - 1) (by omega) (by decide) (Nat.le_of_ble_eq_true rfl) (by decide) (by decide) (H (h - 1) (by omega))
theorem yf_60_59_l {G : Ctx} {h : Nat} {I : Nat → Nat → Int} {J : Nat → Nat → BitVec 64} {P : Nat → Nat → Nat} {Q : MP} {v : Int} (H : Q none (u1 I 59 (fun j => if j < 24 then v else I 59 j), J, P)) : ∀ (m i : Nat), i + m = 24 → Tri G h 0 60 60 5 [some (vr 59), some (vi v), some (vi (i : Int)), some (vi 24)] [] (u1 I 59 (fun j => if j < i then v else I 59 j), J, P) Q := by
  intro m
  induction m with
  | zero =>
    intro i hi
    refine yf_60_59_5 (Nat.zero_le _) ⟨fun q => ?_, fun q => by omega⟩
    rw [show i = 24 by omega]
    exact H
  | succ m ih =>
    intro i hi
    refine yf_60_59_5 (Nat.zero_le _) ⟨fun q => by omega, fun q => ⟨⟨by omega, by omega⟩, ?_⟩⟩
    rw [w32_id (by omega) (by omega), show ((i : Int)).toNat = i by omega, fill_s]
    exact ih (i + 1) (by omega)
theorem sf_60_59 {G : Ctx} {h : Nat} {I : Nat → Nat → Int} {J : Nat → Nat → BitVec 64} {P : Nat → Nat → Nat} {K : MS → Prop} {v : Int} (hh : 1 ≤ h) (k1 : K (u1 I 59 (fun j => if j < 24 then v else I 59 j), J, P)) : TriM G h 0 60 60 [vr 59, vi v] (I, J, P) (cV' K) := by
  refine yf_60_59_m hh (fun h hh => yf_60_59 hh ?_)
  have h1 := yf_60_59_l (G := G) (h := h) (I := I) (J := J) (P := P) (Q := cV' K) (v := v) (cV_r k1) 24 0 (by omega)
  rw [fill_0] at h1
  exact h1
set_option maxRecDepth 100000 in
theorem c46_55 {G : Ctx} {h : Nat} {Q : MP} {I : Nat → Nat → Int} {J : Nat → Nat → BitVec 64} {P : Nat → Nat → Nat} (hh : 1 ≤ h) (H : Q none (ops [oF 59 24 (-1), oF 56 5 (-1), oR 55 5 59, oN 59, oR 55 4 58, oN 58, oR 55 3 57, oN 57, oR 55 2 56, oN 56, oW 55 1 1, oW 55 0 1] (I, J, P))) : Tri G h 46 60 56 0 [some (vr 55)] [] (I, J, P) Q := wp_at ck46 [] 400 (And.intro (by omega) (sf_60_56 (by omega) (sf_60_59 (by omega) H)))
theorem c46_55_m {G : Ctx} {h : Nat} {Q : MP} {I : Nat → Nat → Int} {J : Nat → Nat → BitVec 64} {P : Nat → Nat → Nat} (hh : 2 ≤ h) (H : Q none (ops [oF 59 24 (-1), oF 56 5 (-1), oR 55 5 59, oN 59, oR 55 4 58, oN 58, oR 55 3 57, oN 57, oR 55 2 56, oN 56, oW 55 1 1, oW 55 0 1] (I, J, P))) : TriM G h 46 56 60 [vr 55] (I, J, P) Q := TriM_intro (h - 1) (by omega) (by decide) (Nat.le_of_ble_eq_true rfl) (by decide) (by decide) (c46_55 (by omega) H)
set_option maxRecDepth 100000 in
theorem c128_31 {G : Ctx} {h : Nat} {Q : MP} {I : Nat → Nat → Int} {J : Nat → Nat → BitVec 64} {P : Nat → Nat → Nat} (hh : 2 ≤ h) (H : Q none (ops [oR 31 8 60, oN 60, oR 31 7 55, oF 59 24 (-1), oF 56 5 (-1), oR 55 5 59, oN 59, oR 55 4 58, oN 58, oR 55 3 57, oN 57, oR 55 2 56, oN 56, oW 55 1 1, oW 55 0 1, oN 55, oR 31 6 52, oR 52 2 54, oN 54, oR 52 1 53, oN 53, oW 52 0 0, oN 52, oR 31 5 49, oR 49 3 51, oN 51, oW 49 2 0, oR 49 1 50, oN 50, oW 49 0 0, oN 49, oR 31 4 46, oR 46 3 48, oN 48, oW 46 2 0, oR 46 1 47, oN 47, oW 46 0 0, oN 46, oR 31 3 43, oR 43 3 45, oN 45, oW 43 2 0, oR 43 1 44, oN 44, oW 43 0 0, oN 43, oR 31 2 37, oR 37 7 42, oN 42, oR 37 6 41, oN 41, oR 37 5 40, oN 40, oR 37 4 39, oN 39, oR 37 3 38, oN 38, oW 37 2 (-1), oW 37 1 0, oW 37 0 0, oN 37, oR 31 1 32, oF 36 144 100, oR 32 6 36, oN 36, oR 32 5 35, oN 35, oR 32 4 34, oN 34, oR 32 3 33, oN 33, oW 32 2 5, oW 32 1 2, oW 32 0 0, oN 32, oW 31 0 0] (I, J, P))) : Tri G h 128 61 32 0 [some (vr 31)] [] (I, J, P) Q := wp_at ck128 [] 400 (And.intro (by omega) (c118_32_m (by omega) (And.intro rfl (c21_37_m (by omega) (And.intro rfl (c111_43_m (by omega) (And.intro rfl (c111_46_m (by omega) (And.intro rfl (c111_49_m (by omega) (And.intro rfl (c97_52_m (by omega) (And.intro rfl (c46_55_m (by omega) (And.intro rfl H)))))))))))))))
theorem c128_31_m {G : Ctx} {h : Nat} {Q : MP} {I : Nat → Nat → Int} {J : Nat → Nat → BitVec 64} {P : Nat → Nat → Nat} (hh : 3 ≤ h) (H : Q none (ops [oR 31 8 60, oN 60, oR 31 7 55, oF 59 24 (-1), oF 56 5 (-1), oR 55 5 59, oN 59, oR 55 4 58, oN 58, oR 55 3 57, oN 57, oR 55 2 56, oN 56, oW 55 1 1, oW 55 0 1, oN 55, oR 31 6 52, oR 52 2 54, oN 54, oR 52 1 53, oN 53, oW 52 0 0, oN 52, oR 31 5 49, oR 49 3 51, oN 51, oW 49 2 0, oR 49 1 50, oN 50, oW 49 0 0, oN 49, oR 31 4 46, oR 46 3 48, oN 48, oW 46 2 0, oR 46 1 47, oN 47, oW 46 0 0, oN 46, oR 31 3 43, oR 43 3 45, oN 45, oW 43 2 0, oR 43 1 44, oN 44, oW 43 0 0, oN 43, oR 31 2 37, oR 37 7 42, oN 42, oR 37 6 41, oN 41, oR 37 5 40, oN 40, oR 37 4 39, oN 39, oR 37 3 38, oN 38, oW 37 2 (-1), oW 37 1 0, oW 37 0 0, oN 37, oR 31 1 32, oF 36 144 100, oR 32 6 36, oN 36, oR 32 5 35, oN 35, oR 32 4 34, oN 34, oR 32 3 33, oN 33, oW 32 2 5, oW 32 1 2, oW 32 0 0, oN 32, oW 31 0 0] (I, J, P))) : TriM G h 128 32 61 [vr 31] (I, J, P) Q := TriM_intro (h - 1) (by omega) (by decide) (Nat.le_of_ble_eq_true rfl) (by decide) (by decide) (c128_31 (by omega) H)
set_option maxRecDepth 100000 in
theorem c62_62 {G : Ctx} {h : Nat} {Q : MP} {I : Nat → Nat → Int} {J : Nat → Nat → BitVec 64} {P : Nat → Nat → Nat} (hh : 1 ≤ h) (H : Q none (ops [oW 62 9 0, oW 62 8 0, oR 62 7 66, oN 66, oR 62 6 65, oN 65, oR 62 5 64, oN 64, oR 62 4 63, oN 63, oW 62 3 0, oW 62 2 0, oW 62 1 (-1), oW 62 0 0] (I, J, P))) : Tri G h 62 67 63 0 [some (vr 62)] [] (I, J, P) Q := wp_at ck62 [] 400 (And.intro (by omega) H)
theorem c62_62_m {G : Ctx} {h : Nat} {Q : MP} {I : Nat → Nat → Int} {J : Nat → Nat → BitVec 64} {P : Nat → Nat → Nat} (hh : 2 ≤ h) (H : Q none (ops [oW 62 9 0, oW 62 8 0, oR 62 7 66, oN 66, oR 62 6 65, oN 65, oR 62 5 64, oN 64, oR 62 4 63, oN 63, oW 62 3 0, oW 62 2 0, oW 62 1 (-1), oW 62 0 0] (I, J, P))) : TriM G h 62 63 67 [vr 62] (I, J, P) Q := TriM_intro (h - 1) (by omega) (by decide) (Nat.le_of_ble_eq_true rfl) (by decide) (by decide) (c62_62 (by omega) H)
set_option maxRecDepth 100000 in
theorem c56_67 {G : Ctx} {h : Nat} {Q : MP} {I : Nat → Nat → Int} {J : Nat → Nat → BitVec 64} {P : Nat → Nat → Nat} (hh : 1 ≤ h) (H : Q none (ops [oR 67 4 71, oN 71, oR 67 3 70, oN 70, oR 67 2 69, oN 69, oR 67 1 68, oN 68, oR 67 0 1] (I, J, P))) : Tri G h 56 72 68 0 [some (vr 67), some (vr 1)] [] (I, J, P) Q := wp_at ck56 [] 400 (And.intro (by omega) H)
theorem c56_67_m {G : Ctx} {h : Nat} {Q : MP} {I : Nat → Nat → Int} {J : Nat → Nat → BitVec 64} {P : Nat → Nat → Nat} (hh : 2 ≤ h) (H : Q none (ops [oR 67 4 71, oN 71, oR 67 3 70, oN 70, oR 67 2 69, oN 69, oR 67 1 68, oN 68, oR 67 0 1] (I, J, P))) : TriM G h 56 68 72 [vr 67, vr 1] (I, J, P) Q := TriM_intro (h - 1) (by omega) (by decide) (Nat.le_of_ble_eq_true rfl) (by decide) (by decide) (c56_67 (by omega) H)
set_option maxRecDepth 100000 in
theorem c79_72 {G : Ctx} {h : Nat} {Q : MP} {I : Nat → Nat → Int} {J : Nat → Nat → BitVec 64} {P : Nat → Nat → Nat} (hh : 1 ≤ h) (H : Q none (ops [oR 72 13 81, oN 81, oR 72 12 80, oN 80, oR 72 11 79, oN 79, oW 72 10 (-1), oR 72 9 78, oN 78, oR 72 8 77, oN 77, oR 72 7 76, oN 76, oR 72 6 75, oN 75, oR 72 5 74, oN 74, oR 72 4 73, oN 73, oW 72 3 1, oR 72 2 67, oR 72 1 1, oW 72 0 0] (I, J, P))) : Tri G h 79 82 73 0 [some (vr 72), some (vr 1), some (vr 67)] [] (I, J, P) Q := wp_at ck79 [] 400 (And.intro (by omega) (And.intro (show (1 : Int) = 0 ∨ (1 : Int) = 1 by decide) H))
theorem c79_72_m {G : Ctx} {h : Nat} {Q : MP} {I : Nat → Nat → Int} {J : Nat → Nat → BitVec 64} {P : Nat → Nat → Nat} (hh : 2 ≤ h) (H : Q none (ops [oR 72 13 81, oN 81, oR 72 12 80, oN 80, oR 72 11 79, oN 79, oW 72 10 (-1), oR 72 9 78, oN 78, oR 72 8 77, oN 77, oR 72 7 76, oN 76, oR 72 6 75, oN 75, oR 72 5 74, oN 74, oR 72 4 73, oN 73, oW 72 3 1, oR 72 2 67, oR 72 1 1, oW 72 0 0] (I, J, P))) : TriM G h 79 73 82 [vr 72, vr 1, vr 67] (I, J, P) Q := TriM_intro (h - 1) (by omega) (by decide) (Nat.le_of_ble_eq_true rfl) (by decide) (by decide) (c79_72 (by omega) H)
set_option maxRecDepth 100000 in
theorem c32_82 {G : Ctx} {h : Nat} {Q : MP} {I : Nat → Nat → Int} {J : Nat → Nat → BitVec 64} {P : Nat → Nat → Nat} (hh : 1 ≤ h) (H : Q none (ops [oR 82 2 84, oN 84, oR 82 1 83, oN 83, oR 82 0 1] (I, J, P))) : Tri G h 32 85 83 0 [some (vr 82), some (vr 1)] [] (I, J, P) Q := wp_at ck32 [] 400 (And.intro (by omega) H)
theorem c32_82_m {G : Ctx} {h : Nat} {Q : MP} {I : Nat → Nat → Int} {J : Nat → Nat → BitVec 64} {P : Nat → Nat → Nat} (hh : 2 ≤ h) (H : Q none (ops [oR 82 2 84, oN 84, oR 82 1 83, oN 83, oR 82 0 1] (I, J, P))) : TriM G h 32 83 85 [vr 82, vr 1] (I, J, P) Q := TriM_intro (h - 1) (by omega) (by decide) (Nat.le_of_ble_eq_true rfl) (by decide) (by decide) (c32_82 (by omega) H)
set_option maxRecDepth 100000 in
theorem c103_85 {G : Ctx} {h : Nat} {Q : MP} {I : Nat → Nat → Int} {J : Nat → Nat → BitVec 64} {P : Nat → Nat → Nat} (hh : 1 ≤ h) (H : Q none (ops [oW 85 4 0, oR 85 3 89, oN 89, oR 85 2 88, oN 88, oR 85 1 87, oN 87, oR 85 0 86, oN 86] (I, J, P))) : Tri G h 103 90 86 0 [some (vr 85)] [] (I, J, P) Q := wp_at ck103 [] 400 (And.intro (by omega) H)
theorem c103_85_m {G : Ctx} {h : Nat} {Q : MP} {I : Nat → Nat → Int} {J : Nat → Nat → BitVec 64} {P : Nat → Nat → Nat} (hh : 2 ≤ h) (H : Q none (ops [oW 85 4 0, oR 85 3 89, oN 89, oR 85 2 88, oN 88, oR 85 1 87, oN 87, oR 85 0 86, oN 86] (I, J, P))) : TriM G h 103 86 90 [vr 85] (I, J, P) Q := TriM_intro (h - 1) (by omega) (by decide) (Nat.le_of_ble_eq_true rfl) (by decide) (by decide) (c103_85 (by omega) H)
set_option maxRecDepth 100000 in
theorem c136_0 {G : Ctx} {h : Nat} {Q : MP} {I : Nat → Nat → Int} {J : Nat → Nat → BitVec 64} {P : Nat → Nat → Nat} (hh : 3 ≤ h) (H : Q none (ops [oR 0 12 90, oN 90, oR 0 11 85, oW 85 4 0, oR 85 3 89, oN 89, oR 85 2 88, oN 88, oR 85 1 87, oN 87, oR 85 0 86, oN 86, oN 85, oR 0 10 82, oR 82 2 84, oN 84, oR 82 1 83, oN 83, oR 82 0 1, oN 82, oR 0 9 72, oR 72 13 81, oN 81, oR 72 12 80, oN 80, oR 72 11 79, oN 79, oW 72 10 (-1), oR 72 9 78, oN 78, oR 72 8 77, oN 77, oR 72 7 76, oN 76, oR 72 6 75, oN 75, oR 72 5 74, oN 74, oR 72 4 73, oN 73, oW 72 3 1, oR 72 2 67, oR 72 1 1, oW 72 0 0, oN 72, oR 0 8 67, oR 67 4 71, oN 71, oR 67 3 70, oN 70, oR 67 2 69, oN 69, oR 67 1 68, oN 68, oR 67 0 1, oN 67, oR 0 7 62, oW 62 9 0, oW 62 8 0, oR 62 7 66, oN 66, oR 62 6 65, oN 65, oR 62 5 64, oN 64, oR 62 4 63, oN 63, oW 62 3 0, oW 62 2 0, oW 62 1 (-1), oW 62 0 0, oN 62, oW 0 6 (-1), oW 0 5 0, oW 0 4 0, oR 0 3 61, oN 61, oW 0 2 0, oR 0 1 31, oR 31 8 60, oN 60, oR 31 7 55, oF 59 24 (-1), oF 56 5 (-1), oR 55 5 59, oN 59, oR 55 4 58, oN 58, oR 55 3 57, oN 57, oR 55 2 56, oN 56, oW 55 1 1, oW 55 0 1, oN 55, oR 31 6 52, oR 52 2 54, oN 54, oR 52 1 53, oN 53, oW 52 0 0, oN 52, oR 31 5 49, oR 49 3 51, oN 51, oW 49 2 0, oR 49 1 50, oN 50, oW 49 0 0, oN 49, oR 31 4 46, oR 46 3 48, oN 48, oW 46 2 0, oR 46 1 47, oN 47, oW 46 0 0, oN 46, oR 31 3 43, oR 43 3 45, oN 45, oW 43 2 0, oR 43 1 44, oN 44, oW 43 0 0, oN 43, oR 31 2 37, oR 37 7 42, oN 42, oR 37 6 41, oN 41, oR 37 5 40, oN 40, oR 37 4 39, oN 39, oR 37 3 38, oN 38, oW 37 2 (-1), oW 37 1 0, oW 37 0 0, oN 37, oR 31 1 32, oF 36 144 100, oR 32 6 36, oN 36, oR 32 5 35, oN 35, oR 32 4 34, oN 34, oR 32 3 33, oN 33, oW 32 2 5, oW 32 1 2, oW 32 0 0, oN 32, oW 31 0 0, oN 31, oR 0 0 1, oR 1 8 30, oN 30, oR 1 7 25, oF 29 24 (-1), oF 26 5 (-1), oR 25 5 29, oN 29, oR 25 4 28, oN 28, oR 25 3 27, oN 27, oR 25 2 26, oN 26, oW 25 1 1, oW 25 0 1, oN 25, oR 1 6 22, oR 22 2 24, oN 24, oR 22 1 23, oN 23, oW 22 0 0, oN 22, oR 1 5 19, oR 19 3 21, oN 21, oW 19 2 0, oR 19 1 20, oN 20, oW 19 0 0, oN 19, oR 1 4 16, oR 16 3 18, oN 18, oW 16 2 0, oR 16 1 17, oN 17, oW 16 0 0, oN 16, oR 1 3 13, oR 13 3 15, oN 15, oW 13 2 0, oR 13 1 14, oN 14, oW 13 0 0, oN 13, oR 1 2 7, oR 7 7 12, oN 12, oR 7 6 11, oN 11, oR 7 5 10, oN 10, oR 7 4 9, oN 9, oR 7 3 8, oN 8, oW 7 2 (-1), oW 7 1 0, oW 7 0 0, oN 7, oR 1 1 2, oF 6 144 100, oR 2 6 6, oN 6, oR 2 5 5, oN 5, oR 2 4 4, oN 4, oR 2 3 3, oN 3, oW 2 2 5, oW 2 1 2, oW 2 0 0, oN 2, oW 1 0 0, oN 1] (I, J, P))) : Tri G h 136 91 1 0 [some (vr 0)] [] (I, J, P) Q := wp_at ck136 [] 400 (And.intro (by omega) (c128_1_m (by omega) (And.intro rfl (c128_31_m (by omega) (And.intro rfl (And.intro (show (0 : Int) = 0 ∨ (0 : Int) = 1 by decide) (c62_62_m (by omega) (And.intro rfl (c56_67_m (by omega) (And.intro rfl (c79_72_m (by omega) (And.intro rfl (c32_82_m (by omega) (And.intro rfl (c103_85_m (by omega) (And.intro rfl H))))))))))))))))
theorem c136_0_m {G : Ctx} {h : Nat} {Q : MP} {I : Nat → Nat → Int} {J : Nat → Nat → BitVec 64} {P : Nat → Nat → Nat} (hh : 4 ≤ h) (H : Q none (ops [oR 0 12 90, oN 90, oR 0 11 85, oW 85 4 0, oR 85 3 89, oN 89, oR 85 2 88, oN 88, oR 85 1 87, oN 87, oR 85 0 86, oN 86, oN 85, oR 0 10 82, oR 82 2 84, oN 84, oR 82 1 83, oN 83, oR 82 0 1, oN 82, oR 0 9 72, oR 72 13 81, oN 81, oR 72 12 80, oN 80, oR 72 11 79, oN 79, oW 72 10 (-1), oR 72 9 78, oN 78, oR 72 8 77, oN 77, oR 72 7 76, oN 76, oR 72 6 75, oN 75, oR 72 5 74, oN 74, oR 72 4 73, oN 73, oW 72 3 1, oR 72 2 67, oR 72 1 1, oW 72 0 0, oN 72, oR 0 8 67, oR 67 4 71, oN 71, oR 67 3 70, oN 70, oR 67 2 69, oN 69, oR 67 1 68, oN 68, oR 67 0 1, oN 67, oR 0 7 62, oW 62 9 0, oW 62 8 0, oR 62 7 66, oN 66, oR 62 6 65, oN 65, oR 62 5 64, oN 64, oR 62 4 63, oN 63, oW 62 3 0, oW 62 2 0, oW 62 1 (-1), oW 62 0 0, oN 62, oW 0 6 (-1), oW 0 5 0, oW 0 4 0, oR 0 3 61, oN 61, oW 0 2 0, oR 0 1 31, oR 31 8 60, oN 60, oR 31 7 55, oF 59 24 (-1), oF 56 5 (-1), oR 55 5 59, oN 59, oR 55 4 58, oN 58, oR 55 3 57, oN 57, oR 55 2 56, oN 56, oW 55 1 1, oW 55 0 1, oN 55, oR 31 6 52, oR 52 2 54, oN 54, oR 52 1 53, oN 53, oW 52 0 0, oN 52, oR 31 5 49, oR 49 3 51, oN 51, oW 49 2 0, oR 49 1 50, oN 50, oW 49 0 0, oN 49, oR 31 4 46, oR 46 3 48, oN 48, oW 46 2 0, oR 46 1 47, oN 47, oW 46 0 0, oN 46, oR 31 3 43, oR 43 3 45, oN 45, oW 43 2 0, oR 43 1 44, oN 44, oW 43 0 0, oN 43, oR 31 2 37, oR 37 7 42, oN 42, oR 37 6 41, oN 41, oR 37 5 40, oN 40, oR 37 4 39, oN 39, oR 37 3 38, oN 38, oW 37 2 (-1), oW 37 1 0, oW 37 0 0, oN 37, oR 31 1 32, oF 36 144 100, oR 32 6 36, oN 36, oR 32 5 35, oN 35, oR 32 4 34, oN 34, oR 32 3 33, oN 33, oW 32 2 5, oW 32 1 2, oW 32 0 0, oN 32, oW 31 0 0, oN 31, oR 0 0 1, oR 1 8 30, oN 30, oR 1 7 25, oF 29 24 (-1), oF 26 5 (-1), oR 25 5 29, oN 29, oR 25 4 28, oN 28, oR 25 3 27, oN 27, oR 25 2 26, oN 26, oW 25 1 1, oW 25 0 1, oN 25, oR 1 6 22, oR 22 2 24, oN 24, oR 22 1 23, oN 23, oW 22 0 0, oN 22, oR 1 5 19, oR 19 3 21, oN 21, oW 19 2 0, oR 19 1 20, oN 20, oW 19 0 0, oN 19, oR 1 4 16, oR 16 3 18, oN 18, oW 16 2 0, oR 16 1 17, oN 17, oW 16 0 0, oN 16, oR 1 3 13, oR 13 3 15, oN 15, oW 13 2 0, oR 13 1 14, oN 14, oW 13 0 0, oN 13, oR 1 2 7, oR 7 7 12, oN 12, oR 7 6 11, oN 11, oR 7 5 10, oN 10, oR 7 4 9, oN 9, oR 7 3 8, oN 8, oW 7 2 (-1), oW 7 1 0, oW 7 0 0, oN 7, oR 1 1 2, oF 6 144 100, oR 2 6 6, oN 6, oR 2 5 5, oN 5, oR 2 4 4, oN 4, oR 2 3 3, oN 3, oW 2 2 5, oW 2 1 2, oW 2 0 0, oN 2, oW 1 0 0, oN 1] (I, J, P))) : TriM G h 136 1 91 [vr 0] (I, J, P) Q := TriM_intro (h - 1) (by omega) (by decide) (Nat.le_of_ble_eq_true rfl) (by decide) (by decide) (c136_0 (by omega) H)
set_option maxRecDepth 100000 in
theorem c180_91 {G : Ctx} {h : Nat} {Q : MP} {I : Nat → Nat → Int} {J : Nat → Nat → BitVec 64} {P : Nat → Nat → Nat} (hh : 1 ≤ h) (H : Tri G h 180 119 119 272 [some (vr 91), some (vi 0)] [] (ops [oW 92 9 1, oW 92 8 1, oW 92 6 (-1), oW 92 2 5, oW 92 1 2, oR 91 42 118, oN 118, oR 91 41 117, oN 117, oR 91 40 116, oN 116, oR 91 39 115, oN 115, oR 91 38 114, oN 114, oR 91 37 113, oN 113, oR 91 36 112, oN 112, oR 91 34 111, oN 111, oR 91 33 110, oN 110, oR 91 32 109, oN 109, oR 91 31 108, oN 108, oR 91 30 107, oN 107, oR 91 29 106, oN 106, oR 91 28 105, oN 105, oR 91 27 104, oN 104, oR 91 25 103, oN 103, oR 91 24 102, oN 102, oR 91 23 101, oN 101, oR 91 22 100, oN 100, oR 91 21 99, oN 99, oW 91 20 (-1), oR 91 7 98, oN 98, oR 91 6 97, oN 97, oR 91 5 96, oN 96, oR 91 4 95, oN 95, oR 91 3 94, oN 94, oR 91 1 93, oN 93, oR 91 0 92, oN 92] (I, J, P)) Q) : Tri G h 180 119 92 0 [some (vr 91)] [] (I, J, P) Q := wp_at ck180 [(272, [true, true]), (295, [true, true]), (319, [true, true]), (327, [true, true, true])] 400 (And.intro (by omega) (And.intro (show (0 : Int) ≤ 1 ∧ (1 : Int) < ((5120 : Nat) : Int) by decide) (And.intro (show (0 : Int) ≤ 2 ∧ (2 : Int) < ((5120 : Nat) : Int) by decide) (And.intro (show (0 : Int) ≤ 6 ∧ (6 : Int) < ((5120 : Nat) : Int) by decide) (And.intro (show (0 : Int) ≤ 8 ∧ (8 : Int) < ((5120 : Nat) : Int) by decide) (And.intro (show (0 : Int) ≤ 9 ∧ (9 : Int) < ((5120 : Nat) : Int) by decide) H))))))
