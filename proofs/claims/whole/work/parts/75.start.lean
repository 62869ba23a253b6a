/-! the state when both stand -/
def LL1 : List Op := [oW 92 9 1, oW 92 8 1, oW 92 6 (-1), oW 92 2 5, oW 92 1 2, oR 91 42 118, oN 118, oR 91 41 117, oN 117, oR 91 40 116, oN 116, oR 91 39 115, oN 115, oR 91 38 114, oN 114, oR 91 37 113, oN 113, oR 91 36 112, oN 112, oR 91 34 111, oN 111, oR 91 33 110, oN 110, oR 91 32 109, oN 109, oR 91 31 108, oN 108, oR 91 30 107, oN 107, oR 91 29 106, oN 106, oR 91 28 105, oN 105, oR 91 27 104, oN 104, oR 91 25 103, oN 103, oR 91 24 102, oN 102, oR 91 23 101, oN 101, oR 91 22 100, oN 100, oR 91 21 99, oN 99, oW 91 20 (-1), oR 91 7 98, oN 98, oR 91 6 97, oN 97, oR 91 5 96, oN 96, oR 91 4 95, oN 95, oR 91 3 94, oN 94, oR 91 1 93, oN 93, oR 91 0 92, oN 92]
def LL2 : List Op := [oN 91, oR 0 12 90, oN 90, oR 0 11 85, oW 85 4 0, oR 85 3 89, oN 89, oR 85 2 88, oN 88, oR 85 1 87, oN 87, oR 85 0 86, oN 86, oN 85, oR 0 10 82, oR 82 2 84, oN 84, oR 82 1 83, oN 83, oR 82 0 1, oN 82, oR 0 9 72, oR 72 13 81, oN 81, oR 72 12 80, oN 80, oR 72 11 79, oN 79, oW 72 10 (-1), oR 72 9 78, oN 78, oR 72 8 77, oN 77, oR 72 7 76, oN 76, oR 72 6 75, oN 75, oR 72 5 74, oN 74, oR 72 4 73, oN 73, oW 72 3 1, oR 72 2 67, oR 72 1 1, oW 72 0 0, oN 72, oR 0 8 67, oR 67 4 71, oN 71, oR 67 3 70, oN 70, oR 67 2 69, oN 69, oR 67 1 68, oN 68, oR 67 0 1, oN 67, oR 0 7 62, oW 62 9 0, oW 62 8 0, oR 62 7 66, oN 66, oR 62 6 65, oN 65, oR 62 5 64, oN 64, oR 62 4 63, oN 63, oW 62 3 0, oW 62 2 0, oW 62 1 (-1), oW 62 0 0, oN 62, oW 0 6 (-1), oW 0 5 0, oW 0 4 0, oR 0 3 61, oN 61, oW 0 2 0, oR 0 1 31, oR 31 8 60, oN 60, oR 31 7 55, oF 59 24 (-1), oF 56 5 (-1), oR 55 5 59, oN 59, oR 55 4 58, oN 58, oR 55 3 57, oN 57, oR 55 2 56, oN 56, oW 55 1 1, oW 55 0 1, oN 55, oR 31 6 52, oR 52 2 54, oN 54, oR 52 1 53, oN 53, oW 52 0 0, oN 52, oR 31 5 49, oR 49 3 51, oN 51, oW 49 2 0, oR 49 1 50, oN 50, oW 49 0 0, oN 49, oR 31 4 46, oR 46 3 48, oN 48, oW 46 2 0, oR 46 1 47, oN 47, oW 46 0 0, oN 46, oR 31 3 43, oR 43 3 45, oN 45, oW 43 2 0, oR 43 1 44, oN 44, oW 43 0 0, oN 43, oR 31 2 37, oR 37 7 42, oN 42, oR 37 6 41, oN 41, oR 37 5 40, oN 40, oR 37 4 39, oN 39, oR 37 3 38, oN 38, oW 37 2 (-1), oW 37 1 0, oW 37 0 0, oN 37, oR 31 1 32, oF 36 144 100, oR 32 6 36, oN 36, oR 32 5 35, oN 35, oR 32 4 34, oN 34, oR 32 3 33, oN 33, oW 32 2 5, oW 32 1 2, oW 32 0 0, oN 32, oW 31 0 0, oN 31, oR 0 0 1, oR 1 8 30, oN 30, oR 1 7 25, oF 29 24 (-1), oF 26 5 (-1), oR 25 5 29, oN 29, oR 25 4 28, oN 28, oR 25 3 27, oN 27, oR 25 2 26, oN 26, oW 25 1 1, oW 25 0 1, oN 25, oR 1 6 22, oR 22 2 24, oN 24, oR 22 1 23, oN 23, oW 22 0 0, oN 22, oR 1 5 19, oR 19 3 21, oN 21, oW 19 2 0, oR 19 1 20, oN 20, oW 19 0 0, oN 19, oR 1 4 16, oR 16 3 18, oN 18, oW 16 2 0, oR 16 1 17, oN 17, oW 16 0 0, oN 16, oR 1 3 13, oR 13 3 15, oN 15, oW 13 2 0, oR 13 1 14, oN 14, oW 13 0 0, oN 13, oR 1 2 7, oR 7 7 12, oN 12, oR 7 6 11, oN 11, oR 7 5 10, oN 10, oR 7 4 9, oN 9, oR 7 3 8, oN 8, oW 7 2 (-1), oW 7 1 0, oW 7 0 0, oN 7, oR 1 1 2, oF 6 144 100, oR 2 6 6, oN 6, oR 2 5 5, oN 5, oR 2 4 4, oN 4, oR 2 3 3, oN 3, oW 2 2 5, oW 2 1 2, oW 2 0 0, oN 2, oW 1 0 0, oN 1, oN 0]
def S0 : MS := (fun _ _ => 0, fun _ _ => 0#64, PP (true, true, true))
def K0 : MI := (ops LL1 (ops LL2 S0)).1
def JJ0 : MJ := (ops LL1 (ops LL2 S0)).2.1
def oCl (o : Op) : Nat := match o with
  | .inl k => k
  | .inr (.inl (k, _, _)) => k
  | .inr (.inr (.inl (k, _, _))) => k
  | .inr (.inr (.inr (k, _, _))) => k
def oPl (o : Op) : Nat := match o with
  | .inr (.inr (.inl (_, j, _))) => j
  | _ => 0
theorem ops_big {k j : Nat} {s : MS} (hj : 50 ≤ j) (h : s.2.2 k j = 1000) : ∀ l : List Op, l.all (fun o => Nat.blt (oPl o) 50) = true → (ops l s).2.2 k j = 1000 := by
  intro l
  induction l with
  | nil => intro _; exact h
  | cons o t ih =>
    intro hl
    rw [List.all_cons, Bool.and_eq_true] at hl
    have h1 := Nat.le_of_ble_eq_true hl.1
    have h2 := ih hl.2
    rcases o with a | ⟨a, c, v⟩ | ⟨a, c, v⟩ | ⟨a, c, v⟩
    · show u1 (ops t s).2.2 a (fun _ => 1000) k j = 1000
      by_cases e : k = a
      · subst e; rw [u1e]
      · rw [u1n e]; exact h2
    · exact h2
    · show u2 (ops t s).2.2 a c v k j = 1000
      have h3 : c + 1 ≤ 50 := h1
      by_cases e : k = a
      · subst e; rw [u2j (by omega)]; exact h2
      · rw [u2n e]; exact h2
    · exact h2
theorem ops_out {k j : Nat} {s : MS} (hk : 119 ≤ k) : ∀ l : List Op, l.all (fun o => Nat.blt (oCl o) 119) = true → (ops l s).2.2 k j = s.2.2 k j := by
  intro l
  induction l with
  | nil => intro _; rfl
  | cons o t ih =>
    intro hl
    rw [List.all_cons, Bool.and_eq_true] at hl
    have h1 := Nat.le_of_ble_eq_true hl.1
    have h2 := ih hl.2
    rcases o with a | ⟨a, c, v⟩ | ⟨a, c, v⟩ | ⟨a, c, v⟩
    · show u1 (ops t s).2.2 a (fun _ => 1000) k j = _
      have h3 : a + 1 ≤ 119 := h1
      rw [u1n (by omega)]; exact h2
    · exact h2
    · show u2 (ops t s).2.2 a c v k j = _
      have h3 : a + 1 ≤ 119 := h1
      rw [u2n (by omega)]; exact h2
    · exact h2
theorem ops_J {k j : Nat} {s : MS} (h : ∀ k j, s.2.1 k j = 0#64) : ∀ l : List Op, (ops l s).2.1 k j = 0#64 := by
  intro l
  induction l with
  | nil => exact h k j
  | cons o t ih =>
    rcases o with a | ⟨a, c, v⟩ | ⟨a, c, v⟩ | ⟨a, c, v⟩
    · show u1 (ops t s).2.1 a (fun _ => 0) k j = _
      by_cases e : k = a
      · subst e; rw [u1e]; rfl
      · rw [u1n e]; exact ih
    · exact ih
    · exact ih
    · exact ih
theorem JJ0_z (k j : Nat) : JJ0 k j = 0#64 := ops_J (s := ops LL2 S0) (fun k j => ops_J (s := S0) (fun _ _ => rfl) LL2) LL1
set_option maxRecDepth 100000 in
theorem S2_tab : ∀ k, k < 119 → ∀ j, j < 50 → (ops LL1 (ops LL2 S0)).2.2 k j = PP (true, true, true) k j := by decide +kernel
theorem LL1_a : LL1.all (fun o => Nat.blt (oPl o) 50) = true := by decide +kernel
theorem LL2_a : LL2.all (fun o => Nat.blt (oPl o) 50) = true := by decide +kernel
theorem LL1_b : LL1.all (fun o => Nat.blt (oCl o) 119) = true := by decide +kernel
theorem LL2_b : LL2.all (fun o => Nat.blt (oCl o) 119) = true := by decide +kernel
theorem ppT_len : ∀ r ∈ ppT, r.length ≤ 50 := by decide +kernel
theorem PP_big {k j : Nat} (hj : 50 ≤ j) : PP (true, true, true) k j = 1000 := by
  unfold PP
  have h1 : (ppT.getD k []).getD j 1000 = 1000 := by
    rw [List.getD_eq_getElem?_getD, List.getD_eq_getElem?_getD]
    cases e : ppT[k]? with
    | none => rfl
    | some r =>
      have h2 := ppT_len r (List.mem_of_getElem? e)
      show (r[j]?).getD 1000 = 1000
      rw [List.getElem?_eq_none (by omega)]
      rfl
  rw [h1]
  rfl
theorem S2_P : (ops LL1 (ops LL2 S0)).2.2 = PP (true, true, true) := by
  funext k j
  by_cases hj : 50 ≤ j
  · rw [ops_big hj (ops_big hj (PP_big hj) LL2 LL2_a) LL1 LL1_a, PP_big hj]
  · by_cases hk : 119 ≤ k
    · rw [ops_out hk LL1 LL1_b, ops_out hk LL2 LL2_b]
      rfl
    · exact S2_tab k (by omega) j (by omega)
theorem S2_e : ops LL1 (ops LL2 S0) = (K0, JJ0, PP (true, true, true)) := by
  rw [← S2_P]
  rfl
theorem b_neg {J : MJ} (hJ : ∀ k j, J k j = 0#64) (k i : Nat) : bitJ J k i = false := by
  unfold bitJ
  rw [hJ]
  exact BitVec.getLsbD_zero
theorem inv_0 {I : MI} {J : MJ} (f2_0 : I 2 0 = 0) (f2_1 : I 2 1 = 2) (f2_2 : I 2 2 = 5) (f7_0 : I 7 0 = 0) (f7_1 : I 7 1 = 0) (f7_2 : I 7 2 = -1) (f22_0 : I 22 0 = 0) (f25_0 : I 25 0 = 1) (f25_1 : I 25 1 = 1) (f1_0 : I 1 0 = 0) (f13_0 : I 13 0 = 0) (f13_2 : I 13 2 = 0) (f16_0 : I 16 0 = 0) (f16_2 : I 16 2 = 0) (f19_0 : I 19 0 = 0) (f19_2 : I 19 2 = 0) (f72_3 : I 72 3 = 1) (f0_2 : I 0 2 = 0) (f0_4 : I 0 4 = 0) (f0_5 : I 0 5 = 0) (f0_6 : I 0 6 = -1) (f91_2 : I 91 2 = 0) (f91_11 : I 91 11 = 0) (f91_18 : I 91 18 = 0) (f91_20 : I 91 20 = -1) (w0 : I 92 0 = 0) (w1 : I 92 1 = 2) (w2 : I 92 2 = 5) (w3 : I 92 3 = 0) (w4 : I 92 4 = 0) (w5 : I 92 5 = 0) (w6 : I 92 6 = -1) (w7 : I 92 7 = 0) (w8 : I 92 8 = 1) (w9 : I 92 9 = 1) (w2500 : I 92 2500 = 0) (w2501 : I 92 2501 = 0) (w2502 : I 92 2502 = 0) (r6 : ∀ j, j < 144 → I 6 j = 100) (r26 : ∀ j, j < 5 → I 26 j = -1) (r27 : ∀ j, j < 6 → I 27 j = 0) (r28 : ∀ j, j < 20 → I 28 j = 0) (r29 : ∀ j, j < 24 → I 29 j = -1) (v0 : ∀ j, 15 ≤ j → j < 41 → I 92 j = 0) (v1 : ∀ j, (10 ≤ j ∧ j < 15) ∨ (41 ≤ j ∧ j < 65) → I 92 j = -1) (v2 : ∀ a y : Nat, a < 12 → y < 12 → I 92 (70 + 12 * a + y) = if a = y then 0 else 100) (hJ : ∀ k j, J k j = 0#64) : INV 0 I J := by
  refine ⟨[], [], [], ⟨?_, ?_, ?_, ?_, by rw [w0, f1_0]⟩, ⟨⟨⟨f13_0, by decide⟩, ⟨f13_2, by decide⟩, fun i x q => absurd q (by simp [encP]), w2500, fun i q z => absurd z (by simp), fun i q z => absurd z (by simp [stepsOf]), by decide, fun q z => absurd z (by simp)⟩, ⟨⟨f16_0, by decide⟩, ⟨f16_2, by decide⟩, fun i x q => absurd q (by simp [encP]), w2501, fun i q z => absurd z (by simp), fun i q z => absurd z (by simp [stepsOf]), by decide, fun q z => absurd z (by simp)⟩, ⟨⟨f19_0, by decide⟩, ⟨f19_2, by decide⟩, fun i x q => absurd q (by simp [encP]), w2502, fun i q z => absurd z (by simp), fun i q z => absurd z (by simp [stepsOf]), by decide, fun q z => absurd z (by simp)⟩⟩, ?_, ⟨Or.inr f72_3, fun q => by rw [f72_3] at q; omega⟩, ?_, ⟨by rw [f91_18, f0_5], by rw [f91_20, f0_6]⟩, ⟨Or.inl f0_2, by rw [f91_2, f0_2], fun q => by rw [f0_2] at q; omega⟩, ?_, ⟨by rw [f7_1]; omega, fun q => by rw [f0_2] at q; omega, by omega⟩⟩
  · unfold rTown
    simp only [Nat.zero_add]
    rw [f2_0, f2_1, f2_2, w1, w2, w3]
    refine ⟨by omega, by omega, by omega, fun e h0 h1 => by omega, fun x y x0 x1 y0 y1 ne => ?_⟩
    rw [show (70 + 12 * x + y).toNat = 70 + 12 * x.toNat + y.toNat by omega, v2 _ _ (by omega) (by omega), if_neg (by omega), r6 _ (by omega), r6 _ (by omega)]
    omega
  · unfold rBook
    simp only [Nat.zero_add]
    rw [f7_0, f7_1, f7_2, w4, w5, w6]
    exact ⟨by omega, by omega, by omega, fun e h0 h1 => by omega⟩
  · unfold rRound
    simp only [Nat.zero_add]
    rw [f22_0, w7]
    exact ⟨by omega, fun e h0 h1 => by omega⟩
  · unfold rLast
    simp only [Nat.zero_add]
    rw [f25_0, f25_1, w8, w9]
    refine ⟨by omega, by omega, fun i h0 h1 => ?_, fun i h0 h1 => ?_, fun i d h0 h1 h2 h3 => ?_, fun i d h0 h1 h2 h3 => ?_⟩
    · rw [v1 _ (by omega), r26 _ (by omega)]; omega
    · rw [v0 _ (by omega) (by omega), r27 _ (by omega)]; omega
    · rw [v0 _ (by omega) (by omega), r28 _ (by omega)]; exact ⟨rfl, Or.inl rfl⟩
    · rw [v1 _ (by omega), r29 _ (by omega)]; omega
  · intro k a b' hk hb ha
    exact ⟨fun q => by rw [b_neg hJ] at q; exact absurd q (by decide), fun _ => b_neg hJ _ _⟩
  · exact ⟨by rw [f0_4, f91_11]; omega, fun i h0 h1 => by rw [f0_4] at h1; omega⟩
  · intro q
    rw [hJ] at q
    exact absurd q (by decide)
theorem K0_o {g : Nat → Int} (k j : Nat) (v : Int) (hk : k ≠ 92) (h : K0 k j = v) : u1 K0 92 g k j = v := by rw [u1n hk]; exact h
theorem K0_w {g : Nat → Int} {j : Nat} {v : Int} (h : g j = K0 92 j) (h2 : K0 92 j = v) : u1 K0 92 g 92 j = v := by rw [u1e, h]; exact h2
set_option maxRecDepth 100000 in
theorem K0_6 : ∀ j, j < 144 → K0 6 j = 100 := by decide +kernel
theorem K0_26 : ∀ j, j < 5 → K0 26 j = -1 := by decide +kernel
theorem K0_27 : ∀ j, j < 6 → K0 27 j = 0 := by decide +kernel
theorem K0_28 : ∀ j, j < 20 → K0 28 j = 0 := by decide +kernel
theorem K0_29 : ∀ j, j < 24 → K0 29 j = -1 := by decide +kernel
theorem K0_92 : ∀ j, j < 41 → 15 ≤ j → K0 92 j = 0 := by decide +kernel
theorem inv_00 {g : Nat → Int} (h1 : ∀ j, j < 10 ∨ (15 ≤ j ∧ j < 41) ∨ (65 ≤ j ∧ j < 70) ∨ 214 ≤ j → g j = K0 92 j) (h2 : ∀ j, (10 ≤ j ∧ j < 15) ∨ (41 ≤ j ∧ j < 65) → g j = -1) (h3 : ∀ a y : Nat, a < 12 → y < 12 → g (70 + 12 * a + y) = if a = y then 0 else 100) : INV 0 (u1 K0 92 g) JJ0 :=
  inv_0 (K0_o 2 0 _ (by decide) (by decide +kernel)) (K0_o 2 1 _ (by decide) (by decide +kernel)) (K0_o 2 2 _ (by decide) (by decide +kernel)) (K0_o 7 0 _ (by decide) (by decide +kernel)) (K0_o 7 1 _ (by decide) (by decide +kernel)) (K0_o 7 2 _ (by decide) (by decide +kernel)) (K0_o 22 0 _ (by decide) (by decide +kernel)) (K0_o 25 0 _ (by decide) (by decide +kernel)) (K0_o 25 1 _ (by decide) (by decide +kernel)) (K0_o 1 0 _ (by decide) (by decide +kernel)) (K0_o 13 0 _ (by decide) (by decide +kernel)) (K0_o 13 2 _ (by decide) (by decide +kernel)) (K0_o 16 0 _ (by decide) (by decide +kernel)) (K0_o 16 2 _ (by decide) (by decide +kernel)) (K0_o 19 0 _ (by decide) (by decide +kernel)) (K0_o 19 2 _ (by decide) (by decide +kernel)) (K0_o 72 3 _ (by decide) (by decide +kernel)) (K0_o 0 2 _ (by decide) (by decide +kernel)) (K0_o 0 4 _ (by decide) (by decide +kernel)) (K0_o 0 5 _ (by decide) (by decide +kernel)) (K0_o 0 6 _ (by decide) (by decide +kernel)) (K0_o 91 2 _ (by decide) (by decide +kernel)) (K0_o 91 11 _ (by decide) (by decide +kernel)) (K0_o 91 18 _ (by decide) (by decide +kernel)) (K0_o 91 20 _ (by decide) (by decide +kernel)) (K0_w (h1 0 (by omega)) (by decide +kernel)) (K0_w (h1 1 (by omega)) (by decide +kernel)) (K0_w (h1 2 (by omega)) (by decide +kernel)) (K0_w (h1 3 (by omega)) (by decide +kernel)) (K0_w (h1 4 (by omega)) (by decide +kernel)) (K0_w (h1 5 (by omega)) (by decide +kernel)) (K0_w (h1 6 (by omega)) (by decide +kernel)) (K0_w (h1 7 (by omega)) (by decide +kernel)) (K0_w (h1 8 (by omega)) (by decide +kernel)) (K0_w (h1 9 (by omega)) (by decide +kernel)) (K0_w (h1 2500 (by omega)) (by decide +kernel)) (K0_w (h1 2501 (by omega)) (by decide +kernel)) (K0_w (h1 2502 (by omega)) (by decide +kernel)) (fun j q => K0_o 6 j _ (by decide) (K0_6 j q)) (fun j q => K0_o 26 j _ (by decide) (K0_26 j q)) (fun j q => K0_o 27 j _ (by decide) (K0_27 j q)) (fun j q => K0_o 28 j _ (by decide) (K0_28 j q)) (fun j q => K0_o 29 j _ (by decide) (K0_29 j q)) (fun j q q' => K0_w (h1 j (by omega)) (K0_92 j q' q)) (fun j q => by rw [u1e]; exact h2 j q) (fun a y q q' => by rw [u1e]; exact h3 a y q q') JJ0_z
set_option maxRecDepth 100000 in
theorem n269 {G : Ctx} {h : Nat} {Q : MP} {s : MS} (hh : 5 ≤ h) (H : TriM G h 180 92 119 [vr 91] (ops LL2 s) (cV' fun σ => Tri G h 269 119 119 18 [some (vr 4000), some (vr 0), some (vr 91), some (vi 0)] [] σ Q)) : Tri G h 269 119 0 0 [some (vr 4000)] [] s Q := wp_at ck269 [(18, [true, true, true, true])] 400 (c136_0_m (by omega) (And.intro rfl H))
theorem law_all {G : Ctx} {h : Nat} (hh : 210 ≤ h) (hc : (cNn G : Int) ≤ 448) : Tri G h 269 119 0 0 [some (vr 4000)] [] S0 (fun r _ => r = some (vi 1)) := by
  refine n269 (by omega) (TriM_intro (h - 1) (by omega) (by decide) (Nat.le_of_ble_eq_true rfl) (by decide) (by decide) (c180_91 (by omega) ?_))
  show Tri G (h - 1) 180 119 119 272 [some (vr 91), some (vi 0)] [] (ops LL1 (ops LL2 S0)) _
  rw [S2_e]
  exact r180 (fun g h1 h2 h3 => cV_r (law_loop (by omega) hc 64 0 _ _ _ (inv_00 h1 h2 h3) (by omega)))
theorem S0_ok : okS S0 := by
  intro k j
  show okC _ 0
  unfold okC inR
  split
  · omega
  · split <;> omega
