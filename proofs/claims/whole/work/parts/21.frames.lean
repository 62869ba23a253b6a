/-! how INV's parts stay when other cells change -/
theorem likeV_c {I I' : MI} (h3 : I' 3 = I 3) (h4 : I' 4 = I 4) (h6 : I' 6 = I 6) (h8 : I' 8 = I 8) (h11 : I' 11 = I 11) (h12 : I' 12 = I 12) : likeV I' = likeV I := by
  funext a b s
  unfold likeV nam fact wayF
  rw [h3, h4, h6, h8, h11, h12]
theorem alN_c {I I' : MI} (p : List Lin) (h3 : I' 3 = I 3) (h4 : I' 4 = I 4) (h6 : I' 6 = I 6) (h8 : I' 8 = I 8) (h11 : I' 11 = I 11) (h12 : I' 12 = I 12) : alN p I' = alN p I := by
  funext a b
  unfold alN alikB
  rw [likeV_c h3 h4 h6 h8 h11 h12]
theorem knB_c {I I' : MI} (h7 : I' 7 = I 7) (h9 : I' 9 = I 9) (h10 : I' 10 = I 10) : knB I' = knB I := by
  funext e
  unfold knB atT
  rw [h7, h9, h10]
theorem srt_c {I I' : MI} (h8 : I' 8 = I 8) : srt I' = srt I := by
  funext cls told p
  unfold srt fact
  rw [h8]
theorem inHs_c {I I' : MI} (h8 : I' 8 = I 8) : inHs I' = inHs I := by
  funext cls told p x
  unfold inHs fact
  rw [h8]
theorem prs_c {I I' : MI} (p : List Lin) (h3 : I' 3 = I 3) (h4 : I' 4 = I 4) (h6 : I' 6 = I 6) (h7 : I' 7 = I 7) (h8 : I' 8 = I 8) (h9 : I' 9 = I 9) (h10 : I' 10 = I 10) (h11 : I' 11 = I 11) (h12 : I' 12 = I 12) : prs p I' = prs p I := by
  unfold prs
  rw [alN_c p h3 h4 h6 h8 h11 h12, knB_c h7 h9 h10, h7]
theorem mayE_c {I I' : MI} (p : List Lin) (h3 : I' 3 = I 3) (h4 : I' 4 = I 4) (h6 : I' 6 = I 6) (h8 : I' 8 = I 8) (h11 : I' 11 = I 11) (h12 : I' 12 = I 12) : mayE p I' = mayE p I := by
  funext cls told x y
  unfold mayE
  rw [srt_c h8, alN_c p h3 h4 h6 h8 h11 h12]
theorem coup_c {I I' : MI} (p0 p1 : List Lin) (h3 : I' 3 = I 3) (h4 : I' 4 = I 4) (h6 : I' 6 = I 6) (h7 : I' 7 = I 7) (h8 : I' 8 = I 8) (h9 : I' 9 = I 9) (h10 : I' 10 = I 10) (h11 : I' 11 = I 11) (h12 : I' 12 = I 12) : coup p0 p1 I' = coup p0 p1 I := by
  unfold coup
  rw [prs_c p0 h3 h4 h6 h7 h8 h9 h10 h11 h12, mayE_c p1 h3 h4 h6 h8 h11 h12, srt_c h8, h7]
theorem likI.fr {p0 p1 : List Lin} {I I' : MI} {J J' : MJ} (h : likI p0 p1 I J) (h3 : I' 3 = I 3) (h4 : I' 4 = I 4) (h6 : I' 6 = I 6) (h7 : I' 7 0 = I 7 0) (h8 : I' 8 = I 8) (h11 : I' 11 = I 11) (h12 : I' 12 = I 12) (j70 : J' 70 = J 70) (j71 : J' 71 = J 71) : likI p0 p1 I' J' := by
  intro k a b k2 ba a1
  have := h k a b k2 ba a1
  unfold bitJ at this ⊢
  rw [j70, j71, h7, alN_c p0 h3 h4 h6 h8 h11 h12, alN_c p1 h3 h4 h6 h8 h11 h12]
  exact this
theorem perI.fr {p0 p1 : List Lin} {I I' : MI} {J J' : MJ} (h : perI p0 p1 I J) (h3 : I' 3 = I 3) (h4 : I' 4 = I 4) (h6 : I' 6 = I 6) (h7 : I' 7 = I 7) (h8 : I' 8 = I 8) (h9 : I' 9 = I 9) (h10 : I' 10 = I 10) (h11 : I' 11 = I 11) (h12 : I' 12 = I 12) (h72 : I' 72 = I 72) (h73 : I' 73 = I 73) (h74 : I' 74 = I 74) (h75 : I' 75 = I 75) (h76 : I' 76 = I 76) (j77 : J' 77 = J 77) : perI p0 p1 I' J' := by
  unfold perI
  rw [prs_c p0 h3 h4 h6 h7 h8 h9 h10 h11 h12, coup_c p0 p1 h3 h4 h6 h7 h8 h9 h10 h11 h12, srt_c h8, inHs_c h8, h7, h72, h73, h74, h75, h76, j77]
  exact h
/-- forgotten -/
theorem perI.st {p0 p1 : List Lin} {I : MI} {J : MJ} (h : I 72 3 = 1) : perI p0 p1 I J := ⟨Or.inr h, fun q => by omega⟩
theorem likI.st {p0 p1 : List Lin} {I : MI} {J : MJ} (h70 : ∀ j, j < 224 → J 70 j = 0#64) (h71 : ∀ j, j < 224 → J 71 j = 0#64) : likI p0 p1 I J := by
  intro k a b k2 ba a1
  have hp : pairI k a b / 64 < 224 := by
    unfold pairI
    have h1 : a * (a - 1) ≤ 119 * 118 := Nat.mul_le_mul (by omega) (by omega)
    have h2 : a * (a - 1) / 2 ≤ 119 * 118 / 2 := Nat.div_le_div_right h1
    omega
  unfold bitJ
  rw [h70 _ hp, h71 _ hp]
  refine ⟨fun q => ?_, fun q => ?_⟩
  · simp at q
  · simp
theorem RW.fr {I I' : MI} (h : RW 30 93 I) (hk : ∀ k, 31 ≤ k ∧ k < 60 → I' k = I k) (hw : I' 93 = I 93) : RW 30 93 I' := by
  obtain ⟨h1, h2, h3, h4, h5, h6⟩ := h
  refine ⟨h1.fr (hk 32 (by omega)) (hk 33 (by omega)) (hk 34 (by omega)) (hk 35 (by omega)) (hk 36 (by omega)) (fun j _ => by rw [hw]), ?_, ?_, ?_, ?_, ?_⟩
  · exact h2.fr (by rw [hk 32 (by omega)]; exact Int.le_refl _) (hk 37 (by omega)) (hk 38 (by omega)) (hk 39 (by omega)) (hk 40 (by omega)) (hk 41 (by omega)) (hk 42 (by omega)) (fun j _ => by rw [hw])
  · exact h3.fr (by rw [hk 32 (by omega)]; exact Int.le_refl _) (hk 52 (by omega)) (hk 53 (by omega)) (hk 54 (by omega)) (fun j _ => by rw [hw])
  · exact h4.fr (hk 55 (by omega)) (hk 56 (by omega)) (hk 57 (by omega)) (hk 58 (by omega)) (hk 59 (by omega)) (fun j _ => by rw [hw])
  · exact h5.fr (hk 43 (by omega)) (hk 44 (by omega)) (hk 46 (by omega)) (hk 47 (by omega)) (hk 49 (by omega)) (hk 50 (by omega)) (fun j _ => by rw [hw])
  · rw [hw, hk 31 (by omega)]
    exact h6
theorem rTape.fr {I I' : MI} (h : rTape I) (h0 : I' 0 4 = I 0 4) (h91 : I' 91 11 = I 91 11) (h96 : I' 96 = I 96) (h61 : I' 61 = I 61) : rTape I' := by
  unfold rTape
  rw [h0, h91, h96, h61]
  exact h
/-- INV where only cells change that nothing rests on -/
theorem INV.fr {c : Nat} {I I' : MI} {J J' : MJ} (h : INV c I J) (hk : ∀ k, k ∉ [15, 18, 21, 30, 62, 63, 64, 65, 66, 68, 69, 78, 79, 80, 81, 83, 84, 85, 86, 87, 88, 89, 90, 94, 95, 97, 98, 99, 100, 101, 102, 103, 104, 105, 106, 107, 108, 110, 111, 112, 113, 114, 115, 116, 117, 118] → k ≠ 91 → I' k = I k) (h91 : ∀ j ∈ [2, 11, 18, 20], I' 91 j = I 91 j) (hj : ∀ k ∈ [70, 71, 77, 109], J' k = J k) : INV c I' J' := by
  obtain ⟨p0, p1, p2, ⟨a1, a2, a3, a4, a5⟩, ⟨t0, t1, t2⟩, hl, hp, htp, hf, ⟨k1, k2, k3⟩, hc, hcc⟩ := h
  have g : ∀ k, k ∉ [15, 18, 21, 30, 62, 63, 64, 65, 66, 68, 69, 78, 79, 80, 81, 83, 84, 85, 86, 87, 88, 89, 90, 94, 95, 97, 98, 99, 100, 101, 102, 103, 104, 105, 106, 107, 108, 110, 111, 112, 113, 114, 115, 116, 117, 118] ∧ k ≠ 91 → I' k = I k := fun k q => hk k q.1 q.2
  have e0 := g 0 (by decide)
  have e1 := g 1 (by decide)
  have e2 := g 2 (by decide)
  have e3 := g 3 (by decide)
  have e4 := g 4 (by decide)
  have e5 := g 5 (by decide)
  have e6 := g 6 (by decide)
  have e7 := g 7 (by decide)
  have e8 := g 8 (by decide)
  have e9 := g 9 (by decide)
  have e10 := g 10 (by decide)
  have e11 := g 11 (by decide)
  have e12 := g 12 (by decide)
  have e92 := g 92 (by decide)
  refine ⟨p0, p1, p2, ⟨a1.fr e2 e3 e4 e5 e6 (fun j _ => by rw [e92]), a2.fr (by rw [e2]; exact Int.le_refl _) e7 e8 e9 e10 e11 e12 (fun j _ => by rw [e92]), a3.fr (by rw [e2]; exact Int.le_refl _) (g 22 (by decide)) (g 23 (by decide)) (g 24 (by decide)) (fun j _ => by rw [e92]), a4.fr (g 25 (by decide)) (g 26 (by decide)) (g 27 (by decide)) (g 28 (by decide)) (g 29 (by decide)) (fun j _ => by rw [e92]), by rw [e92, e1]; exact a5⟩, ⟨t0.fr (g 13 (by decide)) (g 14 (by decide)) (fun j _ => by rw [e92]), t1.fr (g 16 (by decide)) (g 17 (by decide)) (fun j _ => by rw [e92]), t2.fr (g 19 (by decide)) (g 20 (by decide)) (fun j _ => by rw [e92])⟩, hl.fr e3 e4 e6 (by rw [e7]) e8 e11 e12 (hj 70 (by decide)) (hj 71 (by decide)), hp.fr e3 e4 e6 e7 e8 e9 e10 e11 e12 (g 72 (by decide)) (g 73 (by decide)) (g 74 (by decide)) (g 75 (by decide)) (g 76 (by decide)) (hj 77 (by decide)), htp.fr (by rw [e0]) (h91 11 (by decide)) (g 96 (by decide)) (g 61 (by decide)), ?_, ⟨by rw [e0]; exact k1, by rw [e0, h91 2 (by decide)]; exact k2, fun q => ?_⟩, ?_, ?_⟩
  · rw [h91 18 (by decide), h91 20 (by decide), e0]; exact hf
  · refine (k3 (by rw [← e0]; exact q)).fr (fun k hk2 => g k ?_) (g 93 (by decide))
    have : ∀ k, k < 60 → 31 ≤ k → k ∉ [15, 18, 21, 30, 62, 63, 64, 65, 66, 68, 69, 78, 79, 80, 81, 83, 84, 85, 86, 87, 88, 89, 90, 94, 95, 97, 98, 99, 100, 101, 102, 103, 104, 105, 106, 107, 108, 110, 111, 112, 113, 114, 115, 116, 117, 118] ∧ k ≠ 91 := by decide
    exact this k hk2.2 hk2.1
  · unfold choI; rw [hj 109 (by decide)]; exact hc
  · rw [e7, e0, g 37 (by decide)]; exact hcc
theorem INV.suc {c : Nat} {I : MI} {J : MJ} (h : INV c I J) (hc : c < 64) : INV (c + 1) I J := by
  obtain ⟨p0, p1, p2, a, t, hl, hp, htp, hf, k, hh, h1, h2, h3⟩ := h
  exact ⟨p0, p1, p2, a, t, hl, hp, htp, hf, k, hh, by omega, fun q => by have := h2 q; omega, by omega⟩
