theorem w32_id {x : Int} (h1 : -2147483648 ≤ x) (h2 : x < 2147483648) : w32 x = x := w32_eq ⟨h1, h2⟩
set_option maxRecDepth 100000 in
theorem x172 {G : Ctx} {h : Nat} {Q : MP} {I : Nat → Nat → Int} {J : Nat → Nat → BitVec 64} {b : B3} {m v : Int} (hh : 0 ≤ h) (H : ((v < 0) → (Q (some (vi 0)) (I, J, PP b))) ∧ (¬ (v < 0) → (((m ≤ v) → (Q (some (vi 0)) (I, J, PP b))) ∧ (¬ (m ≤ v) → (Q (some (vi 1)) (I, J, PP b)))))) : Tri G h 172 119 119 0 [some (vi v), some (vi m)] [] (I, J, PP b) Q := wp_at ck172 [] 400 (And.intro (fun q1 => And.intro (show (0 : Int) = 0 ∨ (0 : Int) = 1 by decide) (H.1 q1)) (fun q2 => And.intro (fun q3 => And.intro (show (0 : Int) = 0 ∨ (0 : Int) = 1 by decide) ((H.2 q2).1 q3)) (fun q4 => And.intro (show (1 : Int) = 0 ∨ (1 : Int) = 1 by decide) ((H.2 q2).2 q4))))
theorem x172_m {G : Ctx} {h : Nat} {Q : MP} {I : Nat → Nat → Int} {J : Nat → Nat → BitVec 64} {b : B3} {v m : Int} (hh : 1 ≤ h) (H : ∀ h, 0 ≤ h → Tri G h 172 119 119 0 [some (vi v), some (vi m)] [] (I, J, PP b) Q) : TriM G h 172 119 119 [vi v, vi m] (I, J, PP b) Q := TriM_intro (h - 1) (by omega) (by decide) (Nat.le_of_ble_eq_true rfl) (Nat.le_refl _) (Nat.le_refl _) (H (h - 1) (by omega))
theorem sx172 {G : Ctx} {h : Nat} {I : Nat → Nat → Int} {J : Nat → Nat → BitVec 64} {b : B3} {K : Int → MS → Prop} {v m : Int} (hh : 1 ≤ h) (k1 : (0 ≤ v ∧ v < m) → K 1 (I, J, PP b)) (k0 : ¬ (0 ≤ v ∧ v < m) → K 0 (I, J, PP b)) : TriM G h 172 119 119 [vi v, vi m] (I, J, PP b) (cI' K) := by
  refine x172_m hh (fun h hh => x172 hh ?_)
  repeat' (first | apply And.intro | intro _)
  all_goals first | exact cI_r (k1 (by omega)) | exact cI_r (k0 (by omega)) | omega
set_option maxRecDepth 100000 in
theorem x173 {G : Ctx} {h : Nat} {Q : MP} {I : Nat → Nat → Int} {J : Nat → Nat → BitVec 64} {b : B3} {c : Int} (hh : 0 ≤ h) (H : ((c < 97) → (Q (some (vi 0)) (I, J, PP b))) ∧ (¬ (c < 97) → (((122 < c) → (Q (some (vi 0)) (I, J, PP b))) ∧ (¬ (122 < c) → (Q (some (vi 1)) (I, J, PP b)))))) : Tri G h 173 119 119 0 [some (vi c)] [] (I, J, PP b) Q := wp_at ck173 [] 400 (And.intro (fun q5 => And.intro (show (0 : Int) = 0 ∨ (0 : Int) = 1 by decide) (H.1 q5)) (fun q6 => And.intro (fun q7 => And.intro (show (0 : Int) = 0 ∨ (0 : Int) = 1 by decide) ((H.2 q6).1 q7)) (fun q8 => And.intro (show (1 : Int) = 0 ∨ (1 : Int) = 1 by decide) ((H.2 q6).2 q8))))
theorem x173_m {G : Ctx} {h : Nat} {Q : MP} {I : Nat → Nat → Int} {J : Nat → Nat → BitVec 64} {b : B3} {c : Int} (hh : 1 ≤ h) (H : ∀ h, 0 ≤ h → Tri G h 173 119 119 0 [some (vi c)] [] (I, J, PP b) Q) : TriM G h 173 119 119 [vi c] (I, J, PP b) Q := TriM_intro (h - 1) (by omega) (by decide) (Nat.le_of_ble_eq_true rfl) (Nat.le_refl _) (Nat.le_refl _) (H (h - 1) (by omega))
theorem sx173 {G : Ctx} {h : Nat} {I : Nat → Nat → Int} {J : Nat → Nat → BitVec 64} {b : B3} {K : Int → MS → Prop} {c : Int} (hh : 1 ≤ h) (k1 : (97 ≤ c ∧ c ≤ 122) → K 1 (I, J, PP b)) (k0 : ¬ (97 ≤ c ∧ c ≤ 122) → K 0 (I, J, PP b)) : TriM G h 173 119 119 [vi c] (I, J, PP b) (cI' K) := by
  refine x173_m hh (fun h hh => x173 hh ?_)
  repeat' (first | apply And.intro | intro _)
  all_goals first | exact cI_r (k1 (by omega)) | exact cI_r (k0 (by omega)) | omega
set_option maxRecDepth 100000 in
theorem x174 {G : Ctx} {h : Nat} {Q : MP} {I : Nat → Nat → Int} {J : Nat → Nat → BitVec 64} {b : B3} {c : Int} (hh : 1 ≤ h) (H : ((97 ≤ c ∧ c ≤ 122) → (Q (some (vi 1)) (I, J, PP b))) ∧ (¬ (97 ≤ c ∧ c ≤ 122) → (((c < 65) → (Q (some (vi 0)) (I, J, PP b))) ∧ (¬ (c < 65) → (((90 < c) → (Q (some (vi 0)) (I, J, PP b))) ∧ (¬ (90 < c) → (Q (some (vi 1)) (I, J, PP b)))))))) : Tri G h 174 119 119 0 [some (vi c)] [] (I, J, PP b) Q := wp_at ck174 [] 400 (sx173 (by omega)  (fun q9 => And.intro (fun _ => And.intro (show (1 : Int) = 0 ∨ (1 : Int) = 1 by decide) (H.1 q9)) (fun z => absurd (show ¬ (1 : Int) = (0 : Int) by decide) z)) (fun q10 => And.intro (fun z => absurd z (show ¬ (¬ (0 : Int) = (0 : Int)) by decide)) (fun _ => And.intro (fun q11 => And.intro (show (0 : Int) = 0 ∨ (0 : Int) = 1 by decide) ((H.2 q10).1 q11)) (fun q12 => And.intro (fun q13 => And.intro (show (0 : Int) = 0 ∨ (0 : Int) = 1 by decide) (((H.2 q10).2 q12).1 q13)) (fun q14 => And.intro (show (1 : Int) = 0 ∨ (1 : Int) = 1 by decide) (((H.2 q10).2 q12).2 q14))))))
theorem x174_m {G : Ctx} {h : Nat} {Q : MP} {I : Nat → Nat → Int} {J : Nat → Nat → BitVec 64} {b : B3} {c : Int} (hh : 2 ≤ h) (H : ∀ h, 1 ≤ h → Tri G h 174 119 119 0 [some (vi c)] [] (I, J, PP b) Q) : TriM G h 174 119 119 [vi c] (I, J, PP b) Q := TriM_intro (h - 1) (by omega) (by decide) (Nat.le_of_ble_eq_true rfl) (Nat.le_refl _) (Nat.le_refl _) (H (h - 1) (by omega))
theorem sx174 {G : Ctx} {h : Nat} {I : Nat → Nat → Int} {J : Nat → Nat → BitVec 64} {b : B3} {K : Int → MS → Prop} {c : Int} (hh : 2 ≤ h) (k1 : (97 ≤ c ∧ c ≤ 122 ∨ 65 ≤ c ∧ c ≤ 90) → K 1 (I, J, PP b)) (k0 : ¬ (97 ≤ c ∧ c ≤ 122 ∨ 65 ≤ c ∧ c ≤ 90) → K 0 (I, J, PP b)) : TriM G h 174 119 119 [vi c] (I, J, PP b) (cI' K) := by
  refine x174_m hh (fun h hh => x174 hh ?_)
  repeat' (first | apply And.intro | intro _)
  all_goals first | exact cI_r (k1 (by omega)) | exact cI_r (k0 (by omega)) | omega
set_option maxRecDepth 100000 in
theorem x175 {G : Ctx} {h : Nat} {Q : MP} {I : Nat → Nat → Int} {J : Nat → Nat → BitVec 64} {b : B3} {c : Int} (hh : 0 ≤ h) (H : ((c < 48) → (Q (some (vi 0)) (I, J, PP b))) ∧ (¬ (c < 48) → (((57 < c) → (Q (some (vi 0)) (I, J, PP b))) ∧ (¬ (57 < c) → (Q (some (vi 1)) (I, J, PP b)))))) : Tri G h 175 119 119 0 [some (vi c)] [] (I, J, PP b) Q := wp_at ck175 [] 400 (And.intro (fun q15 => And.intro (show (0 : Int) = 0 ∨ (0 : Int) = 1 by decide) (H.1 q15)) (fun q16 => And.intro (fun q17 => And.intro (show (0 : Int) = 0 ∨ (0 : Int) = 1 by decide) ((H.2 q16).1 q17)) (fun q18 => And.intro (show (1 : Int) = 0 ∨ (1 : Int) = 1 by decide) ((H.2 q16).2 q18))))
theorem x175_m {G : Ctx} {h : Nat} {Q : MP} {I : Nat → Nat → Int} {J : Nat → Nat → BitVec 64} {b : B3} {c : Int} (hh : 1 ≤ h) (H : ∀ h, 0 ≤ h → Tri G h 175 119 119 0 [some (vi c)] [] (I, J, PP b) Q) : TriM G h 175 119 119 [vi c] (I, J, PP b) Q := TriM_intro (h - 1) (by omega) (by decide) (Nat.le_of_ble_eq_true rfl) (Nat.le_refl _) (Nat.le_refl _) (H (h - 1) (by omega))
theorem sx175 {G : Ctx} {h : Nat} {I : Nat → Nat → Int} {J : Nat → Nat → BitVec 64} {b : B3} {K : Int → MS → Prop} {c : Int} (hh : 1 ≤ h) (k1 : (48 ≤ c ∧ c ≤ 57) → K 1 (I, J, PP b)) (k0 : ¬ (48 ≤ c ∧ c ≤ 57) → K 0 (I, J, PP b)) : TriM G h 175 119 119 [vi c] (I, J, PP b) (cI' K) := by
  refine x175_m hh (fun h hh => x175 hh ?_)
  repeat' (first | apply And.intro | intro _)
  all_goals first | exact cI_r (k1 (by omega)) | exact cI_r (k0 (by omega)) | omega
set_option maxRecDepth 100000 in
theorem x181 {G : Ctx} {h : Nat} {Q : MP} {I : Nat → Nat → Int} {J : Nat → Nat → BitVec 64} {b : B3} {hi lo v : Int} (hh : 0 ≤ h) (H : ((v < lo) → (Q (some (vi 0)) (I, J, PP b))) ∧ (¬ (v < lo) → (((hi < v) → (Q (some (vi 0)) (I, J, PP b))) ∧ (¬ (hi < v) → (Q (some (vi 1)) (I, J, PP b)))))) : Tri G h 181 119 119 0 [some (vi v), some (vi lo), some (vi hi)] [] (I, J, PP b) Q := wp_at ck181 [] 400 (And.intro (fun q19 => And.intro (show (0 : Int) = 0 ∨ (0 : Int) = 1 by decide) (H.1 q19)) (fun q20 => And.intro (fun q21 => And.intro (show (0 : Int) = 0 ∨ (0 : Int) = 1 by decide) ((H.2 q20).1 q21)) (fun q22 => And.intro (show (1 : Int) = 0 ∨ (1 : Int) = 1 by decide) ((H.2 q20).2 q22))))
theorem x181_m {G : Ctx} {h : Nat} {Q : MP} {I : Nat → Nat → Int} {J : Nat → Nat → BitVec 64} {b : B3} {v lo hi : Int} (hh : 1 ≤ h) (H : ∀ h, 0 ≤ h → Tri G h 181 119 119 0 [some (vi v), some (vi lo), some (vi hi)] [] (I, J, PP b) Q) : TriM G h 181 119 119 [vi v, vi lo, vi hi] (I, J, PP b) Q := TriM_intro (h - 1) (by omega) (by decide) (Nat.le_of_ble_eq_true rfl) (Nat.le_refl _) (Nat.le_refl _) (H (h - 1) (by omega))
theorem sx181 {G : Ctx} {h : Nat} {I : Nat → Nat → Int} {J : Nat → Nat → BitVec 64} {b : B3} {K : Int → MS → Prop} {v lo hi : Int} (hh : 1 ≤ h) (k1 : (lo ≤ v ∧ v ≤ hi) → K 1 (I, J, PP b)) (k0 : ¬ (lo ≤ v ∧ v ≤ hi) → K 0 (I, J, PP b)) : TriM G h 181 119 119 [vi v, vi lo, vi hi] (I, J, PP b) (cI' K) := by
  refine x181_m hh (fun h hh => x181 hh ?_)
  repeat' (first | apply And.intro | intro _)
  all_goals first | exact cI_r (k1 (by omega)) | exact cI_r (k0 (by omega)) | omega
set_option maxRecDepth 100000 in
theorem x200 {G : Ctx} {h : Nat} {Q : MP} {I : Nat → Nat → Int} {J : Nat → Nat → BitVec 64} {b : B3} {c : Int} (hh : 1 ≤ h) (H : (((97 : Int) ≤ c ∧ c ≤ (122 : Int)) → (Q (some (vi 1)) (I, J, PP b))) ∧ (¬ ((97 : Int) ≤ c ∧ c ≤ (122 : Int)) → ((((65 : Int) ≤ c ∧ c ≤ (90 : Int)) → (Q (some (vi 1)) (I, J, PP b))) ∧ (¬ ((65 : Int) ≤ c ∧ c ≤ (90 : Int)) → (Q (some (vi 0)) (I, J, PP b)))))) : Tri G h 200 119 119 0 [some (vi c)] [] (I, J, PP b) Q := wp_at ck200 [] 400 (sx181 (by omega)  (fun q23 => And.intro (fun _ => And.intro (show (1 : Int) = 0 ∨ (1 : Int) = 1 by decide) (H.1 q23)) (fun z => absurd (show ¬ (1 : Int) = (0 : Int) by decide) z)) (fun q24 => And.intro (fun z => absurd z (show ¬ (¬ (0 : Int) = (0 : Int)) by decide)) (fun _ => sx181 (by omega)  (fun q25 => And.intro (fun z => absurd z (show ¬ ((1 : Int) = (0 : Int)) by decide)) (fun _ => And.intro (show (1 : Int) = 0 ∨ (1 : Int) = 1 by decide) ((H.2 q24).1 q25))) (fun q26 => And.intro (fun _ => And.intro (show (0 : Int) = 0 ∨ (0 : Int) = 1 by decide) ((H.2 q24).2 q26)) (fun z => absurd (show (0 : Int) = (0 : Int) by decide) z)))))
theorem x200_m {G : Ctx} {h : Nat} {Q : MP} {I : Nat → Nat → Int} {J : Nat → Nat → BitVec 64} {b : B3} {c : Int} (hh : 2 ≤ h) (H : ∀ h, 1 ≤ h → Tri G h 200 119 119 0 [some (vi c)] [] (I, J, PP b) Q) : TriM G h 200 119 119 [vi c] (I, J, PP b) Q := TriM_intro (h - 1) (by omega) (by decide) (Nat.le_of_ble_eq_true rfl) (Nat.le_refl _) (Nat.le_refl _) (H (h - 1) (by omega))
theorem sx200 {G : Ctx} {h : Nat} {I : Nat → Nat → Int} {J : Nat → Nat → BitVec 64} {b : B3} {K : Int → MS → Prop} {c : Int} (hh : 2 ≤ h) (k1 : (97 ≤ c ∧ c ≤ 122 ∨ 65 ≤ c ∧ c ≤ 90) → K 1 (I, J, PP b)) (k0 : ¬ (97 ≤ c ∧ c ≤ 122 ∨ 65 ≤ c ∧ c ≤ 90) → K 0 (I, J, PP b)) : TriM G h 200 119 119 [vi c] (I, J, PP b) (cI' K) := by
  refine x200_m hh (fun h hh => x200 hh ?_)
  repeat' (first | apply And.intro | intro _)
  all_goals first | exact cI_r (k1 (by omega)) | exact cI_r (k0 (by omega)) | omega
set_option maxRecDepth 100000 in
theorem x201 {G : Ctx} {h : Nat} {Q : MP} {I : Nat → Nat → Int} {J : Nat → Nat → BitVec 64} {b : B3} {c : Int} (hh : 1 ≤ h) (H : (((48 : Int) ≤ c ∧ c ≤ (57 : Int)) → (Q (some (vi 1)) (I, J, PP b))) ∧ (¬ ((48 : Int) ≤ c ∧ c ≤ (57 : Int)) → (Q (some (vi 0)) (I, J, PP b)))) : Tri G h 201 119 119 0 [some (vi c)] [] (I, J, PP b) Q := wp_at ck201 [] 400 (sx181 (by omega)  (fun q27 => And.intro (show (1 : Int) = 0 ∨ (1 : Int) = 1 by decide) (H.1 q27)) (fun q28 => And.intro (show (0 : Int) = 0 ∨ (0 : Int) = 1 by decide) (H.2 q28)))
theorem x201_m {G : Ctx} {h : Nat} {Q : MP} {I : Nat → Nat → Int} {J : Nat → Nat → BitVec 64} {b : B3} {c : Int} (hh : 2 ≤ h) (H : ∀ h, 1 ≤ h → Tri G h 201 119 119 0 [some (vi c)] [] (I, J, PP b) Q) : TriM G h 201 119 119 [vi c] (I, J, PP b) Q := TriM_intro (h - 1) (by omega) (by decide) (Nat.le_of_ble_eq_true rfl) (Nat.le_refl _) (Nat.le_refl _) (H (h - 1) (by omega))
theorem sx201 {G : Ctx} {h : Nat} {I : Nat → Nat → Int} {J : Nat → Nat → BitVec 64} {b : B3} {K : Int → MS → Prop} {c : Int} (hh : 2 ≤ h) (k1 : (48 ≤ c ∧ c ≤ 57) → K 1 (I, J, PP b)) (k0 : ¬ (48 ≤ c ∧ c ≤ 57) → K 0 (I, J, PP b)) : TriM G h 201 119 119 [vi c] (I, J, PP b) (cI' K) := by
  refine x201_m hh (fun h hh => x201 hh ?_)
  repeat' (first | apply And.intro | intro _)
  all_goals first | exact cI_r (k1 (by omega)) | exact cI_r (k0 (by omega)) | omega
set_option maxRecDepth 100000 in
theorem x186 {G : Ctx} {h : Nat} {Q : MP} {I : Nat → Nat → Int} {J : Nat → Nat → BitVec 64} {b : B3} {c : Int} (hh : 1 ≤ h) (H : (((0 : Int) ≤ c ∧ c ≤ (11 : Int)) → (Q (some (vi 1)) (I, J, PP b))) ∧ (¬ ((0 : Int) ≤ c ∧ c ≤ (11 : Int)) → (Q (some (vi 0)) (I, J, PP b)))) : Tri G h 186 119 119 0 [some (vi c)] [] (I, J, PP b) Q := wp_at ck186 [] 400 (sx181 (by omega)  (fun q29 => And.intro (show (1 : Int) = 0 ∨ (1 : Int) = 1 by decide) (H.1 q29)) (fun q30 => And.intro (show (0 : Int) = 0 ∨ (0 : Int) = 1 by decide) (H.2 q30)))
theorem x186_m {G : Ctx} {h : Nat} {Q : MP} {I : Nat → Nat → Int} {J : Nat → Nat → BitVec 64} {b : B3} {c : Int} (hh : 2 ≤ h) (H : ∀ h, 1 ≤ h → Tri G h 186 119 119 0 [some (vi c)] [] (I, J, PP b) Q) : TriM G h 186 119 119 [vi c] (I, J, PP b) Q := TriM_intro (h - 1) (by omega) (by decide) (Nat.le_of_ble_eq_true rfl) (Nat.le_refl _) (Nat.le_refl _) (H (h - 1) (by omega))
theorem sx186 {G : Ctx} {h : Nat} {I : Nat → Nat → Int} {J : Nat → Nat → BitVec 64} {b : B3} {K : Int → MS → Prop} {c : Int} (hh : 2 ≤ h) (k1 : (0 ≤ c ∧ c < 12) → K 1 (I, J, PP b)) (k0 : ¬ (0 ≤ c ∧ c < 12) → K 0 (I, J, PP b)) : TriM G h 186 119 119 [vi c] (I, J, PP b) (cI' K) := by
  refine x186_m hh (fun h hh => x186 hh ?_)
  repeat' (first | apply And.intro | intro _)
  all_goals first | exact cI_r (k1 (by omega)) | exact cI_r (k0 (by omega)) | omega
set_option maxRecDepth 100000 in
theorem x248 {G : Ctx} {h : Nat} {Q : MP} {I : Nat → Nat → Int} {J : Nat → Nat → BitVec 64} {b : B3} {c : Int} (hh : 1 ≤ h) (H : (((0 : Int) ≤ c ∧ c ≤ (10 : Int)) → (Q (some (vi 1)) (I, J, PP b))) ∧ (¬ ((0 : Int) ≤ c ∧ c ≤ (10 : Int)) → (Q (some (vi 0)) (I, J, PP b)))) : Tri G h 248 119 119 0 [some (vi c)] [] (I, J, PP b) Q := wp_at ck248 [] 400 (sx181 (by omega)  (fun q31 => And.intro (show (1 : Int) = 0 ∨ (1 : Int) = 1 by decide) (H.1 q31)) (fun q32 => And.intro (show (0 : Int) = 0 ∨ (0 : Int) = 1 by decide) (H.2 q32)))
theorem x248_m {G : Ctx} {h : Nat} {Q : MP} {I : Nat → Nat → Int} {J : Nat → Nat → BitVec 64} {b : B3} {c : Int} (hh : 2 ≤ h) (H : ∀ h, 1 ≤ h → Tri G h 248 119 119 0 [some (vi c)] [] (I, J, PP b) Q) : TriM G h 248 119 119 [vi c] (I, J, PP b) Q := TriM_intro (h - 1) (by omega) (by decide) (Nat.le_of_ble_eq_true rfl) (Nat.le_refl _) (Nat.le_refl _) (H (h - 1) (by omega))
theorem sx248 {G : Ctx} {h : Nat} {I : Nat → Nat → Int} {J : Nat → Nat → BitVec 64} {b : B3} {K : Int → MS → Prop} {c : Int} (hh : 2 ≤ h) (k1 : (0 ≤ c ∧ c < 11) → K 1 (I, J, PP b)) (k0 : ¬ (0 ≤ c ∧ c < 11) → K 0 (I, J, PP b)) : TriM G h 248 119 119 [vi c] (I, J, PP b) (cI' K) := by
  refine x248_m hh (fun h hh => x248 hh ?_)
  repeat' (first | apply And.intro | intro _)
  all_goals first | exact cI_r (k1 (by omega)) | exact cI_r (k0 (by omega)) | omega
set_option maxRecDepth 100000 in
theorem x185 {G : Ctx} {h : Nat} {Q : MP} {I : Nat → Nat → Int} {J : Nat → Nat → BitVec 64} {b : B3} {c : Int} (hh : 1 ≤ h) (H : (((0 : Int) ≤ c ∧ c ≤ (w32 ((I 92 3) - 1))) → (Q (some (vi 1)) (I, J, PP b))) ∧ (¬ ((0 : Int) ≤ c ∧ c ≤ (w32 ((I 92 3) - 1))) → (Q (some (vi 0)) (I, J, PP b)))) : Tri G h 185 119 119 0 [some (vr 91), some (vi c)] [] (I, J, PP b) Q := wp_at ck185 [] 400 (And.intro (show (0 : Int) ≤ 3 ∧ (3 : Int) < ((5120 : Nat) : Int) by decide) (sx181 (by omega)  (fun q33 => And.intro (show (1 : Int) = 0 ∨ (1 : Int) = 1 by decide) (H.1 q33)) (fun q34 => And.intro (show (0 : Int) = 0 ∨ (0 : Int) = 1 by decide) (H.2 q34))))
theorem x185_m {G : Ctx} {h : Nat} {Q : MP} {I : Nat → Nat → Int} {J : Nat → Nat → BitVec 64} {b : B3} {c : Int} (hh : 2 ≤ h) (H : ∀ h, 1 ≤ h → Tri G h 185 119 119 0 [some (vr 91), some (vi c)] [] (I, J, PP b) Q) : TriM G h 185 119 119 [vr 91, vi c] (I, J, PP b) Q := TriM_intro (h - 1) (by omega) (by decide) (Nat.le_of_ble_eq_true rfl) (Nat.le_refl _) (Nat.le_refl _) (H (h - 1) (by omega))
theorem sx185 {G : Ctx} {h : Nat} {I : Nat → Nat → Int} {J : Nat → Nat → BitVec 64} {b : B3} {K : Int → MS → Prop} {c : Int} (hh : 2 ≤ h) (g0 : 0 ≤ I 92 3 ∧ I 92 3 < 1000) (k1 : (0 ≤ c ∧ c < I 92 3) → K 1 (I, J, PP b)) (k0 : ¬ (0 ≤ c ∧ c < I 92 3) → K 0 (I, J, PP b)) : TriM G h 185 119 119 [vr 91, vi c] (I, J, PP b) (cI' K) := by
  refine x185_m hh (fun h hh => x185 hh ?_)
  rw [w32_id (by omega) (by omega)]
  repeat' (first | apply And.intro | intro _)
  all_goals first | exact cI_r (k1 (by omega)) | exact cI_r (k0 (by omega)) | omega
set_option maxRecDepth 100000 in
theorem x187 {G : Ctx} {h : Nat} {Q : MP} {I : Nat → Nat → Int} {J : Nat → Nat → BitVec 64} {b : B3} {c : Int} (hh : 1 ≤ h) (H : (((0 : Int) ≤ c ∧ c ≤ (w32 ((I 92 4) - 1))) → (Q (some (vi 1)) (I, J, PP b))) ∧ (¬ ((0 : Int) ≤ c ∧ c ≤ (w32 ((I 92 4) - 1))) → (Q (some (vi 0)) (I, J, PP b)))) : Tri G h 187 119 119 0 [some (vr 91), some (vi c)] [] (I, J, PP b) Q := wp_at ck187 [] 400 (And.intro (show (0 : Int) ≤ 4 ∧ (4 : Int) < ((5120 : Nat) : Int) by decide) (sx181 (by omega)  (fun q35 => And.intro (show (1 : Int) = 0 ∨ (1 : Int) = 1 by decide) (H.1 q35)) (fun q36 => And.intro (show (0 : Int) = 0 ∨ (0 : Int) = 1 by decide) (H.2 q36))))
theorem x187_m {G : Ctx} {h : Nat} {Q : MP} {I : Nat → Nat → Int} {J : Nat → Nat → BitVec 64} {b : B3} {c : Int} (hh : 2 ≤ h) (H : ∀ h, 1 ≤ h → Tri G h 187 119 119 0 [some (vr 91), some (vi c)] [] (I, J, PP b) Q) : TriM G h 187 119 119 [vr 91, vi c] (I, J, PP b) Q := TriM_intro (h - 1) (by omega) (by decide) (Nat.le_of_ble_eq_true rfl) (Nat.le_refl _) (Nat.le_refl _) (H (h - 1) (by omega))
theorem sx187 {G : Ctx} {h : Nat} {I : Nat → Nat → Int} {J : Nat → Nat → BitVec 64} {b : B3} {K : Int → MS → Prop} {c : Int} (hh : 2 ≤ h) (g0 : 0 ≤ I 92 4 ∧ I 92 4 < 1000) (k1 : (0 ≤ c ∧ c < I 92 4) → K 1 (I, J, PP b)) (k0 : ¬ (0 ≤ c ∧ c < I 92 4) → K 0 (I, J, PP b)) : TriM G h 187 119 119 [vr 91, vi c] (I, J, PP b) (cI' K) := by
  refine x187_m hh (fun h hh => x187 hh ?_)
  rw [w32_id (by omega) (by omega)]
  repeat' (first | apply And.intro | intro _)
  all_goals first | exact cI_r (k1 (by omega)) | exact cI_r (k0 (by omega)) | omega
set_option maxRecDepth 100000 in
theorem x188 {G : Ctx} {h : Nat} {Q : MP} {I : Nat → Nat → Int} {J : Nat → Nat → BitVec 64} {b : B3} {e f : Int} (hh : 0 ≤ h) (H : (0 ≤ (w32 ((w32 (450 + (w32 (17 * e)))) + f)) ∧ (w32 ((w32 (450 + (w32 (17 * e)))) + f)) < (5120 : Int)) ∧ (Q (some (vi (I 92 ((w32 ((w32 (450 + (w32 (17 * e)))) + f)).toNat)))) (I, J, PP b))) : Tri G h 188 119 119 0 [some (vr 91), some (vi e), some (vi f)] [] (I, J, PP b) Q := wp_at ck188 [] 400 H
theorem x188_m {G : Ctx} {h : Nat} {Q : MP} {I : Nat → Nat → Int} {J : Nat → Nat → BitVec 64} {b : B3} {e f : Int} (hh : 1 ≤ h) (H : ∀ h, 0 ≤ h → Tri G h 188 119 119 0 [some (vr 91), some (vi e), some (vi f)] [] (I, J, PP b) Q) : TriM G h 188 119 119 [vr 91, vi e, vi f] (I, J, PP b) Q := TriM_intro (h - 1) (by omega) (by decide) (Nat.le_of_ble_eq_true rfl) (Nat.le_refl _) (Nat.le_refl _) (H (h - 1) (by omega))
theorem sx188 {G : Ctx} {h : Nat} {I : Nat → Nat → Int} {J : Nat → Nat → BitVec 64} {b : B3} {K : Int → MS → Prop} {e f : Int} (hh : 1 ≤ h) (g0 : 0 ≤ e ∧ e < 120 ∧ 0 ≤ f ∧ f < 17) (k1 : K (I 92 (450 + 17 * e + f).toNat) (I, J, PP b)) : TriM G h 188 119 119 [vr 91, vi e, vi f] (I, J, PP b) (cI' K) := by
  refine x188_m hh (fun h hh => x188 hh ?_)
  simp (disch := omega) only [w32_id]
  exact ⟨by omega, cI_r k1⟩
set_option maxRecDepth 100000 in
theorem x189 {G : Ctx} {h : Nat} {Q : MP} {I : Nat → Nat → Int} {J : Nat → Nat → BitVec 64} {b : B3} {c : Int} (hh : 0 ≤ h) (H : (0 ≤ (w32 (220 + (w32 (3 * c)))) ∧ (w32 (220 + (w32 (3 * c)))) < (5120 : Int)) ∧ (Q (some (vi (I 92 ((w32 (220 + (w32 (3 * c)))).toNat)))) (I, J, PP b))) : Tri G h 189 119 119 0 [some (vr 91), some (vi c)] [] (I, J, PP b) Q := wp_at ck189 [] 400 H
theorem x189_m {G : Ctx} {h : Nat} {Q : MP} {I : Nat → Nat → Int} {J : Nat → Nat → BitVec 64} {b : B3} {c : Int} (hh : 1 ≤ h) (H : ∀ h, 0 ≤ h → Tri G h 189 119 119 0 [some (vr 91), some (vi c)] [] (I, J, PP b) Q) : TriM G h 189 119 119 [vr 91, vi c] (I, J, PP b) Q := TriM_intro (h - 1) (by omega) (by decide) (Nat.le_of_ble_eq_true rfl) (Nat.le_refl _) (Nat.le_refl _) (H (h - 1) (by omega))
theorem sx189 {G : Ctx} {h : Nat} {I : Nat → Nat → Int} {J : Nat → Nat → BitVec 64} {b : B3} {K : Int → MS → Prop} {c : Int} (hh : 1 ≤ h) (g0 : 0 ≤ c ∧ c < 60) (k1 : K (I 92 (220 + 3 * c).toNat) (I, J, PP b)) : TriM G h 189 119 119 [vr 91, vi c] (I, J, PP b) (cI' K) := by
  refine x189_m hh (fun h hh => x189 hh ?_)
  simp (disch := omega) only [w32_id]
  exact ⟨by omega, cI_r k1⟩
set_option maxRecDepth 100000 in
theorem x190 {G : Ctx} {h : Nat} {Q : MP} {I : Nat → Nat → Int} {J : Nat → Nat → BitVec 64} {b : B3} {c : Int} (hh : 0 ≤ h) (H : (0 ≤ (w32 ((w32 (220 + (w32 (3 * c)))) + 1)) ∧ (w32 ((w32 (220 + (w32 (3 * c)))) + 1)) < (5120 : Int)) ∧ (Q (some (vi (I 92 ((w32 ((w32 (220 + (w32 (3 * c)))) + 1)).toNat)))) (I, J, PP b))) : Tri G h 190 119 119 0 [some (vr 91), some (vi c)] [] (I, J, PP b) Q := wp_at ck190 [] 400 H
theorem x190_m {G : Ctx} {h : Nat} {Q : MP} {I : Nat → Nat → Int} {J : Nat → Nat → BitVec 64} {b : B3} {c : Int} (hh : 1 ≤ h) (H : ∀ h, 0 ≤ h → Tri G h 190 119 119 0 [some (vr 91), some (vi c)] [] (I, J, PP b) Q) : TriM G h 190 119 119 [vr 91, vi c] (I, J, PP b) Q := TriM_intro (h - 1) (by omega) (by decide) (Nat.le_of_ble_eq_true rfl) (Nat.le_refl _) (Nat.le_refl _) (H (h - 1) (by omega))
theorem sx190 {G : Ctx} {h : Nat} {I : Nat → Nat → Int} {J : Nat → Nat → BitVec 64} {b : B3} {K : Int → MS → Prop} {c : Int} (hh : 1 ≤ h) (g0 : 0 ≤ c ∧ c < 60) (k1 : K (I 92 (220 + 3 * c + 1).toNat) (I, J, PP b)) : TriM G h 190 119 119 [vr 91, vi c] (I, J, PP b) (cI' K) := by
  refine x190_m hh (fun h hh => x190 hh ?_)
  simp (disch := omega) only [w32_id]
  exact ⟨by omega, cI_r k1⟩
def dist (x y : Int) : Int := if y < x then x - y else y - x
set_option maxRecDepth 100000 in
theorem x182 {G : Ctx} {h : Nat} {Q : MP} {I : Nat → Nat → Int} {J : Nat → Nat → BitVec 64} {b : B3} {x y : Int} (hh : 0 ≤ h) (H : ((x ≤ y) → (Q (some (vi (w32 (y - x)))) (I, J, PP b))) ∧ (¬ (x ≤ y) → (Q (some (vi (w32 (x - y)))) (I, J, PP b)))) : Tri G h 182 119 119 0 [some (vi x), some (vi y)] [] (I, J, PP b) Q := wp_at ck182 [] 400 H
theorem x182_m {G : Ctx} {h : Nat} {Q : MP} {I : Nat → Nat → Int} {J : Nat → Nat → BitVec 64} {b : B3} {x y : Int} (hh : 1 ≤ h) (H : ∀ h, 0 ≤ h → Tri G h 182 119 119 0 [some (vi x), some (vi y)] [] (I, J, PP b) Q) : TriM G h 182 119 119 [vi x, vi y] (I, J, PP b) Q := TriM_intro (h - 1) (by omega) (by decide) (Nat.le_of_ble_eq_true rfl) (Nat.le_refl _) (Nat.le_refl _) (H (h - 1) (by omega))
theorem sx182 {G : Ctx} {h : Nat} {I : Nat → Nat → Int} {J : Nat → Nat → BitVec 64} {b : B3} {K : Int → MS → Prop} {x y : Int} (hh : 1 ≤ h) (g0 : 0 ≤ x ∧ x < 1000000 ∧ 0 ≤ y ∧ y < 1000000) (k1 : K (dist x y) (I, J, PP b)) : TriM G h 182 119 119 [vi x, vi y] (I, J, PP b) (cI' K) := by
  refine x182_m hh (fun h hh => x182 hh ?_)
  simp (disch := omega) only [w32_id]
  unfold dist at k1
  refine ⟨fun q => ?_, fun q => ?_⟩
  · rw [if_neg (by omega)] at k1; exact cI_r k1
  · rw [if_pos (by omega)] at k1; exact cI_r k1
set_option maxRecDepth 100000 in
theorem x3 {G : Ctx} {h : Nat} {Q : MP} {I : Nat → Nat → Int} {J : Nat → Nat → BitVec 64} {b : B3} {x y : Int} (hh : 0 ≤ h) (H : ((y < x) → (Q (some (vi y)) (I, J, PP b))) ∧ (¬ (y < x) → (Q (some (vi x)) (I, J, PP b)))) : Tri G h 3 119 119 0 [some (vi x), some (vi y)] [] (I, J, PP b) Q := wp_at ck3 [] 400 H
theorem x3_m {G : Ctx} {h : Nat} {Q : MP} {I : Nat → Nat → Int} {J : Nat → Nat → BitVec 64} {b : B3} {x y : Int} (hh : 1 ≤ h) (H : ∀ h, 0 ≤ h → Tri G h 3 119 119 0 [some (vi x), some (vi y)] [] (I, J, PP b) Q) : TriM G h 3 119 119 [vi x, vi y] (I, J, PP b) Q := TriM_intro (h - 1) (by omega) (by decide) (Nat.le_of_ble_eq_true rfl) (Nat.le_refl _) (Nat.le_refl _) (H (h - 1) (by omega))
theorem sx3 {G : Ctx} {h : Nat} {I : Nat → Nat → Int} {J : Nat → Nat → BitVec 64} {b : B3} {K : Int → MS → Prop} {x y : Int} (hh : 1 ≤ h) (k1 : K (min x y) (I, J, PP b)) : TriM G h 3 119 119 [vi x, vi y] (I, J, PP b) (cI' K) := by
  refine x3_m hh (fun h hh => x3 hh ?_)
  refine ⟨fun q => ?_, fun q => ?_⟩
  · rw [Int.min_eq_right (by omega)] at k1; exact cI_r k1
  · rw [Int.min_eq_left (by omega)] at k1; exact cI_r k1
set_option maxRecDepth 100000 in
theorem x15 {G : Ctx} {h : Nat} {Q : MP} {I : Nat → Nat → Int} {J : Nat → Nat → BitVec 64} {b : B3} {x y : Int} (hh : 0 ≤ h) (H : ((x < y) → (Q (some (vi y)) (I, J, PP b))) ∧ (¬ (x < y) → (Q (some (vi x)) (I, J, PP b)))) : Tri G h 15 119 119 0 [some (vi x), some (vi y)] [] (I, J, PP b) Q := wp_at ck15 [] 400 H
theorem x15_m {G : Ctx} {h : Nat} {Q : MP} {I : Nat → Nat → Int} {J : Nat → Nat → BitVec 64} {b : B3} {x y : Int} (hh : 1 ≤ h) (H : ∀ h, 0 ≤ h → Tri G h 15 119 119 0 [some (vi x), some (vi y)] [] (I, J, PP b) Q) : TriM G h 15 119 119 [vi x, vi y] (I, J, PP b) Q := TriM_intro (h - 1) (by omega) (by decide) (Nat.le_of_ble_eq_true rfl) (Nat.le_refl _) (Nat.le_refl _) (H (h - 1) (by omega))
theorem sx15 {G : Ctx} {h : Nat} {I : Nat → Nat → Int} {J : Nat → Nat → BitVec 64} {b : B3} {K : Int → MS → Prop} {x y : Int} (hh : 1 ≤ h) (k1 : K (max x y) (I, J, PP b)) : TriM G h 15 119 119 [vi x, vi y] (I, J, PP b) (cI' K) := by
  refine x15_m hh (fun h hh => x15 hh ?_)
  refine ⟨fun q => ?_, fun q => ?_⟩
  · rw [Int.max_eq_right (by omega)] at k1; exact cI_r k1
  · rw [Int.max_eq_left (by omega)] at k1; exact cI_r k1
set_option maxRecDepth 100000 in
theorem x2 {G : Ctx} {h : Nat} {Q : MP} {I : Nat → Nat → Int} {J : Nat → Nat → BitVec 64} {b : B3} {x : Int} (hh : 0 ≤ h) (H : ((0 ≤ x) → (Q (some (vi x)) (I, J, PP b))) ∧ (¬ (0 ≤ x) → (Q (some (vi (w32 (-x)))) (I, J, PP b)))) : Tri G h 2 119 119 0 [some (vi x)] [] (I, J, PP b) Q := wp_at ck2 [] 400 H
theorem x2_m {G : Ctx} {h : Nat} {Q : MP} {I : Nat → Nat → Int} {J : Nat → Nat → BitVec 64} {b : B3} {x : Int} (hh : 1 ≤ h) (H : ∀ h, 0 ≤ h → Tri G h 2 119 119 0 [some (vi x)] [] (I, J, PP b) Q) : TriM G h 2 119 119 [vi x] (I, J, PP b) Q := TriM_intro (h - 1) (by omega) (by decide) (Nat.le_of_ble_eq_true rfl) (Nat.le_refl _) (Nat.le_refl _) (H (h - 1) (by omega))
theorem sx2 {G : Ctx} {h : Nat} {I : Nat → Nat → Int} {J : Nat → Nat → BitVec 64} {b : B3} {K : Int → MS → Prop} {x : Int} (hh : 1 ≤ h) (k1 : K (if x < 0 then w32 (-x) else x) (I, J, PP b)) : TriM G h 2 119 119 [vi x] (I, J, PP b) (cI' K) := by
  refine x2_m hh (fun h hh => x2 hh ?_)
  refine ⟨fun q => ?_, fun q => ?_⟩
  · rw [if_neg (by omega)] at k1; exact cI_r k1
  · rw [if_pos (by omega)] at k1; exact cI_r k1
set_option maxRecDepth 100000 in
theorem x29 {G : Ctx} {h : Nat} {Q : MP} {I : Nat → Nat → Int} {J : Nat → Nat → BitVec 64} {b : B3} {e f : Int} (hh : 1 ≤ h) (H : ((0 ≤ e ∧ e < (I 7 0)) → (((0 ≤ f ∧ f < (6 : Int)) → ((0 ≤ (w32 ((w32 (e * 6)) + f)) ∧ (w32 ((w32 (e * 6)) + f)) < (720 : Int)) ∧ (Q (some (vi (I 8 ((w32 ((w32 (e * 6)) + f)).toNat)))) (I, J, PP b)))) ∧ (¬ (0 ≤ f ∧ f < (6 : Int)) → (Q (some (vi (-1))) (I, J, PP b))))) ∧ (¬ (0 ≤ e ∧ e < (I 7 0)) → (Q (some (vi (-1))) (I, J, PP b)))) : Tri G h 29 119 119 0 [some (vr 7), some (vi e), some (vi f)] [] (I, J, PP b) Q := wp_at ck29 [] 400 (sx172 (by omega)  (fun q37 => And.intro (fun z => absurd z (show ¬ ((1 : Int) = (0 : Int)) by decide)) (fun _ => sx172 (by omega)  (fun q39 => And.intro (fun z => absurd z (show ¬ ((1 : Int) = (0 : Int)) by decide)) (fun _ => (H.1 q37).1 q39)) (fun q40 => And.intro (fun _ => (H.1 q37).2 q40) (fun z => absurd (show (0 : Int) = (0 : Int) by decide) z)))) (fun q38 => And.intro (fun _ => H.2 q38) (fun z => absurd (show (0 : Int) = (0 : Int) by decide) z)))
theorem x29_m {G : Ctx} {h : Nat} {Q : MP} {I : Nat → Nat → Int} {J : Nat → Nat → BitVec 64} {b : B3} {e f : Int} (hh : 2 ≤ h) (H : ∀ h, 1 ≤ h → Tri G h 29 119 119 0 [some (vr 7), some (vi e), some (vi f)] [] (I, J, PP b) Q) : TriM G h 29 119 119 [vr 7, vi e, vi f] (I, J, PP b) Q := TriM_intro (h - 1) (by omega) (by decide) (Nat.le_of_ble_eq_true rfl) (Nat.le_refl _) (Nat.le_refl _) (H (h - 1) (by omega))
theorem sx29 {G : Ctx} {h : Nat} {I : Nat → Nat → Int} {J : Nat → Nat → BitVec 64} {b : B3} {K : Int → MS → Prop} {e f : Int} (hh : 2 ≤ h) (g0 : 0 ≤ e ∧ e < I 7 0 ∧ I 7 0 ≤ 120 ∧ 0 ≤ f ∧ f < 6) (k1 : K (I 8 (e * 6 + f).toNat) (I, J, PP b)) : TriM G h 29 119 119 [vr 7, vi e, vi f] (I, J, PP b) (cI' K) := by
  refine x29_m hh (fun h hh => x29 hh ?_)
  simp (disch := omega) only [w32_id]
  repeat' (first | apply And.intro | intro _)
  all_goals first | exact cI_r k1 | omega
