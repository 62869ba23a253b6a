set_option maxRecDepth 100000 in
theorem x119a {G : Ctx} {h : Nat} {Q : MP} {I : Nat → Nat → Int} {J : Nat → Nat → BitVec 64} {b : B3} (hh : 1 ≤ h) (H : Q none (u1 (u1 (u1 (u1 (u2 (u2 (u2 I 2 0 (I 32 0)) 2 1 (I 32 1)) 2 2 (I 32 2)) 3 (fun j => if 0 ≤ j ∧ j < 0 + 60 then I 33 (0 + (j - 0)) else I 3 j)) 4 (fun j => if 0 ≤ j ∧ j < 0 + 60 then I 34 (0 + (j - 0)) else I 4 j)) 5 (fun j => if 0 ≤ j ∧ j < 0 + 60 then I 35 (0 + (j - 0)) else I 5 j)) 6 (fun j => if 0 ≤ j ∧ j < 0 + 144 then I 36 (0 + (j - 0)) else I 6 j), J, PP b)) : Tri G h 119 119 119 0 [some (vr 2), some (vr 32)] [] (I, J, PP b) Q := wp_at ck119 [] 400 (And.intro (by omega) (And.intro (show (0 : Int) ≤ 0 ∧ (0 : Int) ≤ 0 ∧ (0 : Int) ≤ 60 ∧ (0 : Int) + 60 ≤ ((60 : Nat) : Int) ∧ (0 : Int) + 60 ≤ ((60 : Nat) : Int) by decide) (And.intro (by omega) (And.intro (show (0 : Int) ≤ 0 ∧ (0 : Int) ≤ 0 ∧ (0 : Int) ≤ 60 ∧ (0 : Int) + 60 ≤ ((60 : Nat) : Int) ∧ (0 : Int) + 60 ≤ ((60 : Nat) : Int) by decide) (And.intro (by omega) (And.intro (show (0 : Int) ≤ 0 ∧ (0 : Int) ≤ 0 ∧ (0 : Int) ≤ 60 ∧ (0 : Int) + 60 ≤ ((60 : Nat) : Int) ∧ (0 : Int) + 60 ≤ ((60 : Nat) : Int) by decide) (And.intro (by omega) (And.intro (show (0 : Int) ≤ 0 ∧ (0 : Int) ≤ 0 ∧ (0 : Int) ≤ 144 ∧ (0 : Int) + 144 ≤ ((144 : Nat) : Int) ∧ (0 : Int) + 144 ≤ ((144 : Nat) : Int) by decide) H))))))))
theorem x119a_m {G : Ctx} {h : Nat} {Q : MP} {I : Nat → Nat → Int} {J : Nat → Nat → BitVec 64} {b : B3} (hh : 2 ≤ h) (H : ∀ h, 1 ≤ h → Tri G h 119 119 119 0 [some (vr 2), some (vr 32)] [] (I, J, PP b) Q) : TriM G h 119 119 119 [vr 2, vr 32] (I, J, PP b) Q := TriM_intro (h - 1) (by omega) (by decide) (Nat.le_of_ble_eq_true rfl) (Nat.le_refl _) (Nat.le_refl _) (H (h - 1) (by omega))
set_option maxRecDepth 100000 in
theorem x119b {G : Ctx} {h : Nat} {Q : MP} {I : Nat → Nat → Int} {J : Nat → Nat → BitVec 64} {b : B3} (hh : 1 ≤ h) (H : Q none (u1 (u1 (u1 (u1 (u2 (u2 (u2 I 32 0 (I 2 0)) 32 1 (I 2 1)) 32 2 (I 2 2)) 33 (fun j => if 0 ≤ j ∧ j < 0 + 60 then I 3 (0 + (j - 0)) else I 33 j)) 34 (fun j => if 0 ≤ j ∧ j < 0 + 60 then I 4 (0 + (j - 0)) else I 34 j)) 35 (fun j => if 0 ≤ j ∧ j < 0 + 60 then I 5 (0 + (j - 0)) else I 35 j)) 36 (fun j => if 0 ≤ j ∧ j < 0 + 144 then I 6 (0 + (j - 0)) else I 36 j), J, PP b)) : Tri G h 119 119 119 0 [some (vr 32), some (vr 2)] [] (I, J, PP b) Q := wp_at ck119 [] 400 (And.intro (by omega) (And.intro (show (0 : Int) ≤ 0 ∧ (0 : Int) ≤ 0 ∧ (0 : Int) ≤ 60 ∧ (0 : Int) + 60 ≤ ((60 : Nat) : Int) ∧ (0 : Int) + 60 ≤ ((60 : Nat) : Int) by decide) (And.intro (by omega) (And.intro (show (0 : Int) ≤ 0 ∧ (0 : Int) ≤ 0 ∧ (0 : Int) ≤ 60 ∧ (0 : Int) + 60 ≤ ((60 : Nat) : Int) ∧ (0 : Int) + 60 ≤ ((60 : Nat) : Int) by decide) (And.intro (by omega) (And.intro (show (0 : Int) ≤ 0 ∧ (0 : Int) ≤ 0 ∧ (0 : Int) ≤ 60 ∧ (0 : Int) + 60 ≤ ((60 : Nat) : Int) ∧ (0 : Int) + 60 ≤ ((60 : Nat) : Int) by decide) (And.intro (by omega) (And.intro (show (0 : Int) ≤ 0 ∧ (0 : Int) ≤ 0 ∧ (0 : Int) ≤ 144 ∧ (0 : Int) + 144 ≤ ((144 : Nat) : Int) ∧ (0 : Int) + 144 ≤ ((144 : Nat) : Int) by decide) H))))))))
theorem x119b_m {G : Ctx} {h : Nat} {Q : MP} {I : Nat → Nat → Int} {J : Nat → Nat → BitVec 64} {b : B3} (hh : 2 ≤ h) (H : ∀ h, 1 ≤ h → Tri G h 119 119 119 0 [some (vr 32), some (vr 2)] [] (I, J, PP b) Q) : TriM G h 119 119 119 [vr 32, vr 2] (I, J, PP b) Q := TriM_intro (h - 1) (by omega) (by decide) (Nat.le_of_ble_eq_true rfl) (Nat.le_refl _) (Nat.le_refl _) (H (h - 1) (by omega))
set_option maxRecDepth 100000 in
theorem x22a {G : Ctx} {h : Nat} {Q : MP} {I : Nat → Nat → Int} {J : Nat → Nat → BitVec 64} {b : B3} (hh : 1 ≤ h) (H : Q none (u1 (u1 (u1 (u1 (u1 (u2 (u2 (u2 I 7 0 (I 37 0)) 7 1 (I 37 1)) 7 2 (I 37 2)) 8 (fun j => if 0 ≤ j ∧ j < 0 + 720 then I 38 (0 + (j - 0)) else I 8 j)) 9 (fun j => if 0 ≤ j ∧ j < 0 + 120 then I 39 (0 + (j - 0)) else I 9 j)) 10 (fun j => if 0 ≤ j ∧ j < 0 + 120 then I 40 (0 + (j - 0)) else I 10 j)) 11 (fun j => if 0 ≤ j ∧ j < 0 + 120 then I 41 (0 + (j - 0)) else I 11 j)) 12 (fun j => if 0 ≤ j ∧ j < 0 + 960 then I 42 (0 + (j - 0)) else I 12 j), J, PP b)) : Tri G h 22 119 119 0 [some (vr 7), some (vr 37)] [] (I, J, PP b) Q := wp_at ck22 [] 400 (And.intro (by omega) (And.intro (show (0 : Int) ≤ 0 ∧ (0 : Int) ≤ 0 ∧ (0 : Int) ≤ 720 ∧ (0 : Int) + 720 ≤ ((720 : Nat) : Int) ∧ (0 : Int) + 720 ≤ ((720 : Nat) : Int) by decide) (And.intro (by omega) (And.intro (show (0 : Int) ≤ 0 ∧ (0 : Int) ≤ 0 ∧ (0 : Int) ≤ 120 ∧ (0 : Int) + 120 ≤ ((120 : Nat) : Int) ∧ (0 : Int) + 120 ≤ ((120 : Nat) : Int) by decide) (And.intro (by omega) (And.intro (show (0 : Int) ≤ 0 ∧ (0 : Int) ≤ 0 ∧ (0 : Int) ≤ 120 ∧ (0 : Int) + 120 ≤ ((120 : Nat) : Int) ∧ (0 : Int) + 120 ≤ ((120 : Nat) : Int) by decide) (And.intro (by omega) (And.intro (show (0 : Int) ≤ 0 ∧ (0 : Int) ≤ 0 ∧ (0 : Int) ≤ 120 ∧ (0 : Int) + 120 ≤ ((120 : Nat) : Int) ∧ (0 : Int) + 120 ≤ ((120 : Nat) : Int) by decide) (And.intro (by omega) (And.intro (show (0 : Int) ≤ 0 ∧ (0 : Int) ≤ 0 ∧ (0 : Int) ≤ 960 ∧ (0 : Int) + 960 ≤ ((960 : Nat) : Int) ∧ (0 : Int) + 960 ≤ ((960 : Nat) : Int) by decide) H))))))))))
theorem x22a_m {G : Ctx} {h : Nat} {Q : MP} {I : Nat → Nat → Int} {J : Nat → Nat → BitVec 64} {b : B3} (hh : 2 ≤ h) (H : ∀ h, 1 ≤ h → Tri G h 22 119 119 0 [some (vr 7), some (vr 37)] [] (I, J, PP b) Q) : TriM G h 22 119 119 [vr 7, vr 37] (I, J, PP b) Q := TriM_intro (h - 1) (by omega) (by decide) (Nat.le_of_ble_eq_true rfl) (Nat.le_refl _) (Nat.le_refl _) (H (h - 1) (by omega))
set_option maxRecDepth 100000 in
theorem x22b {G : Ctx} {h : Nat} {Q : MP} {I : Nat → Nat → Int} {J : Nat → Nat → BitVec 64} {b : B3} (hh : 1 ≤ h) (H : Q none (u1 (u1 (u1 (u1 (u1 (u2 (u2 (u2 I 37 0 (I 7 0)) 37 1 (I 7 1)) 37 2 (I 7 2)) 38 (fun j => if 0 ≤ j ∧ j < 0 + 720 then I 8 (0 + (j - 0)) else I 38 j)) 39 (fun j => if 0 ≤ j ∧ j < 0 + 120 then I 9 (0 + (j - 0)) else I 39 j)) 40 (fun j => if 0 ≤ j ∧ j < 0 + 120 then I 10 (0 + (j - 0)) else I 40 j)) 41 (fun j => if 0 ≤ j ∧ j < 0 + 120 then I 11 (0 + (j - 0)) else I 41 j)) 42 (fun j => if 0 ≤ j ∧ j < 0 + 960 then I 12 (0 + (j - 0)) else I 42 j), J, PP b)) : Tri G h 22 119 119 0 [some (vr 37), some (vr 7)] [] (I, J, PP b) Q := wp_at ck22 [] 400 (And.intro (by omega) (And.intro (show (0 : Int) ≤ 0 ∧ (0 : Int) ≤ 0 ∧ (0 : Int) ≤ 720 ∧ (0 : Int) + 720 ≤ ((720 : Nat) : Int) ∧ (0 : Int) + 720 ≤ ((720 : Nat) : Int) by decide) (And.intro (by omega) (And.intro (show (0 : Int) ≤ 0 ∧ (0 : Int) ≤ 0 ∧ (0 : Int) ≤ 120 ∧ (0 : Int) + 120 ≤ ((120 : Nat) : Int) ∧ (0 : Int) + 120 ≤ ((120 : Nat) : Int) by decide) (And.intro (by omega) (And.intro (show (0 : Int) ≤ 0 ∧ (0 : Int) ≤ 0 ∧ (0 : Int) ≤ 120 ∧ (0 : Int) + 120 ≤ ((120 : Nat) : Int) ∧ (0 : Int) + 120 ≤ ((120 : Nat) : Int) by decide) (And.intro (by omega) (And.intro (show (0 : Int) ≤ 0 ∧ (0 : Int) ≤ 0 ∧ (0 : Int) ≤ 120 ∧ (0 : Int) + 120 ≤ ((120 : Nat) : Int) ∧ (0 : Int) + 120 ≤ ((120 : Nat) : Int) by decide) (And.intro (by omega) (And.intro (show (0 : Int) ≤ 0 ∧ (0 : Int) ≤ 0 ∧ (0 : Int) ≤ 960 ∧ (0 : Int) + 960 ≤ ((960 : Nat) : Int) ∧ (0 : Int) + 960 ≤ ((960 : Nat) : Int) by decide) H))))))))))
theorem x22b_m {G : Ctx} {h : Nat} {Q : MP} {I : Nat → Nat → Int} {J : Nat → Nat → BitVec 64} {b : B3} (hh : 2 ≤ h) (H : ∀ h, 1 ≤ h → Tri G h 22 119 119 0 [some (vr 37), some (vr 7)] [] (I, J, PP b) Q) : TriM G h 22 119 119 [vr 37, vr 7] (I, J, PP b) Q := TriM_intro (h - 1) (by omega) (by decide) (Nat.le_of_ble_eq_true rfl) (Nat.le_refl _) (Nat.le_refl _) (H (h - 1) (by omega))
set_option maxRecDepth 100000 in
theorem x98a {G : Ctx} {h : Nat} {Q : MP} {I : Nat → Nat → Int} {J : Nat → Nat → BitVec 64} {b : B3} (hh : 1 ≤ h) (H : Q none (u1 (u1 (u2 I 22 0 (I 52 0)) 23 (fun j => if 0 ≤ j ∧ j < 0 + 24 then I 53 (0 + (j - 0)) else I 23 j)) 24 (fun j => if 0 ≤ j ∧ j < 0 + 24 then I 54 (0 + (j - 0)) else I 24 j), J, PP b)) : Tri G h 98 119 119 0 [some (vr 22), some (vr 52)] [] (I, J, PP b) Q := wp_at ck98 [] 400 (And.intro (by omega) (And.intro (show (0 : Int) ≤ 0 ∧ (0 : Int) ≤ 0 ∧ (0 : Int) ≤ 24 ∧ (0 : Int) + 24 ≤ ((24 : Nat) : Int) ∧ (0 : Int) + 24 ≤ ((24 : Nat) : Int) by decide) (And.intro (by omega) (And.intro (show (0 : Int) ≤ 0 ∧ (0 : Int) ≤ 0 ∧ (0 : Int) ≤ 24 ∧ (0 : Int) + 24 ≤ ((24 : Nat) : Int) ∧ (0 : Int) + 24 ≤ ((24 : Nat) : Int) by decide) H))))
theorem x98a_m {G : Ctx} {h : Nat} {Q : MP} {I : Nat → Nat → Int} {J : Nat → Nat → BitVec 64} {b : B3} (hh : 2 ≤ h) (H : ∀ h, 1 ≤ h → Tri G h 98 119 119 0 [some (vr 22), some (vr 52)] [] (I, J, PP b) Q) : TriM G h 98 119 119 [vr 22, vr 52] (I, J, PP b) Q := TriM_intro (h - 1) (by omega) (by decide) (Nat.le_of_ble_eq_true rfl) (Nat.le_refl _) (Nat.le_refl _) (H (h - 1) (by omega))
set_option maxRecDepth 100000 in
theorem x98b {G : Ctx} {h : Nat} {Q : MP} {I : Nat → Nat → Int} {J : Nat → Nat → BitVec 64} {b : B3} (hh : 1 ≤ h) (H : Q none (u1 (u1 (u2 I 52 0 (I 22 0)) 53 (fun j => if 0 ≤ j ∧ j < 0 + 24 then I 23 (0 + (j - 0)) else I 53 j)) 54 (fun j => if 0 ≤ j ∧ j < 0 + 24 then I 24 (0 + (j - 0)) else I 54 j), J, PP b)) : Tri G h 98 119 119 0 [some (vr 52), some (vr 22)] [] (I, J, PP b) Q := wp_at ck98 [] 400 (And.intro (by omega) (And.intro (show (0 : Int) ≤ 0 ∧ (0 : Int) ≤ 0 ∧ (0 : Int) ≤ 24 ∧ (0 : Int) + 24 ≤ ((24 : Nat) : Int) ∧ (0 : Int) + 24 ≤ ((24 : Nat) : Int) by decide) (And.intro (by omega) (And.intro (show (0 : Int) ≤ 0 ∧ (0 : Int) ≤ 0 ∧ (0 : Int) ≤ 24 ∧ (0 : Int) + 24 ≤ ((24 : Nat) : Int) ∧ (0 : Int) + 24 ≤ ((24 : Nat) : Int) by decide) H))))
theorem x98b_m {G : Ctx} {h : Nat} {Q : MP} {I : Nat → Nat → Int} {J : Nat → Nat → BitVec 64} {b : B3} (hh : 2 ≤ h) (H : ∀ h, 1 ≤ h → Tri G h 98 119 119 0 [some (vr 52), some (vr 22)] [] (I, J, PP b) Q) : TriM G h 98 119 119 [vr 52, vr 22] (I, J, PP b) Q := TriM_intro (h - 1) (by omega) (by decide) (Nat.le_of_ble_eq_true rfl) (Nat.le_refl _) (Nat.le_refl _) (H (h - 1) (by omega))
set_option maxRecDepth 100000 in
theorem x47a {G : Ctx} {h : Nat} {Q : MP} {I : Nat → Nat → Int} {J : Nat → Nat → BitVec 64} {b : B3} (hh : 1 ≤ h) (H : Q none (u1 (u1 (u1 (u1 (u2 (u2 I 25 0 (I 55 0)) 25 1 (I 55 1)) 26 (fun j => if 0 ≤ j ∧ j < 0 + 5 then I 56 (0 + (j - 0)) else I 26 j)) 27 (fun j => if 0 ≤ j ∧ j < 0 + 6 then I 57 (0 + (j - 0)) else I 27 j)) 28 (fun j => if 0 ≤ j ∧ j < 0 + 20 then I 58 (0 + (j - 0)) else I 28 j)) 29 (fun j => if 0 ≤ j ∧ j < 0 + 24 then I 59 (0 + (j - 0)) else I 29 j), J, PP b)) : Tri G h 47 119 119 0 [some (vr 25), some (vr 55)] [] (I, J, PP b) Q := wp_at ck47 [] 400 (And.intro (by omega) (And.intro (show (0 : Int) ≤ 0 ∧ (0 : Int) ≤ 0 ∧ (0 : Int) ≤ 5 ∧ (0 : Int) + 5 ≤ ((5 : Nat) : Int) ∧ (0 : Int) + 5 ≤ ((5 : Nat) : Int) by decide) (And.intro (by omega) (And.intro (show (0 : Int) ≤ 0 ∧ (0 : Int) ≤ 0 ∧ (0 : Int) ≤ 6 ∧ (0 : Int) + 6 ≤ ((6 : Nat) : Int) ∧ (0 : Int) + 6 ≤ ((6 : Nat) : Int) by decide) (And.intro (by omega) (And.intro (show (0 : Int) ≤ 0 ∧ (0 : Int) ≤ 0 ∧ (0 : Int) ≤ 20 ∧ (0 : Int) + 20 ≤ ((20 : Nat) : Int) ∧ (0 : Int) + 20 ≤ ((20 : Nat) : Int) by decide) (And.intro (by omega) (And.intro (show (0 : Int) ≤ 0 ∧ (0 : Int) ≤ 0 ∧ (0 : Int) ≤ 24 ∧ (0 : Int) + 24 ≤ ((24 : Nat) : Int) ∧ (0 : Int) + 24 ≤ ((24 : Nat) : Int) by decide) H))))))))
theorem x47a_m {G : Ctx} {h : Nat} {Q : MP} {I : Nat → Nat → Int} {J : Nat → Nat → BitVec 64} {b : B3} (hh : 2 ≤ h) (H : ∀ h, 1 ≤ h → Tri G h 47 119 119 0 [some (vr 25), some (vr 55)] [] (I, J, PP b) Q) : TriM G h 47 119 119 [vr 25, vr 55] (I, J, PP b) Q := TriM_intro (h - 1) (by omega) (by decide) (Nat.le_of_ble_eq_true rfl) (Nat.le_refl _) (Nat.le_refl _) (H (h - 1) (by omega))
set_option maxRecDepth 100000 in
theorem x47b {G : Ctx} {h : Nat} {Q : MP} {I : Nat → Nat → Int} {J : Nat → Nat → BitVec 64} {b : B3} (hh : 1 ≤ h) (H : Q none (u1 (u1 (u1 (u1 (u2 (u2 I 55 0 (I 25 0)) 55 1 (I 25 1)) 56 (fun j => if 0 ≤ j ∧ j < 0 + 5 then I 26 (0 + (j - 0)) else I 56 j)) 57 (fun j => if 0 ≤ j ∧ j < 0 + 6 then I 27 (0 + (j - 0)) else I 57 j)) 58 (fun j => if 0 ≤ j ∧ j < 0 + 20 then I 28 (0 + (j - 0)) else I 58 j)) 59 (fun j => if 0 ≤ j ∧ j < 0 + 24 then I 29 (0 + (j - 0)) else I 59 j), J, PP b)) : Tri G h 47 119 119 0 [some (vr 55), some (vr 25)] [] (I, J, PP b) Q := wp_at ck47 [] 400 (And.intro (by omega) (And.intro (show (0 : Int) ≤ 0 ∧ (0 : Int) ≤ 0 ∧ (0 : Int) ≤ 5 ∧ (0 : Int) + 5 ≤ ((5 : Nat) : Int) ∧ (0 : Int) + 5 ≤ ((5 : Nat) : Int) by decide) (And.intro (by omega) (And.intro (show (0 : Int) ≤ 0 ∧ (0 : Int) ≤ 0 ∧ (0 : Int) ≤ 6 ∧ (0 : Int) + 6 ≤ ((6 : Nat) : Int) ∧ (0 : Int) + 6 ≤ ((6 : Nat) : Int) by decide) (And.intro (by omega) (And.intro (show (0 : Int) ≤ 0 ∧ (0 : Int) ≤ 0 ∧ (0 : Int) ≤ 20 ∧ (0 : Int) + 20 ≤ ((20 : Nat) : Int) ∧ (0 : Int) + 20 ≤ ((20 : Nat) : Int) by decide) (And.intro (by omega) (And.intro (show (0 : Int) ≤ 0 ∧ (0 : Int) ≤ 0 ∧ (0 : Int) ≤ 24 ∧ (0 : Int) + 24 ≤ ((24 : Nat) : Int) ∧ (0 : Int) + 24 ≤ ((24 : Nat) : Int) by decide) H))))))))
theorem x47b_m {G : Ctx} {h : Nat} {Q : MP} {I : Nat → Nat → Int} {J : Nat → Nat → BitVec 64} {b : B3} (hh : 2 ≤ h) (H : ∀ h, 1 ≤ h → Tri G h 47 119 119 0 [some (vr 55), some (vr 25)] [] (I, J, PP b) Q) : TriM G h 47 119 119 [vr 55, vr 25] (I, J, PP b) Q := TriM_intro (h - 1) (by omega) (by decide) (Nat.le_of_ble_eq_true rfl) (Nat.le_refl _) (Nat.le_refl _) (H (h - 1) (by omega))
set_option maxRecDepth 100000 in
theorem x112a13 {G : Ctx} {h : Nat} {Q : MP} {I : Nat → Nat → Int} {J : Nat → Nat → BitVec 64} {b : B3} (hh : 1 ≤ h) (H : Q none (u1 (u2 (u2 I 13 0 (I 43 0)) 13 2 (I 43 2)) 14 (fun j => if 0 ≤ j ∧ j < 0 + 400 then I 44 (0 + (j - 0)) else I 14 j), J, PP b)) : Tri G h 112 119 119 0 [some (vr 13), some (vr 43)] [] (I, J, PP b) Q := wp_at ck112 [] 400 (And.intro (by omega) (And.intro (show (0 : Int) ≤ 0 ∧ (0 : Int) ≤ 0 ∧ (0 : Int) ≤ 400 ∧ (0 : Int) + 400 ≤ ((400 : Nat) : Int) ∧ (0 : Int) + 400 ≤ ((400 : Nat) : Int) by decide) H))
theorem x112a13_m {G : Ctx} {h : Nat} {Q : MP} {I : Nat → Nat → Int} {J : Nat → Nat → BitVec 64} {b : B3} (hh : 2 ≤ h) (H : ∀ h, 1 ≤ h → Tri G h 112 119 119 0 [some (vr 13), some (vr 43)] [] (I, J, PP b) Q) : TriM G h 112 119 119 [vr 13, vr 43] (I, J, PP b) Q := TriM_intro (h - 1) (by omega) (by decide) (Nat.le_of_ble_eq_true rfl) (Nat.le_refl _) (Nat.le_refl _) (H (h - 1) (by omega))
set_option maxRecDepth 100000 in
theorem x112b13 {G : Ctx} {h : Nat} {Q : MP} {I : Nat → Nat → Int} {J : Nat → Nat → BitVec 64} {b : B3} (hh : 1 ≤ h) (H : Q none (u1 (u2 (u2 I 43 0 (I 13 0)) 43 2 (I 13 2)) 44 (fun j => if 0 ≤ j ∧ j < 0 + 400 then I 14 (0 + (j - 0)) else I 44 j), J, PP b)) : Tri G h 112 119 119 0 [some (vr 43), some (vr 13)] [] (I, J, PP b) Q := wp_at ck112 [] 400 (And.intro (by omega) (And.intro (show (0 : Int) ≤ 0 ∧ (0 : Int) ≤ 0 ∧ (0 : Int) ≤ 400 ∧ (0 : Int) + 400 ≤ ((400 : Nat) : Int) ∧ (0 : Int) + 400 ≤ ((400 : Nat) : Int) by decide) H))
theorem x112b13_m {G : Ctx} {h : Nat} {Q : MP} {I : Nat → Nat → Int} {J : Nat → Nat → BitVec 64} {b : B3} (hh : 2 ≤ h) (H : ∀ h, 1 ≤ h → Tri G h 112 119 119 0 [some (vr 43), some (vr 13)] [] (I, J, PP b) Q) : TriM G h 112 119 119 [vr 43, vr 13] (I, J, PP b) Q := TriM_intro (h - 1) (by omega) (by decide) (Nat.le_of_ble_eq_true rfl) (Nat.le_refl _) (Nat.le_refl _) (H (h - 1) (by omega))
set_option maxRecDepth 100000 in
theorem x112a16 {G : Ctx} {h : Nat} {Q : MP} {I : Nat → Nat → Int} {J : Nat → Nat → BitVec 64} {b : B3} (hh : 1 ≤ h) (H : Q none (u1 (u2 (u2 I 16 0 (I 46 0)) 16 2 (I 46 2)) 17 (fun j => if 0 ≤ j ∧ j < 0 + 400 then I 47 (0 + (j - 0)) else I 17 j), J, PP b)) : Tri G h 112 119 119 0 [some (vr 16), some (vr 46)] [] (I, J, PP b) Q := wp_at ck112 [] 400 (And.intro (by omega) (And.intro (show (0 : Int) ≤ 0 ∧ (0 : Int) ≤ 0 ∧ (0 : Int) ≤ 400 ∧ (0 : Int) + 400 ≤ ((400 : Nat) : Int) ∧ (0 : Int) + 400 ≤ ((400 : Nat) : Int) by decide) H))
theorem x112a16_m {G : Ctx} {h : Nat} {Q : MP} {I : Nat → Nat → Int} {J : Nat → Nat → BitVec 64} {b : B3} (hh : 2 ≤ h) (H : ∀ h, 1 ≤ h → Tri G h 112 119 119 0 [some (vr 16), some (vr 46)] [] (I, J, PP b) Q) : TriM G h 112 119 119 [vr 16, vr 46] (I, J, PP b) Q := TriM_intro (h - 1) (by omega) (by decide) (Nat.le_of_ble_eq_true rfl) (Nat.le_refl _) (Nat.le_refl _) (H (h - 1) (by omega))
set_option maxRecDepth 100000 in
theorem x112b16 {G : Ctx} {h : Nat} {Q : MP} {I : Nat → Nat → Int} {J : Nat → Nat → BitVec 64} {b : B3} (hh : 1 ≤ h) (H : Q none (u1 (u2 (u2 I 46 0 (I 16 0)) 46 2 (I 16 2)) 47 (fun j => if 0 ≤ j ∧ j < 0 + 400 then I 17 (0 + (j - 0)) else I 47 j), J, PP b)) : Tri G h 112 119 119 0 [some (vr 46), some (vr 16)] [] (I, J, PP b) Q := wp_at ck112 [] 400 (And.intro (by omega) (And.intro (show (0 : Int) ≤ 0 ∧ (0 : Int) ≤ 0 ∧ (0 : Int) ≤ 400 ∧ (0 : Int) + 400 ≤ ((400 : Nat) : Int) ∧ (0 : Int) + 400 ≤ ((400 : Nat) : Int) by decide) H))
theorem x112b16_m {G : Ctx} {h : Nat} {Q : MP} {I : Nat → Nat → Int} {J : Nat → Nat → BitVec 64} {b : B3} (hh : 2 ≤ h) (H : ∀ h, 1 ≤ h → Tri G h 112 119 119 0 [some (vr 46), some (vr 16)] [] (I, J, PP b) Q) : TriM G h 112 119 119 [vr 46, vr 16] (I, J, PP b) Q := TriM_intro (h - 1) (by omega) (by decide) (Nat.le_of_ble_eq_true rfl) (Nat.le_refl _) (Nat.le_refl _) (H (h - 1) (by omega))
set_option maxRecDepth 100000 in
theorem x112a19 {G : Ctx} {h : Nat} {Q : MP} {I : Nat → Nat → Int} {J : Nat → Nat → BitVec 64} {b : B3} (hh : 1 ≤ h) (H : Q none (u1 (u2 (u2 I 19 0 (I 49 0)) 19 2 (I 49 2)) 20 (fun j => if 0 ≤ j ∧ j < 0 + 400 then I 50 (0 + (j - 0)) else I 20 j), J, PP b)) : Tri G h 112 119 119 0 [some (vr 19), some (vr 49)] [] (I, J, PP b) Q := wp_at ck112 [] 400 (And.intro (by omega) (And.intro (show (0 : Int) ≤ 0 ∧ (0 : Int) ≤ 0 ∧ (0 : Int) ≤ 400 ∧ (0 : Int) + 400 ≤ ((400 : Nat) : Int) ∧ (0 : Int) + 400 ≤ ((400 : Nat) : Int) by decide) H))
theorem x112a19_m {G : Ctx} {h : Nat} {Q : MP} {I : Nat → Nat → Int} {J : Nat → Nat → BitVec 64} {b : B3} (hh : 2 ≤ h) (H : ∀ h, 1 ≤ h → Tri G h 112 119 119 0 [some (vr 19), some (vr 49)] [] (I, J, PP b) Q) : TriM G h 112 119 119 [vr 19, vr 49] (I, J, PP b) Q := TriM_intro (h - 1) (by omega) (by decide) (Nat.le_of_ble_eq_true rfl) (Nat.le_refl _) (Nat.le_refl _) (H (h - 1) (by omega))
set_option maxRecDepth 100000 in
theorem x112b19 {G : Ctx} {h : Nat} {Q : MP} {I : Nat → Nat → Int} {J : Nat → Nat → BitVec 64} {b : B3} (hh : 1 ≤ h) (H : Q none (u1 (u2 (u2 I 49 0 (I 19 0)) 49 2 (I 19 2)) 50 (fun j => if 0 ≤ j ∧ j < 0 + 400 then I 20 (0 + (j - 0)) else I 50 j), J, PP b)) : Tri G h 112 119 119 0 [some (vr 49), some (vr 19)] [] (I, J, PP b) Q := wp_at ck112 [] 400 (And.intro (by omega) (And.intro (show (0 : Int) ≤ 0 ∧ (0 : Int) ≤ 0 ∧ (0 : Int) ≤ 400 ∧ (0 : Int) + 400 ≤ ((400 : Nat) : Int) ∧ (0 : Int) + 400 ≤ ((400 : Nat) : Int) by decide) H))
theorem x112b19_m {G : Ctx} {h : Nat} {Q : MP} {I : Nat → Nat → Int} {J : Nat → Nat → BitVec 64} {b : B3} (hh : 2 ≤ h) (H : ∀ h, 1 ≤ h → Tri G h 112 119 119 0 [some (vr 49), some (vr 19)] [] (I, J, PP b) Q) : TriM G h 112 119 119 [vr 49, vr 19] (I, J, PP b) Q := TriM_intro (h - 1) (by omega) (by decide) (Nat.le_of_ble_eq_true rfl) (Nat.le_refl _) (Nat.le_refl _) (H (h - 1) (by omega))
set_option maxRecDepth 100000 in
theorem x129a {G : Ctx} {h : Nat} {Q : MP} {I : Nat → Nat → Int} {J : Nat → Nat → BitVec 64} {b : B3} (hh : 2 ≤ h) (H : Q none (u1 (u1 (u1 (u1 (u2 (u2 (u1 (u1 (u2 (u1 (u2 (u2 (u1 (u2 (u2 (u1 (u2 (u2 (u1 (u1 (u1 (u1 (u1 (u2 (u2 (u2 (u1 (u1 (u1 (u1 (u2 (u2 (u2 (u2 I 1 0 (I 31 0)) 2 0 (I 32 0)) 2 1 (I 32 1)) 2 2 (I 32 2)) 3 (fun j => if 0 ≤ j ∧ j < 0 + 60 then I 33 (0 + (j - 0)) else I 3 j)) 4 (fun j => if 0 ≤ j ∧ j < 0 + 60 then I 34 (0 + (j - 0)) else I 4 j)) 5 (fun j => if 0 ≤ j ∧ j < 0 + 60 then I 35 (0 + (j - 0)) else I 5 j)) 6 (fun j => if 0 ≤ j ∧ j < 0 + 144 then I 36 (0 + (j - 0)) else I 6 j)) 7 0 (I 37 0)) 7 1 (I 37 1)) 7 2 (I 37 2)) 8 (fun j => if 0 ≤ j ∧ j < 0 + 720 then I 38 (0 + (j - 0)) else I 8 j)) 9 (fun j => if 0 ≤ j ∧ j < 0 + 120 then I 39 (0 + (j - 0)) else I 9 j)) 10 (fun j => if 0 ≤ j ∧ j < 0 + 120 then I 40 (0 + (j - 0)) else I 10 j)) 11 (fun j => if 0 ≤ j ∧ j < 0 + 120 then I 41 (0 + (j - 0)) else I 11 j)) 12 (fun j => if 0 ≤ j ∧ j < 0 + 960 then I 42 (0 + (j - 0)) else I 12 j)) 13 0 (I 43 0)) 13 2 (I 43 2)) 14 (fun j => if 0 ≤ j ∧ j < 0 + 400 then I 44 (0 + (j - 0)) else I 14 j)) 16 0 (I 46 0)) 16 2 (I 46 2)) 17 (fun j => if 0 ≤ j ∧ j < 0 + 400 then I 47 (0 + (j - 0)) else I 17 j)) 19 0 (I 49 0)) 19 2 (I 49 2)) 20 (fun j => if 0 ≤ j ∧ j < 0 + 400 then I 50 (0 + (j - 0)) else I 20 j)) 22 0 (I 52 0)) 23 (fun j => if 0 ≤ j ∧ j < 0 + 24 then I 53 (0 + (j - 0)) else I 23 j)) 24 (fun j => if 0 ≤ j ∧ j < 0 + 24 then I 54 (0 + (j - 0)) else I 24 j)) 25 0 (I 55 0)) 25 1 (I 55 1)) 26 (fun j => if 0 ≤ j ∧ j < 0 + 5 then I 56 (0 + (j - 0)) else I 26 j)) 27 (fun j => if 0 ≤ j ∧ j < 0 + 6 then I 57 (0 + (j - 0)) else I 27 j)) 28 (fun j => if 0 ≤ j ∧ j < 0 + 20 then I 58 (0 + (j - 0)) else I 28 j)) 29 (fun j => if 0 ≤ j ∧ j < 0 + 24 then I 59 (0 + (j - 0)) else I 29 j), J, PP b)) : Tri G h 129 119 119 0 [some (vr 1), some (vr 31)] [] (I, J, PP b) Q := wp_at ck129 [] 400 (x119a_m (by omega) (fun h hh => x119a hh (cV_r (x22a_m (by omega) (fun h hh => x22a hh (cV_r (x112a13_m (by omega) (fun h hh => x112a13 hh (cV_r (x112a16_m (by omega) (fun h hh => x112a16 hh (cV_r (x112a19_m (by omega) (fun h hh => x112a19 hh (cV_r (x98a_m (by omega) (fun h hh => x98a hh (cV_r (x47a_m (by omega) (fun h hh => x47a hh (cV_r H)))))))))))))))))))))
theorem x129a_m {G : Ctx} {h : Nat} {Q : MP} {I : Nat → Nat → Int} {J : Nat → Nat → BitVec 64} {b : B3} (hh : 3 ≤ h) (H : ∀ h, 2 ≤ h → Tri G h 129 119 119 0 [some (vr 1), some (vr 31)] [] (I, J, PP b) Q) : TriM G h 129 119 119 [vr 1, vr 31] (I, J, PP b) Q := TriM_intro (h - 1) (by omega) (by decide) (Nat.le_of_ble_eq_true rfl) (Nat.le_refl _) (Nat.le_refl _) (H (h - 1) (by omega))
set_option maxRecDepth 100000 in
theorem x129b {G : Ctx} {h : Nat} {Q : MP} {I : Nat → Nat → Int} {J : Nat → Nat → BitVec 64} {b : B3} (hh : 2 ≤ h) (H : Q none (u1 (u1 (u1 (u1 (u2 (u2 (u1 (u1 (u2 (u1 (u2 (u2 (u1 (u2 (u2 (u1 (u2 (u2 (u1 (u1 (u1 (u1 (u1 (u2 (u2 (u2 (u1 (u1 (u1 (u1 (u2 (u2 (u2 (u2 I 31 0 (I 1 0)) 32 0 (I 2 0)) 32 1 (I 2 1)) 32 2 (I 2 2)) 33 (fun j => if 0 ≤ j ∧ j < 0 + 60 then I 3 (0 + (j - 0)) else I 33 j)) 34 (fun j => if 0 ≤ j ∧ j < 0 + 60 then I 4 (0 + (j - 0)) else I 34 j)) 35 (fun j => if 0 ≤ j ∧ j < 0 + 60 then I 5 (0 + (j - 0)) else I 35 j)) 36 (fun j => if 0 ≤ j ∧ j < 0 + 144 then I 6 (0 + (j - 0)) else I 36 j)) 37 0 (I 7 0)) 37 1 (I 7 1)) 37 2 (I 7 2)) 38 (fun j => if 0 ≤ j ∧ j < 0 + 720 then I 8 (0 + (j - 0)) else I 38 j)) 39 (fun j => if 0 ≤ j ∧ j < 0 + 120 then I 9 (0 + (j - 0)) else I 39 j)) 40 (fun j => if 0 ≤ j ∧ j < 0 + 120 then I 10 (0 + (j - 0)) else I 40 j)) 41 (fun j => if 0 ≤ j ∧ j < 0 + 120 then I 11 (0 + (j - 0)) else I 41 j)) 42 (fun j => if 0 ≤ j ∧ j < 0 + 960 then I 12 (0 + (j - 0)) else I 42 j)) 43 0 (I 13 0)) 43 2 (I 13 2)) 44 (fun j => if 0 ≤ j ∧ j < 0 + 400 then I 14 (0 + (j - 0)) else I 44 j)) 46 0 (I 16 0)) 46 2 (I 16 2)) 47 (fun j => if 0 ≤ j ∧ j < 0 + 400 then I 17 (0 + (j - 0)) else I 47 j)) 49 0 (I 19 0)) 49 2 (I 19 2)) 50 (fun j => if 0 ≤ j ∧ j < 0 + 400 then I 20 (0 + (j - 0)) else I 50 j)) 52 0 (I 22 0)) 53 (fun j => if 0 ≤ j ∧ j < 0 + 24 then I 23 (0 + (j - 0)) else I 53 j)) 54 (fun j => if 0 ≤ j ∧ j < 0 + 24 then I 24 (0 + (j - 0)) else I 54 j)) 55 0 (I 25 0)) 55 1 (I 25 1)) 56 (fun j => if 0 ≤ j ∧ j < 0 + 5 then I 26 (0 + (j - 0)) else I 56 j)) 57 (fun j => if 0 ≤ j ∧ j < 0 + 6 then I 27 (0 + (j - 0)) else I 57 j)) 58 (fun j => if 0 ≤ j ∧ j < 0 + 20 then I 28 (0 + (j - 0)) else I 58 j)) 59 (fun j => if 0 ≤ j ∧ j < 0 + 24 then I 29 (0 + (j - 0)) else I 59 j), J, PP b)) : Tri G h 129 119 119 0 [some (vr 31), some (vr 1)] [] (I, J, PP b) Q := wp_at ck129 [] 400 (x119b_m (by omega) (fun h hh => x119b hh (cV_r (x22b_m (by omega) (fun h hh => x22b hh (cV_r (x112b13_m (by omega) (fun h hh => x112b13 hh (cV_r (x112b16_m (by omega) (fun h hh => x112b16 hh (cV_r (x112b19_m (by omega) (fun h hh => x112b19 hh (cV_r (x98b_m (by omega) (fun h hh => x98b hh (cV_r (x47b_m (by omega) (fun h hh => x47b hh (cV_r H)))))))))))))))))))))
theorem x129b_m {G : Ctx} {h : Nat} {Q : MP} {I : Nat → Nat → Int} {J : Nat → Nat → BitVec 64} {b : B3} (hh : 3 ≤ h) (H : ∀ h, 2 ≤ h → Tri G h 129 119 119 0 [some (vr 31), some (vr 1)] [] (I, J, PP b) Q) : TriM G h 129 119 119 [vr 31, vr 1] (I, J, PP b) Q := TriM_intro (h - 1) (by omega) (by decide) (Nat.le_of_ble_eq_true rfl) (Nat.le_refl _) (Nat.le_refl _) (H (h - 1) (by omega))
set_option maxRecDepth 100000 in
theorem x169 {G : Ctx} {h : Nat} {Q : MP} {I : Nat → Nat → Int} {J : Nat → Nat → BitVec 64} {b : B3} {x : Int} (hh : 3 ≤ h) (H : ((x = 0) → ((((I 0 2) = 0) → (((I 0 2) = 0 ∨ (I 0 2) = 1) ∧ Q (some (vi (I 0 2))) (I, J, PP b))) ∧ (¬ ((I 0 2) = 0) → (((I 0 2) = 0 ∨ (I 0 2) = 1) ∧ Q (some (vi (I 0 2))) (u2 (u1 (u1 (u1 (u1 (u2 (u2 (u1 (u1 (u2 (u1 (u2 (u2 (u1 (u2 (u2 (u1 (u2 (u2 (u1 (u1 (u1 (u1 (u1 (u2 (u2 (u2 (u1 (u1 (u1 (u1 (u2 (u2 (u2 (u2 I 1 0 (I 31 0)) 2 0 (I 32 0)) 2 1 (I 32 1)) 2 2 (I 32 2)) 3 (fun j => if 0 ≤ j ∧ j < 0 + 60 then I 33 (0 + (j - 0)) else I 3 j)) 4 (fun j => if 0 ≤ j ∧ j < 0 + 60 then I 34 (0 + (j - 0)) else I 4 j)) 5 (fun j => if 0 ≤ j ∧ j < 0 + 60 then I 35 (0 + (j - 0)) else I 5 j)) 6 (fun j => if 0 ≤ j ∧ j < 0 + 144 then I 36 (0 + (j - 0)) else I 6 j)) 7 0 (I 37 0)) 7 1 (I 37 1)) 7 2 (I 37 2)) 8 (fun j => if 0 ≤ j ∧ j < 0 + 720 then I 38 (0 + (j - 0)) else I 8 j)) 9 (fun j => if 0 ≤ j ∧ j < 0 + 120 then I 39 (0 + (j - 0)) else I 9 j)) 10 (fun j => if 0 ≤ j ∧ j < 0 + 120 then I 40 (0 + (j - 0)) else I 10 j)) 11 (fun j => if 0 ≤ j ∧ j < 0 + 120 then I 41 (0 + (j - 0)) else I 11 j)) 12 (fun j => if 0 ≤ j ∧ j < 0 + 960 then I 42 (0 + (j - 0)) else I 12 j)) 13 0 (I 43 0)) 13 2 (I 43 2)) 14 (fun j => if 0 ≤ j ∧ j < 0 + 400 then I 44 (0 + (j - 0)) else I 14 j)) 16 0 (I 46 0)) 16 2 (I 46 2)) 17 (fun j => if 0 ≤ j ∧ j < 0 + 400 then I 47 (0 + (j - 0)) else I 17 j)) 19 0 (I 49 0)) 19 2 (I 49 2)) 20 (fun j => if 0 ≤ j ∧ j < 0 + 400 then I 50 (0 + (j - 0)) else I 20 j)) 22 0 (I 52 0)) 23 (fun j => if 0 ≤ j ∧ j < 0 + 24 then I 53 (0 + (j - 0)) else I 23 j)) 24 (fun j => if 0 ≤ j ∧ j < 0 + 24 then I 54 (0 + (j - 0)) else I 24 j)) 25 0 (I 55 0)) 25 1 (I 55 1)) 26 (fun j => if 0 ≤ j ∧ j < 0 + 5 then I 56 (0 + (j - 0)) else I 26 j)) 27 (fun j => if 0 ≤ j ∧ j < 0 + 6 then I 57 (0 + (j - 0)) else I 27 j)) 28 (fun j => if 0 ≤ j ∧ j < 0 + 20 then I 58 (0 + (j - 0)) else I 28 j)) 29 (fun j => if 0 ≤ j ∧ j < 0 + 24 then I 59 (0 + (j - 0)) else I 29 j)) 72 3 1, u1 (u1 J 70 (fun j => if j < 224 then (0#64) else J 70 j)) 71 (fun j => if j < 224 then (0#64) else J 71 j), PP b))))) ∧ (¬ (x = 0) → (Q (some (vi 1)) (u2 (u1 (u1 (u1 (u1 (u2 (u2 (u1 (u1 (u2 (u1 (u2 (u2 (u1 (u2 (u2 (u1 (u2 (u2 (u1 (u1 (u1 (u1 (u1 (u2 (u2 (u2 (u1 (u1 (u1 (u1 (u2 (u2 (u2 (u2 I 31 0 (I 1 0)) 32 0 (I 2 0)) 32 1 (I 2 1)) 32 2 (I 2 2)) 33 (fun j => if 0 ≤ j ∧ j < 0 + 60 then I 3 (0 + (j - 0)) else I 33 j)) 34 (fun j => if 0 ≤ j ∧ j < 0 + 60 then I 4 (0 + (j - 0)) else I 34 j)) 35 (fun j => if 0 ≤ j ∧ j < 0 + 60 then I 5 (0 + (j - 0)) else I 35 j)) 36 (fun j => if 0 ≤ j ∧ j < 0 + 144 then I 6 (0 + (j - 0)) else I 36 j)) 37 0 (I 7 0)) 37 1 (I 7 1)) 37 2 (I 7 2)) 38 (fun j => if 0 ≤ j ∧ j < 0 + 720 then I 8 (0 + (j - 0)) else I 38 j)) 39 (fun j => if 0 ≤ j ∧ j < 0 + 120 then I 9 (0 + (j - 0)) else I 39 j)) 40 (fun j => if 0 ≤ j ∧ j < 0 + 120 then I 10 (0 + (j - 0)) else I 40 j)) 41 (fun j => if 0 ≤ j ∧ j < 0 + 120 then I 11 (0 + (j - 0)) else I 41 j)) 42 (fun j => if 0 ≤ j ∧ j < 0 + 960 then I 12 (0 + (j - 0)) else I 42 j)) 43 0 (I 13 0)) 43 2 (I 13 2)) 44 (fun j => if 0 ≤ j ∧ j < 0 + 400 then I 14 (0 + (j - 0)) else I 44 j)) 46 0 (I 16 0)) 46 2 (I 16 2)) 47 (fun j => if 0 ≤ j ∧ j < 0 + 400 then I 17 (0 + (j - 0)) else I 47 j)) 49 0 (I 19 0)) 49 2 (I 19 2)) 50 (fun j => if 0 ≤ j ∧ j < 0 + 400 then I 20 (0 + (j - 0)) else I 50 j)) 52 0 (I 22 0)) 53 (fun j => if 0 ≤ j ∧ j < 0 + 24 then I 23 (0 + (j - 0)) else I 53 j)) 54 (fun j => if 0 ≤ j ∧ j < 0 + 24 then I 24 (0 + (j - 0)) else I 54 j)) 55 0 (I 25 0)) 55 1 (I 25 1)) 56 (fun j => if 0 ≤ j ∧ j < 0 + 5 then I 26 (0 + (j - 0)) else I 56 j)) 57 (fun j => if 0 ≤ j ∧ j < 0 + 6 then I 27 (0 + (j - 0)) else I 57 j)) 58 (fun j => if 0 ≤ j ∧ j < 0 + 20 then I 28 (0 + (j - 0)) else I 58 j)) 59 (fun j => if 0 ≤ j ∧ j < 0 + 24 then I 29 (0 + (j - 0)) else I 59 j)) 0 2 1, J, PP b)))) : Tri G h 169 119 119 0 [some (vr 0), some (vi x)] [] (I, J, PP b) Q := wp_at ck169 [] 400 (And.intro (fun q443 => And.intro (fun q445 => (H.1 q443).1 q445) (fun q446 => x129a_m (by omega) (fun h hh => x129a hh (cV_r (x57_m (by omega) (fun h hh => x57 hh (cV_r (x80_m (by omega) (fun h hh => x80 hh (cV_r ((H.1 q443).2 q446))))))))))) (fun q444 => x129b_m (by omega) (fun h hh => x129b hh (cV_r (And.intro (show (1 : Int) = 0 ∨ (1 : Int) = 1 by decide) (And.intro (show (1 : Int) = 0 ∨ (1 : Int) = 1 by decide) (H.2 q444)))))))
theorem x169_m {G : Ctx} {h : Nat} {Q : MP} {I : Nat → Nat → Int} {J : Nat → Nat → BitVec 64} {b : B3} {x : Int} (hh : 4 ≤ h) (H : ∀ h, 3 ≤ h → Tri G h 169 119 119 0 [some (vr 0), some (vi x)] [] (I, J, PP b) Q) : TriM G h 169 119 119 [vr 0, vi x] (I, J, PP b) Q := TriM_intro (h - 1) (by omega) (by decide) (Nat.le_of_ble_eq_true rfl) (Nat.le_refl _) (Nat.le_refl _) (H (h - 1) (by omega))
set_option maxRecDepth 100000 in
theorem x266 {G : Ctx} {h : Nat} {Q : MP} {I : Nat → Nat → Int} {J : Nat → Nat → BitVec 64} {b : B3} {x : Int} (hh : 0 ≤ h) (H : ((¬ x = 0) → (Tri G h 266 119 119 15 [some (vr 91), some (vi x), some (vi 0)] [] (I, J, PP b) Q)) ∧ (¬ (¬ x = 0) → (((¬ (I 91 2) = 0) → (Tri G h 266 119 119 15 [some (vr 91), some (vi x), some (vi 0)] [] (I, J, PP b) Q)) ∧ (¬ (¬ (I 91 2) = 0) → (Q (some (vi 0)) (I, J, PP b)))))) : Tri G h 266 119 119 0 [some (vr 91), some (vi x)] [] (I, J, PP b) Q := wp_at ck266 [(15, [true, true, true])] 400 (And.intro (fun q447 => H.1 q447) (fun q448 => And.intro (fun q449 => (H.2 q448).1 q449) (fun q450 => And.intro (show (0 : Int) = 0 ∨ (0 : Int) = 1 by decide) ((H.2 q448).2 q450))))
set_option maxRecDepth 100000 in
theorem x266_15 {G : Ctx} {h : Nat} {Q : MP} {I : Nat → Nat → Int} {J : Nat → Nat → BitVec 64} {b : B3} {l1 l2 : Int} (hh : 0 ≤ h) (H : ((5120 ≤ l2) → (Q (some (vi 1)) (u2 I 91 2 1, J, PP b))) ∧ (¬ (5120 ≤ l2) → (((l1 = 0) → ((0 ≤ l2 ∧ l2 < (5120 : Int)) ∧ ((0 ≤ l2 ∧ l2 < (5120 : Int)) ∧ (Tri G h 266 119 119 15 [some (vr 91), some (vi l1), some (vi (w32 (l2 + 1)))] [] (u2 I 92 l2.toNat (I 93 l2.toNat), J, PP b) Q)))) ∧ (¬ (l1 = 0) → ((0 ≤ l2 ∧ l2 < (5120 : Int)) ∧ ((0 ≤ l2 ∧ l2 < (5120 : Int)) ∧ (Tri G h 266 119 119 15 [some (vr 91), some (vi l1), some (vi (w32 (l2 + 1)))] [] (u2 I 93 l2.toNat (I 92 l2.toNat), J, PP b) Q))))))) : Tri G h 266 119 119 15 [some (vr 91), some (vi l1), some (vi l2)] [] (I, J, PP b) Q := wp_at ck266 [(15, [true, true, true])] 400 (And.intro (fun q451 => And.intro (show (1 : Int) = 0 ∨ (1 : Int) = 1 by decide) (And.intro (show (1 : Int) = 0 ∨ (1 : Int) = 1 by decide) (H.1 q451))) (fun q452 => H.2 q452))
theorem x266_m {G : Ctx} {h : Nat} {Q : MP} {I : Nat → Nat → Int} {J : Nat → Nat → BitVec 64} {b : B3} {x : Int} (hh : 1 ≤ h) (H : ∀ h, 0 ≤ h → Tri G h 266 119 119 0 [some (vr 91), some (vi x)] [] (I, J, PP b) Q) : TriM G h 266 119 119 [vr 91, vi x] (I, J, PP b) Q := TriM_intro (h - 1) (by omega) (by decide) (Nat.le_of_ble_eq_true rfl) (Nat.le_refl _) (Nat.le_refl _) (H (h - 1) (by omega))
theorem txt_cp {t s w q k : Nat} {I I' : MI} {home : Bool} {p : List Lin} (h : rTxt t w k I home p) (s0 : I' s 0 = I t 0) (s2 : I' s 2 = I t 2) (r : ∀ j, j < 400 → I' (s + 1) j = I (t + 1) j) (hw : ∀ j, j < 5120 → I' q j = I w j) (hk : k < 3) : rTxt s q k I' home p := by
  obtain ⟨a1, a2, a3, a4, a5, a6, a7, a8⟩ := h
  refine ⟨by rw [s0]; exact a1, by rw [s2]; exact a2, fun i x hx => ?_, by rw [hw _ (by omega)]; exact a4, fun i x hx => ?_, fun i x hx => ?_, a7, a8⟩
  · have hi := (List.getElem?_eq_some_iff.1 hx).1
    rw [r _ (by omega)]
    exact a3 i x hx
  · have hi := (List.getElem?_eq_some_iff.1 hx).1
    rw [hw _ (by omega), hw _ (by omega), hw _ (by omega)]
    exact a5 i x hx
  · have hi := (List.getElem?_eq_some_iff.1 hx).1
    rw [hw _ (by omega), hw _ (by omega)]
    exact a6 i x hx
theorem cpy_0 {f : MI} {k : Nat} {g : Nat → Int} : u1 f k (fun j => if j < 0 then g j else f k j) = f := by
  have : (fun j => if j < 0 then g j else f k j) = f k := by funext j; rw [if_neg (by omega)]
  rw [this, u1_same]
theorem cpy_s {f : MI} {k i : Nat} {g : Nat → Int} : u2 (u1 f k (fun j => if j < i then g j else f k j)) k i (g i) = u1 f k (fun j => if j < i + 1 then g j else f k j) := by
  funext a c
  by_cases h : a = k
  · subst h
    rw [u1e]
    by_cases hc : c = i
    · subst hc
      rw [u2e, if_pos (by omega)]
    · rw [u2j hc, u1e]
      by_cases h2 : c < i
      · rw [if_pos h2, if_pos (by omega)]
      · rw [if_neg h2, if_neg (by omega)]
  · rw [u2n h, u1n h, u1n h]
/-- a world copied -/
def cpW (o p : Nat) (I I' : MI) : Prop := I' (p + 1) 0 = I (o + 1) 0 ∧ I' (p + 2) 0 = I (o + 2) 0 ∧ I' (p + 2) 1 = I (o + 2) 1 ∧ I' (p + 2) 2 = I (o + 2) 2 ∧ I' (p + 7) 0 = I (o + 7) 0 ∧ I' (p + 7) 1 = I (o + 7) 1 ∧ I' (p + 7) 2 = I (o + 7) 2 ∧ I' (p + 13) 0 = I (o + 13) 0 ∧ I' (p + 13) 2 = I (o + 13) 2 ∧ I' (p + 16) 0 = I (o + 16) 0 ∧ I' (p + 16) 2 = I (o + 16) 2 ∧ I' (p + 19) 0 = I (o + 19) 0 ∧ I' (p + 19) 2 = I (o + 19) 2 ∧ I' (p + 22) 0 = I (o + 22) 0 ∧ I' (p + 25) 0 = I (o + 25) 0 ∧ I' (p + 25) 1 = I (o + 25) 1 ∧ (∀ j, j < 60 → I' (p + 3) j = I (o + 3) j) ∧ (∀ j, j < 60 → I' (p + 4) j = I (o + 4) j) ∧ (∀ j, j < 60 → I' (p + 5) j = I (o + 5) j) ∧ (∀ j, j < 144 → I' (p + 6) j = I (o + 6) j) ∧ (∀ j, j < 720 → I' (p + 8) j = I (o + 8) j) ∧ (∀ j, j < 120 → I' (p + 9) j = I (o + 9) j) ∧ (∀ j, j < 120 → I' (p + 10) j = I (o + 10) j) ∧ (∀ j, j < 120 → I' (p + 11) j = I (o + 11) j) ∧ (∀ j, j < 960 → I' (p + 12) j = I (o + 12) j) ∧ (∀ j, j < 400 → I' (p + 14) j = I (o + 14) j) ∧ (∀ j, j < 400 → I' (p + 17) j = I (o + 17) j) ∧ (∀ j, j < 400 → I' (p + 20) j = I (o + 20) j) ∧ (∀ j, j < 24 → I' (p + 23) j = I (o + 23) j) ∧ (∀ j, j < 24 → I' (p + 24) j = I (o + 24) j) ∧ (∀ j, j < 5 → I' (p + 26) j = I (o + 26) j) ∧ (∀ j, j < 6 → I' (p + 27) j = I (o + 27) j) ∧ (∀ j, j < 20 → I' (p + 28) j = I (o + 28) j) ∧ (∀ j, j < 24 → I' (p + 29) j = I (o + 29) j)
theorem RW.cp {o p w q : Nat} {I I' : MI} (h : RW o w I) (hc : cpW o p I I') (hw : ∀ j, j < 5120 → I' q j = I w j) : RW p q I' := by
  obtain ⟨⟨a1, a2, a3, a4, a5⟩, ⟨b1, b2, b3, b4⟩, ⟨c1, c2⟩, ⟨d1, d2, d3, d4, d5, d6⟩, ⟨p0, p1, p2, t0, t1, t2⟩, hz⟩ := h
  obtain ⟨s1a, s2a, s2b, s2c, s7a, s7b, s7c, s13a, s13c, s16a, s16c, s19a, s19c, s22a, s25a, s25b, r3, r4, r5, r6, r8, r9, r10, r11, r12, r14, r17, r20, r23, r24, r26, r27, r28, r29⟩ := hc
  refine ⟨⟨?_, ?_, ?_, fun e e1 e2 => ?_, fun x y x1 x2 y1 y2 n => ?_⟩, ⟨?_, ?_, ?_, fun e e1 e2 => ?_⟩, ⟨?_, fun i i1 i2 => ?_⟩, ⟨?_, ?_, fun i i1 i2 => ?_, fun i i1 i2 => ?_, fun i d i1 i2 d1 d2 => ?_, fun i d i1 i2 d1 d2 => ?_⟩, ⟨p0, p1, p2, ?_, ?_, ?_⟩, ?_⟩
  · rw [s2a, hw 3 (by omega)]; exact a1
  · rw [s2b, hw 1 (by omega)]; exact a2
  · rw [s2c, hw 2 (by omega)]; exact a3
  · rw [s2a] at e2
    rw [r3 _ (by omega), r4 _ (by omega), r5 _ (by omega), hw _ (by omega), hw _ (by omega), hw _ (by omega)]
    exact a4 e e1 e2
  · rw [r6 _ (by omega), r6 _ (by omega), hw _ (by omega)]
    exact a5 x y x1 x2 y1 y2 n
  · rw [s7a, hw 4 (by omega)]; exact b1
  · rw [s7b, hw 5 (by omega)]; exact b2
  · rw [s7c, s7b, hw 6 (by omega)]; exact b3
  · rw [s7a] at e2
    obtain ⟨f1, f2, f3, f4, f5, f6⟩ := b4 e e1 e2
    unfold rEnt
    rw [r8 _ (by omega), r8 _ (by omega), r8 _ (by omega), r8 _ (by omega), r8 _ (by omega), r8 _ (by omega), r9 _ (by omega), r10 _ (by omega), r11 _ (by omega), s2a, s7b, hw _ (by omega), hw _ (by omega), hw _ (by omega), hw _ (by omega), hw _ (by omega), hw _ (by omega), hw _ (by omega), hw _ (by omega), hw _ (by omega)]
    refine ⟨f1, f2, f3, f4, f5, fun k k1 k2 => ?_⟩
    rw [hw _ (by omega), r12 _ (by omega)]
    exact f6 k k1 k2
  · rw [s22a, hw 7 (by omega)]; exact c1
  · rw [s22a] at i2
    rw [r23 _ (by omega), r24 _ (by omega), s2a, hw _ (by omega), hw _ (by omega)]
    exact c2 i i1 i2
  · rw [s25a, hw 8 (by omega)]; exact d1
  · rw [s25b, hw 9 (by omega)]; exact d2
  · rw [r26 _ (by omega), hw _ (by omega)]; exact d3 i i1 i2
  · rw [r27 _ (by omega), hw _ (by omega)]; exact d4 i i1 i2
  · rw [r28 _ (by omega), hw _ (by omega)]; exact d5 i d i1 i2 d1 d2
  · rw [r29 _ (by omega), hw _ (by omega)]; exact d6 i d i1 i2 d1 d2
  · exact txt_cp t0 s13a s13c r14 hw (by omega)
  · exact txt_cp t1 s16a s16c r17 hw (by omega)
  · exact txt_cp t2 s19a s19c r20 hw (by omega)
  · rw [s1a, hw 0 (by omega)]; exact hz
section PUBF
variable {G : Ctx} {h n : Nat} {I : MI} {J : MJ} {b : B3} {x y z u v : Int}
theorem s266_92 {K : Int → MI → MJ → B3 → Prop} (hx : x = 0) (k : K 1 (u2 (u1 I 92 (fun j => if j < 5120 then I 93 j else I 92 j)) 91 2 1) J b) : ∀ (m i : Nat), i + m = 5120 → Tri G h 266 119 119 15 [some (vr 91), some (vi x), some (vi i)] [] (u1 I 92 (fun j => if j < i then I 93 j else I 92 j), J, PP b) (cIN K) := by
  intro m
  induction m with
  | zero =>
    intro i hi
    refine x266_15 (Nat.zero_le _) ⟨fun q => cIN_r fun _ => ?_, fun q => by omega⟩
    rw [show i = 5120 by omega]
    exact k
  | succ m ih =>
    intro i hi
    refine x266_15 (Nat.zero_le _) ⟨fun q => by omega, fun q => ?_⟩
    rw [w32_id (by omega) (by omega), show ((i : Int)).toNat = i by omega, u1n (k := 92) (a := 93) (by decide), cpy_s]
    exact ⟨fun q2 => ⟨by omega, by omega, ih (i + 1) (by omega)⟩, fun q2 => absurd hx q2⟩
theorem s266_93 {K : Int → MI → MJ → B3 → Prop} (hx : ¬ x = 0) (k : K 1 (u2 (u1 I 93 (fun j => if j < 5120 then I 92 j else I 93 j)) 91 2 1) J b) : ∀ (m i : Nat), i + m = 5120 → Tri G h 266 119 119 15 [some (vr 91), some (vi x), some (vi i)] [] (u1 I 93 (fun j => if j < i then I 92 j else I 93 j), J, PP b) (cIN K) := by
  intro m
  induction m with
  | zero =>
    intro i hi
    refine x266_15 (Nat.zero_le _) ⟨fun q => cIN_r fun _ => ?_, fun q => by omega⟩
    rw [show i = 5120 by omega]
    exact k
  | succ m ih =>
    intro i hi
    refine x266_15 (Nat.zero_le _) ⟨fun q => by omega, fun q => ?_⟩
    rw [w32_id (by omega) (by omega), show ((i : Int)).toNat = i by omega, u1n (k := 93) (a := 92) (by decide), cpy_s]
    exact ⟨fun q2 => absurd q2 hx, fun q2 => ⟨by omega, by omega, ih (i + 1) (by omega)⟩⟩
theorem pub_image (hI : INV n I J) (hn : n < 64) (hh : 40 ≤ h) : PairI G h 169 266 [vi x] (n + 1) I J b := by
  have hI2 := hI.suc hn
  have back : x = 0 → I 0 2 = 1 → ∀ (I' : MI) (J' : MJ), cpW 30 0 I I' → (∀ k, k = 0 ∨ 30 ≤ k → k ≠ 72 → I' k = I k) → I' 72 3 = 1 → (∀ j, j < 224 → J' 70 j = 0#64) → (∀ j, j < 224 → J' 71 j = 0#64) → (∀ k, k = 77 ∨ k = 109 → J' k = J k) → cIN (fun x_1 I1 J1 b1 => TriM G h 266 119 119 [vr 91, vi x] (I1, J1, PP b1) (cIN fun y I2 J2 _ => x_1 = y ∧ INV (n + 1) I2 J2)) (some (vi (I 0 2))) (I', J', PP b) := by
    intro hx hk I' J' hc hf h72 j70 j71 hj
    rw [hk]
    obtain ⟨p0, p1, p2, ⟨a1, a2, a3, a4, a5⟩, ⟨t0, t1, t2⟩, hl_, hp, htp, hf_, ⟨k1, k2, k3⟩, hc_, hcc⟩ := hI.suc hn
    have hr := k3 hk
    refine cIN_r fun _ => x266_m (by omega) (fun h2 hh2 => x266 hh2 ⟨fun q => absurd hx q, fun q => ⟨fun q2 => ?_, fun q2 => absurd (show ¬ I' 91 2 = 0 by rw [hf 91 (by omega) (by omega)]; omega) q2⟩⟩)
    have hl := s266_92 (G := G) (h := h2) (I := I') (J := J') (b := b) (K := fun y I2 J2 _ => 1 = y ∧ INV (n + 1) I2 J2) hx ⟨rfl, ?_⟩ 5120 0 rfl
    · rw [cpy_0] at hl
      exact hl
    have h92 : ∀ j, j < 5120 → (u2 (u1 I' 92 (fun j => if j < 5120 then I' 93 j else I' 92 j)) 91 2 1) 92 j = I 93 j := by
      intro j hj5
      simp (disch := omega) only [u2n, u1e]
      rw [if_pos hj5, hf 93 (by omega) (by omega)]
    have hcc2 : cpW 30 0 I (u2 (u1 I' 92 (fun j => if j < 5120 then I' 93 j else I' 92 j)) 91 2 1) := by
      unfold cpW at hc ⊢
      simp (disch := omega) only [Nat.reduceAdd, u2n, u1n] at hc ⊢
      exact hc
    have hrw := hr.cp hcc2 h92
    obtain ⟨g1, g2, g3, g4, ⟨q0, q1, q2, v0, v1, v2⟩, g6⟩ := hrw
    have fr : ∀ k, k = 0 ∨ 30 ≤ k → k ≠ 72 → k ≠ 91 → k ≠ 92 → (u2 (u1 I' 92 (fun j => if j < 5120 then I' 93 j else I' 92 j)) 91 2 1) k = I k := by
      intro k e1 e2 e3 e4
      rw [u2_ne e3, u1_ne e4, hf k e1 e2]
    have f91 : ∀ j, j ≠ 2 → (u2 (u1 I' 92 (fun j => if j < 5120 then I' 93 j else I' 92 j)) 91 2 1) 91 j = I 91 j := by
      intro j e1
      rw [u2j e1, u1n (by decide), hf 91 (by omega) (by omega)]
    have f912 : (u2 (u1 I' 92 (fun j => if j < 5120 then I' 93 j else I' 92 j)) 91 2 1) 91 2 = 1 := u2e
    have f71 : (u2 (u1 I' 92 (fun j => if j < 5120 then I' 93 j else I' 92 j)) 91 2 1) 7 1 = I 37 1 := by
      have e := hcc2
      unfold cpW at e
      exact e.2.2.2.2.2.1
    refine ⟨q0, q1, q2, ⟨g1, g2, g3, g4, g6⟩, ⟨v0, v1, v2⟩, likI.st j70 j71, perI.st (by simp (disch := omega) only [u2n, u1n]; exact h72), htp.fr (by rw [fr 0 (by omega) (by omega) (by omega) (by omega)]) (f91 11 (by omega)) (fr 96 (by omega) (by omega) (by omega) (by omega)) (fr 61 (by omega) (by omega) (by omega) (by omega)), ?_, ?_, ?_, ?_⟩
    · rw [f91 18 (by omega), f91 20 (by omega), fr 0 (by omega) (by omega) (by omega) (by omega)]; exact hf_
    · rw [f912, fr 0 (by omega) (by omega) (by omega) (by omega)]
      exact ⟨k1, by omega, fun _ => hr.fr (fun k hk2 => fr k (by omega) (by omega) (by omega) (by omega)) (fr 93 (by omega) (by omega) (by omega) (by omega))⟩
    · unfold choI; rw [hj 109 (by omega)]; exact hc_
    · rw [f71, fr 0 (by omega) (by omega) (by omega) (by omega), fr 37 (by omega) (by omega) (by omega) (by omega)]
      exact ⟨hcc.2.1 hk, hcc.2.1, hcc.2.2⟩
  have take : ¬ x = 0 → ∀ (I' : MI), cpW 0 30 I I' → (∀ k, (1 ≤ k ∧ k < 30) ∨ 60 ≤ k → I' k = I k) → (∀ j, j ≠ 2 → I' 0 j = I 0 j) → I' 0 2 = 1 → cIN (fun x_1 I1 J1 b1 => TriM G h 266 119 119 [vr 91, vi x] (I1, J1, PP b1) (cIN fun y I2 J2 _ => x_1 = y ∧ INV (n + 1) I2 J2)) (some (vi 1)) (I', J, PP b) := by
    intro hx I' hc hf hf0 hf02
    obtain ⟨p0, p1, p2, ⟨a1, a2, a3, a4, a5⟩, ⟨t0, t1, t2⟩, hl_, hp, htp, hf_, ⟨k1, k2, k3⟩, hc_, hcc⟩ := hI.suc hn
    refine cIN_r fun _ => x266_m (by omega) (fun h2 hh2 => x266 hh2 ⟨fun q => ?_, fun q => absurd hx q⟩)
    have hl := s266_93 (G := G) (h := h2) (I := I') (J := J) (b := b) (K := fun y I2 J2 _ => 1 = y ∧ INV (n + 1) I2 J2) hx ⟨rfl, ?_⟩ 5120 0 rfl
    · rw [cpy_0] at hl
      exact hl
    have h93 : ∀ j, j < 5120 → (u2 (u1 I' 93 (fun j => if j < 5120 then I' 92 j else I' 93 j)) 91 2 1) 93 j = I 92 j := by
      intro j hj5
      simp (disch := omega) only [u2n, u1e]
      rw [if_pos hj5, hf 92 (by omega)]
    have hcc2 : cpW 0 30 I (u2 (u1 I' 93 (fun j => if j < 5120 then I' 92 j else I' 93 j)) 91 2 1) := by
      unfold cpW at hc ⊢
      simp (disch := omega) only [Nat.reduceAdd, u2n, u1n] at hc ⊢
      exact hc
    have hrw := RW.cp (o := 0) (p := 30) (w := 92) (q := 93) ⟨a1, a2, a3, a4, ⟨p0, p1, p2, t0, t1, t2⟩, a5⟩ hcc2 h93
    have fr : ∀ k, (1 ≤ k ∧ k < 30) ∨ 60 ≤ k → k ≠ 91 → k ≠ 93 → (u2 (u1 I' 93 (fun j => if j < 5120 then I' 92 j else I' 93 j)) 91 2 1) k = I k := by
      intro k e1 e2 e3
      rw [u2_ne e2, u1_ne e3, hf k e1]
    have f91 : ∀ j, j ≠ 2 → (u2 (u1 I' 93 (fun j => if j < 5120 then I' 92 j else I' 93 j)) 91 2 1) 91 j = I 91 j := by
      intro j e1
      rw [u2j e1, u1n (by decide), hf 91 (by omega)]
    have f912 : (u2 (u1 I' 93 (fun j => if j < 5120 then I' 92 j else I' 93 j)) 91 2 1) 91 2 = 1 := u2e
    have f0 : ∀ j, j ≠ 2 → (u2 (u1 I' 93 (fun j => if j < 5120 then I' 92 j else I' 93 j)) 91 2 1) 0 j = I 0 j := by
      intro j e1
      rw [u2n (by decide), u1n (by decide), hf0 j e1]
    have f02 : (u2 (u1 I' 93 (fun j => if j < 5120 then I' 92 j else I' 93 j)) 91 2 1) 0 2 = 1 := by
      rw [u2n (by decide), u1n (by decide), hf02]
    have f371 : (u2 (u1 I' 93 (fun j => if j < 5120 then I' 92 j else I' 93 j)) 91 2 1) 37 1 = I 7 1 := by
      have e := hcc2
      unfold cpW at e
      exact e.2.2.2.2.2.1
    have g : ∀ k, ((1 ≤ k ∧ k < 30) ∨ 60 ≤ k) ∧ k ≠ 91 ∧ k ≠ 93 → (u2 (u1 I' 93 (fun j => if j < 5120 then I' 92 j else I' 93 j)) 91 2 1) k = I k := fun k q => fr k q.1 q.2.1 q.2.2
    have e92 := g 92 (by omega)
    refine ⟨p0, p1, p2, ⟨a1.fr (g 2 (by omega)) (g 3 (by omega)) (g 4 (by omega)) (g 5 (by omega)) (g 6 (by omega)) (fun j _ => by rw [e92]), a2.fr (by rw [g 2 (by omega)]; exact Int.le_refl _) (g 7 (by omega)) (g 8 (by omega)) (g 9 (by omega)) (g 10 (by omega)) (g 11 (by omega)) (g 12 (by omega)) (fun j _ => by rw [e92]), a3.fr (by rw [g 2 (by omega)]; exact Int.le_refl _) (g 22 (by omega)) (g 23 (by omega)) (g 24 (by omega)) (fun j _ => by rw [e92]), a4.fr (g 25 (by omega)) (g 26 (by omega)) (g 27 (by omega)) (g 28 (by omega)) (g 29 (by omega)) (fun j _ => by rw [e92]), by rw [e92, g 1 (by omega)]; exact a5⟩, ⟨t0.fr (g 13 (by omega)) (g 14 (by omega)) (fun j _ => by rw [e92]), t1.fr (g 16 (by omega)) (g 17 (by omega)) (fun j _ => by rw [e92]), t2.fr (g 19 (by omega)) (g 20 (by omega)) (fun j _ => by rw [e92])⟩, hl_.fr (g 3 (by omega)) (g 4 (by omega)) (g 6 (by omega)) (by rw [g 7 (by omega)]) (g 8 (by omega)) (g 11 (by omega)) (g 12 (by omega)) rfl rfl, hp.fr (g 3 (by omega)) (g 4 (by omega)) (g 6 (by omega)) (g 7 (by omega)) (g 8 (by omega)) (g 9 (by omega)) (g 10 (by omega)) (g 11 (by omega)) (g 12 (by omega)) (g 72 (by omega)) (g 73 (by omega)) (g 74 (by omega)) (g 75 (by omega)) (g 76 (by omega)) rfl, htp.fr (f0 4 (by omega)) (f91 11 (by omega)) (g 96 (by omega)) (g 61 (by omega)), ?_, ?_, hc_, ?_⟩
    · rw [f91 18 (by omega), f91 20 (by omega), f0 5 (by omega), f0 6 (by omega)]; exact hf_
    · rw [f912, f02]
      exact ⟨Or.inr rfl, rfl, fun _ => hrw⟩
    · rw [g 7 (by omega), f371]
      exact ⟨hcc.1, fun _ => hcc.1, hcc.2.2⟩
  have h02 : I 0 2 = 0 ∨ I 0 2 = 1 := by
    obtain ⟨p0, p1, p2, -, -, -, -, -, -, ⟨k1, -⟩, -⟩ := hI
    exact k1
  have h912 : I 91 2 = I 0 2 := by
    obtain ⟨p0, p1, p2, -, -, -, -, -, -, ⟨-, k1, -⟩, -⟩ := hI
    exact k1
  refine x169_m (by omega) (fun h2 hh2 => x169 hh2 ⟨fun q => ⟨fun q2 => ⟨h02, ?_⟩, fun q2 => ⟨h02, back q (by omega) _ _ ?_ ?_ ?_ ?_ ?_ ?_⟩⟩, fun q => take q _ ?_ ?_ ?_ ?_⟩)
  · rw [q2]
    exact cIN_r fun _ => x266_m (by omega) (fun h2 hh2 => x266 hh2 ⟨fun q3 => absurd q q3, fun q3 => ⟨fun q4 => by omega, fun q4 => cIN_r fun _ => ⟨rfl, hI2⟩⟩⟩)
  · unfold cpW
    refine ⟨?_, ?_, ?_, ?_, ?_, ?_, ?_, ?_, ?_, ?_, ?_, ?_, ?_, ?_, ?_, ?_, ?_, ?_, ?_, ?_, ?_, ?_, ?_, ?_, ?_, ?_, ?_, ?_, ?_, ?_, ?_, ?_, ?_, ?_⟩
    all_goals first
      | (intro j hj; simp (disch := omega) only [Nat.reduceAdd, u1n, u2n, u1e, u2j]; rw [if_pos ⟨Nat.zero_le _, by omega⟩, Nat.zero_add, Nat.sub_zero])
      | (simp (disch := omega) only [Nat.reduceAdd, u1n, u2n, u2e, u2j])
  · intro k e1 e2
    simp (disch := omega) only [u1_ne, u2_ne]
  · exact u2e
  · intro j hj; simp (disch := omega) only [u1n, u1e]; rw [if_pos hj]
  · intro j hj; simp (disch := omega) only [u1n, u1e]; rw [if_pos hj]
  · intro k e1
    simp (disch := omega) only [u1_ne]
  · unfold cpW
    refine ⟨?_, ?_, ?_, ?_, ?_, ?_, ?_, ?_, ?_, ?_, ?_, ?_, ?_, ?_, ?_, ?_, ?_, ?_, ?_, ?_, ?_, ?_, ?_, ?_, ?_, ?_, ?_, ?_, ?_, ?_, ?_, ?_, ?_, ?_⟩
    all_goals first
      | (intro j hj; simp (disch := omega) only [Nat.reduceAdd, u1n, u2n, u1e, u2j]; rw [if_pos ⟨Nat.zero_le _, by omega⟩, Nat.zero_add, Nat.sub_zero])
      | (simp (disch := omega) only [Nat.reduceAdd, u1n, u2n, u2e, u2j])
  · intro k e1
    simp (disch := omega) only [u1_ne, u2_ne]
  · intro j e1
    simp (disch := omega) only [u1n, u2n, u2j]
  · exact u2e
end PUBF
