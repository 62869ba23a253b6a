/-! the reference's words -/
def seeV (T : Int) (f : Nat → Int) (k : Int) : Int := if k < T then f k.toNat else -1
theorem sx199 {G : Ctx} {h : Nat} {I : MI} {J : MJ} {b : B3} {K : Int → MS → Prop} {k : Int} (hh : 1 ≤ h) (g : 0 ≤ k ∧ I 91 11 ≤ 400) (kk : K (seeV (I 91 11) (I 96) k) (I, J, PP b)) : TriM G h 199 119 119 [vr 91, vi k] (I, J, PP b) (cI' K) := by
  unfold seeV at kk
  refine x199_m hh (fun h hh => x199 (by omega) ?_)
  repeat' (first | apply And.intro | intro _)
  all_goals first | omega | (rw [if_pos (by omega)] at kk; exact cI_r kk) | (rw [if_neg (by omega)] at kk; exact cI_r kk)
theorem wq_len {f : Nat → Int} {e : Nat} : ∀ {i : Nat} {w : List Int}, wq f e i w = true → e = i + w.length
  | i, [], h => by
    unfold wq at h
    rw [decide_eq_true_eq] at h
    simp
    omega
  | i, c :: r, h => by
    unfold wq at h
    simp only [Bool.and_eq_true, decide_eq_true_eq] at h
    have := wq_len h.2.2
    rw [List.length_cons]
    omega
set_option maxRecDepth 100000 in
theorem x202_3 {G : Ctx} {h : Nat} {Q : MP} {I : Nat → Nat → Int} {J : Nat → Nat → BitVec 64} {b : B3} (hh : 2 ≤ h) (H : ((¬ (w32 ((I 91 12) - (I 91 14))) = 4) → (Tri G h 202 119 119 24 [some (vr 91), some (vr 2003), some (vi 0), some (vi 0)] [] (I, J, PP b) Q)) ∧ (¬ (¬ (w32 ((I 91 12) - (I 91 14))) = 4) → (Tri G h 202 119 119 24 [some (vr 91), some (vr 2003), some (vi 1), some (vi 0)] [] (I, J, PP b) Q))) : Tri G h 202 119 119 0 [some (vr 91), some (vr 2003)] [] (I, J, PP b) Q := wp_at ck202 [(24, [true, true, true, true])] 400 (sl4_3 (by omega)  H)
set_option maxRecDepth 100000 in
theorem x202_3_24 {G : Ctx} {h : Nat} {Q : MP} {I : Nat → Nat → Int} {J : Nat → Nat → BitVec 64} {b : B3} {l2 l3 : Int} (hh : 4 ≤ h) (H : ((4 ≤ l3) → ((l2 = 0 ∨ l2 = 1) ∧ Q (some (vi l2)) (I, J, PP b))) ∧ (¬ (4 ≤ l3) → (((l2 = 0) → ((l2 = 0 ∨ l2 = 1) ∧ Q (some (vi l2)) (I, J, PP b))) ∧ (¬ (l2 = 0) → ((0 ≤ (w32 ((I 91 14) + l3)) ∧ (w32 ((I 91 14) + l3)) < (400 : Int)) ∧ ((0 ≤ l3 ∧ l3 < (4 : Int)) ∧ (((¬ (I 96 ((w32 ((I 91 14) + l3)).toNat)) = (stC 3 l3.toNat)) → (Tri G h 202 119 119 24 [some (vr 91), some (vr 2003), some (vi 0), some (vi (w32 (l3 + 1)))] [] (I, J, PP b) Q)) ∧ (¬ (¬ (I 96 ((w32 ((I 91 14) + l3)).toNat)) = (stC 3 l3.toNat)) → (Tri G h 202 119 119 24 [some (vr 91), some (vr 2003), some (vi 1), some (vi (w32 (l3 + 1)))] [] (I, J, PP b) Q))))))))) : Tri G h 202 119 119 24 [some (vr 91), some (vr 2003), some (vi l2), some (vi l3)] [] (I, J, PP b) Q := wp_at ck202 [(24, [true, true, true, true])] 400 (sl4_3 (by omega)  (And.intro (fun q1827 => H.1 q1827) (fun q1828 => And.intro (fun q1829 => (H.2 q1828).1 q1829) (fun q1830 => And.intro ((H.2 q1828).2 q1830).1 (sc6_3 (by omega) (((H.2 q1828).2 q1830).2).1 ((((H.2 q1828).2 q1830).2).2))))))
theorem x202_3_m {G : Ctx} {h : Nat} {Q : MP} {I : Nat → Nat → Int} {J : Nat → Nat → BitVec 64} {b : B3} (hh : 5 ≤ h) (H : ∀ h, 4 ≤ h → Tri G h 202 119 119 0 [some (vr 91), some (vr 2003)] [] (I, J, PP b) Q) : TriM G h 202 119 119 [vr 91, vr 2003] (I, J, PP b) Q := TriM_intro (h - 1) (by omega) (by decide) (Nat.le_of_ble_eq_true rfl) (Nat.le_refl _) (Nat.le_refl _) (H (h - 1) (by omega))
set_option maxRecDepth 100000 in
theorem x202_4 {G : Ctx} {h : Nat} {Q : MP} {I : Nat → Nat → Int} {J : Nat → Nat → BitVec 64} {b : B3} (hh : 2 ≤ h) (H : ((¬ (w32 ((I 91 12) - (I 91 14))) = 2) → (Tri G h 202 119 119 24 [some (vr 91), some (vr 2004), some (vi 0), some (vi 0)] [] (I, J, PP b) Q)) ∧ (¬ (¬ (w32 ((I 91 12) - (I 91 14))) = 2) → (Tri G h 202 119 119 24 [some (vr 91), some (vr 2004), some (vi 1), some (vi 0)] [] (I, J, PP b) Q))) : Tri G h 202 119 119 0 [some (vr 91), some (vr 2004)] [] (I, J, PP b) Q := wp_at ck202 [(24, [true, true, true, true])] 400 (sl4_4 (by omega)  H)
set_option maxRecDepth 100000 in
theorem x202_4_24 {G : Ctx} {h : Nat} {Q : MP} {I : Nat → Nat → Int} {J : Nat → Nat → BitVec 64} {b : B3} {l2 l3 : Int} (hh : 4 ≤ h) (H : ((2 ≤ l3) → ((l2 = 0 ∨ l2 = 1) ∧ Q (some (vi l2)) (I, J, PP b))) ∧ (¬ (2 ≤ l3) → (((l2 = 0) → ((l2 = 0 ∨ l2 = 1) ∧ Q (some (vi l2)) (I, J, PP b))) ∧ (¬ (l2 = 0) → ((0 ≤ (w32 ((I 91 14) + l3)) ∧ (w32 ((I 91 14) + l3)) < (400 : Int)) ∧ ((0 ≤ l3 ∧ l3 < (2 : Int)) ∧ (((¬ (I 96 ((w32 ((I 91 14) + l3)).toNat)) = (stC 4 l3.toNat)) → (Tri G h 202 119 119 24 [some (vr 91), some (vr 2004), some (vi 0), some (vi (w32 (l3 + 1)))] [] (I, J, PP b) Q)) ∧ (¬ (¬ (I 96 ((w32 ((I 91 14) + l3)).toNat)) = (stC 4 l3.toNat)) → (Tri G h 202 119 119 24 [some (vr 91), some (vr 2004), some (vi 1), some (vi (w32 (l3 + 1)))] [] (I, J, PP b) Q))))))))) : Tri G h 202 119 119 24 [some (vr 91), some (vr 2004), some (vi l2), some (vi l3)] [] (I, J, PP b) Q := wp_at ck202 [(24, [true, true, true, true])] 400 (sl4_4 (by omega)  (And.intro (fun q1831 => H.1 q1831) (fun q1832 => And.intro (fun q1833 => (H.2 q1832).1 q1833) (fun q1834 => And.intro ((H.2 q1832).2 q1834).1 (sc6_4 (by omega) (((H.2 q1832).2 q1834).2).1 ((((H.2 q1832).2 q1834).2).2))))))
theorem x202_4_m {G : Ctx} {h : Nat} {Q : MP} {I : Nat → Nat → Int} {J : Nat → Nat → BitVec 64} {b : B3} (hh : 5 ≤ h) (H : ∀ h, 4 ≤ h → Tri G h 202 119 119 0 [some (vr 91), some (vr 2004)] [] (I, J, PP b) Q) : TriM G h 202 119 119 [vr 91, vr 2004] (I, J, PP b) Q := TriM_intro (h - 1) (by omega) (by decide) (Nat.le_of_ble_eq_true rfl) (Nat.le_refl _) (Nat.le_refl _) (H (h - 1) (by omega))
set_option maxRecDepth 100000 in
theorem x202_5 {G : Ctx} {h : Nat} {Q : MP} {I : Nat → Nat → Int} {J : Nat → Nat → BitVec 64} {b : B3} (hh : 2 ≤ h) (H : ((¬ (w32 ((I 91 12) - (I 91 14))) = 3) → (Tri G h 202 119 119 24 [some (vr 91), some (vr 2005), some (vi 0), some (vi 0)] [] (I, J, PP b) Q)) ∧ (¬ (¬ (w32 ((I 91 12) - (I 91 14))) = 3) → (Tri G h 202 119 119 24 [some (vr 91), some (vr 2005), some (vi 1), some (vi 0)] [] (I, J, PP b) Q))) : Tri G h 202 119 119 0 [some (vr 91), some (vr 2005)] [] (I, J, PP b) Q := wp_at ck202 [(24, [true, true, true, true])] 400 (sl4_5 (by omega)  H)
set_option maxRecDepth 100000 in
theorem x202_5_24 {G : Ctx} {h : Nat} {Q : MP} {I : Nat → Nat → Int} {J : Nat → Nat → BitVec 64} {b : B3} {l2 l3 : Int} (hh : 4 ≤ h) (H : ((3 ≤ l3) → ((l2 = 0 ∨ l2 = 1) ∧ Q (some (vi l2)) (I, J, PP b))) ∧ (¬ (3 ≤ l3) → (((l2 = 0) → ((l2 = 0 ∨ l2 = 1) ∧ Q (some (vi l2)) (I, J, PP b))) ∧ (¬ (l2 = 0) → ((0 ≤ (w32 ((I 91 14) + l3)) ∧ (w32 ((I 91 14) + l3)) < (400 : Int)) ∧ ((0 ≤ l3 ∧ l3 < (3 : Int)) ∧ (((¬ (I 96 ((w32 ((I 91 14) + l3)).toNat)) = (stC 5 l3.toNat)) → (Tri G h 202 119 119 24 [some (vr 91), some (vr 2005), some (vi 0), some (vi (w32 (l3 + 1)))] [] (I, J, PP b) Q)) ∧ (¬ (¬ (I 96 ((w32 ((I 91 14) + l3)).toNat)) = (stC 5 l3.toNat)) → (Tri G h 202 119 119 24 [some (vr 91), some (vr 2005), some (vi 1), some (vi (w32 (l3 + 1)))] [] (I, J, PP b) Q))))))))) : Tri G h 202 119 119 24 [some (vr 91), some (vr 2005), some (vi l2), some (vi l3)] [] (I, J, PP b) Q := wp_at ck202 [(24, [true, true, true, true])] 400 (sl4_5 (by omega)  (And.intro (fun q1835 => H.1 q1835) (fun q1836 => And.intro (fun q1837 => (H.2 q1836).1 q1837) (fun q1838 => And.intro ((H.2 q1836).2 q1838).1 (sc6_5 (by omega) (((H.2 q1836).2 q1838).2).1 ((((H.2 q1836).2 q1838).2).2))))))
theorem x202_5_m {G : Ctx} {h : Nat} {Q : MP} {I : Nat → Nat → Int} {J : Nat → Nat → BitVec 64} {b : B3} (hh : 5 ≤ h) (H : ∀ h, 4 ≤ h → Tri G h 202 119 119 0 [some (vr 91), some (vr 2005)] [] (I, J, PP b) Q) : TriM G h 202 119 119 [vr 91, vr 2005] (I, J, PP b) Q := TriM_intro (h - 1) (by omega) (by decide) (Nat.le_of_ble_eq_true rfl) (Nat.le_refl _) (Nat.le_refl _) (H (h - 1) (by omega))
set_option maxRecDepth 100000 in
theorem x202_6 {G : Ctx} {h : Nat} {Q : MP} {I : Nat → Nat → Int} {J : Nat → Nat → BitVec 64} {b : B3} (hh : 2 ≤ h) (H : ((¬ (w32 ((I 91 12) - (I 91 14))) = 3) → (Tri G h 202 119 119 24 [some (vr 91), some (vr 2006), some (vi 0), some (vi 0)] [] (I, J, PP b) Q)) ∧ (¬ (¬ (w32 ((I 91 12) - (I 91 14))) = 3) → (Tri G h 202 119 119 24 [some (vr 91), some (vr 2006), some (vi 1), some (vi 0)] [] (I, J, PP b) Q))) : Tri G h 202 119 119 0 [some (vr 91), some (vr 2006)] [] (I, J, PP b) Q := wp_at ck202 [(24, [true, true, true, true])] 400 (sl4_6 (by omega)  H)
set_option maxRecDepth 100000 in
theorem x202_6_24 {G : Ctx} {h : Nat} {Q : MP} {I : Nat → Nat → Int} {J : Nat → Nat → BitVec 64} {b : B3} {l2 l3 : Int} (hh : 4 ≤ h) (H : ((3 ≤ l3) → ((l2 = 0 ∨ l2 = 1) ∧ Q (some (vi l2)) (I, J, PP b))) ∧ (¬ (3 ≤ l3) → (((l2 = 0) → ((l2 = 0 ∨ l2 = 1) ∧ Q (some (vi l2)) (I, J, PP b))) ∧ (¬ (l2 = 0) → ((0 ≤ (w32 ((I 91 14) + l3)) ∧ (w32 ((I 91 14) + l3)) < (400 : Int)) ∧ ((0 ≤ l3 ∧ l3 < (3 : Int)) ∧ (((¬ (I 96 ((w32 ((I 91 14) + l3)).toNat)) = (stC 6 l3.toNat)) → (Tri G h 202 119 119 24 [some (vr 91), some (vr 2006), some (vi 0), some (vi (w32 (l3 + 1)))] [] (I, J, PP b) Q)) ∧ (¬ (¬ (I 96 ((w32 ((I 91 14) + l3)).toNat)) = (stC 6 l3.toNat)) → (Tri G h 202 119 119 24 [some (vr 91), some (vr 2006), some (vi 1), some (vi (w32 (l3 + 1)))] [] (I, J, PP b) Q))))))))) : Tri G h 202 119 119 24 [some (vr 91), some (vr 2006), some (vi l2), some (vi l3)] [] (I, J, PP b) Q := wp_at ck202 [(24, [true, true, true, true])] 400 (sl4_6 (by omega)  (And.intro (fun q1839 => H.1 q1839) (fun q1840 => And.intro (fun q1841 => (H.2 q1840).1 q1841) (fun q1842 => And.intro ((H.2 q1840).2 q1842).1 (sc6_6 (by omega) (((H.2 q1840).2 q1842).2).1 ((((H.2 q1840).2 q1842).2).2))))))
theorem x202_6_m {G : Ctx} {h : Nat} {Q : MP} {I : Nat → Nat → Int} {J : Nat → Nat → BitVec 64} {b : B3} (hh : 5 ≤ h) (H : ∀ h, 4 ≤ h → Tri G h 202 119 119 0 [some (vr 91), some (vr 2006)] [] (I, J, PP b) Q) : TriM G h 202 119 119 [vr 91, vr 2006] (I, J, PP b) Q := TriM_intro (h - 1) (by omega) (by decide) (Nat.le_of_ble_eq_true rfl) (Nat.le_refl _) (Nat.le_refl _) (H (h - 1) (by omega))
set_option maxRecDepth 100000 in
theorem x202_7 {G : Ctx} {h : Nat} {Q : MP} {I : Nat → Nat → Int} {J : Nat → Nat → BitVec 64} {b : B3} (hh : 2 ≤ h) (H : ((¬ (w32 ((I 91 12) - (I 91 14))) = 4) → (Tri G h 202 119 119 24 [some (vr 91), some (vr 2007), some (vi 0), some (vi 0)] [] (I, J, PP b) Q)) ∧ (¬ (¬ (w32 ((I 91 12) - (I 91 14))) = 4) → (Tri G h 202 119 119 24 [some (vr 91), some (vr 2007), some (vi 1), some (vi 0)] [] (I, J, PP b) Q))) : Tri G h 202 119 119 0 [some (vr 91), some (vr 2007)] [] (I, J, PP b) Q := wp_at ck202 [(24, [true, true, true, true])] 400 (sl4_7 (by omega)  H)
set_option maxRecDepth 100000 in
theorem x202_7_24 {G : Ctx} {h : Nat} {Q : MP} {I : Nat → Nat → Int} {J : Nat → Nat → BitVec 64} {b : B3} {l2 l3 : Int} (hh : 4 ≤ h) (H : ((4 ≤ l3) → ((l2 = 0 ∨ l2 = 1) ∧ Q (some (vi l2)) (I, J, PP b))) ∧ (¬ (4 ≤ l3) → (((l2 = 0) → ((l2 = 0 ∨ l2 = 1) ∧ Q (some (vi l2)) (I, J, PP b))) ∧ (¬ (l2 = 0) → ((0 ≤ (w32 ((I 91 14) + l3)) ∧ (w32 ((I 91 14) + l3)) < (400 : Int)) ∧ ((0 ≤ l3 ∧ l3 < (4 : Int)) ∧ (((¬ (I 96 ((w32 ((I 91 14) + l3)).toNat)) = (stC 7 l3.toNat)) → (Tri G h 202 119 119 24 [some (vr 91), some (vr 2007), some (vi 0), some (vi (w32 (l3 + 1)))] [] (I, J, PP b) Q)) ∧ (¬ (¬ (I 96 ((w32 ((I 91 14) + l3)).toNat)) = (stC 7 l3.toNat)) → (Tri G h 202 119 119 24 [some (vr 91), some (vr 2007), some (vi 1), some (vi (w32 (l3 + 1)))] [] (I, J, PP b) Q))))))))) : Tri G h 202 119 119 24 [some (vr 91), some (vr 2007), some (vi l2), some (vi l3)] [] (I, J, PP b) Q := wp_at ck202 [(24, [true, true, true, true])] 400 (sl4_7 (by omega)  (And.intro (fun q1843 => H.1 q1843) (fun q1844 => And.intro (fun q1845 => (H.2 q1844).1 q1845) (fun q1846 => And.intro ((H.2 q1844).2 q1846).1 (sc6_7 (by omega) (((H.2 q1844).2 q1846).2).1 ((((H.2 q1844).2 q1846).2).2))))))
theorem x202_7_m {G : Ctx} {h : Nat} {Q : MP} {I : Nat → Nat → Int} {J : Nat → Nat → BitVec 64} {b : B3} (hh : 5 ≤ h) (H : ∀ h, 4 ≤ h → Tri G h 202 119 119 0 [some (vr 91), some (vr 2007)] [] (I, J, PP b) Q) : TriM G h 202 119 119 [vr 91, vr 2007] (I, J, PP b) Q := TriM_intro (h - 1) (by omega) (by decide) (Nat.le_of_ble_eq_true rfl) (Nat.le_refl _) (Nat.le_refl _) (H (h - 1) (by omega))
set_option maxRecDepth 100000 in
theorem x202_8 {G : Ctx} {h : Nat} {Q : MP} {I : Nat → Nat → Int} {J : Nat → Nat → BitVec 64} {b : B3} (hh : 2 ≤ h) (H : ((¬ (w32 ((I 91 12) - (I 91 14))) = 7) → (Tri G h 202 119 119 24 [some (vr 91), some (vr 2008), some (vi 0), some (vi 0)] [] (I, J, PP b) Q)) ∧ (¬ (¬ (w32 ((I 91 12) - (I 91 14))) = 7) → (Tri G h 202 119 119 24 [some (vr 91), some (vr 2008), some (vi 1), some (vi 0)] [] (I, J, PP b) Q))) : Tri G h 202 119 119 0 [some (vr 91), some (vr 2008)] [] (I, J, PP b) Q := wp_at ck202 [(24, [true, true, true, true])] 400 (sl4_8 (by omega)  H)
set_option maxRecDepth 100000 in
theorem x202_8_24 {G : Ctx} {h : Nat} {Q : MP} {I : Nat → Nat → Int} {J : Nat → Nat → BitVec 64} {b : B3} {l2 l3 : Int} (hh : 4 ≤ h) (H : ((7 ≤ l3) → ((l2 = 0 ∨ l2 = 1) ∧ Q (some (vi l2)) (I, J, PP b))) ∧ (¬ (7 ≤ l3) → (((l2 = 0) → ((l2 = 0 ∨ l2 = 1) ∧ Q (some (vi l2)) (I, J, PP b))) ∧ (¬ (l2 = 0) → ((0 ≤ (w32 ((I 91 14) + l3)) ∧ (w32 ((I 91 14) + l3)) < (400 : Int)) ∧ ((0 ≤ l3 ∧ l3 < (7 : Int)) ∧ (((¬ (I 96 ((w32 ((I 91 14) + l3)).toNat)) = (stC 8 l3.toNat)) → (Tri G h 202 119 119 24 [some (vr 91), some (vr 2008), some (vi 0), some (vi (w32 (l3 + 1)))] [] (I, J, PP b) Q)) ∧ (¬ (¬ (I 96 ((w32 ((I 91 14) + l3)).toNat)) = (stC 8 l3.toNat)) → (Tri G h 202 119 119 24 [some (vr 91), some (vr 2008), some (vi 1), some (vi (w32 (l3 + 1)))] [] (I, J, PP b) Q))))))))) : Tri G h 202 119 119 24 [some (vr 91), some (vr 2008), some (vi l2), some (vi l3)] [] (I, J, PP b) Q := wp_at ck202 [(24, [true, true, true, true])] 400 (sl4_8 (by omega)  (And.intro (fun q1847 => H.1 q1847) (fun q1848 => And.intro (fun q1849 => (H.2 q1848).1 q1849) (fun q1850 => And.intro ((H.2 q1848).2 q1850).1 (sc6_8 (by omega) (((H.2 q1848).2 q1850).2).1 ((((H.2 q1848).2 q1850).2).2))))))
theorem x202_8_m {G : Ctx} {h : Nat} {Q : MP} {I : Nat → Nat → Int} {J : Nat → Nat → BitVec 64} {b : B3} (hh : 5 ≤ h) (H : ∀ h, 4 ≤ h → Tri G h 202 119 119 0 [some (vr 91), some (vr 2008)] [] (I, J, PP b) Q) : TriM G h 202 119 119 [vr 91, vr 2008] (I, J, PP b) Q := TriM_intro (h - 1) (by omega) (by decide) (Nat.le_of_ble_eq_true rfl) (Nat.le_refl _) (Nat.le_refl _) (H (h - 1) (by omega))
set_option maxRecDepth 100000 in
theorem x202_9 {G : Ctx} {h : Nat} {Q : MP} {I : Nat → Nat → Int} {J : Nat → Nat → BitVec 64} {b : B3} (hh : 2 ≤ h) (H : ((¬ (w32 ((I 91 12) - (I 91 14))) = 5) → (Tri G h 202 119 119 24 [some (vr 91), some (vr 2009), some (vi 0), some (vi 0)] [] (I, J, PP b) Q)) ∧ (¬ (¬ (w32 ((I 91 12) - (I 91 14))) = 5) → (Tri G h 202 119 119 24 [some (vr 91), some (vr 2009), some (vi 1), some (vi 0)] [] (I, J, PP b) Q))) : Tri G h 202 119 119 0 [some (vr 91), some (vr 2009)] [] (I, J, PP b) Q := wp_at ck202 [(24, [true, true, true, true])] 400 (sl4_9 (by omega)  H)
set_option maxRecDepth 100000 in
theorem x202_9_24 {G : Ctx} {h : Nat} {Q : MP} {I : Nat → Nat → Int} {J : Nat → Nat → BitVec 64} {b : B3} {l2 l3 : Int} (hh : 4 ≤ h) (H : ((5 ≤ l3) → ((l2 = 0 ∨ l2 = 1) ∧ Q (some (vi l2)) (I, J, PP b))) ∧ (¬ (5 ≤ l3) → (((l2 = 0) → ((l2 = 0 ∨ l2 = 1) ∧ Q (some (vi l2)) (I, J, PP b))) ∧ (¬ (l2 = 0) → ((0 ≤ (w32 ((I 91 14) + l3)) ∧ (w32 ((I 91 14) + l3)) < (400 : Int)) ∧ ((0 ≤ l3 ∧ l3 < (5 : Int)) ∧ (((¬ (I 96 ((w32 ((I 91 14) + l3)).toNat)) = (stC 9 l3.toNat)) → (Tri G h 202 119 119 24 [some (vr 91), some (vr 2009), some (vi 0), some (vi (w32 (l3 + 1)))] [] (I, J, PP b) Q)) ∧ (¬ (¬ (I 96 ((w32 ((I 91 14) + l3)).toNat)) = (stC 9 l3.toNat)) → (Tri G h 202 119 119 24 [some (vr 91), some (vr 2009), some (vi 1), some (vi (w32 (l3 + 1)))] [] (I, J, PP b) Q))))))))) : Tri G h 202 119 119 24 [some (vr 91), some (vr 2009), some (vi l2), some (vi l3)] [] (I, J, PP b) Q := wp_at ck202 [(24, [true, true, true, true])] 400 (sl4_9 (by omega)  (And.intro (fun q1851 => H.1 q1851) (fun q1852 => And.intro (fun q1853 => (H.2 q1852).1 q1853) (fun q1854 => And.intro ((H.2 q1852).2 q1854).1 (sc6_9 (by omega) (((H.2 q1852).2 q1854).2).1 ((((H.2 q1852).2 q1854).2).2))))))
theorem x202_9_m {G : Ctx} {h : Nat} {Q : MP} {I : Nat → Nat → Int} {J : Nat → Nat → BitVec 64} {b : B3} (hh : 5 ≤ h) (H : ∀ h, 4 ≤ h → Tri G h 202 119 119 0 [some (vr 91), some (vr 2009)] [] (I, J, PP b) Q) : TriM G h 202 119 119 [vr 91, vr 2009] (I, J, PP b) Q := TriM_intro (h - 1) (by omega) (by decide) (Nat.le_of_ble_eq_true rfl) (Nat.le_refl _) (Nat.le_refl _) (H (h - 1) (by omega))
set_option maxRecDepth 100000 in
theorem x202_10 {G : Ctx} {h : Nat} {Q : MP} {I : Nat → Nat → Int} {J : Nat → Nat → BitVec 64} {b : B3} (hh : 2 ≤ h) (H : ((¬ (w32 ((I 91 12) - (I 91 14))) = 4) → (Tri G h 202 119 119 24 [some (vr 91), some (vr 2010), some (vi 0), some (vi 0)] [] (I, J, PP b) Q)) ∧ (¬ (¬ (w32 ((I 91 12) - (I 91 14))) = 4) → (Tri G h 202 119 119 24 [some (vr 91), some (vr 2010), some (vi 1), some (vi 0)] [] (I, J, PP b) Q))) : Tri G h 202 119 119 0 [some (vr 91), some (vr 2010)] [] (I, J, PP b) Q := wp_at ck202 [(24, [true, true, true, true])] 400 (sl4_10 (by omega)  H)
set_option maxRecDepth 100000 in
theorem x202_10_24 {G : Ctx} {h : Nat} {Q : MP} {I : Nat → Nat → Int} {J : Nat → Nat → BitVec 64} {b : B3} {l2 l3 : Int} (hh : 4 ≤ h) (H : ((4 ≤ l3) → ((l2 = 0 ∨ l2 = 1) ∧ Q (some (vi l2)) (I, J, PP b))) ∧ (¬ (4 ≤ l3) → (((l2 = 0) → ((l2 = 0 ∨ l2 = 1) ∧ Q (some (vi l2)) (I, J, PP b))) ∧ (¬ (l2 = 0) → ((0 ≤ (w32 ((I 91 14) + l3)) ∧ (w32 ((I 91 14) + l3)) < (400 : Int)) ∧ ((0 ≤ l3 ∧ l3 < (4 : Int)) ∧ (((¬ (I 96 ((w32 ((I 91 14) + l3)).toNat)) = (stC 10 l3.toNat)) → (Tri G h 202 119 119 24 [some (vr 91), some (vr 2010), some (vi 0), some (vi (w32 (l3 + 1)))] [] (I, J, PP b) Q)) ∧ (¬ (¬ (I 96 ((w32 ((I 91 14) + l3)).toNat)) = (stC 10 l3.toNat)) → (Tri G h 202 119 119 24 [some (vr 91), some (vr 2010), some (vi 1), some (vi (w32 (l3 + 1)))] [] (I, J, PP b) Q))))))))) : Tri G h 202 119 119 24 [some (vr 91), some (vr 2010), some (vi l2), some (vi l3)] [] (I, J, PP b) Q := wp_at ck202 [(24, [true, true, true, true])] 400 (sl4_10 (by omega)  (And.intro (fun q1855 => H.1 q1855) (fun q1856 => And.intro (fun q1857 => (H.2 q1856).1 q1857) (fun q1858 => And.intro ((H.2 q1856).2 q1858).1 (sc6_10 (by omega) (((H.2 q1856).2 q1858).2).1 ((((H.2 q1856).2 q1858).2).2))))))
theorem x202_10_m {G : Ctx} {h : Nat} {Q : MP} {I : Nat → Nat → Int} {J : Nat → Nat → BitVec 64} {b : B3} (hh : 5 ≤ h) (H : ∀ h, 4 ≤ h → Tri G h 202 119 119 0 [some (vr 91), some (vr 2010)] [] (I, J, PP b) Q) : TriM G h 202 119 119 [vr 91, vr 2010] (I, J, PP b) Q := TriM_intro (h - 1) (by omega) (by decide) (Nat.le_of_ble_eq_true rfl) (Nat.le_refl _) (Nat.le_refl _) (H (h - 1) (by omega))
set_option maxRecDepth 100000 in
theorem x202_11 {G : Ctx} {h : Nat} {Q : MP} {I : Nat → Nat → Int} {J : Nat → Nat → BitVec 64} {b : B3} (hh : 2 ≤ h) (H : ((¬ (w32 ((I 91 12) - (I 91 14))) = 4) → (Tri G h 202 119 119 24 [some (vr 91), some (vr 2011), some (vi 0), some (vi 0)] [] (I, J, PP b) Q)) ∧ (¬ (¬ (w32 ((I 91 12) - (I 91 14))) = 4) → (Tri G h 202 119 119 24 [some (vr 91), some (vr 2011), some (vi 1), some (vi 0)] [] (I, J, PP b) Q))) : Tri G h 202 119 119 0 [some (vr 91), some (vr 2011)] [] (I, J, PP b) Q := wp_at ck202 [(24, [true, true, true, true])] 400 (sl4_11 (by omega)  H)
set_option maxRecDepth 100000 in
theorem x202_11_24 {G : Ctx} {h : Nat} {Q : MP} {I : Nat → Nat → Int} {J : Nat → Nat → BitVec 64} {b : B3} {l2 l3 : Int} (hh : 4 ≤ h) (H : ((4 ≤ l3) → ((l2 = 0 ∨ l2 = 1) ∧ Q (some (vi l2)) (I, J, PP b))) ∧ (¬ (4 ≤ l3) → (((l2 = 0) → ((l2 = 0 ∨ l2 = 1) ∧ Q (some (vi l2)) (I, J, PP b))) ∧ (¬ (l2 = 0) → ((0 ≤ (w32 ((I 91 14) + l3)) ∧ (w32 ((I 91 14) + l3)) < (400 : Int)) ∧ ((0 ≤ l3 ∧ l3 < (4 : Int)) ∧ (((¬ (I 96 ((w32 ((I 91 14) + l3)).toNat)) = (stC 11 l3.toNat)) → (Tri G h 202 119 119 24 [some (vr 91), some (vr 2011), some (vi 0), some (vi (w32 (l3 + 1)))] [] (I, J, PP b) Q)) ∧ (¬ (¬ (I 96 ((w32 ((I 91 14) + l3)).toNat)) = (stC 11 l3.toNat)) → (Tri G h 202 119 119 24 [some (vr 91), some (vr 2011), some (vi 1), some (vi (w32 (l3 + 1)))] [] (I, J, PP b) Q))))))))) : Tri G h 202 119 119 24 [some (vr 91), some (vr 2011), some (vi l2), some (vi l3)] [] (I, J, PP b) Q := wp_at ck202 [(24, [true, true, true, true])] 400 (sl4_11 (by omega)  (And.intro (fun q1859 => H.1 q1859) (fun q1860 => And.intro (fun q1861 => (H.2 q1860).1 q1861) (fun q1862 => And.intro ((H.2 q1860).2 q1862).1 (sc6_11 (by omega) (((H.2 q1860).2 q1862).2).1 ((((H.2 q1860).2 q1862).2).2))))))
theorem x202_11_m {G : Ctx} {h : Nat} {Q : MP} {I : Nat → Nat → Int} {J : Nat → Nat → BitVec 64} {b : B3} (hh : 5 ≤ h) (H : ∀ h, 4 ≤ h → Tri G h 202 119 119 0 [some (vr 91), some (vr 2011)] [] (I, J, PP b) Q) : TriM G h 202 119 119 [vr 91, vr 2011] (I, J, PP b) Q := TriM_intro (h - 1) (by omega) (by decide) (Nat.le_of_ble_eq_true rfl) (Nat.le_refl _) (Nat.le_refl _) (H (h - 1) (by omega))
set_option maxRecDepth 100000 in
theorem x202_12 {G : Ctx} {h : Nat} {Q : MP} {I : Nat → Nat → Int} {J : Nat → Nat → BitVec 64} {b : B3} (hh : 2 ≤ h) (H : ((¬ (w32 ((I 91 12) - (I 91 14))) = 4) → (Tri G h 202 119 119 24 [some (vr 91), some (vr 2012), some (vi 0), some (vi 0)] [] (I, J, PP b) Q)) ∧ (¬ (¬ (w32 ((I 91 12) - (I 91 14))) = 4) → (Tri G h 202 119 119 24 [some (vr 91), some (vr 2012), some (vi 1), some (vi 0)] [] (I, J, PP b) Q))) : Tri G h 202 119 119 0 [some (vr 91), some (vr 2012)] [] (I, J, PP b) Q := wp_at ck202 [(24, [true, true, true, true])] 400 (sl4_12 (by omega)  H)
set_option maxRecDepth 100000 in
theorem x202_12_24 {G : Ctx} {h : Nat} {Q : MP} {I : Nat → Nat → Int} {J : Nat → Nat → BitVec 64} {b : B3} {l2 l3 : Int} (hh : 4 ≤ h) (H : ((4 ≤ l3) → ((l2 = 0 ∨ l2 = 1) ∧ Q (some (vi l2)) (I, J, PP b))) ∧ (¬ (4 ≤ l3) → (((l2 = 0) → ((l2 = 0 ∨ l2 = 1) ∧ Q (some (vi l2)) (I, J, PP b))) ∧ (¬ (l2 = 0) → ((0 ≤ (w32 ((I 91 14) + l3)) ∧ (w32 ((I 91 14) + l3)) < (400 : Int)) ∧ ((0 ≤ l3 ∧ l3 < (4 : Int)) ∧ (((¬ (I 96 ((w32 ((I 91 14) + l3)).toNat)) = (stC 12 l3.toNat)) → (Tri G h 202 119 119 24 [some (vr 91), some (vr 2012), some (vi 0), some (vi (w32 (l3 + 1)))] [] (I, J, PP b) Q)) ∧ (¬ (¬ (I 96 ((w32 ((I 91 14) + l3)).toNat)) = (stC 12 l3.toNat)) → (Tri G h 202 119 119 24 [some (vr 91), some (vr 2012), some (vi 1), some (vi (w32 (l3 + 1)))] [] (I, J, PP b) Q))))))))) : Tri G h 202 119 119 24 [some (vr 91), some (vr 2012), some (vi l2), some (vi l3)] [] (I, J, PP b) Q := wp_at ck202 [(24, [true, true, true, true])] 400 (sl4_12 (by omega)  (And.intro (fun q1863 => H.1 q1863) (fun q1864 => And.intro (fun q1865 => (H.2 q1864).1 q1865) (fun q1866 => And.intro ((H.2 q1864).2 q1866).1 (sc6_12 (by omega) (((H.2 q1864).2 q1866).2).1 ((((H.2 q1864).2 q1866).2).2))))))
theorem x202_12_m {G : Ctx} {h : Nat} {Q : MP} {I : Nat → Nat → Int} {J : Nat → Nat → BitVec 64} {b : B3} (hh : 5 ≤ h) (H : ∀ h, 4 ≤ h → Tri G h 202 119 119 0 [some (vr 91), some (vr 2012)] [] (I, J, PP b) Q) : TriM G h 202 119 119 [vr 91, vr 2012] (I, J, PP b) Q := TriM_intro (h - 1) (by omega) (by decide) (Nat.le_of_ble_eq_true rfl) (Nat.le_refl _) (Nat.le_refl _) (H (h - 1) (by omega))
set_option maxRecDepth 100000 in
theorem x202_13 {G : Ctx} {h : Nat} {Q : MP} {I : Nat → Nat → Int} {J : Nat → Nat → BitVec 64} {b : B3} (hh : 2 ≤ h) (H : ((¬ (w32 ((I 91 12) - (I 91 14))) = 4) → (Tri G h 202 119 119 24 [some (vr 91), some (vr 2013), some (vi 0), some (vi 0)] [] (I, J, PP b) Q)) ∧ (¬ (¬ (w32 ((I 91 12) - (I 91 14))) = 4) → (Tri G h 202 119 119 24 [some (vr 91), some (vr 2013), some (vi 1), some (vi 0)] [] (I, J, PP b) Q))) : Tri G h 202 119 119 0 [some (vr 91), some (vr 2013)] [] (I, J, PP b) Q := wp_at ck202 [(24, [true, true, true, true])] 400 (sl4_13 (by omega)  H)
set_option maxRecDepth 100000 in
theorem x202_13_24 {G : Ctx} {h : Nat} {Q : MP} {I : Nat → Nat → Int} {J : Nat → Nat → BitVec 64} {b : B3} {l2 l3 : Int} (hh : 4 ≤ h) (H : ((4 ≤ l3) → ((l2 = 0 ∨ l2 = 1) ∧ Q (some (vi l2)) (I, J, PP b))) ∧ (¬ (4 ≤ l3) → (((l2 = 0) → ((l2 = 0 ∨ l2 = 1) ∧ Q (some (vi l2)) (I, J, PP b))) ∧ (¬ (l2 = 0) → ((0 ≤ (w32 ((I 91 14) + l3)) ∧ (w32 ((I 91 14) + l3)) < (400 : Int)) ∧ ((0 ≤ l3 ∧ l3 < (4 : Int)) ∧ (((¬ (I 96 ((w32 ((I 91 14) + l3)).toNat)) = (stC 13 l3.toNat)) → (Tri G h 202 119 119 24 [some (vr 91), some (vr 2013), some (vi 0), some (vi (w32 (l3 + 1)))] [] (I, J, PP b) Q)) ∧ (¬ (¬ (I 96 ((w32 ((I 91 14) + l3)).toNat)) = (stC 13 l3.toNat)) → (Tri G h 202 119 119 24 [some (vr 91), some (vr 2013), some (vi 1), some (vi (w32 (l3 + 1)))] [] (I, J, PP b) Q))))))))) : Tri G h 202 119 119 24 [some (vr 91), some (vr 2013), some (vi l2), some (vi l3)] [] (I, J, PP b) Q := wp_at ck202 [(24, [true, true, true, true])] 400 (sl4_13 (by omega)  (And.intro (fun q1867 => H.1 q1867) (fun q1868 => And.intro (fun q1869 => (H.2 q1868).1 q1869) (fun q1870 => And.intro ((H.2 q1868).2 q1870).1 (sc6_13 (by omega) (((H.2 q1868).2 q1870).2).1 ((((H.2 q1868).2 q1870).2).2))))))
theorem x202_13_m {G : Ctx} {h : Nat} {Q : MP} {I : Nat → Nat → Int} {J : Nat → Nat → BitVec 64} {b : B3} (hh : 5 ≤ h) (H : ∀ h, 4 ≤ h → Tri G h 202 119 119 0 [some (vr 91), some (vr 2013)] [] (I, J, PP b) Q) : TriM G h 202 119 119 [vr 91, vr 2013] (I, J, PP b) Q := TriM_intro (h - 1) (by omega) (by decide) (Nat.le_of_ble_eq_true rfl) (Nat.le_refl _) (Nat.le_refl _) (H (h - 1) (by omega))
set_option maxRecDepth 100000 in
theorem x202_14 {G : Ctx} {h : Nat} {Q : MP} {I : Nat → Nat → Int} {J : Nat → Nat → BitVec 64} {b : B3} (hh : 2 ≤ h) (H : ((¬ (w32 ((I 91 12) - (I 91 14))) = 5) → (Tri G h 202 119 119 24 [some (vr 91), some (vr 2014), some (vi 0), some (vi 0)] [] (I, J, PP b) Q)) ∧ (¬ (¬ (w32 ((I 91 12) - (I 91 14))) = 5) → (Tri G h 202 119 119 24 [some (vr 91), some (vr 2014), some (vi 1), some (vi 0)] [] (I, J, PP b) Q))) : Tri G h 202 119 119 0 [some (vr 91), some (vr 2014)] [] (I, J, PP b) Q := wp_at ck202 [(24, [true, true, true, true])] 400 (sl4_14 (by omega)  H)
set_option maxRecDepth 100000 in
theorem x202_14_24 {G : Ctx} {h : Nat} {Q : MP} {I : Nat → Nat → Int} {J : Nat → Nat → BitVec 64} {b : B3} {l2 l3 : Int} (hh : 4 ≤ h) (H : ((5 ≤ l3) → ((l2 = 0 ∨ l2 = 1) ∧ Q (some (vi l2)) (I, J, PP b))) ∧ (¬ (5 ≤ l3) → (((l2 = 0) → ((l2 = 0 ∨ l2 = 1) ∧ Q (some (vi l2)) (I, J, PP b))) ∧ (¬ (l2 = 0) → ((0 ≤ (w32 ((I 91 14) + l3)) ∧ (w32 ((I 91 14) + l3)) < (400 : Int)) ∧ ((0 ≤ l3 ∧ l3 < (5 : Int)) ∧ (((¬ (I 96 ((w32 ((I 91 14) + l3)).toNat)) = (stC 14 l3.toNat)) → (Tri G h 202 119 119 24 [some (vr 91), some (vr 2014), some (vi 0), some (vi (w32 (l3 + 1)))] [] (I, J, PP b) Q)) ∧ (¬ (¬ (I 96 ((w32 ((I 91 14) + l3)).toNat)) = (stC 14 l3.toNat)) → (Tri G h 202 119 119 24 [some (vr 91), some (vr 2014), some (vi 1), some (vi (w32 (l3 + 1)))] [] (I, J, PP b) Q))))))))) : Tri G h 202 119 119 24 [some (vr 91), some (vr 2014), some (vi l2), some (vi l3)] [] (I, J, PP b) Q := wp_at ck202 [(24, [true, true, true, true])] 400 (sl4_14 (by omega)  (And.intro (fun q1871 => H.1 q1871) (fun q1872 => And.intro (fun q1873 => (H.2 q1872).1 q1873) (fun q1874 => And.intro ((H.2 q1872).2 q1874).1 (sc6_14 (by omega) (((H.2 q1872).2 q1874).2).1 ((((H.2 q1872).2 q1874).2).2))))))
theorem x202_14_m {G : Ctx} {h : Nat} {Q : MP} {I : Nat → Nat → Int} {J : Nat → Nat → BitVec 64} {b : B3} (hh : 5 ≤ h) (H : ∀ h, 4 ≤ h → Tri G h 202 119 119 0 [some (vr 91), some (vr 2014)] [] (I, J, PP b) Q) : TriM G h 202 119 119 [vr 91, vr 2014] (I, J, PP b) Q := TriM_intro (h - 1) (by omega) (by decide) (Nat.le_of_ble_eq_true rfl) (Nat.le_refl _) (Nat.le_refl _) (H (h - 1) (by omega))
set_option maxRecDepth 100000 in
theorem x202_15 {G : Ctx} {h : Nat} {Q : MP} {I : Nat → Nat → Int} {J : Nat → Nat → BitVec 64} {b : B3} (hh : 2 ≤ h) (H : ((¬ (w32 ((I 91 12) - (I 91 14))) = 4) → (Tri G h 202 119 119 24 [some (vr 91), some (vr 2015), some (vi 0), some (vi 0)] [] (I, J, PP b) Q)) ∧ (¬ (¬ (w32 ((I 91 12) - (I 91 14))) = 4) → (Tri G h 202 119 119 24 [some (vr 91), some (vr 2015), some (vi 1), some (vi 0)] [] (I, J, PP b) Q))) : Tri G h 202 119 119 0 [some (vr 91), some (vr 2015)] [] (I, J, PP b) Q := wp_at ck202 [(24, [true, true, true, true])] 400 (sl4_15 (by omega)  H)
set_option maxRecDepth 100000 in
theorem x202_15_24 {G : Ctx} {h : Nat} {Q : MP} {I : Nat → Nat → Int} {J : Nat → Nat → BitVec 64} {b : B3} {l2 l3 : Int} (hh : 4 ≤ h) (H : ((4 ≤ l3) → ((l2 = 0 ∨ l2 = 1) ∧ Q (some (vi l2)) (I, J, PP b))) ∧ (¬ (4 ≤ l3) → (((l2 = 0) → ((l2 = 0 ∨ l2 = 1) ∧ Q (some (vi l2)) (I, J, PP b))) ∧ (¬ (l2 = 0) → ((0 ≤ (w32 ((I 91 14) + l3)) ∧ (w32 ((I 91 14) + l3)) < (400 : Int)) ∧ ((0 ≤ l3 ∧ l3 < (4 : Int)) ∧ (((¬ (I 96 ((w32 ((I 91 14) + l3)).toNat)) = (stC 15 l3.toNat)) → (Tri G h 202 119 119 24 [some (vr 91), some (vr 2015), some (vi 0), some (vi (w32 (l3 + 1)))] [] (I, J, PP b) Q)) ∧ (¬ (¬ (I 96 ((w32 ((I 91 14) + l3)).toNat)) = (stC 15 l3.toNat)) → (Tri G h 202 119 119 24 [some (vr 91), some (vr 2015), some (vi 1), some (vi (w32 (l3 + 1)))] [] (I, J, PP b) Q))))))))) : Tri G h 202 119 119 24 [some (vr 91), some (vr 2015), some (vi l2), some (vi l3)] [] (I, J, PP b) Q := wp_at ck202 [(24, [true, true, true, true])] 400 (sl4_15 (by omega)  (And.intro (fun q1875 => H.1 q1875) (fun q1876 => And.intro (fun q1877 => (H.2 q1876).1 q1877) (fun q1878 => And.intro ((H.2 q1876).2 q1878).1 (sc6_15 (by omega) (((H.2 q1876).2 q1878).2).1 ((((H.2 q1876).2 q1878).2).2))))))
theorem x202_15_m {G : Ctx} {h : Nat} {Q : MP} {I : Nat → Nat → Int} {J : Nat → Nat → BitVec 64} {b : B3} (hh : 5 ≤ h) (H : ∀ h, 4 ≤ h → Tri G h 202 119 119 0 [some (vr 91), some (vr 2015)] [] (I, J, PP b) Q) : TriM G h 202 119 119 [vr 91, vr 2015] (I, J, PP b) Q := TriM_intro (h - 1) (by omega) (by decide) (Nat.le_of_ble_eq_true rfl) (Nat.le_refl _) (Nat.le_refl _) (H (h - 1) (by omega))
set_option maxRecDepth 100000 in
theorem x202_16 {G : Ctx} {h : Nat} {Q : MP} {I : Nat → Nat → Int} {J : Nat → Nat → BitVec 64} {b : B3} (hh : 2 ≤ h) (H : ((¬ (w32 ((I 91 12) - (I 91 14))) = 4) → (Tri G h 202 119 119 24 [some (vr 91), some (vr 2016), some (vi 0), some (vi 0)] [] (I, J, PP b) Q)) ∧ (¬ (¬ (w32 ((I 91 12) - (I 91 14))) = 4) → (Tri G h 202 119 119 24 [some (vr 91), some (vr 2016), some (vi 1), some (vi 0)] [] (I, J, PP b) Q))) : Tri G h 202 119 119 0 [some (vr 91), some (vr 2016)] [] (I, J, PP b) Q := wp_at ck202 [(24, [true, true, true, true])] 400 (sl4_16 (by omega)  H)
set_option maxRecDepth 100000 in
theorem x202_16_24 {G : Ctx} {h : Nat} {Q : MP} {I : Nat → Nat → Int} {J : Nat → Nat → BitVec 64} {b : B3} {l2 l3 : Int} (hh : 4 ≤ h) (H : ((4 ≤ l3) → ((l2 = 0 ∨ l2 = 1) ∧ Q (some (vi l2)) (I, J, PP b))) ∧ (¬ (4 ≤ l3) → (((l2 = 0) → ((l2 = 0 ∨ l2 = 1) ∧ Q (some (vi l2)) (I, J, PP b))) ∧ (¬ (l2 = 0) → ((0 ≤ (w32 ((I 91 14) + l3)) ∧ (w32 ((I 91 14) + l3)) < (400 : Int)) ∧ ((0 ≤ l3 ∧ l3 < (4 : Int)) ∧ (((¬ (I 96 ((w32 ((I 91 14) + l3)).toNat)) = (stC 16 l3.toNat)) → (Tri G h 202 119 119 24 [some (vr 91), some (vr 2016), some (vi 0), some (vi (w32 (l3 + 1)))] [] (I, J, PP b) Q)) ∧ (¬ (¬ (I 96 ((w32 ((I 91 14) + l3)).toNat)) = (stC 16 l3.toNat)) → (Tri G h 202 119 119 24 [some (vr 91), some (vr 2016), some (vi 1), some (vi (w32 (l3 + 1)))] [] (I, J, PP b) Q))))))))) : Tri G h 202 119 119 24 [some (vr 91), some (vr 2016), some (vi l2), some (vi l3)] [] (I, J, PP b) Q := wp_at ck202 [(24, [true, true, true, true])] 400 (sl4_16 (by omega)  (And.intro (fun q1879 => H.1 q1879) (fun q1880 => And.intro (fun q1881 => (H.2 q1880).1 q1881) (fun q1882 => And.intro ((H.2 q1880).2 q1882).1 (sc6_16 (by omega) (((H.2 q1880).2 q1882).2).1 ((((H.2 q1880).2 q1882).2).2))))))
theorem x202_16_m {G : Ctx} {h : Nat} {Q : MP} {I : Nat → Nat → Int} {J : Nat → Nat → BitVec 64} {b : B3} (hh : 5 ≤ h) (H : ∀ h, 4 ≤ h → Tri G h 202 119 119 0 [some (vr 91), some (vr 2016)] [] (I, J, PP b) Q) : TriM G h 202 119 119 [vr 91, vr 2016] (I, J, PP b) Q := TriM_intro (h - 1) (by omega) (by decide) (Nat.le_of_ble_eq_true rfl) (Nat.le_refl _) (Nat.le_refl _) (H (h - 1) (by omega))
set_option maxRecDepth 100000 in
theorem x202_17 {G : Ctx} {h : Nat} {Q : MP} {I : Nat → Nat → Int} {J : Nat → Nat → BitVec 64} {b : B3} (hh : 2 ≤ h) (H : ((¬ (w32 ((I 91 12) - (I 91 14))) = 4) → (Tri G h 202 119 119 24 [some (vr 91), some (vr 2017), some (vi 0), some (vi 0)] [] (I, J, PP b) Q)) ∧ (¬ (¬ (w32 ((I 91 12) - (I 91 14))) = 4) → (Tri G h 202 119 119 24 [some (vr 91), some (vr 2017), some (vi 1), some (vi 0)] [] (I, J, PP b) Q))) : Tri G h 202 119 119 0 [some (vr 91), some (vr 2017)] [] (I, J, PP b) Q := wp_at ck202 [(24, [true, true, true, true])] 400 (sl4_17 (by omega)  H)
set_option maxRecDepth 100000 in
theorem x202_17_24 {G : Ctx} {h : Nat} {Q : MP} {I : Nat → Nat → Int} {J : Nat → Nat → BitVec 64} {b : B3} {l2 l3 : Int} (hh : 4 ≤ h) (H : ((4 ≤ l3) → ((l2 = 0 ∨ l2 = 1) ∧ Q (some (vi l2)) (I, J, PP b))) ∧ (¬ (4 ≤ l3) → (((l2 = 0) → ((l2 = 0 ∨ l2 = 1) ∧ Q (some (vi l2)) (I, J, PP b))) ∧ (¬ (l2 = 0) → ((0 ≤ (w32 ((I 91 14) + l3)) ∧ (w32 ((I 91 14) + l3)) < (400 : Int)) ∧ ((0 ≤ l3 ∧ l3 < (4 : Int)) ∧ (((¬ (I 96 ((w32 ((I 91 14) + l3)).toNat)) = (stC 17 l3.toNat)) → (Tri G h 202 119 119 24 [some (vr 91), some (vr 2017), some (vi 0), some (vi (w32 (l3 + 1)))] [] (I, J, PP b) Q)) ∧ (¬ (¬ (I 96 ((w32 ((I 91 14) + l3)).toNat)) = (stC 17 l3.toNat)) → (Tri G h 202 119 119 24 [some (vr 91), some (vr 2017), some (vi 1), some (vi (w32 (l3 + 1)))] [] (I, J, PP b) Q))))))))) : Tri G h 202 119 119 24 [some (vr 91), some (vr 2017), some (vi l2), some (vi l3)] [] (I, J, PP b) Q := wp_at ck202 [(24, [true, true, true, true])] 400 (sl4_17 (by omega)  (And.intro (fun q1883 => H.1 q1883) (fun q1884 => And.intro (fun q1885 => (H.2 q1884).1 q1885) (fun q1886 => And.intro ((H.2 q1884).2 q1886).1 (sc6_17 (by omega) (((H.2 q1884).2 q1886).2).1 ((((H.2 q1884).2 q1886).2).2))))))
theorem x202_17_m {G : Ctx} {h : Nat} {Q : MP} {I : Nat → Nat → Int} {J : Nat → Nat → BitVec 64} {b : B3} (hh : 5 ≤ h) (H : ∀ h, 4 ≤ h → Tri G h 202 119 119 0 [some (vr 91), some (vr 2017)] [] (I, J, PP b) Q) : TriM G h 202 119 119 [vr 91, vr 2017] (I, J, PP b) Q := TriM_intro (h - 1) (by omega) (by decide) (Nat.le_of_ble_eq_true rfl) (Nat.le_refl _) (Nat.le_refl _) (H (h - 1) (by omega))
set_option maxRecDepth 100000 in
theorem x202_18 {G : Ctx} {h : Nat} {Q : MP} {I : Nat → Nat → Int} {J : Nat → Nat → BitVec 64} {b : B3} (hh : 2 ≤ h) (H : ((¬ (w32 ((I 91 12) - (I 91 14))) = 3) → (Tri G h 202 119 119 24 [some (vr 91), some (vr 2018), some (vi 0), some (vi 0)] [] (I, J, PP b) Q)) ∧ (¬ (¬ (w32 ((I 91 12) - (I 91 14))) = 3) → (Tri G h 202 119 119 24 [some (vr 91), some (vr 2018), some (vi 1), some (vi 0)] [] (I, J, PP b) Q))) : Tri G h 202 119 119 0 [some (vr 91), some (vr 2018)] [] (I, J, PP b) Q := wp_at ck202 [(24, [true, true, true, true])] 400 (sl4_18 (by omega)  H)
set_option maxRecDepth 100000 in
theorem x202_18_24 {G : Ctx} {h : Nat} {Q : MP} {I : Nat → Nat → Int} {J : Nat → Nat → BitVec 64} {b : B3} {l2 l3 : Int} (hh : 4 ≤ h) (H : ((3 ≤ l3) → ((l2 = 0 ∨ l2 = 1) ∧ Q (some (vi l2)) (I, J, PP b))) ∧ (¬ (3 ≤ l3) → (((l2 = 0) → ((l2 = 0 ∨ l2 = 1) ∧ Q (some (vi l2)) (I, J, PP b))) ∧ (¬ (l2 = 0) → ((0 ≤ (w32 ((I 91 14) + l3)) ∧ (w32 ((I 91 14) + l3)) < (400 : Int)) ∧ ((0 ≤ l3 ∧ l3 < (3 : Int)) ∧ (((¬ (I 96 ((w32 ((I 91 14) + l3)).toNat)) = (stC 18 l3.toNat)) → (Tri G h 202 119 119 24 [some (vr 91), some (vr 2018), some (vi 0), some (vi (w32 (l3 + 1)))] [] (I, J, PP b) Q)) ∧ (¬ (¬ (I 96 ((w32 ((I 91 14) + l3)).toNat)) = (stC 18 l3.toNat)) → (Tri G h 202 119 119 24 [some (vr 91), some (vr 2018), some (vi 1), some (vi (w32 (l3 + 1)))] [] (I, J, PP b) Q))))))))) : Tri G h 202 119 119 24 [some (vr 91), some (vr 2018), some (vi l2), some (vi l3)] [] (I, J, PP b) Q := wp_at ck202 [(24, [true, true, true, true])] 400 (sl4_18 (by omega)  (And.intro (fun q1887 => H.1 q1887) (fun q1888 => And.intro (fun q1889 => (H.2 q1888).1 q1889) (fun q1890 => And.intro ((H.2 q1888).2 q1890).1 (sc6_18 (by omega) (((H.2 q1888).2 q1890).2).1 ((((H.2 q1888).2 q1890).2).2))))))
theorem x202_18_m {G : Ctx} {h : Nat} {Q : MP} {I : Nat → Nat → Int} {J : Nat → Nat → BitVec 64} {b : B3} (hh : 5 ≤ h) (H : ∀ h, 4 ≤ h → Tri G h 202 119 119 0 [some (vr 91), some (vr 2018)] [] (I, J, PP b) Q) : TriM G h 202 119 119 [vr 91, vr 2018] (I, J, PP b) Q := TriM_intro (h - 1) (by omega) (by decide) (Nat.le_of_ble_eq_true rfl) (Nat.le_refl _) (Nat.le_refl _) (H (h - 1) (by omega))
set_option maxRecDepth 100000 in
theorem x202_19 {G : Ctx} {h : Nat} {Q : MP} {I : Nat → Nat → Int} {J : Nat → Nat → BitVec 64} {b : B3} (hh : 2 ≤ h) (H : ((¬ (w32 ((I 91 12) - (I 91 14))) = 6) → (Tri G h 202 119 119 24 [some (vr 91), some (vr 2019), some (vi 0), some (vi 0)] [] (I, J, PP b) Q)) ∧ (¬ (¬ (w32 ((I 91 12) - (I 91 14))) = 6) → (Tri G h 202 119 119 24 [some (vr 91), some (vr 2019), some (vi 1), some (vi 0)] [] (I, J, PP b) Q))) : Tri G h 202 119 119 0 [some (vr 91), some (vr 2019)] [] (I, J, PP b) Q := wp_at ck202 [(24, [true, true, true, true])] 400 (sl4_19 (by omega)  H)
set_option maxRecDepth 100000 in
theorem x202_19_24 {G : Ctx} {h : Nat} {Q : MP} {I : Nat → Nat → Int} {J : Nat → Nat → BitVec 64} {b : B3} {l2 l3 : Int} (hh : 4 ≤ h) (H : ((6 ≤ l3) → ((l2 = 0 ∨ l2 = 1) ∧ Q (some (vi l2)) (I, J, PP b))) ∧ (¬ (6 ≤ l3) → (((l2 = 0) → ((l2 = 0 ∨ l2 = 1) ∧ Q (some (vi l2)) (I, J, PP b))) ∧ (¬ (l2 = 0) → ((0 ≤ (w32 ((I 91 14) + l3)) ∧ (w32 ((I 91 14) + l3)) < (400 : Int)) ∧ ((0 ≤ l3 ∧ l3 < (6 : Int)) ∧ (((¬ (I 96 ((w32 ((I 91 14) + l3)).toNat)) = (stC 19 l3.toNat)) → (Tri G h 202 119 119 24 [some (vr 91), some (vr 2019), some (vi 0), some (vi (w32 (l3 + 1)))] [] (I, J, PP b) Q)) ∧ (¬ (¬ (I 96 ((w32 ((I 91 14) + l3)).toNat)) = (stC 19 l3.toNat)) → (Tri G h 202 119 119 24 [some (vr 91), some (vr 2019), some (vi 1), some (vi (w32 (l3 + 1)))] [] (I, J, PP b) Q))))))))) : Tri G h 202 119 119 24 [some (vr 91), some (vr 2019), some (vi l2), some (vi l3)] [] (I, J, PP b) Q := wp_at ck202 [(24, [true, true, true, true])] 400 (sl4_19 (by omega)  (And.intro (fun q1891 => H.1 q1891) (fun q1892 => And.intro (fun q1893 => (H.2 q1892).1 q1893) (fun q1894 => And.intro ((H.2 q1892).2 q1894).1 (sc6_19 (by omega) (((H.2 q1892).2 q1894).2).1 ((((H.2 q1892).2 q1894).2).2))))))
theorem x202_19_m {G : Ctx} {h : Nat} {Q : MP} {I : Nat → Nat → Int} {J : Nat → Nat → BitVec 64} {b : B3} (hh : 5 ≤ h) (H : ∀ h, 4 ≤ h → Tri G h 202 119 119 0 [some (vr 91), some (vr 2019)] [] (I, J, PP b) Q) : TriM G h 202 119 119 [vr 91, vr 2019] (I, J, PP b) Q := TriM_intro (h - 1) (by omega) (by decide) (Nat.le_of_ble_eq_true rfl) (Nat.le_refl _) (Nat.le_refl _) (H (h - 1) (by omega))
set_option maxRecDepth 100000 in
theorem x202_20 {G : Ctx} {h : Nat} {Q : MP} {I : Nat → Nat → Int} {J : Nat → Nat → BitVec 64} {b : B3} (hh : 2 ≤ h) (H : ((¬ (w32 ((I 91 12) - (I 91 14))) = 6) → (Tri G h 202 119 119 24 [some (vr 91), some (vr 2020), some (vi 0), some (vi 0)] [] (I, J, PP b) Q)) ∧ (¬ (¬ (w32 ((I 91 12) - (I 91 14))) = 6) → (Tri G h 202 119 119 24 [some (vr 91), some (vr 2020), some (vi 1), some (vi 0)] [] (I, J, PP b) Q))) : Tri G h 202 119 119 0 [some (vr 91), some (vr 2020)] [] (I, J, PP b) Q := wp_at ck202 [(24, [true, true, true, true])] 400 (sl4_20 (by omega)  H)
set_option maxRecDepth 100000 in
theorem x202_20_24 {G : Ctx} {h : Nat} {Q : MP} {I : Nat → Nat → Int} {J : Nat → Nat → BitVec 64} {b : B3} {l2 l3 : Int} (hh : 4 ≤ h) (H : ((6 ≤ l3) → ((l2 = 0 ∨ l2 = 1) ∧ Q (some (vi l2)) (I, J, PP b))) ∧ (¬ (6 ≤ l3) → (((l2 = 0) → ((l2 = 0 ∨ l2 = 1) ∧ Q (some (vi l2)) (I, J, PP b))) ∧ (¬ (l2 = 0) → ((0 ≤ (w32 ((I 91 14) + l3)) ∧ (w32 ((I 91 14) + l3)) < (400 : Int)) ∧ ((0 ≤ l3 ∧ l3 < (6 : Int)) ∧ (((¬ (I 96 ((w32 ((I 91 14) + l3)).toNat)) = (stC 20 l3.toNat)) → (Tri G h 202 119 119 24 [some (vr 91), some (vr 2020), some (vi 0), some (vi (w32 (l3 + 1)))] [] (I, J, PP b) Q)) ∧ (¬ (¬ (I 96 ((w32 ((I 91 14) + l3)).toNat)) = (stC 20 l3.toNat)) → (Tri G h 202 119 119 24 [some (vr 91), some (vr 2020), some (vi 1), some (vi (w32 (l3 + 1)))] [] (I, J, PP b) Q))))))))) : Tri G h 202 119 119 24 [some (vr 91), some (vr 2020), some (vi l2), some (vi l3)] [] (I, J, PP b) Q := wp_at ck202 [(24, [true, true, true, true])] 400 (sl4_20 (by omega)  (And.intro (fun q1895 => H.1 q1895) (fun q1896 => And.intro (fun q1897 => (H.2 q1896).1 q1897) (fun q1898 => And.intro ((H.2 q1896).2 q1898).1 (sc6_20 (by omega) (((H.2 q1896).2 q1898).2).1 ((((H.2 q1896).2 q1898).2).2))))))
theorem x202_20_m {G : Ctx} {h : Nat} {Q : MP} {I : Nat → Nat → Int} {J : Nat → Nat → BitVec 64} {b : B3} (hh : 5 ≤ h) (H : ∀ h, 4 ≤ h → Tri G h 202 119 119 0 [some (vr 91), some (vr 2020)] [] (I, J, PP b) Q) : TriM G h 202 119 119 [vr 91, vr 2020] (I, J, PP b) Q := TriM_intro (h - 1) (by omega) (by decide) (Nat.le_of_ble_eq_true rfl) (Nat.le_refl _) (Nat.le_refl _) (H (h - 1) (by omega))
set_option maxRecDepth 100000 in
theorem x202_21 {G : Ctx} {h : Nat} {Q : MP} {I : Nat → Nat → Int} {J : Nat → Nat → BitVec 64} {b : B3} (hh : 2 ≤ h) (H : ((¬ (w32 ((I 91 12) - (I 91 14))) = 4) → (Tri G h 202 119 119 24 [some (vr 91), some (vr 2021), some (vi 0), some (vi 0)] [] (I, J, PP b) Q)) ∧ (¬ (¬ (w32 ((I 91 12) - (I 91 14))) = 4) → (Tri G h 202 119 119 24 [some (vr 91), some (vr 2021), some (vi 1), some (vi 0)] [] (I, J, PP b) Q))) : Tri G h 202 119 119 0 [some (vr 91), some (vr 2021)] [] (I, J, PP b) Q := wp_at ck202 [(24, [true, true, true, true])] 400 (sl4_21 (by omega)  H)
set_option maxRecDepth 100000 in
theorem x202_21_24 {G : Ctx} {h : Nat} {Q : MP} {I : Nat → Nat → Int} {J : Nat → Nat → BitVec 64} {b : B3} {l2 l3 : Int} (hh : 4 ≤ h) (H : ((4 ≤ l3) → ((l2 = 0 ∨ l2 = 1) ∧ Q (some (vi l2)) (I, J, PP b))) ∧ (¬ (4 ≤ l3) → (((l2 = 0) → ((l2 = 0 ∨ l2 = 1) ∧ Q (some (vi l2)) (I, J, PP b))) ∧ (¬ (l2 = 0) → ((0 ≤ (w32 ((I 91 14) + l3)) ∧ (w32 ((I 91 14) + l3)) < (400 : Int)) ∧ ((0 ≤ l3 ∧ l3 < (4 : Int)) ∧ (((¬ (I 96 ((w32 ((I 91 14) + l3)).toNat)) = (stC 21 l3.toNat)) → (Tri G h 202 119 119 24 [some (vr 91), some (vr 2021), some (vi 0), some (vi (w32 (l3 + 1)))] [] (I, J, PP b) Q)) ∧ (¬ (¬ (I 96 ((w32 ((I 91 14) + l3)).toNat)) = (stC 21 l3.toNat)) → (Tri G h 202 119 119 24 [some (vr 91), some (vr 2021), some (vi 1), some (vi (w32 (l3 + 1)))] [] (I, J, PP b) Q))))))))) : Tri G h 202 119 119 24 [some (vr 91), some (vr 2021), some (vi l2), some (vi l3)] [] (I, J, PP b) Q := wp_at ck202 [(24, [true, true, true, true])] 400 (sl4_21 (by omega)  (And.intro (fun q1899 => H.1 q1899) (fun q1900 => And.intro (fun q1901 => (H.2 q1900).1 q1901) (fun q1902 => And.intro ((H.2 q1900).2 q1902).1 (sc6_21 (by omega) (((H.2 q1900).2 q1902).2).1 ((((H.2 q1900).2 q1902).2).2))))))
theorem x202_21_m {G : Ctx} {h : Nat} {Q : MP} {I : Nat → Nat → Int} {J : Nat → Nat → BitVec 64} {b : B3} (hh : 5 ≤ h) (H : ∀ h, 4 ≤ h → Tri G h 202 119 119 0 [some (vr 91), some (vr 2021)] [] (I, J, PP b) Q) : TriM G h 202 119 119 [vr 91, vr 2021] (I, J, PP b) Q := TriM_intro (h - 1) (by omega) (by decide) (Nat.le_of_ble_eq_true rfl) (Nat.le_refl _) (Nat.le_refl _) (H (h - 1) (by omega))
abbrev wd3 : List Int := [119, 104, 101, 110]
theorem sb202_3 {G : Ctx} {h : Nat} {I : MI} {J : MJ} {b : B3} {K : Int → MS → Prop} (hh : 6 ≤ h) (g : 0 ≤ I 91 14 ∧ I 91 14 ≤ I 91 12 ∧ I 91 12 ≤ 400) (k1 : wq (I 96) (I 91 12).toNat (I 91 14).toNat wd3 = true → K 1 (I, J, PP b)) (k0 : ¬ (wq (I 96) (I 91 12).toNat (I 91 14).toNat wd3 = true) → K 0 (I, J, PP b)) : TriM G h 202 119 119 [vr 91, vr 2003] (I, J, PP b) (cI' K) := by
  obtain ⟨e, he⟩ : ∃ e : Nat, I 91 12 = e := ⟨(I 91 12).toNat, by omega⟩
  obtain ⟨i, hi⟩ : ∃ i : Nat, I 91 14 = i := ⟨(I 91 14).toNat, by omega⟩
  rw [he, hi, toN, toN] at k1 k0
  have row : ∀ j : Nat, j < 4 → (wd3).drop j = stC 3 j :: (wd3).drop (j + 1) := by decide +kernel
  have z0 : ∀ h, 4 ≤ h → ∀ j : Int, ¬ (wq (I 96) e i wd3 = true) → Tri G h 202 119 119 24 [some (vr 91), some (vr 2003), some (vi 0), some (vi j)] [] (I, J, PP b) (cI' K) := fun h hh j hn => x202_3_24 hh ⟨fun _ => ⟨Or.inl rfl, cI_r (k0 hn)⟩, fun _ => ⟨fun _ => ⟨Or.inl rfl, cI_r (k0 hn)⟩, fun q => absurd rfl q⟩⟩
  have loop : ∀ h, 4 ≤ h → e = i + 4 → ∀ m j : Nat, j + m = 4 → wq (I 96) e (i + j) ((wd3).drop j) = wq (I 96) e i wd3 → Tri G h 202 119 119 24 [some (vr 91), some (vr 2003), some (vi 1), some (vi (j : Int))] [] (I, J, PP b) (cI' K) := by
    intro h hh hL m
    induction m with
    | zero =>
      intro j hj hw
      obtain rfl : j = 4 := by omega
      have hw2 : decide (i + 4 = e) = wq (I 96) e i wd3 := hw
      rw [decide_eq_true (by omega)] at hw2
      exact x202_3_24 hh ⟨fun _ => ⟨Or.inr rfl, cI_r (k1 hw2.symm)⟩, fun q => by omega⟩
    | succ m ih =>
      intro j hj hw
      rw [row j (by omega)] at hw
      have hw2 : (decide (i + j < e) && (decide (I 96 (i + j) = stC 3 j) && wq (I 96) e (i + j + 1) ((wd3).drop (j + 1)))) = wq (I 96) e i wd3 := hw
      refine x202_3_24 hh ⟨fun q => by omega, fun _ => ⟨fun q => absurd q (by decide), fun _ => ?_⟩⟩
      rw [hi, toN, w32_id (x := (i : Int) + j) (by omega) (by omega), w32_id (x := (j : Int) + 1) (by omega) (by omega), show ((i : Int) + (j : Int)).toNat = i + j by omega]
      refine ⟨by omega, by omega, fun q => z0 h hh _ ?_, fun q => ih (j + 1) (by omega) ?_⟩
      · rw [← hw2, decide_eq_false q, Bool.false_and, Bool.and_false]
        decide
      · rw [← hw2, decide_eq_true (Decidable.of_not_not q), decide_eq_true (show i + j < e by omega), Bool.true_and, Bool.true_and]
        rfl
  refine TriM_intro (h - 1) (by omega) (by decide) (Nat.le_of_ble_eq_true rfl) (Nat.le_refl _) (Nat.le_refl _) (x202_3 (by omega) ?_)
  rw [he, hi, w32_id (x := (e : Int) - i) (by omega) (by omega)]
  refine ⟨fun q => z0 (h - 1) (by omega) 0 (fun z => ?_), fun q => loop (h - 1) (by omega) (by omega) 4 0 (by omega) rfl⟩
  have := wq_len z
  rw [show (wd3).length = 4 from rfl] at this
  omega
abbrev wd4 : List Int := [111, 114]
theorem sb202_4 {G : Ctx} {h : Nat} {I : MI} {J : MJ} {b : B3} {K : Int → MS → Prop} (hh : 6 ≤ h) (g : 0 ≤ I 91 14 ∧ I 91 14 ≤ I 91 12 ∧ I 91 12 ≤ 400) (k1 : wq (I 96) (I 91 12).toNat (I 91 14).toNat wd4 = true → K 1 (I, J, PP b)) (k0 : ¬ (wq (I 96) (I 91 12).toNat (I 91 14).toNat wd4 = true) → K 0 (I, J, PP b)) : TriM G h 202 119 119 [vr 91, vr 2004] (I, J, PP b) (cI' K) := by
  obtain ⟨e, he⟩ : ∃ e : Nat, I 91 12 = e := ⟨(I 91 12).toNat, by omega⟩
  obtain ⟨i, hi⟩ : ∃ i : Nat, I 91 14 = i := ⟨(I 91 14).toNat, by omega⟩
  rw [he, hi, toN, toN] at k1 k0
  have row : ∀ j : Nat, j < 2 → (wd4).drop j = stC 4 j :: (wd4).drop (j + 1) := by decide +kernel
  have z0 : ∀ h, 4 ≤ h → ∀ j : Int, ¬ (wq (I 96) e i wd4 = true) → Tri G h 202 119 119 24 [some (vr 91), some (vr 2004), some (vi 0), some (vi j)] [] (I, J, PP b) (cI' K) := fun h hh j hn => x202_4_24 hh ⟨fun _ => ⟨Or.inl rfl, cI_r (k0 hn)⟩, fun _ => ⟨fun _ => ⟨Or.inl rfl, cI_r (k0 hn)⟩, fun q => absurd rfl q⟩⟩
  have loop : ∀ h, 4 ≤ h → e = i + 2 → ∀ m j : Nat, j + m = 2 → wq (I 96) e (i + j) ((wd4).drop j) = wq (I 96) e i wd4 → Tri G h 202 119 119 24 [some (vr 91), some (vr 2004), some (vi 1), some (vi (j : Int))] [] (I, J, PP b) (cI' K) := by
    intro h hh hL m
    induction m with
    | zero =>
      intro j hj hw
      obtain rfl : j = 2 := by omega
      have hw2 : decide (i + 2 = e) = wq (I 96) e i wd4 := hw
      rw [decide_eq_true (by omega)] at hw2
      exact x202_4_24 hh ⟨fun _ => ⟨Or.inr rfl, cI_r (k1 hw2.symm)⟩, fun q => by omega⟩
    | succ m ih =>
      intro j hj hw
      rw [row j (by omega)] at hw
      have hw2 : (decide (i + j < e) && (decide (I 96 (i + j) = stC 4 j) && wq (I 96) e (i + j + 1) ((wd4).drop (j + 1)))) = wq (I 96) e i wd4 := hw
      refine x202_4_24 hh ⟨fun q => by omega, fun _ => ⟨fun q => absurd q (by decide), fun _ => ?_⟩⟩
      rw [hi, toN, w32_id (x := (i : Int) + j) (by omega) (by omega), w32_id (x := (j : Int) + 1) (by omega) (by omega), show ((i : Int) + (j : Int)).toNat = i + j by omega]
      refine ⟨by omega, by omega, fun q => z0 h hh _ ?_, fun q => ih (j + 1) (by omega) ?_⟩
      · rw [← hw2, decide_eq_false q, Bool.false_and, Bool.and_false]
        decide
      · rw [← hw2, decide_eq_true (Decidable.of_not_not q), decide_eq_true (show i + j < e by omega), Bool.true_and, Bool.true_and]
        rfl
  refine TriM_intro (h - 1) (by omega) (by decide) (Nat.le_of_ble_eq_true rfl) (Nat.le_refl _) (Nat.le_refl _) (x202_4 (by omega) ?_)
  rw [he, hi, w32_id (x := (e : Int) - i) (by omega) (by omega)]
  refine ⟨fun q => z0 (h - 1) (by omega) 0 (fun z => ?_), fun q => loop (h - 1) (by omega) (by omega) 2 0 (by omega) rfl⟩
  have := wq_len z
  rw [show (wd4).length = 2 from rfl] at this
  omega
abbrev wd5 : List Int := [97, 110, 100]
theorem sb202_5 {G : Ctx} {h : Nat} {I : MI} {J : MJ} {b : B3} {K : Int → MS → Prop} (hh : 6 ≤ h) (g : 0 ≤ I 91 14 ∧ I 91 14 ≤ I 91 12 ∧ I 91 12 ≤ 400) (k1 : wq (I 96) (I 91 12).toNat (I 91 14).toNat wd5 = true → K 1 (I, J, PP b)) (k0 : ¬ (wq (I 96) (I 91 12).toNat (I 91 14).toNat wd5 = true) → K 0 (I, J, PP b)) : TriM G h 202 119 119 [vr 91, vr 2005] (I, J, PP b) (cI' K) := by
  obtain ⟨e, he⟩ : ∃ e : Nat, I 91 12 = e := ⟨(I 91 12).toNat, by omega⟩
  obtain ⟨i, hi⟩ : ∃ i : Nat, I 91 14 = i := ⟨(I 91 14).toNat, by omega⟩
  rw [he, hi, toN, toN] at k1 k0
  have row : ∀ j : Nat, j < 3 → (wd5).drop j = stC 5 j :: (wd5).drop (j + 1) := by decide +kernel
  have z0 : ∀ h, 4 ≤ h → ∀ j : Int, ¬ (wq (I 96) e i wd5 = true) → Tri G h 202 119 119 24 [some (vr 91), some (vr 2005), some (vi 0), some (vi j)] [] (I, J, PP b) (cI' K) := fun h hh j hn => x202_5_24 hh ⟨fun _ => ⟨Or.inl rfl, cI_r (k0 hn)⟩, fun _ => ⟨fun _ => ⟨Or.inl rfl, cI_r (k0 hn)⟩, fun q => absurd rfl q⟩⟩
  have loop : ∀ h, 4 ≤ h → e = i + 3 → ∀ m j : Nat, j + m = 3 → wq (I 96) e (i + j) ((wd5).drop j) = wq (I 96) e i wd5 → Tri G h 202 119 119 24 [some (vr 91), some (vr 2005), some (vi 1), some (vi (j : Int))] [] (I, J, PP b) (cI' K) := by
    intro h hh hL m
    induction m with
    | zero =>
      intro j hj hw
      obtain rfl : j = 3 := by omega
      have hw2 : decide (i + 3 = e) = wq (I 96) e i wd5 := hw
      rw [decide_eq_true (by omega)] at hw2
      exact x202_5_24 hh ⟨fun _ => ⟨Or.inr rfl, cI_r (k1 hw2.symm)⟩, fun q => by omega⟩
    | succ m ih =>
      intro j hj hw
      rw [row j (by omega)] at hw
      have hw2 : (decide (i + j < e) && (decide (I 96 (i + j) = stC 5 j) && wq (I 96) e (i + j + 1) ((wd5).drop (j + 1)))) = wq (I 96) e i wd5 := hw
      refine x202_5_24 hh ⟨fun q => by omega, fun _ => ⟨fun q => absurd q (by decide), fun _ => ?_⟩⟩
      rw [hi, toN, w32_id (x := (i : Int) + j) (by omega) (by omega), w32_id (x := (j : Int) + 1) (by omega) (by omega), show ((i : Int) + (j : Int)).toNat = i + j by omega]
      refine ⟨by omega, by omega, fun q => z0 h hh _ ?_, fun q => ih (j + 1) (by omega) ?_⟩
      · rw [← hw2, decide_eq_false q, Bool.false_and, Bool.and_false]
        decide
      · rw [← hw2, decide_eq_true (Decidable.of_not_not q), decide_eq_true (show i + j < e by omega), Bool.true_and, Bool.true_and]
        rfl
  refine TriM_intro (h - 1) (by omega) (by decide) (Nat.le_of_ble_eq_true rfl) (Nat.le_refl _) (Nat.le_refl _) (x202_5 (by omega) ?_)
  rw [he, hi, w32_id (x := (e : Int) - i) (by omega) (by omega)]
  refine ⟨fun q => z0 (h - 1) (by omega) 0 (fun z => ?_), fun q => loop (h - 1) (by omega) (by omega) 3 0 (by omega) rfl⟩
  have := wq_len z
  rw [show (wd5).length = 3 from rfl] at this
  omega
abbrev wd6 : List Int := [110, 111, 116]
theorem sb202_6 {G : Ctx} {h : Nat} {I : MI} {J : MJ} {b : B3} {K : Int → MS → Prop} (hh : 6 ≤ h) (g : 0 ≤ I 91 14 ∧ I 91 14 ≤ I 91 12 ∧ I 91 12 ≤ 400) (k1 : wq (I 96) (I 91 12).toNat (I 91 14).toNat wd6 = true → K 1 (I, J, PP b)) (k0 : ¬ (wq (I 96) (I 91 12).toNat (I 91 14).toNat wd6 = true) → K 0 (I, J, PP b)) : TriM G h 202 119 119 [vr 91, vr 2006] (I, J, PP b) (cI' K) := by
  obtain ⟨e, he⟩ : ∃ e : Nat, I 91 12 = e := ⟨(I 91 12).toNat, by omega⟩
  obtain ⟨i, hi⟩ : ∃ i : Nat, I 91 14 = i := ⟨(I 91 14).toNat, by omega⟩
  rw [he, hi, toN, toN] at k1 k0
  have row : ∀ j : Nat, j < 3 → (wd6).drop j = stC 6 j :: (wd6).drop (j + 1) := by decide +kernel
  have z0 : ∀ h, 4 ≤ h → ∀ j : Int, ¬ (wq (I 96) e i wd6 = true) → Tri G h 202 119 119 24 [some (vr 91), some (vr 2006), some (vi 0), some (vi j)] [] (I, J, PP b) (cI' K) := fun h hh j hn => x202_6_24 hh ⟨fun _ => ⟨Or.inl rfl, cI_r (k0 hn)⟩, fun _ => ⟨fun _ => ⟨Or.inl rfl, cI_r (k0 hn)⟩, fun q => absurd rfl q⟩⟩
  have loop : ∀ h, 4 ≤ h → e = i + 3 → ∀ m j : Nat, j + m = 3 → wq (I 96) e (i + j) ((wd6).drop j) = wq (I 96) e i wd6 → Tri G h 202 119 119 24 [some (vr 91), some (vr 2006), some (vi 1), some (vi (j : Int))] [] (I, J, PP b) (cI' K) := by
    intro h hh hL m
    induction m with
    | zero =>
      intro j hj hw
      obtain rfl : j = 3 := by omega
      have hw2 : decide (i + 3 = e) = wq (I 96) e i wd6 := hw
      rw [decide_eq_true (by omega)] at hw2
      exact x202_6_24 hh ⟨fun _ => ⟨Or.inr rfl, cI_r (k1 hw2.symm)⟩, fun q => by omega⟩
    | succ m ih =>
      intro j hj hw
      rw [row j (by omega)] at hw
      have hw2 : (decide (i + j < e) && (decide (I 96 (i + j) = stC 6 j) && wq (I 96) e (i + j + 1) ((wd6).drop (j + 1)))) = wq (I 96) e i wd6 := hw
      refine x202_6_24 hh ⟨fun q => by omega, fun _ => ⟨fun q => absurd q (by decide), fun _ => ?_⟩⟩
      rw [hi, toN, w32_id (x := (i : Int) + j) (by omega) (by omega), w32_id (x := (j : Int) + 1) (by omega) (by omega), show ((i : Int) + (j : Int)).toNat = i + j by omega]
      refine ⟨by omega, by omega, fun q => z0 h hh _ ?_, fun q => ih (j + 1) (by omega) ?_⟩
      · rw [← hw2, decide_eq_false q, Bool.false_and, Bool.and_false]
        decide
      · rw [← hw2, decide_eq_true (Decidable.of_not_not q), decide_eq_true (show i + j < e by omega), Bool.true_and, Bool.true_and]
        rfl
  refine TriM_intro (h - 1) (by omega) (by decide) (Nat.le_of_ble_eq_true rfl) (Nat.le_refl _) (Nat.le_refl _) (x202_6 (by omega) ?_)
  rw [he, hi, w32_id (x := (e : Int) - i) (by omega) (by omega)]
  refine ⟨fun q => z0 (h - 1) (by omega) 0 (fun z => ?_), fun q => loop (h - 1) (by omega) (by omega) 3 0 (by omega) rfl⟩
  have := wq_len z
  rw [show (wd6).length = 3 from rfl] at this
  omega
abbrev wd7 : List Int := [108, 105, 107, 101]
theorem sb202_7 {G : Ctx} {h : Nat} {I : MI} {J : MJ} {b : B3} {K : Int → MS → Prop} (hh : 6 ≤ h) (g : 0 ≤ I 91 14 ∧ I 91 14 ≤ I 91 12 ∧ I 91 12 ≤ 400) (k1 : wq (I 96) (I 91 12).toNat (I 91 14).toNat wd7 = true → K 1 (I, J, PP b)) (k0 : ¬ (wq (I 96) (I 91 12).toNat (I 91 14).toNat wd7 = true) → K 0 (I, J, PP b)) : TriM G h 202 119 119 [vr 91, vr 2007] (I, J, PP b) (cI' K) := by
  obtain ⟨e, he⟩ : ∃ e : Nat, I 91 12 = e := ⟨(I 91 12).toNat, by omega⟩
  obtain ⟨i, hi⟩ : ∃ i : Nat, I 91 14 = i := ⟨(I 91 14).toNat, by omega⟩
  rw [he, hi, toN, toN] at k1 k0
  have row : ∀ j : Nat, j < 4 → (wd7).drop j = stC 7 j :: (wd7).drop (j + 1) := by decide +kernel
  have z0 : ∀ h, 4 ≤ h → ∀ j : Int, ¬ (wq (I 96) e i wd7 = true) → Tri G h 202 119 119 24 [some (vr 91), some (vr 2007), some (vi 0), some (vi j)] [] (I, J, PP b) (cI' K) := fun h hh j hn => x202_7_24 hh ⟨fun _ => ⟨Or.inl rfl, cI_r (k0 hn)⟩, fun _ => ⟨fun _ => ⟨Or.inl rfl, cI_r (k0 hn)⟩, fun q => absurd rfl q⟩⟩
  have loop : ∀ h, 4 ≤ h → e = i + 4 → ∀ m j : Nat, j + m = 4 → wq (I 96) e (i + j) ((wd7).drop j) = wq (I 96) e i wd7 → Tri G h 202 119 119 24 [some (vr 91), some (vr 2007), some (vi 1), some (vi (j : Int))] [] (I, J, PP b) (cI' K) := by
    intro h hh hL m
    induction m with
    | zero =>
      intro j hj hw
      obtain rfl : j = 4 := by omega
      have hw2 : decide (i + 4 = e) = wq (I 96) e i wd7 := hw
      rw [decide_eq_true (by omega)] at hw2
      exact x202_7_24 hh ⟨fun _ => ⟨Or.inr rfl, cI_r (k1 hw2.symm)⟩, fun q => by omega⟩
    | succ m ih =>
      intro j hj hw
      rw [row j (by omega)] at hw
      have hw2 : (decide (i + j < e) && (decide (I 96 (i + j) = stC 7 j) && wq (I 96) e (i + j + 1) ((wd7).drop (j + 1)))) = wq (I 96) e i wd7 := hw
      refine x202_7_24 hh ⟨fun q => by omega, fun _ => ⟨fun q => absurd q (by decide), fun _ => ?_⟩⟩
      rw [hi, toN, w32_id (x := (i : Int) + j) (by omega) (by omega), w32_id (x := (j : Int) + 1) (by omega) (by omega), show ((i : Int) + (j : Int)).toNat = i + j by omega]
      refine ⟨by omega, by omega, fun q => z0 h hh _ ?_, fun q => ih (j + 1) (by omega) ?_⟩
      · rw [← hw2, decide_eq_false q, Bool.false_and, Bool.and_false]
        decide
      · rw [← hw2, decide_eq_true (Decidable.of_not_not q), decide_eq_true (show i + j < e by omega), Bool.true_and, Bool.true_and]
        rfl
  refine TriM_intro (h - 1) (by omega) (by decide) (Nat.le_of_ble_eq_true rfl) (Nat.le_refl _) (Nat.le_refl _) (x202_7 (by omega) ?_)
  rw [he, hi, w32_id (x := (e : Int) - i) (by omega) (by omega)]
  refine ⟨fun q => z0 (h - 1) (by omega) 0 (fun z => ?_), fun q => loop (h - 1) (by omega) (by omega) 4 0 (by omega) rfl⟩
  have := wq_len z
  rw [show (wd7).length = 4 from rfl] at this
  omega
abbrev wd8 : List Int := [108, 101, 116, 116, 101, 114, 115]
theorem sb202_8 {G : Ctx} {h : Nat} {I : MI} {J : MJ} {b : B3} {K : Int → MS → Prop} (hh : 6 ≤ h) (g : 0 ≤ I 91 14 ∧ I 91 14 ≤ I 91 12 ∧ I 91 12 ≤ 400) (k1 : wq (I 96) (I 91 12).toNat (I 91 14).toNat wd8 = true → K 1 (I, J, PP b)) (k0 : ¬ (wq (I 96) (I 91 12).toNat (I 91 14).toNat wd8 = true) → K 0 (I, J, PP b)) : TriM G h 202 119 119 [vr 91, vr 2008] (I, J, PP b) (cI' K) := by
  obtain ⟨e, he⟩ : ∃ e : Nat, I 91 12 = e := ⟨(I 91 12).toNat, by omega⟩
  obtain ⟨i, hi⟩ : ∃ i : Nat, I 91 14 = i := ⟨(I 91 14).toNat, by omega⟩
  rw [he, hi, toN, toN] at k1 k0
  have row : ∀ j : Nat, j < 7 → (wd8).drop j = stC 8 j :: (wd8).drop (j + 1) := by decide +kernel
  have z0 : ∀ h, 4 ≤ h → ∀ j : Int, ¬ (wq (I 96) e i wd8 = true) → Tri G h 202 119 119 24 [some (vr 91), some (vr 2008), some (vi 0), some (vi j)] [] (I, J, PP b) (cI' K) := fun h hh j hn => x202_8_24 hh ⟨fun _ => ⟨Or.inl rfl, cI_r (k0 hn)⟩, fun _ => ⟨fun _ => ⟨Or.inl rfl, cI_r (k0 hn)⟩, fun q => absurd rfl q⟩⟩
  have loop : ∀ h, 4 ≤ h → e = i + 7 → ∀ m j : Nat, j + m = 7 → wq (I 96) e (i + j) ((wd8).drop j) = wq (I 96) e i wd8 → Tri G h 202 119 119 24 [some (vr 91), some (vr 2008), some (vi 1), some (vi (j : Int))] [] (I, J, PP b) (cI' K) := by
    intro h hh hL m
    induction m with
    | zero =>
      intro j hj hw
      obtain rfl : j = 7 := by omega
      have hw2 : decide (i + 7 = e) = wq (I 96) e i wd8 := hw
      rw [decide_eq_true (by omega)] at hw2
      exact x202_8_24 hh ⟨fun _ => ⟨Or.inr rfl, cI_r (k1 hw2.symm)⟩, fun q => by omega⟩
    | succ m ih =>
      intro j hj hw
      rw [row j (by omega)] at hw
      have hw2 : (decide (i + j < e) && (decide (I 96 (i + j) = stC 8 j) && wq (I 96) e (i + j + 1) ((wd8).drop (j + 1)))) = wq (I 96) e i wd8 := hw
      refine x202_8_24 hh ⟨fun q => by omega, fun _ => ⟨fun q => absurd q (by decide), fun _ => ?_⟩⟩
      rw [hi, toN, w32_id (x := (i : Int) + j) (by omega) (by omega), w32_id (x := (j : Int) + 1) (by omega) (by omega), show ((i : Int) + (j : Int)).toNat = i + j by omega]
      refine ⟨by omega, by omega, fun q => z0 h hh _ ?_, fun q => ih (j + 1) (by omega) ?_⟩
      · rw [← hw2, decide_eq_false q, Bool.false_and, Bool.and_false]
        decide
      · rw [← hw2, decide_eq_true (Decidable.of_not_not q), decide_eq_true (show i + j < e by omega), Bool.true_and, Bool.true_and]
        rfl
  refine TriM_intro (h - 1) (by omega) (by decide) (Nat.le_of_ble_eq_true rfl) (Nat.le_refl _) (Nat.le_refl _) (x202_8 (by omega) ?_)
  rw [he, hi, w32_id (x := (e : Int) - i) (by omega) (by omega)]
  refine ⟨fun q => z0 (h - 1) (by omega) 0 (fun z => ?_), fun q => loop (h - 1) (by omega) (by omega) 7 0 (by omega) rfl⟩
  have := wq_len z
  rw [show (wd8).length = 7 from rfl] at this
  omega
abbrev wd9 : List Int := [102, 105, 114, 115, 116]
theorem sb202_9 {G : Ctx} {h : Nat} {I : MI} {J : MJ} {b : B3} {K : Int → MS → Prop} (hh : 6 ≤ h) (g : 0 ≤ I 91 14 ∧ I 91 14 ≤ I 91 12 ∧ I 91 12 ≤ 400) (k1 : wq (I 96) (I 91 12).toNat (I 91 14).toNat wd9 = true → K 1 (I, J, PP b)) (k0 : ¬ (wq (I 96) (I 91 12).toNat (I 91 14).toNat wd9 = true) → K 0 (I, J, PP b)) : TriM G h 202 119 119 [vr 91, vr 2009] (I, J, PP b) (cI' K) := by
  obtain ⟨e, he⟩ : ∃ e : Nat, I 91 12 = e := ⟨(I 91 12).toNat, by omega⟩
  obtain ⟨i, hi⟩ : ∃ i : Nat, I 91 14 = i := ⟨(I 91 14).toNat, by omega⟩
  rw [he, hi, toN, toN] at k1 k0
  have row : ∀ j : Nat, j < 5 → (wd9).drop j = stC 9 j :: (wd9).drop (j + 1) := by decide +kernel
  have z0 : ∀ h, 4 ≤ h → ∀ j : Int, ¬ (wq (I 96) e i wd9 = true) → Tri G h 202 119 119 24 [some (vr 91), some (vr 2009), some (vi 0), some (vi j)] [] (I, J, PP b) (cI' K) := fun h hh j hn => x202_9_24 hh ⟨fun _ => ⟨Or.inl rfl, cI_r (k0 hn)⟩, fun _ => ⟨fun _ => ⟨Or.inl rfl, cI_r (k0 hn)⟩, fun q => absurd rfl q⟩⟩
  have loop : ∀ h, 4 ≤ h → e = i + 5 → ∀ m j : Nat, j + m = 5 → wq (I 96) e (i + j) ((wd9).drop j) = wq (I 96) e i wd9 → Tri G h 202 119 119 24 [some (vr 91), some (vr 2009), some (vi 1), some (vi (j : Int))] [] (I, J, PP b) (cI' K) := by
    intro h hh hL m
    induction m with
    | zero =>
      intro j hj hw
      obtain rfl : j = 5 := by omega
      have hw2 : decide (i + 5 = e) = wq (I 96) e i wd9 := hw
      rw [decide_eq_true (by omega)] at hw2
      exact x202_9_24 hh ⟨fun _ => ⟨Or.inr rfl, cI_r (k1 hw2.symm)⟩, fun q => by omega⟩
    | succ m ih =>
      intro j hj hw
      rw [row j (by omega)] at hw
      have hw2 : (decide (i + j < e) && (decide (I 96 (i + j) = stC 9 j) && wq (I 96) e (i + j + 1) ((wd9).drop (j + 1)))) = wq (I 96) e i wd9 := hw
      refine x202_9_24 hh ⟨fun q => by omega, fun _ => ⟨fun q => absurd q (by decide), fun _ => ?_⟩⟩
      rw [hi, toN, w32_id (x := (i : Int) + j) (by omega) (by omega), w32_id (x := (j : Int) + 1) (by omega) (by omega), show ((i : Int) + (j : Int)).toNat = i + j by omega]
      refine ⟨by omega, by omega, fun q => z0 h hh _ ?_, fun q => ih (j + 1) (by omega) ?_⟩
      · rw [← hw2, decide_eq_false q, Bool.false_and, Bool.and_false]
        decide
      · rw [← hw2, decide_eq_true (Decidable.of_not_not q), decide_eq_true (show i + j < e by omega), Bool.true_and, Bool.true_and]
        rfl
  refine TriM_intro (h - 1) (by omega) (by decide) (Nat.le_of_ble_eq_true rfl) (Nat.le_refl _) (Nat.le_refl _) (x202_9 (by omega) ?_)
  rw [he, hi, w32_id (x := (e : Int) - i) (by omega) (by omega)]
  refine ⟨fun q => z0 (h - 1) (by omega) 0 (fun z => ?_), fun q => loop (h - 1) (by omega) (by omega) 5 0 (by omega) rfl⟩
  have := wq_len z
  rw [show (wd9).length = 5 from rfl] at this
  omega
abbrev wd10 : List Int := [97, 103, 101, 115]
theorem sb202_10 {G : Ctx} {h : Nat} {I : MI} {J : MJ} {b : B3} {K : Int → MS → Prop} (hh : 6 ≤ h) (g : 0 ≤ I 91 14 ∧ I 91 14 ≤ I 91 12 ∧ I 91 12 ≤ 400) (k1 : wq (I 96) (I 91 12).toNat (I 91 14).toNat wd10 = true → K 1 (I, J, PP b)) (k0 : ¬ (wq (I 96) (I 91 12).toNat (I 91 14).toNat wd10 = true) → K 0 (I, J, PP b)) : TriM G h 202 119 119 [vr 91, vr 2010] (I, J, PP b) (cI' K) := by
  obtain ⟨e, he⟩ : ∃ e : Nat, I 91 12 = e := ⟨(I 91 12).toNat, by omega⟩
  obtain ⟨i, hi⟩ : ∃ i : Nat, I 91 14 = i := ⟨(I 91 14).toNat, by omega⟩
  rw [he, hi, toN, toN] at k1 k0
  have row : ∀ j : Nat, j < 4 → (wd10).drop j = stC 10 j :: (wd10).drop (j + 1) := by decide +kernel
  have z0 : ∀ h, 4 ≤ h → ∀ j : Int, ¬ (wq (I 96) e i wd10 = true) → Tri G h 202 119 119 24 [some (vr 91), some (vr 2010), some (vi 0), some (vi j)] [] (I, J, PP b) (cI' K) := fun h hh j hn => x202_10_24 hh ⟨fun _ => ⟨Or.inl rfl, cI_r (k0 hn)⟩, fun _ => ⟨fun _ => ⟨Or.inl rfl, cI_r (k0 hn)⟩, fun q => absurd rfl q⟩⟩
  have loop : ∀ h, 4 ≤ h → e = i + 4 → ∀ m j : Nat, j + m = 4 → wq (I 96) e (i + j) ((wd10).drop j) = wq (I 96) e i wd10 → Tri G h 202 119 119 24 [some (vr 91), some (vr 2010), some (vi 1), some (vi (j : Int))] [] (I, J, PP b) (cI' K) := by
    intro h hh hL m
    induction m with
    | zero =>
      intro j hj hw
      obtain rfl : j = 4 := by omega
      have hw2 : decide (i + 4 = e) = wq (I 96) e i wd10 := hw
      rw [decide_eq_true (by omega)] at hw2
      exact x202_10_24 hh ⟨fun _ => ⟨Or.inr rfl, cI_r (k1 hw2.symm)⟩, fun q => by omega⟩
    | succ m ih =>
      intro j hj hw
      rw [row j (by omega)] at hw
      have hw2 : (decide (i + j < e) && (decide (I 96 (i + j) = stC 10 j) && wq (I 96) e (i + j + 1) ((wd10).drop (j + 1)))) = wq (I 96) e i wd10 := hw
      refine x202_10_24 hh ⟨fun q => by omega, fun _ => ⟨fun q => absurd q (by decide), fun _ => ?_⟩⟩
      rw [hi, toN, w32_id (x := (i : Int) + j) (by omega) (by omega), w32_id (x := (j : Int) + 1) (by omega) (by omega), show ((i : Int) + (j : Int)).toNat = i + j by omega]
      refine ⟨by omega, by omega, fun q => z0 h hh _ ?_, fun q => ih (j + 1) (by omega) ?_⟩
      · rw [← hw2, decide_eq_false q, Bool.false_and, Bool.and_false]
        decide
      · rw [← hw2, decide_eq_true (Decidable.of_not_not q), decide_eq_true (show i + j < e by omega), Bool.true_and, Bool.true_and]
        rfl
  refine TriM_intro (h - 1) (by omega) (by decide) (Nat.le_of_ble_eq_true rfl) (Nat.le_refl _) (Nat.le_refl _) (x202_10 (by omega) ?_)
  rw [he, hi, w32_id (x := (e : Int) - i) (by omega) (by omega)]
  refine ⟨fun q => z0 (h - 1) (by omega) 0 (fun z => ?_), fun q => loop (h - 1) (by omega) (by omega) 4 0 (by omega) rfl⟩
  have := wq_len z
  rw [show (wd10).length = 4 from rfl] at this
  omega
abbrev wd11 : List Int := [110, 101, 97, 114]
theorem sb202_11 {G : Ctx} {h : Nat} {I : MI} {J : MJ} {b : B3} {K : Int → MS → Prop} (hh : 6 ≤ h) (g : 0 ≤ I 91 14 ∧ I 91 14 ≤ I 91 12 ∧ I 91 12 ≤ 400) (k1 : wq (I 96) (I 91 12).toNat (I 91 14).toNat wd11 = true → K 1 (I, J, PP b)) (k0 : ¬ (wq (I 96) (I 91 12).toNat (I 91 14).toNat wd11 = true) → K 0 (I, J, PP b)) : TriM G h 202 119 119 [vr 91, vr 2011] (I, J, PP b) (cI' K) := by
  obtain ⟨e, he⟩ : ∃ e : Nat, I 91 12 = e := ⟨(I 91 12).toNat, by omega⟩
  obtain ⟨i, hi⟩ : ∃ i : Nat, I 91 14 = i := ⟨(I 91 14).toNat, by omega⟩
  rw [he, hi, toN, toN] at k1 k0
  have row : ∀ j : Nat, j < 4 → (wd11).drop j = stC 11 j :: (wd11).drop (j + 1) := by decide +kernel
  have z0 : ∀ h, 4 ≤ h → ∀ j : Int, ¬ (wq (I 96) e i wd11 = true) → Tri G h 202 119 119 24 [some (vr 91), some (vr 2011), some (vi 0), some (vi j)] [] (I, J, PP b) (cI' K) := fun h hh j hn => x202_11_24 hh ⟨fun _ => ⟨Or.inl rfl, cI_r (k0 hn)⟩, fun _ => ⟨fun _ => ⟨Or.inl rfl, cI_r (k0 hn)⟩, fun q => absurd rfl q⟩⟩
  have loop : ∀ h, 4 ≤ h → e = i + 4 → ∀ m j : Nat, j + m = 4 → wq (I 96) e (i + j) ((wd11).drop j) = wq (I 96) e i wd11 → Tri G h 202 119 119 24 [some (vr 91), some (vr 2011), some (vi 1), some (vi (j : Int))] [] (I, J, PP b) (cI' K) := by
    intro h hh hL m
    induction m with
    | zero =>
      intro j hj hw
      obtain rfl : j = 4 := by omega
      have hw2 : decide (i + 4 = e) = wq (I 96) e i wd11 := hw
      rw [decide_eq_true (by omega)] at hw2
      exact x202_11_24 hh ⟨fun _ => ⟨Or.inr rfl, cI_r (k1 hw2.symm)⟩, fun q => by omega⟩
    | succ m ih =>
      intro j hj hw
      rw [row j (by omega)] at hw
      have hw2 : (decide (i + j < e) && (decide (I 96 (i + j) = stC 11 j) && wq (I 96) e (i + j + 1) ((wd11).drop (j + 1)))) = wq (I 96) e i wd11 := hw
      refine x202_11_24 hh ⟨fun q => by omega, fun _ => ⟨fun q => absurd q (by decide), fun _ => ?_⟩⟩
      rw [hi, toN, w32_id (x := (i : Int) + j) (by omega) (by omega), w32_id (x := (j : Int) + 1) (by omega) (by omega), show ((i : Int) + (j : Int)).toNat = i + j by omega]
      refine ⟨by omega, by omega, fun q => z0 h hh _ ?_, fun q => ih (j + 1) (by omega) ?_⟩
      · rw [← hw2, decide_eq_false q, Bool.false_and, Bool.and_false]
        decide
      · rw [← hw2, decide_eq_true (Decidable.of_not_not q), decide_eq_true (show i + j < e by omega), Bool.true_and, Bool.true_and]
        rfl
  refine TriM_intro (h - 1) (by omega) (by decide) (Nat.le_of_ble_eq_true rfl) (Nat.le_refl _) (Nat.le_refl _) (x202_11 (by omega) ?_)
  rw [he, hi, w32_id (x := (e : Int) - i) (by omega) (by omega)]
  refine ⟨fun q => z0 (h - 1) (by omega) 0 (fun z => ?_), fun q => loop (h - 1) (by omega) (by omega) 4 0 (by omega) rfl⟩
  have := wq_len z
  rw [show (wd11).length = 4 from rfl] at this
  omega
abbrev wd12 : List Int := [100, 97, 121, 115]
theorem sb202_12 {G : Ctx} {h : Nat} {I : MI} {J : MJ} {b : B3} {K : Int → MS → Prop} (hh : 6 ≤ h) (g : 0 ≤ I 91 14 ∧ I 91 14 ≤ I 91 12 ∧ I 91 12 ≤ 400) (k1 : wq (I 96) (I 91 12).toNat (I 91 14).toNat wd12 = true → K 1 (I, J, PP b)) (k0 : ¬ (wq (I 96) (I 91 12).toNat (I 91 14).toNat wd12 = true) → K 0 (I, J, PP b)) : TriM G h 202 119 119 [vr 91, vr 2012] (I, J, PP b) (cI' K) := by
  obtain ⟨e, he⟩ : ∃ e : Nat, I 91 12 = e := ⟨(I 91 12).toNat, by omega⟩
  obtain ⟨i, hi⟩ : ∃ i : Nat, I 91 14 = i := ⟨(I 91 14).toNat, by omega⟩
  rw [he, hi, toN, toN] at k1 k0
  have row : ∀ j : Nat, j < 4 → (wd12).drop j = stC 12 j :: (wd12).drop (j + 1) := by decide +kernel
  have z0 : ∀ h, 4 ≤ h → ∀ j : Int, ¬ (wq (I 96) e i wd12 = true) → Tri G h 202 119 119 24 [some (vr 91), some (vr 2012), some (vi 0), some (vi j)] [] (I, J, PP b) (cI' K) := fun h hh j hn => x202_12_24 hh ⟨fun _ => ⟨Or.inl rfl, cI_r (k0 hn)⟩, fun _ => ⟨fun _ => ⟨Or.inl rfl, cI_r (k0 hn)⟩, fun q => absurd rfl q⟩⟩
  have loop : ∀ h, 4 ≤ h → e = i + 4 → ∀ m j : Nat, j + m = 4 → wq (I 96) e (i + j) ((wd12).drop j) = wq (I 96) e i wd12 → Tri G h 202 119 119 24 [some (vr 91), some (vr 2012), some (vi 1), some (vi (j : Int))] [] (I, J, PP b) (cI' K) := by
    intro h hh hL m
    induction m with
    | zero =>
      intro j hj hw
      obtain rfl : j = 4 := by omega
      have hw2 : decide (i + 4 = e) = wq (I 96) e i wd12 := hw
      rw [decide_eq_true (by omega)] at hw2
      exact x202_12_24 hh ⟨fun _ => ⟨Or.inr rfl, cI_r (k1 hw2.symm)⟩, fun q => by omega⟩
    | succ m ih =>
      intro j hj hw
      rw [row j (by omega)] at hw
      have hw2 : (decide (i + j < e) && (decide (I 96 (i + j) = stC 12 j) && wq (I 96) e (i + j + 1) ((wd12).drop (j + 1)))) = wq (I 96) e i wd12 := hw
      refine x202_12_24 hh ⟨fun q => by omega, fun _ => ⟨fun q => absurd q (by decide), fun _ => ?_⟩⟩
      rw [hi, toN, w32_id (x := (i : Int) + j) (by omega) (by omega), w32_id (x := (j : Int) + 1) (by omega) (by omega), show ((i : Int) + (j : Int)).toNat = i + j by omega]
      refine ⟨by omega, by omega, fun q => z0 h hh _ ?_, fun q => ih (j + 1) (by omega) ?_⟩
      · rw [← hw2, decide_eq_false q, Bool.false_and, Bool.and_false]
        decide
      · rw [← hw2, decide_eq_true (Decidable.of_not_not q), decide_eq_true (show i + j < e by omega), Bool.true_and, Bool.true_and]
        rfl
  refine TriM_intro (h - 1) (by omega) (by decide) (Nat.le_of_ble_eq_true rfl) (Nat.le_refl _) (Nat.le_refl _) (x202_12 (by omega) ?_)
  rw [he, hi, w32_id (x := (e : Int) - i) (by omega) (by omega)]
  refine ⟨fun q => z0 (h - 1) (by omega) 0 (fun z => ?_), fun q => loop (h - 1) (by omega) (by omega) 4 0 (by omega) rfl⟩
  have := wq_len z
  rw [show (wd12).length = 4 from rfl] at this
  omega
abbrev wd13 : List Int := [98, 111, 111, 107]
theorem sb202_13 {G : Ctx} {h : Nat} {I : MI} {J : MJ} {b : B3} {K : Int → MS → Prop} (hh : 6 ≤ h) (g : 0 ≤ I 91 14 ∧ I 91 14 ≤ I 91 12 ∧ I 91 12 ≤ 400) (k1 : wq (I 96) (I 91 12).toNat (I 91 14).toNat wd13 = true → K 1 (I, J, PP b)) (k0 : ¬ (wq (I 96) (I 91 12).toNat (I 91 14).toNat wd13 = true) → K 0 (I, J, PP b)) : TriM G h 202 119 119 [vr 91, vr 2013] (I, J, PP b) (cI' K) := by
  obtain ⟨e, he⟩ : ∃ e : Nat, I 91 12 = e := ⟨(I 91 12).toNat, by omega⟩
  obtain ⟨i, hi⟩ : ∃ i : Nat, I 91 14 = i := ⟨(I 91 14).toNat, by omega⟩
  rw [he, hi, toN, toN] at k1 k0
  have row : ∀ j : Nat, j < 4 → (wd13).drop j = stC 13 j :: (wd13).drop (j + 1) := by decide +kernel
  have z0 : ∀ h, 4 ≤ h → ∀ j : Int, ¬ (wq (I 96) e i wd13 = true) → Tri G h 202 119 119 24 [some (vr 91), some (vr 2013), some (vi 0), some (vi j)] [] (I, J, PP b) (cI' K) := fun h hh j hn => x202_13_24 hh ⟨fun _ => ⟨Or.inl rfl, cI_r (k0 hn)⟩, fun _ => ⟨fun _ => ⟨Or.inl rfl, cI_r (k0 hn)⟩, fun q => absurd rfl q⟩⟩
  have loop : ∀ h, 4 ≤ h → e = i + 4 → ∀ m j : Nat, j + m = 4 → wq (I 96) e (i + j) ((wd13).drop j) = wq (I 96) e i wd13 → Tri G h 202 119 119 24 [some (vr 91), some (vr 2013), some (vi 1), some (vi (j : Int))] [] (I, J, PP b) (cI' K) := by
    intro h hh hL m
    induction m with
    | zero =>
      intro j hj hw
      obtain rfl : j = 4 := by omega
      have hw2 : decide (i + 4 = e) = wq (I 96) e i wd13 := hw
      rw [decide_eq_true (by omega)] at hw2
      exact x202_13_24 hh ⟨fun _ => ⟨Or.inr rfl, cI_r (k1 hw2.symm)⟩, fun q => by omega⟩
    | succ m ih =>
      intro j hj hw
      rw [row j (by omega)] at hw
      have hw2 : (decide (i + j < e) && (decide (I 96 (i + j) = stC 13 j) && wq (I 96) e (i + j + 1) ((wd13).drop (j + 1)))) = wq (I 96) e i wd13 := hw
      refine x202_13_24 hh ⟨fun q => by omega, fun _ => ⟨fun q => absurd q (by decide), fun _ => ?_⟩⟩
      rw [hi, toN, w32_id (x := (i : Int) + j) (by omega) (by omega), w32_id (x := (j : Int) + 1) (by omega) (by omega), show ((i : Int) + (j : Int)).toNat = i + j by omega]
      refine ⟨by omega, by omega, fun q => z0 h hh _ ?_, fun q => ih (j + 1) (by omega) ?_⟩
      · rw [← hw2, decide_eq_false q, Bool.false_and, Bool.and_false]
        decide
      · rw [← hw2, decide_eq_true (Decidable.of_not_not q), decide_eq_true (show i + j < e by omega), Bool.true_and, Bool.true_and]
        rfl
  refine TriM_intro (h - 1) (by omega) (by decide) (Nat.le_of_ble_eq_true rfl) (Nat.le_refl _) (Nat.le_refl _) (x202_13 (by omega) ?_)
  rw [he, hi, w32_id (x := (e : Int) - i) (by omega) (by omega)]
  refine ⟨fun q => z0 (h - 1) (by omega) 0 (fun z => ?_), fun q => loop (h - 1) (by omega) (by omega) 4 0 (by omega) rfl⟩
  have := wq_len z
  rw [show (wd13).length = 4 from rfl] at this
  omega
abbrev wd14 : List Int := [104, 111, 117, 115, 101]
theorem sb202_14 {G : Ctx} {h : Nat} {I : MI} {J : MJ} {b : B3} {K : Int → MS → Prop} (hh : 6 ≤ h) (g : 0 ≤ I 91 14 ∧ I 91 14 ≤ I 91 12 ∧ I 91 12 ≤ 400) (k1 : wq (I 96) (I 91 12).toNat (I 91 14).toNat wd14 = true → K 1 (I, J, PP b)) (k0 : ¬ (wq (I 96) (I 91 12).toNat (I 91 14).toNat wd14 = true) → K 0 (I, J, PP b)) : TriM G h 202 119 119 [vr 91, vr 2014] (I, J, PP b) (cI' K) := by
  obtain ⟨e, he⟩ : ∃ e : Nat, I 91 12 = e := ⟨(I 91 12).toNat, by omega⟩
  obtain ⟨i, hi⟩ : ∃ i : Nat, I 91 14 = i := ⟨(I 91 14).toNat, by omega⟩
  rw [he, hi, toN, toN] at k1 k0
  have row : ∀ j : Nat, j < 5 → (wd14).drop j = stC 14 j :: (wd14).drop (j + 1) := by decide +kernel
  have z0 : ∀ h, 4 ≤ h → ∀ j : Int, ¬ (wq (I 96) e i wd14 = true) → Tri G h 202 119 119 24 [some (vr 91), some (vr 2014), some (vi 0), some (vi j)] [] (I, J, PP b) (cI' K) := fun h hh j hn => x202_14_24 hh ⟨fun _ => ⟨Or.inl rfl, cI_r (k0 hn)⟩, fun _ => ⟨fun _ => ⟨Or.inl rfl, cI_r (k0 hn)⟩, fun q => absurd rfl q⟩⟩
  have loop : ∀ h, 4 ≤ h → e = i + 5 → ∀ m j : Nat, j + m = 5 → wq (I 96) e (i + j) ((wd14).drop j) = wq (I 96) e i wd14 → Tri G h 202 119 119 24 [some (vr 91), some (vr 2014), some (vi 1), some (vi (j : Int))] [] (I, J, PP b) (cI' K) := by
    intro h hh hL m
    induction m with
    | zero =>
      intro j hj hw
      obtain rfl : j = 5 := by omega
      have hw2 : decide (i + 5 = e) = wq (I 96) e i wd14 := hw
      rw [decide_eq_true (by omega)] at hw2
      exact x202_14_24 hh ⟨fun _ => ⟨Or.inr rfl, cI_r (k1 hw2.symm)⟩, fun q => by omega⟩
    | succ m ih =>
      intro j hj hw
      rw [row j (by omega)] at hw
      have hw2 : (decide (i + j < e) && (decide (I 96 (i + j) = stC 14 j) && wq (I 96) e (i + j + 1) ((wd14).drop (j + 1)))) = wq (I 96) e i wd14 := hw
      refine x202_14_24 hh ⟨fun q => by omega, fun _ => ⟨fun q => absurd q (by decide), fun _ => ?_⟩⟩
      rw [hi, toN, w32_id (x := (i : Int) + j) (by omega) (by omega), w32_id (x := (j : Int) + 1) (by omega) (by omega), show ((i : Int) + (j : Int)).toNat = i + j by omega]
      refine ⟨by omega, by omega, fun q => z0 h hh _ ?_, fun q => ih (j + 1) (by omega) ?_⟩
      · rw [← hw2, decide_eq_false q, Bool.false_and, Bool.and_false]
        decide
      · rw [← hw2, decide_eq_true (Decidable.of_not_not q), decide_eq_true (show i + j < e by omega), Bool.true_and, Bool.true_and]
        rfl
  refine TriM_intro (h - 1) (by omega) (by decide) (Nat.le_of_ble_eq_true rfl) (Nat.le_refl _) (Nat.le_refl _) (x202_14 (by omega) ?_)
  rw [he, hi, w32_id (x := (e : Int) - i) (by omega) (by omega)]
  refine ⟨fun q => z0 (h - 1) (by omega) 0 (fun z => ?_), fun q => loop (h - 1) (by omega) (by omega) 5 0 (by omega) rfl⟩
  have := wq_len z
  rw [show (wd14).length = 5 from rfl] at this
  omega
abbrev wd15 : List Int := [104, 111, 109, 101]
theorem sb202_15 {G : Ctx} {h : Nat} {I : MI} {J : MJ} {b : B3} {K : Int → MS → Prop} (hh : 6 ≤ h) (g : 0 ≤ I 91 14 ∧ I 91 14 ≤ I 91 12 ∧ I 91 12 ≤ 400) (k1 : wq (I 96) (I 91 12).toNat (I 91 14).toNat wd15 = true → K 1 (I, J, PP b)) (k0 : ¬ (wq (I 96) (I 91 12).toNat (I 91 14).toNat wd15 = true) → K 0 (I, J, PP b)) : TriM G h 202 119 119 [vr 91, vr 2015] (I, J, PP b) (cI' K) := by
  obtain ⟨e, he⟩ : ∃ e : Nat, I 91 12 = e := ⟨(I 91 12).toNat, by omega⟩
  obtain ⟨i, hi⟩ : ∃ i : Nat, I 91 14 = i := ⟨(I 91 14).toNat, by omega⟩
  rw [he, hi, toN, toN] at k1 k0
  have row : ∀ j : Nat, j < 4 → (wd15).drop j = stC 15 j :: (wd15).drop (j + 1) := by decide +kernel
  have z0 : ∀ h, 4 ≤ h → ∀ j : Int, ¬ (wq (I 96) e i wd15 = true) → Tri G h 202 119 119 24 [some (vr 91), some (vr 2015), some (vi 0), some (vi j)] [] (I, J, PP b) (cI' K) := fun h hh j hn => x202_15_24 hh ⟨fun _ => ⟨Or.inl rfl, cI_r (k0 hn)⟩, fun _ => ⟨fun _ => ⟨Or.inl rfl, cI_r (k0 hn)⟩, fun q => absurd rfl q⟩⟩
  have loop : ∀ h, 4 ≤ h → e = i + 4 → ∀ m j : Nat, j + m = 4 → wq (I 96) e (i + j) ((wd15).drop j) = wq (I 96) e i wd15 → Tri G h 202 119 119 24 [some (vr 91), some (vr 2015), some (vi 1), some (vi (j : Int))] [] (I, J, PP b) (cI' K) := by
    intro h hh hL m
    induction m with
    | zero =>
      intro j hj hw
      obtain rfl : j = 4 := by omega
      have hw2 : decide (i + 4 = e) = wq (I 96) e i wd15 := hw
      rw [decide_eq_true (by omega)] at hw2
      exact x202_15_24 hh ⟨fun _ => ⟨Or.inr rfl, cI_r (k1 hw2.symm)⟩, fun q => by omega⟩
    | succ m ih =>
      intro j hj hw
      rw [row j (by omega)] at hw
      have hw2 : (decide (i + j < e) && (decide (I 96 (i + j) = stC 15 j) && wq (I 96) e (i + j + 1) ((wd15).drop (j + 1)))) = wq (I 96) e i wd15 := hw
      refine x202_15_24 hh ⟨fun q => by omega, fun _ => ⟨fun q => absurd q (by decide), fun _ => ?_⟩⟩
      rw [hi, toN, w32_id (x := (i : Int) + j) (by omega) (by omega), w32_id (x := (j : Int) + 1) (by omega) (by omega), show ((i : Int) + (j : Int)).toNat = i + j by omega]
      refine ⟨by omega, by omega, fun q => z0 h hh _ ?_, fun q => ih (j + 1) (by omega) ?_⟩
      · rw [← hw2, decide_eq_false q, Bool.false_and, Bool.and_false]
        decide
      · rw [← hw2, decide_eq_true (Decidable.of_not_not q), decide_eq_true (show i + j < e by omega), Bool.true_and, Bool.true_and]
        rfl
  refine TriM_intro (h - 1) (by omega) (by decide) (Nat.le_of_ble_eq_true rfl) (Nat.le_refl _) (Nat.le_refl _) (x202_15 (by omega) ?_)
  rw [he, hi, w32_id (x := (e : Int) - i) (by omega) (by omega)]
  refine ⟨fun q => z0 (h - 1) (by omega) 0 (fun z => ?_), fun q => loop (h - 1) (by omega) (by omega) 4 0 (by omega) rfl⟩
  have := wq_len z
  rw [show (wd15).length = 4 from rfl] at this
  omega
abbrev wd16 : List Int := [97, 119, 97, 121]
theorem sb202_16 {G : Ctx} {h : Nat} {I : MI} {J : MJ} {b : B3} {K : Int → MS → Prop} (hh : 6 ≤ h) (g : 0 ≤ I 91 14 ∧ I 91 14 ≤ I 91 12 ∧ I 91 12 ≤ 400) (k1 : wq (I 96) (I 91 12).toNat (I 91 14).toNat wd16 = true → K 1 (I, J, PP b)) (k0 : ¬ (wq (I 96) (I 91 12).toNat (I 91 14).toNat wd16 = true) → K 0 (I, J, PP b)) : TriM G h 202 119 119 [vr 91, vr 2016] (I, J, PP b) (cI' K) := by
  obtain ⟨e, he⟩ : ∃ e : Nat, I 91 12 = e := ⟨(I 91 12).toNat, by omega⟩
  obtain ⟨i, hi⟩ : ∃ i : Nat, I 91 14 = i := ⟨(I 91 14).toNat, by omega⟩
  rw [he, hi, toN, toN] at k1 k0
  have row : ∀ j : Nat, j < 4 → (wd16).drop j = stC 16 j :: (wd16).drop (j + 1) := by decide +kernel
  have z0 : ∀ h, 4 ≤ h → ∀ j : Int, ¬ (wq (I 96) e i wd16 = true) → Tri G h 202 119 119 24 [some (vr 91), some (vr 2016), some (vi 0), some (vi j)] [] (I, J, PP b) (cI' K) := fun h hh j hn => x202_16_24 hh ⟨fun _ => ⟨Or.inl rfl, cI_r (k0 hn)⟩, fun _ => ⟨fun _ => ⟨Or.inl rfl, cI_r (k0 hn)⟩, fun q => absurd rfl q⟩⟩
  have loop : ∀ h, 4 ≤ h → e = i + 4 → ∀ m j : Nat, j + m = 4 → wq (I 96) e (i + j) ((wd16).drop j) = wq (I 96) e i wd16 → Tri G h 202 119 119 24 [some (vr 91), some (vr 2016), some (vi 1), some (vi (j : Int))] [] (I, J, PP b) (cI' K) := by
    intro h hh hL m
    induction m with
    | zero =>
      intro j hj hw
      obtain rfl : j = 4 := by omega
      have hw2 : decide (i + 4 = e) = wq (I 96) e i wd16 := hw
      rw [decide_eq_true (by omega)] at hw2
      exact x202_16_24 hh ⟨fun _ => ⟨Or.inr rfl, cI_r (k1 hw2.symm)⟩, fun q => by omega⟩
    | succ m ih =>
      intro j hj hw
      rw [row j (by omega)] at hw
      have hw2 : (decide (i + j < e) && (decide (I 96 (i + j) = stC 16 j) && wq (I 96) e (i + j + 1) ((wd16).drop (j + 1)))) = wq (I 96) e i wd16 := hw
      refine x202_16_24 hh ⟨fun q => by omega, fun _ => ⟨fun q => absurd q (by decide), fun _ => ?_⟩⟩
      rw [hi, toN, w32_id (x := (i : Int) + j) (by omega) (by omega), w32_id (x := (j : Int) + 1) (by omega) (by omega), show ((i : Int) + (j : Int)).toNat = i + j by omega]
      refine ⟨by omega, by omega, fun q => z0 h hh _ ?_, fun q => ih (j + 1) (by omega) ?_⟩
      · rw [← hw2, decide_eq_false q, Bool.false_and, Bool.and_false]
        decide
      · rw [← hw2, decide_eq_true (Decidable.of_not_not q), decide_eq_true (show i + j < e by omega), Bool.true_and, Bool.true_and]
        rfl
  refine TriM_intro (h - 1) (by omega) (by decide) (Nat.le_of_ble_eq_true rfl) (Nat.le_refl _) (Nat.le_refl _) (x202_16 (by omega) ?_)
  rw [he, hi, w32_id (x := (e : Int) - i) (by omega) (by omega)]
  refine ⟨fun q => z0 (h - 1) (by omega) 0 (fun z => ?_), fun q => loop (h - 1) (by omega) (by omega) 4 0 (by omega) rfl⟩
  have := wq_len z
  rw [show (wd16).length = 4 from rfl] at this
  omega
abbrev wd17 : List Int := [104, 111, 117, 114]
theorem sb202_17 {G : Ctx} {h : Nat} {I : MI} {J : MJ} {b : B3} {K : Int → MS → Prop} (hh : 6 ≤ h) (g : 0 ≤ I 91 14 ∧ I 91 14 ≤ I 91 12 ∧ I 91 12 ≤ 400) (k1 : wq (I 96) (I 91 12).toNat (I 91 14).toNat wd17 = true → K 1 (I, J, PP b)) (k0 : ¬ (wq (I 96) (I 91 12).toNat (I 91 14).toNat wd17 = true) → K 0 (I, J, PP b)) : TriM G h 202 119 119 [vr 91, vr 2017] (I, J, PP b) (cI' K) := by
  obtain ⟨e, he⟩ : ∃ e : Nat, I 91 12 = e := ⟨(I 91 12).toNat, by omega⟩
  obtain ⟨i, hi⟩ : ∃ i : Nat, I 91 14 = i := ⟨(I 91 14).toNat, by omega⟩
  rw [he, hi, toN, toN] at k1 k0
  have row : ∀ j : Nat, j < 4 → (wd17).drop j = stC 17 j :: (wd17).drop (j + 1) := by decide +kernel
  have z0 : ∀ h, 4 ≤ h → ∀ j : Int, ¬ (wq (I 96) e i wd17 = true) → Tri G h 202 119 119 24 [some (vr 91), some (vr 2017), some (vi 0), some (vi j)] [] (I, J, PP b) (cI' K) := fun h hh j hn => x202_17_24 hh ⟨fun _ => ⟨Or.inl rfl, cI_r (k0 hn)⟩, fun _ => ⟨fun _ => ⟨Or.inl rfl, cI_r (k0 hn)⟩, fun q => absurd rfl q⟩⟩
  have loop : ∀ h, 4 ≤ h → e = i + 4 → ∀ m j : Nat, j + m = 4 → wq (I 96) e (i + j) ((wd17).drop j) = wq (I 96) e i wd17 → Tri G h 202 119 119 24 [some (vr 91), some (vr 2017), some (vi 1), some (vi (j : Int))] [] (I, J, PP b) (cI' K) := by
    intro h hh hL m
    induction m with
    | zero =>
      intro j hj hw
      obtain rfl : j = 4 := by omega
      have hw2 : decide (i + 4 = e) = wq (I 96) e i wd17 := hw
      rw [decide_eq_true (by omega)] at hw2
      exact x202_17_24 hh ⟨fun _ => ⟨Or.inr rfl, cI_r (k1 hw2.symm)⟩, fun q => by omega⟩
    | succ m ih =>
      intro j hj hw
      rw [row j (by omega)] at hw
      have hw2 : (decide (i + j < e) && (decide (I 96 (i + j) = stC 17 j) && wq (I 96) e (i + j + 1) ((wd17).drop (j + 1)))) = wq (I 96) e i wd17 := hw
      refine x202_17_24 hh ⟨fun q => by omega, fun _ => ⟨fun q => absurd q (by decide), fun _ => ?_⟩⟩
      rw [hi, toN, w32_id (x := (i : Int) + j) (by omega) (by omega), w32_id (x := (j : Int) + 1) (by omega) (by omega), show ((i : Int) + (j : Int)).toNat = i + j by omega]
      refine ⟨by omega, by omega, fun q => z0 h hh _ ?_, fun q => ih (j + 1) (by omega) ?_⟩
      · rw [← hw2, decide_eq_false q, Bool.false_and, Bool.and_false]
        decide
      · rw [← hw2, decide_eq_true (Decidable.of_not_not q), decide_eq_true (show i + j < e by omega), Bool.true_and, Bool.true_and]
        rfl
  refine TriM_intro (h - 1) (by omega) (by decide) (Nat.le_of_ble_eq_true rfl) (Nat.le_refl _) (Nat.le_refl _) (x202_17 (by omega) ?_)
  rw [he, hi, w32_id (x := (e : Int) - i) (by omega) (by omega)]
  refine ⟨fun q => z0 (h - 1) (by omega) 0 (fun z => ?_), fun q => loop (h - 1) (by omega) (by omega) 4 0 (by omega) rfl⟩
  have := wq_len z
  rw [show (wd17).length = 4 from rfl] at this
  omega
abbrev wd18 : List Int := [100, 97, 121]
theorem sb202_18 {G : Ctx} {h : Nat} {I : MI} {J : MJ} {b : B3} {K : Int → MS → Prop} (hh : 6 ≤ h) (g : 0 ≤ I 91 14 ∧ I 91 14 ≤ I 91 12 ∧ I 91 12 ≤ 400) (k1 : wq (I 96) (I 91 12).toNat (I 91 14).toNat wd18 = true → K 1 (I, J, PP b)) (k0 : ¬ (wq (I 96) (I 91 12).toNat (I 91 14).toNat wd18 = true) → K 0 (I, J, PP b)) : TriM G h 202 119 119 [vr 91, vr 2018] (I, J, PP b) (cI' K) := by
  obtain ⟨e, he⟩ : ∃ e : Nat, I 91 12 = e := ⟨(I 91 12).toNat, by omega⟩
  obtain ⟨i, hi⟩ : ∃ i : Nat, I 91 14 = i := ⟨(I 91 14).toNat, by omega⟩
  rw [he, hi, toN, toN] at k1 k0
  have row : ∀ j : Nat, j < 3 → (wd18).drop j = stC 18 j :: (wd18).drop (j + 1) := by decide +kernel
  have z0 : ∀ h, 4 ≤ h → ∀ j : Int, ¬ (wq (I 96) e i wd18 = true) → Tri G h 202 119 119 24 [some (vr 91), some (vr 2018), some (vi 0), some (vi j)] [] (I, J, PP b) (cI' K) := fun h hh j hn => x202_18_24 hh ⟨fun _ => ⟨Or.inl rfl, cI_r (k0 hn)⟩, fun _ => ⟨fun _ => ⟨Or.inl rfl, cI_r (k0 hn)⟩, fun q => absurd rfl q⟩⟩
  have loop : ∀ h, 4 ≤ h → e = i + 3 → ∀ m j : Nat, j + m = 3 → wq (I 96) e (i + j) ((wd18).drop j) = wq (I 96) e i wd18 → Tri G h 202 119 119 24 [some (vr 91), some (vr 2018), some (vi 1), some (vi (j : Int))] [] (I, J, PP b) (cI' K) := by
    intro h hh hL m
    induction m with
    | zero =>
      intro j hj hw
      obtain rfl : j = 3 := by omega
      have hw2 : decide (i + 3 = e) = wq (I 96) e i wd18 := hw
      rw [decide_eq_true (by omega)] at hw2
      exact x202_18_24 hh ⟨fun _ => ⟨Or.inr rfl, cI_r (k1 hw2.symm)⟩, fun q => by omega⟩
    | succ m ih =>
      intro j hj hw
      rw [row j (by omega)] at hw
      have hw2 : (decide (i + j < e) && (decide (I 96 (i + j) = stC 18 j) && wq (I 96) e (i + j + 1) ((wd18).drop (j + 1)))) = wq (I 96) e i wd18 := hw
      refine x202_18_24 hh ⟨fun q => by omega, fun _ => ⟨fun q => absurd q (by decide), fun _ => ?_⟩⟩
      rw [hi, toN, w32_id (x := (i : Int) + j) (by omega) (by omega), w32_id (x := (j : Int) + 1) (by omega) (by omega), show ((i : Int) + (j : Int)).toNat = i + j by omega]
      refine ⟨by omega, by omega, fun q => z0 h hh _ ?_, fun q => ih (j + 1) (by omega) ?_⟩
      · rw [← hw2, decide_eq_false q, Bool.false_and, Bool.and_false]
        decide
      · rw [← hw2, decide_eq_true (Decidable.of_not_not q), decide_eq_true (show i + j < e by omega), Bool.true_and, Bool.true_and]
        rfl
  refine TriM_intro (h - 1) (by omega) (by decide) (Nat.le_of_ble_eq_true rfl) (Nat.le_refl _) (Nat.le_refl _) (x202_18 (by omega) ?_)
  rw [he, hi, w32_id (x := (e : Int) - i) (by omega) (by omega)]
  refine ⟨fun q => z0 (h - 1) (by omega) 0 (fun z => ?_), fun q => loop (h - 1) (by omega) (by omega) 3 0 (by omega) rfl⟩
  have := wq_len z
  rw [show (wd18).length = 3 from rfl] at this
  omega
abbrev wd19 : List Int := [115, 116, 114, 101, 101, 116]
theorem sb202_19 {G : Ctx} {h : Nat} {I : MI} {J : MJ} {b : B3} {K : Int → MS → Prop} (hh : 6 ≤ h) (g : 0 ≤ I 91 14 ∧ I 91 14 ≤ I 91 12 ∧ I 91 12 ≤ 400) (k1 : wq (I 96) (I 91 12).toNat (I 91 14).toNat wd19 = true → K 1 (I, J, PP b)) (k0 : ¬ (wq (I 96) (I 91 12).toNat (I 91 14).toNat wd19 = true) → K 0 (I, J, PP b)) : TriM G h 202 119 119 [vr 91, vr 2019] (I, J, PP b) (cI' K) := by
  obtain ⟨e, he⟩ : ∃ e : Nat, I 91 12 = e := ⟨(I 91 12).toNat, by omega⟩
  obtain ⟨i, hi⟩ : ∃ i : Nat, I 91 14 = i := ⟨(I 91 14).toNat, by omega⟩
  rw [he, hi, toN, toN] at k1 k0
  have row : ∀ j : Nat, j < 6 → (wd19).drop j = stC 19 j :: (wd19).drop (j + 1) := by decide +kernel
  have z0 : ∀ h, 4 ≤ h → ∀ j : Int, ¬ (wq (I 96) e i wd19 = true) → Tri G h 202 119 119 24 [some (vr 91), some (vr 2019), some (vi 0), some (vi j)] [] (I, J, PP b) (cI' K) := fun h hh j hn => x202_19_24 hh ⟨fun _ => ⟨Or.inl rfl, cI_r (k0 hn)⟩, fun _ => ⟨fun _ => ⟨Or.inl rfl, cI_r (k0 hn)⟩, fun q => absurd rfl q⟩⟩
  have loop : ∀ h, 4 ≤ h → e = i + 6 → ∀ m j : Nat, j + m = 6 → wq (I 96) e (i + j) ((wd19).drop j) = wq (I 96) e i wd19 → Tri G h 202 119 119 24 [some (vr 91), some (vr 2019), some (vi 1), some (vi (j : Int))] [] (I, J, PP b) (cI' K) := by
    intro h hh hL m
    induction m with
    | zero =>
      intro j hj hw
      obtain rfl : j = 6 := by omega
      have hw2 : decide (i + 6 = e) = wq (I 96) e i wd19 := hw
      rw [decide_eq_true (by omega)] at hw2
      exact x202_19_24 hh ⟨fun _ => ⟨Or.inr rfl, cI_r (k1 hw2.symm)⟩, fun q => by omega⟩
    | succ m ih =>
      intro j hj hw
      rw [row j (by omega)] at hw
      have hw2 : (decide (i + j < e) && (decide (I 96 (i + j) = stC 19 j) && wq (I 96) e (i + j + 1) ((wd19).drop (j + 1)))) = wq (I 96) e i wd19 := hw
      refine x202_19_24 hh ⟨fun q => by omega, fun _ => ⟨fun q => absurd q (by decide), fun _ => ?_⟩⟩
      rw [hi, toN, w32_id (x := (i : Int) + j) (by omega) (by omega), w32_id (x := (j : Int) + 1) (by omega) (by omega), show ((i : Int) + (j : Int)).toNat = i + j by omega]
      refine ⟨by omega, by omega, fun q => z0 h hh _ ?_, fun q => ih (j + 1) (by omega) ?_⟩
      · rw [← hw2, decide_eq_false q, Bool.false_and, Bool.and_false]
        decide
      · rw [← hw2, decide_eq_true (Decidable.of_not_not q), decide_eq_true (show i + j < e by omega), Bool.true_and, Bool.true_and]
        rfl
  refine TriM_intro (h - 1) (by omega) (by decide) (Nat.le_of_ble_eq_true rfl) (Nat.le_refl _) (Nat.le_refl _) (x202_19 (by omega) ?_)
  rw [he, hi, w32_id (x := (e : Int) - i) (by omega) (by omega)]
  refine ⟨fun q => z0 (h - 1) (by omega) 0 (fun z => ?_), fun q => loop (h - 1) (by omega) (by omega) 6 0 (by omega) rfl⟩
  have := wq_len z
  rw [show (wd19).length = 6 from rfl] at this
  omega
abbrev wd20 : List Int := [110, 117, 109, 98, 101, 114]
theorem sb202_20 {G : Ctx} {h : Nat} {I : MI} {J : MJ} {b : B3} {K : Int → MS → Prop} (hh : 6 ≤ h) (g : 0 ≤ I 91 14 ∧ I 91 14 ≤ I 91 12 ∧ I 91 12 ≤ 400) (k1 : wq (I 96) (I 91 12).toNat (I 91 14).toNat wd20 = true → K 1 (I, J, PP b)) (k0 : ¬ (wq (I 96) (I 91 12).toNat (I 91 14).toNat wd20 = true) → K 0 (I, J, PP b)) : TriM G h 202 119 119 [vr 91, vr 2020] (I, J, PP b) (cI' K) := by
  obtain ⟨e, he⟩ : ∃ e : Nat, I 91 12 = e := ⟨(I 91 12).toNat, by omega⟩
  obtain ⟨i, hi⟩ : ∃ i : Nat, I 91 14 = i := ⟨(I 91 14).toNat, by omega⟩
  rw [he, hi, toN, toN] at k1 k0
  have row : ∀ j : Nat, j < 6 → (wd20).drop j = stC 20 j :: (wd20).drop (j + 1) := by decide +kernel
  have z0 : ∀ h, 4 ≤ h → ∀ j : Int, ¬ (wq (I 96) e i wd20 = true) → Tri G h 202 119 119 24 [some (vr 91), some (vr 2020), some (vi 0), some (vi j)] [] (I, J, PP b) (cI' K) := fun h hh j hn => x202_20_24 hh ⟨fun _ => ⟨Or.inl rfl, cI_r (k0 hn)⟩, fun _ => ⟨fun _ => ⟨Or.inl rfl, cI_r (k0 hn)⟩, fun q => absurd rfl q⟩⟩
  have loop : ∀ h, 4 ≤ h → e = i + 6 → ∀ m j : Nat, j + m = 6 → wq (I 96) e (i + j) ((wd20).drop j) = wq (I 96) e i wd20 → Tri G h 202 119 119 24 [some (vr 91), some (vr 2020), some (vi 1), some (vi (j : Int))] [] (I, J, PP b) (cI' K) := by
    intro h hh hL m
    induction m with
    | zero =>
      intro j hj hw
      obtain rfl : j = 6 := by omega
      have hw2 : decide (i + 6 = e) = wq (I 96) e i wd20 := hw
      rw [decide_eq_true (by omega)] at hw2
      exact x202_20_24 hh ⟨fun _ => ⟨Or.inr rfl, cI_r (k1 hw2.symm)⟩, fun q => by omega⟩
    | succ m ih =>
      intro j hj hw
      rw [row j (by omega)] at hw
      have hw2 : (decide (i + j < e) && (decide (I 96 (i + j) = stC 20 j) && wq (I 96) e (i + j + 1) ((wd20).drop (j + 1)))) = wq (I 96) e i wd20 := hw
      refine x202_20_24 hh ⟨fun q => by omega, fun _ => ⟨fun q => absurd q (by decide), fun _ => ?_⟩⟩
      rw [hi, toN, w32_id (x := (i : Int) + j) (by omega) (by omega), w32_id (x := (j : Int) + 1) (by omega) (by omega), show ((i : Int) + (j : Int)).toNat = i + j by omega]
      refine ⟨by omega, by omega, fun q => z0 h hh _ ?_, fun q => ih (j + 1) (by omega) ?_⟩
      · rw [← hw2, decide_eq_false q, Bool.false_and, Bool.and_false]
        decide
      · rw [← hw2, decide_eq_true (Decidable.of_not_not q), decide_eq_true (show i + j < e by omega), Bool.true_and, Bool.true_and]
        rfl
  refine TriM_intro (h - 1) (by omega) (by decide) (Nat.le_of_ble_eq_true rfl) (Nat.le_refl _) (Nat.le_refl _) (x202_20 (by omega) ?_)
  rw [he, hi, w32_id (x := (e : Int) - i) (by omega) (by omega)]
  refine ⟨fun q => z0 (h - 1) (by omega) 0 (fun z => ?_), fun q => loop (h - 1) (by omega) (by omega) 6 0 (by omega) rfl⟩
  have := wq_len z
  rw [show (wd20).length = 6 from rfl] at this
  omega
abbrev wd21 : List Int := [107, 105, 110, 100]
theorem sb202_21 {G : Ctx} {h : Nat} {I : MI} {J : MJ} {b : B3} {K : Int → MS → Prop} (hh : 6 ≤ h) (g : 0 ≤ I 91 14 ∧ I 91 14 ≤ I 91 12 ∧ I 91 12 ≤ 400) (k1 : wq (I 96) (I 91 12).toNat (I 91 14).toNat wd21 = true → K 1 (I, J, PP b)) (k0 : ¬ (wq (I 96) (I 91 12).toNat (I 91 14).toNat wd21 = true) → K 0 (I, J, PP b)) : TriM G h 202 119 119 [vr 91, vr 2021] (I, J, PP b) (cI' K) := by
  obtain ⟨e, he⟩ : ∃ e : Nat, I 91 12 = e := ⟨(I 91 12).toNat, by omega⟩
  obtain ⟨i, hi⟩ : ∃ i : Nat, I 91 14 = i := ⟨(I 91 14).toNat, by omega⟩
  rw [he, hi, toN, toN] at k1 k0
  have row : ∀ j : Nat, j < 4 → (wd21).drop j = stC 21 j :: (wd21).drop (j + 1) := by decide +kernel
  have z0 : ∀ h, 4 ≤ h → ∀ j : Int, ¬ (wq (I 96) e i wd21 = true) → Tri G h 202 119 119 24 [some (vr 91), some (vr 2021), some (vi 0), some (vi j)] [] (I, J, PP b) (cI' K) := fun h hh j hn => x202_21_24 hh ⟨fun _ => ⟨Or.inl rfl, cI_r (k0 hn)⟩, fun _ => ⟨fun _ => ⟨Or.inl rfl, cI_r (k0 hn)⟩, fun q => absurd rfl q⟩⟩
  have loop : ∀ h, 4 ≤ h → e = i + 4 → ∀ m j : Nat, j + m = 4 → wq (I 96) e (i + j) ((wd21).drop j) = wq (I 96) e i wd21 → Tri G h 202 119 119 24 [some (vr 91), some (vr 2021), some (vi 1), some (vi (j : Int))] [] (I, J, PP b) (cI' K) := by
    intro h hh hL m
    induction m with
    | zero =>
      intro j hj hw
      obtain rfl : j = 4 := by omega
      have hw2 : decide (i + 4 = e) = wq (I 96) e i wd21 := hw
      rw [decide_eq_true (by omega)] at hw2
      exact x202_21_24 hh ⟨fun _ => ⟨Or.inr rfl, cI_r (k1 hw2.symm)⟩, fun q => by omega⟩
    | succ m ih =>
      intro j hj hw
      rw [row j (by omega)] at hw
      have hw2 : (decide (i + j < e) && (decide (I 96 (i + j) = stC 21 j) && wq (I 96) e (i + j + 1) ((wd21).drop (j + 1)))) = wq (I 96) e i wd21 := hw
      refine x202_21_24 hh ⟨fun q => by omega, fun _ => ⟨fun q => absurd q (by decide), fun _ => ?_⟩⟩
      rw [hi, toN, w32_id (x := (i : Int) + j) (by omega) (by omega), w32_id (x := (j : Int) + 1) (by omega) (by omega), show ((i : Int) + (j : Int)).toNat = i + j by omega]
      refine ⟨by omega, by omega, fun q => z0 h hh _ ?_, fun q => ih (j + 1) (by omega) ?_⟩
      · rw [← hw2, decide_eq_false q, Bool.false_and, Bool.and_false]
        decide
      · rw [← hw2, decide_eq_true (Decidable.of_not_not q), decide_eq_true (show i + j < e by omega), Bool.true_and, Bool.true_and]
        rfl
  refine TriM_intro (h - 1) (by omega) (by decide) (Nat.le_of_ble_eq_true rfl) (Nat.le_refl _) (Nat.le_refl _) (x202_21 (by omega) ?_)
  rw [he, hi, w32_id (x := (e : Int) - i) (by omega) (by omega)]
  refine ⟨fun q => z0 (h - 1) (by omega) 0 (fun z => ?_), fun q => loop (h - 1) (by omega) (by omega) 4 0 (by omega) rfl⟩
  have := wq_len z
  rw [show (wd21).length = 4 from rfl] at this
  omega
set_option maxRecDepth 100000 in
theorem x203 {G : Ctx} {h : Nat} {Q : MP} {I : Nat → Nat → Int} {J : Nat → Nat → BitVec 64} {b : B3} (hh : 6 ≤ h) (H : (0 ≤ (I 91 14) ∧ (I 91 14) ≤ (I 91 12) ∧ (I 91 12) ≤ 400) ∧ (((wq (I 96) (I 91 12).toNat (I 91 14).toNat wd7 = true) → (Q (some (vi 20)) (I, J, PP b))) ∧ (¬ (wq (I 96) (I 91 12).toNat (I 91 14).toNat wd7 = true) → ((0 ≤ (I 91 14) ∧ (I 91 14) ≤ (I 91 12) ∧ (I 91 12) ≤ 400) ∧ (((wq (I 96) (I 91 12).toNat (I 91 14).toNat wd8 = true) → (Q (some (vi 41)) (I, J, PP b))) ∧ (¬ (wq (I 96) (I 91 12).toNat (I 91 14).toNat wd8 = true) → ((0 ≤ (I 91 14) ∧ (I 91 14) ≤ (I 91 12) ∧ (I 91 12) ≤ 400) ∧ (((wq (I 96) (I 91 12).toNat (I 91 14).toNat wd9 = true) → (Q (some (vi 42)) (I, J, PP b))) ∧ (¬ (wq (I 96) (I 91 12).toNat (I 91 14).toNat wd9 = true) → ((0 ≤ (I 91 14) ∧ (I 91 14) ≤ (I 91 12) ∧ (I 91 12) ≤ 400) ∧ (((wq (I 96) (I 91 12).toNat (I 91 14).toNat wd10 = true) → (Q (some (vi 43)) (I, J, PP b))) ∧ (¬ (wq (I 96) (I 91 12).toNat (I 91 14).toNat wd10 = true) → ((0 ≤ (I 91 14) ∧ (I 91 14) ≤ (I 91 12) ∧ (I 91 12) ≤ 400) ∧ (((wq (I 96) (I 91 12).toNat (I 91 14).toNat wd11 = true) → (Q (some (vi 44)) (I, J, PP b))) ∧ (¬ (wq (I 96) (I 91 12).toNat (I 91 14).toNat wd11 = true) → ((0 ≤ (I 91 14) ∧ (I 91 14) ≤ (I 91 12) ∧ (I 91 12) ≤ 400) ∧ (((wq (I 96) (I 91 12).toNat (I 91 14).toNat wd12 = true) → (Q (some (vi 45)) (I, J, PP b))) ∧ (¬ (wq (I 96) (I 91 12).toNat (I 91 14).toNat wd12 = true) → ((0 ≤ (I 91 14) ∧ (I 91 14) ≤ (I 91 12) ∧ (I 91 12) ≤ 400) ∧ (((wq (I 96) (I 91 12).toNat (I 91 14).toNat wd13 = true) → (Q (some (vi 46)) (I, J, PP b))) ∧ (¬ (wq (I 96) (I 91 12).toNat (I 91 14).toNat wd13 = true) → ((0 ≤ (I 91 14) ∧ (I 91 14) ≤ (I 91 12) ∧ (I 91 12) ≤ 400) ∧ (((wq (I 96) (I 91 12).toNat (I 91 14).toNat wd14 = true) → (Q (some (vi 47)) (I, J, PP b))) ∧ (¬ (wq (I 96) (I 91 12).toNat (I 91 14).toNat wd14 = true) → (Q (some (vi 1)) (I, J, PP b)))))))))))))))))))))))))) : Tri G h 203 119 119 0 [some (vr 91)] [] (I, J, PP b) Q := wp_at ck203 [] 400 (sb202_7 (by omega) H.1 (fun q2023 => And.intro (fun z => absurd z (show ¬ ((1 : Int) = (0 : Int)) by decide)) (fun _ => H.2.1 q2023)) (fun q2024 => And.intro (fun _ => sb202_8 (by omega) (H.2.2 q2024).1 (fun q2025 => And.intro (fun z => absurd z (show ¬ ((1 : Int) = (0 : Int)) by decide)) (fun _ => ((H.2.2 q2024).2).1 q2025)) (fun q2026 => And.intro (fun _ => sb202_9 (by omega) (((H.2.2 q2024).2).2 q2026).1 (fun q2027 => And.intro (fun z => absurd z (show ¬ ((1 : Int) = (0 : Int)) by decide)) (fun _ => ((((H.2.2 q2024).2).2 q2026).2).1 q2027)) (fun q2028 => And.intro (fun _ => sb202_10 (by omega) (((((H.2.2 q2024).2).2 q2026).2).2 q2028).1 (fun q2029 => And.intro (fun z => absurd z (show ¬ ((1 : Int) = (0 : Int)) by decide)) (fun _ => ((((((H.2.2 q2024).2).2 q2026).2).2 q2028).2).1 q2029)) (fun q2030 => And.intro (fun _ => sb202_11 (by omega) (((((((H.2.2 q2024).2).2 q2026).2).2 q2028).2).2 q2030).1 (fun q2031 => And.intro (fun z => absurd z (show ¬ ((1 : Int) = (0 : Int)) by decide)) (fun _ => ((((((((H.2.2 q2024).2).2 q2026).2).2 q2028).2).2 q2030).2).1 q2031)) (fun q2032 => And.intro (fun _ => sb202_12 (by omega) (((((((((H.2.2 q2024).2).2 q2026).2).2 q2028).2).2 q2030).2).2 q2032).1 (fun q2033 => And.intro (fun z => absurd z (show ¬ ((1 : Int) = (0 : Int)) by decide)) (fun _ => ((((((((((H.2.2 q2024).2).2 q2026).2).2 q2028).2).2 q2030).2).2 q2032).2).1 q2033)) (fun q2034 => And.intro (fun _ => sb202_13 (by omega) (((((((((((H.2.2 q2024).2).2 q2026).2).2 q2028).2).2 q2030).2).2 q2032).2).2 q2034).1 (fun q2035 => And.intro (fun z => absurd z (show ¬ ((1 : Int) = (0 : Int)) by decide)) (fun _ => ((((((((((((H.2.2 q2024).2).2 q2026).2).2 q2028).2).2 q2030).2).2 q2032).2).2 q2034).2).1 q2035)) (fun q2036 => And.intro (fun _ => sb202_14 (by omega) (((((((((((((H.2.2 q2024).2).2 q2026).2).2 q2028).2).2 q2030).2).2 q2032).2).2 q2034).2).2 q2036).1 (fun q2037 => And.intro (fun z => absurd z (show ¬ ((1 : Int) = (0 : Int)) by decide)) (fun _ => ((((((((((((((H.2.2 q2024).2).2 q2026).2).2 q2028).2).2 q2030).2).2 q2032).2).2 q2034).2).2 q2036).2).1 q2037)) (fun q2038 => And.intro (fun _ => ((((((((((((((H.2.2 q2024).2).2 q2026).2).2 q2028).2).2 q2030).2).2 q2032).2).2 q2034).2).2 q2036).2).2 q2038) (fun z => absurd (show (0 : Int) = (0 : Int) by decide) z))) (fun z => absurd (show (0 : Int) = (0 : Int) by decide) z))) (fun z => absurd (show (0 : Int) = (0 : Int) by decide) z))) (fun z => absurd (show (0 : Int) = (0 : Int) by decide) z))) (fun z => absurd (show (0 : Int) = (0 : Int) by decide) z))) (fun z => absurd (show (0 : Int) = (0 : Int) by decide) z))) (fun z => absurd (show (0 : Int) = (0 : Int) by decide) z))) (fun z => absurd (show (0 : Int) = (0 : Int) by decide) z)))
theorem x203_m {G : Ctx} {h : Nat} {Q : MP} {I : Nat → Nat → Int} {J : Nat → Nat → BitVec 64} {b : B3} (hh : 7 ≤ h) (H : ∀ h, 6 ≤ h → Tri G h 203 119 119 0 [some (vr 91)] [] (I, J, PP b) Q) : TriM G h 203 119 119 [vr 91] (I, J, PP b) Q := TriM_intro (h - 1) (by omega) (by decide) (Nat.le_of_ble_eq_true rfl) (Nat.le_refl _) (Nat.le_refl _) (H (h - 1) (by omega))
set_option maxRecDepth 100000 in
theorem x204 {G : Ctx} {h : Nat} {Q : MP} {I : Nat → Nat → Int} {J : Nat → Nat → BitVec 64} {b : B3} (hh : 6 ≤ h) (H : (0 ≤ (I 91 14) ∧ (I 91 14) ≤ (I 91 12) ∧ (I 91 12) ≤ 400) ∧ (((wq (I 96) (I 91 12).toNat (I 91 14).toNat wd15 = true) → (Q (some (vi 21)) (I, J, PP b))) ∧ (¬ (wq (I 96) (I 91 12).toNat (I 91 14).toNat wd15 = true) → ((0 ≤ (I 91 14) ∧ (I 91 14) ≤ (I 91 12) ∧ (I 91 12) ≤ 400) ∧ (((wq (I 96) (I 91 12).toNat (I 91 14).toNat wd16 = true) → (Q (some (vi 22)) (I, J, PP b))) ∧ (¬ (wq (I 96) (I 91 12).toNat (I 91 14).toNat wd16 = true) → ((0 ≤ (I 91 14) ∧ (I 91 14) ≤ (I 91 12) ∧ (I 91 12) ≤ 400) ∧ (((wq (I 96) (I 91 12).toNat (I 91 14).toNat wd17 = true) → (Q (some (vi 48)) (I, J, PP b))) ∧ (¬ (wq (I 96) (I 91 12).toNat (I 91 14).toNat wd17 = true) → ((0 ≤ (I 91 14) ∧ (I 91 14) ≤ (I 91 12) ∧ (I 91 12) ≤ 400) ∧ (((wq (I 96) (I 91 12).toNat (I 91 14).toNat wd18 = true) → (Q (some (vi 49)) (I, J, PP b))) ∧ (¬ (wq (I 96) (I 91 12).toNat (I 91 14).toNat wd18 = true) → ((0 ≤ (I 91 14) ∧ (I 91 14) ≤ (I 91 12) ∧ (I 91 12) ≤ 400) ∧ (((wq (I 96) (I 91 12).toNat (I 91 14).toNat wd19 = true) → (Q (some (vi 50)) (I, J, PP b))) ∧ (¬ (wq (I 96) (I 91 12).toNat (I 91 14).toNat wd19 = true) → ((0 ≤ (I 91 14) ∧ (I 91 14) ≤ (I 91 12) ∧ (I 91 12) ≤ 400) ∧ (((wq (I 96) (I 91 12).toNat (I 91 14).toNat wd20 = true) → (Q (some (vi 51)) (I, J, PP b))) ∧ (¬ (wq (I 96) (I 91 12).toNat (I 91 14).toNat wd20 = true) → ((0 ≤ (I 91 14) ∧ (I 91 14) ≤ (I 91 12) ∧ (I 91 12) ≤ 400) ∧ (((wq (I 96) (I 91 12).toNat (I 91 14).toNat wd21 = true) → (Q (some (vi 52)) (I, J, PP b))) ∧ (¬ (wq (I 96) (I 91 12).toNat (I 91 14).toNat wd21 = true) → (Q (some (vi 1)) (I, J, PP b))))))))))))))))))))))) : Tri G h 204 119 119 0 [some (vr 91)] [] (I, J, PP b) Q := wp_at ck204 [] 400 (sb202_15 (by omega) H.1 (fun q2039 => And.intro (fun z => absurd z (show ¬ ((1 : Int) = (0 : Int)) by decide)) (fun _ => H.2.1 q2039)) (fun q2040 => And.intro (fun _ => sb202_16 (by omega) (H.2.2 q2040).1 (fun q2041 => And.intro (fun z => absurd z (show ¬ ((1 : Int) = (0 : Int)) by decide)) (fun _ => ((H.2.2 q2040).2).1 q2041)) (fun q2042 => And.intro (fun _ => sb202_17 (by omega) (((H.2.2 q2040).2).2 q2042).1 (fun q2043 => And.intro (fun z => absurd z (show ¬ ((1 : Int) = (0 : Int)) by decide)) (fun _ => ((((H.2.2 q2040).2).2 q2042).2).1 q2043)) (fun q2044 => And.intro (fun _ => sb202_18 (by omega) (((((H.2.2 q2040).2).2 q2042).2).2 q2044).1 (fun q2045 => And.intro (fun z => absurd z (show ¬ ((1 : Int) = (0 : Int)) by decide)) (fun _ => ((((((H.2.2 q2040).2).2 q2042).2).2 q2044).2).1 q2045)) (fun q2046 => And.intro (fun _ => sb202_19 (by omega) (((((((H.2.2 q2040).2).2 q2042).2).2 q2044).2).2 q2046).1 (fun q2047 => And.intro (fun z => absurd z (show ¬ ((1 : Int) = (0 : Int)) by decide)) (fun _ => ((((((((H.2.2 q2040).2).2 q2042).2).2 q2044).2).2 q2046).2).1 q2047)) (fun q2048 => And.intro (fun _ => sb202_20 (by omega) (((((((((H.2.2 q2040).2).2 q2042).2).2 q2044).2).2 q2046).2).2 q2048).1 (fun q2049 => And.intro (fun z => absurd z (show ¬ ((1 : Int) = (0 : Int)) by decide)) (fun _ => ((((((((((H.2.2 q2040).2).2 q2042).2).2 q2044).2).2 q2046).2).2 q2048).2).1 q2049)) (fun q2050 => And.intro (fun _ => sb202_21 (by omega) (((((((((((H.2.2 q2040).2).2 q2042).2).2 q2044).2).2 q2046).2).2 q2048).2).2 q2050).1 (fun q2051 => And.intro (fun z => absurd z (show ¬ ((1 : Int) = (0 : Int)) by decide)) (fun _ => ((((((((((((H.2.2 q2040).2).2 q2042).2).2 q2044).2).2 q2046).2).2 q2048).2).2 q2050).2).1 q2051)) (fun q2052 => And.intro (fun _ => ((((((((((((H.2.2 q2040).2).2 q2042).2).2 q2044).2).2 q2046).2).2 q2048).2).2 q2050).2).2 q2052) (fun z => absurd (show (0 : Int) = (0 : Int) by decide) z))) (fun z => absurd (show (0 : Int) = (0 : Int) by decide) z))) (fun z => absurd (show (0 : Int) = (0 : Int) by decide) z))) (fun z => absurd (show (0 : Int) = (0 : Int) by decide) z))) (fun z => absurd (show (0 : Int) = (0 : Int) by decide) z))) (fun z => absurd (show (0 : Int) = (0 : Int) by decide) z))) (fun z => absurd (show (0 : Int) = (0 : Int) by decide) z)))
theorem x204_m {G : Ctx} {h : Nat} {Q : MP} {I : Nat → Nat → Int} {J : Nat → Nat → BitVec 64} {b : B3} (hh : 7 ≤ h) (H : ∀ h, 6 ≤ h → Tri G h 204 119 119 0 [some (vr 91)] [] (I, J, PP b) Q) : TriM G h 204 119 119 [vr 91] (I, J, PP b) Q := TriM_intro (h - 1) (by omega) (by decide) (Nat.le_of_ble_eq_true rfl) (Nat.le_refl _) (Nat.le_refl _) (H (h - 1) (by omega))
set_option maxRecDepth 100000 in
theorem x205 {G : Ctx} {h : Nat} {Q : MP} {I : Nat → Nat → Int} {J : Nat → Nat → BitVec 64} {b : B3} (hh : 7 ≤ h) (H : (0 ≤ (I 91 14) ∧ (I 91 14) ≤ (I 91 12) ∧ (I 91 12) ≤ 400) ∧ (((wq (I 96) (I 91 12).toNat (I 91 14).toNat wd3 = true) → (Q (some (vi 3)) (I, J, PP b))) ∧ (¬ (wq (I 96) (I 91 12).toNat (I 91 14).toNat wd3 = true) → ((0 ≤ (I 91 14) ∧ (I 91 14) ≤ (I 91 12) ∧ (I 91 12) ≤ 400) ∧ (((wq (I 96) (I 91 12).toNat (I 91 14).toNat wd4 = true) → (Q (some (vi 4)) (I, J, PP b))) ∧ (¬ (wq (I 96) (I 91 12).toNat (I 91 14).toNat wd4 = true) → ((0 ≤ (I 91 14) ∧ (I 91 14) ≤ (I 91 12) ∧ (I 91 12) ≤ 400) ∧ (((wq (I 96) (I 91 12).toNat (I 91 14).toNat wd5 = true) → (Q (some (vi 5)) (I, J, PP b))) ∧ (¬ (wq (I 96) (I 91 12).toNat (I 91 14).toNat wd5 = true) → ((0 ≤ (I 91 14) ∧ (I 91 14) ≤ (I 91 12) ∧ (I 91 12) ≤ 400) ∧ (((wq (I 96) (I 91 12).toNat (I 91 14).toNat wd6 = true) → (Q (some (vi 6)) (I, J, PP b))) ∧ (¬ (wq (I 96) (I 91 12).toNat (I 91 14).toNat wd6 = true) → (((2 ≤ (I 91 8)) → (TriM G h 204 119 119 [vr 91] (I, J, PP b) (cIN fun r1 I1 J1 b1 => (Q (some (vi r1)) (I1, J1, PP b1))))) ∧ (¬ (2 ≤ (I 91 8)) → (TriM G h 203 119 119 [vr 91] (I, J, PP b) (cIN fun r2 I2 J2 b2 => (Q (some (vi r2)) (I2, J2, PP b2)))))))))))))))))) : Tri G h 205 119 119 0 [some (vr 91)] [] (I, J, PP b) Q := wp_at ck205 [] 400 (sb202_3 (by omega) H.1 (fun q2053 => And.intro (fun z => absurd z (show ¬ ((1 : Int) = (0 : Int)) by decide)) (fun _ => H.2.1 q2053)) (fun q2054 => And.intro (fun _ => sb202_4 (by omega) (H.2.2 q2054).1 (fun q2055 => And.intro (fun z => absurd z (show ¬ ((1 : Int) = (0 : Int)) by decide)) (fun _ => ((H.2.2 q2054).2).1 q2055)) (fun q2056 => And.intro (fun _ => sb202_5 (by omega) (((H.2.2 q2054).2).2 q2056).1 (fun q2057 => And.intro (fun z => absurd z (show ¬ ((1 : Int) = (0 : Int)) by decide)) (fun _ => ((((H.2.2 q2054).2).2 q2056).2).1 q2057)) (fun q2058 => And.intro (fun _ => sb202_6 (by omega) (((((H.2.2 q2054).2).2 q2056).2).2 q2058).1 (fun q2059 => And.intro (fun z => absurd z (show ¬ ((1 : Int) = (0 : Int)) by decide)) (fun _ => ((((((H.2.2 q2054).2).2 q2056).2).2 q2058).2).1 q2059)) (fun q2060 => And.intro (fun _ => And.intro (fun q2061 => cIN_go ((((((((H.2.2 q2054).2).2 q2056).2).2 q2058).2).2 q2060).1 q2061) (fun r1 I1 J1 b1 q2063 => q2063)) (fun q2062 => cIN_go ((((((((H.2.2 q2054).2).2 q2056).2).2 q2058).2).2 q2060).2 q2062) (fun r2 I2 J2 b2 q2064 => q2064))) (fun z => absurd (show (0 : Int) = (0 : Int) by decide) z))) (fun z => absurd (show (0 : Int) = (0 : Int) by decide) z))) (fun z => absurd (show (0 : Int) = (0 : Int) by decide) z))) (fun z => absurd (show (0 : Int) = (0 : Int) by decide) z)))
theorem x205_m {G : Ctx} {h : Nat} {Q : MP} {I : Nat → Nat → Int} {J : Nat → Nat → BitVec 64} {b : B3} (hh : 8 ≤ h) (H : ∀ h, 7 ≤ h → Tri G h 205 119 119 0 [some (vr 91)] [] (I, J, PP b) Q) : TriM G h 205 119 119 [vr 91] (I, J, PP b) Q := TriM_intro (h - 1) (by omega) (by decide) (Nat.le_of_ble_eq_true rfl) (Nat.le_refl _) (Nat.le_refl _) (H (h - 1) (by omega))
set_option maxRecDepth 100000 in
theorem x206 {G : Ctx} {h : Nat} {Q : MP} {I : Nat → Nat → Int} {J : Nat → Nat → BitVec 64} {b : B3} (hh : 1 ≤ h) (H : (0 ≤ (I 91 12) ∧ (I 91 11) ≤ 400) ∧ ((((seeV (I 91 11) (I 96) (I 91 12)) = 32) → (Tri G h 206 119 119 0 [some (vr 91)] [] (u2 I 91 12 (w32 ((I 91 12) + 1)), J, PP b) Q)) ∧ (¬ ((seeV (I 91 11) (I 96) (I 91 12)) = 32) → ((0 ≤ (I 91 12) ∧ (I 91 11) ≤ 400) ∧ (((¬ (seeV (I 91 11) (I 96) (I 91 12)) = 10) → (Tri G h 206 119 119 39 [some (vr 91)] [] (I, J, PP b) Q)) ∧ (¬ (¬ (seeV (I 91 11) (I 96) (I 91 12)) = 10) → (Tri G h 206 119 119 0 [some (vr 91)] [] (u2 I 91 12 (w32 ((I 91 12) + 1)), J, PP b) Q))))))) : Tri G h 206 119 119 0 [some (vr 91)] [] (I, J, PP b) Q := wp_at ck206 [(0, [true]), (39, [true]), (76, [true]), (126, [true]), (290, [true, true, true])] 400 (sx199 (by omega) H.1 (And.intro (fun q2065 => H.2.1 q2065) (fun q2066 => sx199 (by omega) (H.2.2 q2066).1 ((H.2.2 q2066).2))))
set_option maxRecDepth 100000 in
theorem x206_0 {G : Ctx} {h : Nat} {Q : MP} {I : Nat → Nat → Int} {J : Nat → Nat → BitVec 64} {b : B3} (hh : 1 ≤ h) (H : (0 ≤ (I 91 12) ∧ (I 91 11) ≤ 400) ∧ ((((seeV (I 91 11) (I 96) (I 91 12)) = 32) → (Tri G h 206 119 119 0 [some (vr 91)] [] (u2 I 91 12 (w32 ((I 91 12) + 1)), J, PP b) Q)) ∧ (¬ ((seeV (I 91 11) (I 96) (I 91 12)) = 32) → ((0 ≤ (I 91 12) ∧ (I 91 11) ≤ 400) ∧ (((¬ (seeV (I 91 11) (I 96) (I 91 12)) = 10) → (Tri G h 206 119 119 39 [some (vr 91)] [] (I, J, PP b) Q)) ∧ (¬ (¬ (seeV (I 91 11) (I 96) (I 91 12)) = 10) → (Tri G h 206 119 119 0 [some (vr 91)] [] (u2 I 91 12 (w32 ((I 91 12) + 1)), J, PP b) Q))))))) : Tri G h 206 119 119 0 [some (vr 91)] [] (I, J, PP b) Q := wp_at ck206 [(0, [true]), (39, [true]), (76, [true]), (126, [true]), (290, [true, true, true])] 400 (sx199 (by omega) H.1 (And.intro (fun q2067 => H.2.1 q2067) (fun q2068 => sx199 (by omega) (H.2.2 q2068).1 ((H.2.2 q2068).2))))
set_option maxRecDepth 100000 in
theorem x206_39 {G : Ctx} {h : Nat} {Q : MP} {I : Nat → Nat → Int} {J : Nat → Nat → BitVec 64} {b : B3} (hh : 2 ≤ h) (H : (0 ≤ (I 91 12) ∧ (I 91 11) ≤ 400) ∧ (((¬ (seeV (I 91 11) (I 96) (I 91 12)) = (-1)) → (((97 ≤ (seeV (I 91 11) (I 96) (I 91 12)) ∧ (seeV (I 91 11) (I 96) (I 91 12)) ≤ 122 ∨ 65 ≤ (seeV (I 91 11) (I 96) (I 91 12)) ∧ (seeV (I 91 11) (I 96) (I 91 12)) ≤ 90) → (Tri G h 206 119 119 76 [some (vr 91)] [] (u2 I 91 14 (I 91 12), J, PP b) Q)) ∧ (¬ (97 ≤ (seeV (I 91 11) (I 96) (I 91 12)) ∧ (seeV (I 91 11) (I 96) (I 91 12)) ≤ 122 ∨ 65 ≤ (seeV (I 91 11) (I 96) (I 91 12)) ∧ (seeV (I 91 11) (I 96) (I 91 12)) ≤ 90) → (((48 ≤ (seeV (I 91 11) (I 96) (I 91 12)) ∧ (seeV (I 91 11) (I 96) (I 91 12)) ≤ 57) → (Tri G h 206 119 119 126 [some (vr 91)] [] (u2 (u2 I 91 14 (I 91 12)) 91 15 0, J, PP b) Q)) ∧ (¬ (48 ≤ (seeV (I 91 11) (I 96) (I 91 12)) ∧ (seeV (I 91 11) (I 96) (I 91 12)) ≤ 57) → ((((seeV (I 91 11) (I 96) (I 91 12)) = 59) → (Tri G h 206 119 119 290 [some (vr 91), some (vi (seeV (I 91 11) (I 96) (I 91 12))), some (vi 1)] [] (u2 (u2 I 91 14 (I 91 12)) 91 12 (w32 ((I 91 12) + 1)), J, PP b) Q)) ∧ (¬ ((seeV (I 91 11) (I 96) (I 91 12)) = 59) → ((((seeV (I 91 11) (I 96) (I 91 12)) = 43) → (Tri G h 206 119 119 290 [some (vr 91), some (vi (seeV (I 91 11) (I 96) (I 91 12))), some (vi 1)] [] (u2 (u2 I 91 14 (I 91 12)) 91 12 (w32 ((I 91 12) + 1)), J, PP b) Q)) ∧ (¬ ((seeV (I 91 11) (I 96) (I 91 12)) = 43) → ((((seeV (I 91 11) (I 96) (I 91 12)) = 45) → (Tri G h 206 119 119 290 [some (vr 91), some (vi (seeV (I 91 11) (I 96) (I 91 12))), some (vi 1)] [] (u2 (u2 I 91 14 (I 91 12)) 91 12 (w32 ((I 91 12) + 1)), J, PP b) Q)) ∧ (¬ ((seeV (I 91 11) (I 96) (I 91 12)) = 45) → ((((seeV (I 91 11) (I 96) (I 91 12)) = 42) → (Tri G h 206 119 119 290 [some (vr 91), some (vi (seeV (I 91 11) (I 96) (I 91 12))), some (vi 1)] [] (u2 (u2 I 91 14 (I 91 12)) 91 12 (w32 ((I 91 12) + 1)), J, PP b) Q)) ∧ (¬ ((seeV (I 91 11) (I 96) (I 91 12)) = 42) → ((((seeV (I 91 11) (I 96) (I 91 12)) = 47) → (Tri G h 206 119 119 290 [some (vr 91), some (vi (seeV (I 91 11) (I 96) (I 91 12))), some (vi 1)] [] (u2 (u2 I 91 14 (I 91 12)) 91 12 (w32 ((I 91 12) + 1)), J, PP b) Q)) ∧ (¬ ((seeV (I 91 11) (I 96) (I 91 12)) = 47) → ((((seeV (I 91 11) (I 96) (I 91 12)) = 40) → (Tri G h 206 119 119 290 [some (vr 91), some (vi (seeV (I 91 11) (I 96) (I 91 12))), some (vi 1)] [] (u2 (u2 I 91 14 (I 91 12)) 91 12 (w32 ((I 91 12) + 1)), J, PP b) Q)) ∧ (¬ ((seeV (I 91 11) (I 96) (I 91 12)) = 40) → ((((seeV (I 91 11) (I 96) (I 91 12)) = 41) → (Tri G h 206 119 119 290 [some (vr 91), some (vi (seeV (I 91 11) (I 96) (I 91 12))), some (vi 1)] [] (u2 (u2 I 91 14 (I 91 12)) 91 12 (w32 ((I 91 12) + 1)), J, PP b) Q)) ∧ (¬ ((seeV (I 91 11) (I 96) (I 91 12)) = 41) → ((((seeV (I 91 11) (I 96) (I 91 12)) = 60) → (Tri G h 206 119 119 290 [some (vr 91), some (vi (seeV (I 91 11) (I 96) (I 91 12))), some (vi 1)] [] (u2 (u2 I 91 14 (I 91 12)) 91 12 (w32 ((I 91 12) + 1)), J, PP b) Q)) ∧ (¬ ((seeV (I 91 11) (I 96) (I 91 12)) = 60) → ((((seeV (I 91 11) (I 96) (I 91 12)) = 61) → (Tri G h 206 119 119 290 [some (vr 91), some (vi (seeV (I 91 11) (I 96) (I 91 12))), some (vi 1)] [] (u2 (u2 I 91 14 (I 91 12)) 91 12 (w32 ((I 91 12) + 1)), J, PP b) Q)) ∧ (¬ ((seeV (I 91 11) (I 96) (I 91 12)) = 61) → (((¬ (seeV (I 91 11) (I 96) (I 91 12)) = 62) → (Tri G h 206 119 119 290 [some (vr 91), some (vi (seeV (I 91 11) (I 96) (I 91 12))), some (vi 0)] [] (u2 (u2 I 91 14 (I 91 12)) 91 12 (w32 ((I 91 12) + 1)), J, PP b) Q)) ∧ (¬ (¬ (seeV (I 91 11) (I 96) (I 91 12)) = 62) → (Tri G h 206 119 119 290 [some (vr 91), some (vi (seeV (I 91 11) (I 96) (I 91 12))), some (vi 1)] [] (u2 (u2 I 91 14 (I 91 12)) 91 12 (w32 ((I 91 12) + 1)), J, PP b) Q)))))))))))))))))))))))))) ∧ (¬ (¬ (seeV (I 91 11) (I 96) (I 91 12)) = (-1)) → (Q none (u2 (u2 I 91 14 (I 91 12)) 91 13 0, J, PP b))))) : Tri G h 206 119 119 39 [some (vr 91)] [] (I, J, PP b) Q := wp_at ck206 [(0, [true]), (39, [true]), (76, [true]), (126, [true]), (290, [true, true, true])] 400 (sx199 (by omega) H.1 (And.intro (fun q2069 => sx200 (by omega)  (fun q2071 => And.intro (fun z => absurd z (show ¬ ((1 : Int) = (0 : Int)) by decide)) (fun _ => (H.2.1 q2069).1 q2071)) (fun q2072 => And.intro (fun _ => sx201 (by omega)  (fun q2073 => And.intro (fun z => absurd z (show ¬ ((1 : Int) = (0 : Int)) by decide)) (fun _ => ((H.2.1 q2069).2 q2072).1 q2073)) (fun q2074 => And.intro (fun _ => ((H.2.1 q2069).2 q2072).2 q2074) (fun z => absurd (show (0 : Int) = (0 : Int) by decide) z))) (fun z => absurd (show (0 : Int) = (0 : Int) by decide) z))) (fun q2070 => H.2.2 q2070)))
set_option maxRecDepth 100000 in
theorem x206_76 {G : Ctx} {h : Nat} {Q : MP} {I : Nat → Nat → Int} {J : Nat → Nat → BitVec 64} {b : B3} (hh : 8 ≤ h) (H : (0 ≤ (I 91 12) ∧ (I 91 11) ≤ 400) ∧ (((97 ≤ (seeV (I 91 11) (I 96) (I 91 12)) ∧ (seeV (I 91 11) (I 96) (I 91 12)) ≤ 122 ∨ 65 ≤ (seeV (I 91 11) (I 96) (I 91 12)) ∧ (seeV (I 91 11) (I 96) (I 91 12)) ≤ 90) → (Tri G h 206 119 119 76 [some (vr 91)] [] (u2 I 91 12 (w32 ((I 91 12) + 1)), J, PP b) Q)) ∧ (¬ (97 ≤ (seeV (I 91 11) (I 96) (I 91 12)) ∧ (seeV (I 91 11) (I 96) (I 91 12)) ≤ 122 ∨ 65 ≤ (seeV (I 91 11) (I 96) (I 91 12)) ∧ (seeV (I 91 11) (I 96) (I 91 12)) ≤ 90) → (TriM G h 205 119 119 [vr 91] (I, J, PP b) (cIN fun r1 I1 J1 b1 => (Q none (u2 I1 91 13 r1, J1, PP b1))))))) : Tri G h 206 119 119 76 [some (vr 91)] [] (I, J, PP b) Q := wp_at ck206 [(0, [true]), (39, [true]), (76, [true]), (126, [true]), (290, [true, true, true])] 400 (sx199 (by omega) H.1 (sx200 (by omega)  (fun q2075 => And.intro (fun z => absurd z (show ¬ ((1 : Int) = (0 : Int)) by decide)) (fun _ => H.2.1 q2075)) (fun q2076 => And.intro (fun _ => cIN_go (H.2.2 q2076) (fun r1 I1 J1 b1 q2077 => q2077)) (fun z => absurd (show (0 : Int) = (0 : Int) by decide) z))))
set_option maxRecDepth 100000 in
theorem x206_126 {G : Ctx} {h : Nat} {Q : MP} {I : Nat → Nat → Int} {J : Nat → Nat → BitVec 64} {b : B3} (hh : 2 ≤ h) (H : (0 ≤ (I 91 12) ∧ (I 91 11) ≤ 400) ∧ (((48 ≤ (seeV (I 91 11) (I 96) (I 91 12)) ∧ (seeV (I 91 11) (I 96) (I 91 12)) ≤ 57) → ((((w32 ((I 91 14) + 4)) ≤ (I 91 12)) → (Tri G h 206 119 119 126 [some (vr 91)] [] (u2 I 91 12 (w32 ((I 91 12) + 1)), J, PP b) Q)) ∧ (¬ ((w32 ((I 91 14) + 4)) ≤ (I 91 12)) → ((0 ≤ (I 91 12) ∧ (I 91 11) ≤ 400) ∧ (Tri G h 206 119 119 126 [some (vr 91)] [] (u2 (u2 I 91 15 (w32 ((w32 ((w32 (10 * (I 91 15))) + (seeV (I 91 11) (I 96) (I 91 12)))) - 48))) 91 12 (w32 ((I 91 12) + 1)), J, PP b) Q))))) ∧ (¬ (48 ≤ (seeV (I 91 11) (I 96) (I 91 12)) ∧ (seeV (I 91 11) (I 96) (I 91 12)) ≤ 57) → (((5 ≤ (w32 ((I 91 12) - (I 91 14)))) → (Q none (u2 I 91 13 1, J, PP b))) ∧ (¬ (5 ≤ (w32 ((I 91 12) - (I 91 14)))) → (Q none (u2 I 91 13 2, J, PP b))))))) : Tri G h 206 119 119 126 [some (vr 91)] [] (I, J, PP b) Q := wp_at ck206 [(0, [true]), (39, [true]), (76, [true]), (126, [true]), (290, [true, true, true])] 400 (sx199 (by omega) H.1 (sx201 (by omega)  (fun q2078 => And.intro (fun z => absurd z (show ¬ ((1 : Int) = (0 : Int)) by decide)) (fun _ => And.intro (fun q2080 => (H.2.1 q2078).1 q2080) (fun q2081 => sx199 (by omega) ((H.2.1 q2078).2 q2081).1 (((H.2.1 q2078).2 q2081).2)))) (fun q2079 => And.intro (fun _ => H.2.2 q2079) (fun z => absurd (show (0 : Int) = (0 : Int) by decide) z))))
set_option maxRecDepth 100000 in
theorem x206_290 {G : Ctx} {h : Nat} {Q : MP} {I : Nat → Nat → Int} {J : Nat → Nat → BitVec 64} {b : B3} {l1 l2 : Int} (hh : 0 ≤ h) (H : ((l2 = 0) → (Q none (u2 I 91 13 1, J, PP b))) ∧ (¬ (l2 = 0) → (Q none (u2 I 91 13 (w32 (100 + l1)), J, PP b)))) : Tri G h 206 119 119 290 [some (vr 91), some (vi l1), some (vi l2)] [] (I, J, PP b) Q := wp_at ck206 [(0, [true]), (39, [true]), (76, [true]), (126, [true]), (290, [true, true, true])] 400 H
theorem x206_m {G : Ctx} {h : Nat} {Q : MP} {I : Nat → Nat → Int} {J : Nat → Nat → BitVec 64} {b : B3} (hh : 9 ≤ h) (H : ∀ h, 8 ≤ h → Tri G h 206 119 119 0 [some (vr 91)] [] (I, J, PP b) Q) : TriM G h 206 119 119 [vr 91] (I, J, PP b) Q := TriM_intro (h - 1) (by omega) (by decide) (Nat.le_of_ble_eq_true rfl) (Nat.le_refl _) (Nat.le_refl _) (H (h - 1) (by omega))
theorem s203 {G : Ctx} {h : Nat} {I : MI} {J : MJ} {b : B3} {f : Nat → Int} {p e : Nat} {K : Int → MI → MJ → B3 → Prop} (hh : 7 ≤ h) (h96 : I 96 = f) (h12 : I 91 12 = (e : Int)) (h14 : I 91 14 = (p : Int)) (hpe : p ≤ e) (he4 : e ≤ 400) (hL : isLb (f p) = true) (n3 : ¬ wq f e p wd3 = true) (n4 : ¬ wq f e p wd4 = true) (n5 : ¬ wq f e p wd5 = true) (n6 : ¬ wq f e p wd6 = true) (k : K (tkM false (kwF f p e likeW 0)) I J b) : TriM G h 203 119 119 [vr 91] (I, J, PP b) (cIN K) := by
  have g : (0 : Int) ≤ (p : Int) ∧ (p : Int) ≤ (e : Int) ∧ (e : Int) ≤ 400 := by omega
  refine TriM_intro (h - 1) (by omega) (by decide) (Nat.le_of_ble_eq_true rfl) (Nat.le_refl _) (Nat.le_refl _) (x203 (by omega) ?_)
  rw [h96, h12, h14, toN, toN]
  exact ⟨g, fun z => cIN_r fun _ => by
    have e := kwF_hit z likeW 0 0 rfl (by decide)
    rw [e] at k
    exact k, fun n7 => ⟨g, fun z => cIN_r fun _ => by
    have e := kwF_hit z likeW 0 6 rfl (by decide)
    rw [e] at k
    exact k, fun n8 => ⟨g, fun z => cIN_r fun _ => by
    have e := kwF_hit z likeW 0 7 rfl (by decide)
    rw [e] at k
    exact k, fun n9 => ⟨g, fun z => cIN_r fun _ => by
    have e := kwF_hit z likeW 0 8 rfl (by decide)
    rw [e] at k
    exact k, fun n10 => ⟨g, fun z => cIN_r fun _ => by
    have e := kwF_hit z likeW 0 9 rfl (by decide)
    rw [e] at k
    exact k, fun n11 => ⟨g, fun z => cIN_r fun _ => by
    have e := kwF_hit z likeW 0 10 rfl (by decide)
    rw [e] at k
    exact k, fun n12 => ⟨g, fun z => cIN_r fun _ => by
    have e := kwF_hit z likeW 0 11 rfl (by decide)
    rw [e] at k
    exact k, fun n13 => ⟨g, fun z => cIN_r fun _ => by
    have e := kwF_hit z likeW 0 12 rfl (by decide)
    rw [e] at k
    exact k, fun n14 => cIN_r fun _ => by
    have e := kwF_no (f := f) (i := p) (e := e) likeW 0 (fun w hw => by
      simp only [List.mem_cons, List.not_mem_nil, or_false] at hw
      rcases hw with rfl | rfl | rfl | rfl | rfl | rfl | rfl | rfl | rfl | rfl | rfl | rfl | rfl
      · exact n7
      · intro z
        unfold wq at z
        simp only [Bool.and_eq_true, decide_eq_true_eq] at z
        rw [isLb_iff] at hL
        omega
      · exact n3
      · exact n4
      · exact n5
      · exact n6
      · exact n8
      · exact n9
      · exact n10
      · exact n11
      · exact n12
      · exact n13
      · exact n14)
    rw [e] at k
    exact k⟩⟩⟩⟩⟩⟩⟩⟩
theorem s204 {G : Ctx} {h : Nat} {I : MI} {J : MJ} {b : B3} {f : Nat → Int} {p e : Nat} {K : Int → MI → MJ → B3 → Prop} (hh : 7 ≤ h) (h96 : I 96 = f) (h12 : I 91 12 = (e : Int)) (h14 : I 91 14 = (p : Int)) (hpe : p ≤ e) (he4 : e ≤ 400) (hL : isLb (f p) = true) (n3 : ¬ wq f e p wd3 = true) (n4 : ¬ wq f e p wd4 = true) (n5 : ¬ wq f e p wd5 = true) (n6 : ¬ wq f e p wd6 = true) (k : K (tkM true (kwF f p e homeW 0)) I J b) : TriM G h 204 119 119 [vr 91] (I, J, PP b) (cIN K) := by
  have g : (0 : Int) ≤ (p : Int) ∧ (p : Int) ≤ (e : Int) ∧ (e : Int) ≤ 400 := by omega
  refine TriM_intro (h - 1) (by omega) (by decide) (Nat.le_of_ble_eq_true rfl) (Nat.le_refl _) (Nat.le_refl _) (x204 (by omega) ?_)
  rw [h96, h12, h14, toN, toN]
  exact ⟨g, fun z => cIN_r fun _ => by
    have e := kwF_hit z homeW 0 0 rfl (by decide)
    rw [e] at k
    exact k, fun n15 => ⟨g, fun z => cIN_r fun _ => by
    have e := kwF_hit z homeW 0 1 rfl (by decide)
    rw [e] at k
    exact k, fun n16 => ⟨g, fun z => cIN_r fun _ => by
    have e := kwF_hit z homeW 0 6 rfl (by decide)
    rw [e] at k
    exact k, fun n17 => ⟨g, fun z => cIN_r fun _ => by
    have e := kwF_hit z homeW 0 7 rfl (by decide)
    rw [e] at k
    exact k, fun n18 => ⟨g, fun z => cIN_r fun _ => by
    have e := kwF_hit z homeW 0 8 rfl (by decide)
    rw [e] at k
    exact k, fun n19 => ⟨g, fun z => cIN_r fun _ => by
    have e := kwF_hit z homeW 0 9 rfl (by decide)
    rw [e] at k
    exact k, fun n20 => ⟨g, fun z => cIN_r fun _ => by
    have e := kwF_hit z homeW 0 10 rfl (by decide)
    rw [e] at k
    exact k, fun n21 => cIN_r fun _ => by
    have e := kwF_no (f := f) (i := p) (e := e) homeW 0 (fun w hw => by
      simp only [List.mem_cons, List.not_mem_nil, or_false] at hw
      rcases hw with rfl | rfl | rfl | rfl | rfl | rfl | rfl | rfl | rfl | rfl | rfl
      · exact n15
      · exact n16
      · exact n3
      · exact n4
      · exact n5
      · exact n6
      · exact n17
      · exact n18
      · exact n19
      · exact n20
      · exact n21)
    rw [e] at k
    exact k⟩⟩⟩⟩⟩⟩⟩
theorem s205 {G : Ctx} {h : Nat} {I : MI} {J : MJ} {b : B3} {f : Nat → Int} {p e' : Nat} {home : Bool} {K : Int → MI → MJ → B3 → Prop} (hh : 8 ≤ h) (h96 : I 96 = f) (h12 : I 91 12 = (e' : Int)) (h14 : I 91 14 = (p : Int)) (hpe : p ≤ e') (he4 : e' ≤ 400) (hw1 : home = true → 2 ≤ I 91 8) (hw0 : home = false → I 91 8 < 2) (hL : isLb (f p) = true) (k : K (tkM home (kwV f home p e')) I J b) : TriM G h 205 119 119 [vr 91] (I, J, PP b) (cIN K) := by
  have g : (0 : Int) ≤ (p : Int) ∧ (p : Int) ≤ (e' : Int) ∧ (e' : Int) ≤ 400 := by omega
  refine TriM_intro (h - 1) (by omega) (by decide) (Nat.le_of_ble_eq_true rfl) (Nat.le_refl _) (Nat.le_refl _) (x205 (by omega) ?_)
  rw [h96, h12, h14, toN, toN]
  exact ⟨g, fun z => cIN_r fun _ => by
    cases home with
    | true =>
      have e := kwF_hit z homeW 0 2 rfl (by decide)
      rw [show kwV f true p e' = kwF f p e' homeW 0 from rfl, e] at k
      exact k
    | false =>
      have e := kwF_hit z likeW 0 2 rfl (by decide)
      rw [show kwV f false p e' = kwF f p e' likeW 0 from rfl, e] at k
      exact k, fun n3 => ⟨g, fun z => cIN_r fun _ => by
    cases home with
    | true =>
      have e := kwF_hit z homeW 0 3 rfl (by decide)
      rw [show kwV f true p e' = kwF f p e' homeW 0 from rfl, e] at k
      exact k
    | false =>
      have e := kwF_hit z likeW 0 3 rfl (by decide)
      rw [show kwV f false p e' = kwF f p e' likeW 0 from rfl, e] at k
      exact k, fun n4 => ⟨g, fun z => cIN_r fun _ => by
    cases home with
    | true =>
      have e := kwF_hit z homeW 0 4 rfl (by decide)
      rw [show kwV f true p e' = kwF f p e' homeW 0 from rfl, e] at k
      exact k
    | false =>
      have e := kwF_hit z likeW 0 4 rfl (by decide)
      rw [show kwV f false p e' = kwF f p e' likeW 0 from rfl, e] at k
      exact k, fun n5 => ⟨g, fun z => cIN_r fun _ => by
    cases home with
    | true =>
      have e := kwF_hit z homeW 0 5 rfl (by decide)
      rw [show kwV f true p e' = kwF f p e' homeW 0 from rfl, e] at k
      exact k
    | false =>
      have e := kwF_hit z likeW 0 5 rfl (by decide)
      rw [show kwV f false p e' = kwF f p e' likeW 0 from rfl, e] at k
      exact k, fun n6 => ⟨fun q => by
    cases home with
    | true => exact s204 (by omega) h96 h12 h14 hpe he4 hL n3 n4 n5 n6 (cIN_r fun _ => k)
    | false => have := hw0 rfl; omega, fun q => by
    cases home with
    | true => have := hw1 rfl; omega
    | false => exact s203 (by omega) h96 h12 h14 hpe he4 hL n3 n4 n5 n6 (cIN_r fun _ => k)⟩⟩⟩⟩⟩
/-! the next word -/
def MX (f : Nat → Int) (n : Nat) (home : Bool) (I : MI) : Prop := I 96 = f ∧ I 91 11 = (n : Int) ∧ n ≤ 400 ∧ (∀ i, i < n → 0 ≤ f i ∧ f i < 256) ∧ (home = true → 2 ≤ I 91 8) ∧ (home = false → I 91 8 < 2)
def RS (f : Nat → Int) (n : Nat) (home : Bool) (I : MI) (ts : List Tok) : Prop := I 91 13 = tkM home (hdT ts).1 ∧ I 91 14 = ((hdT ts).2.1 : Int) ∧ ((hdT ts).1 = 20 → I 91 15 = (hdT ts).2.2) ∧ ∃ p : Nat, p ≤ n ∧ I 91 12 = (p : Int) ∧ ((hdT ts).1 ≠ 21 → ts.tail = TK f n home p)
def NX (I I2 : MI) : Prop := frK [91] I I2 ∧ ∀ j, j ∉ [12, 13, 14, 15] → I2 91 j = I 91 j
theorem NX.r {I : MI} : NX I I := ⟨frK.r, fun _ _ => rfl⟩
theorem NX.t {I I1 I2 : MI} (h1 : NX I I1) (h2 : NX I1 I2) : NX I I2 := ⟨h1.1.t h2.1, fun j hj => by rw [h2.2 j hj, h1.2 j hj]⟩
theorem NX.u {I I1 : MI} {j : Nat} {v : Int} (h1 : NX I I1) (hj : j ∈ [12, 13, 14, 15]) : NX I (u2 I1 91 j v) := ⟨h1.1.u (by decide), fun k hk => by rw [u2j (fun z => hk (by rw [z]; exact hj))]; exact h1.2 k hk⟩
theorem MX.n {f : Nat → Int} {n : Nat} {home : Bool} {I I2 : MI} (h : MX f n home I) (hn : NX I I2) : MX f n home I2 := by
  obtain ⟨a1, a2, a3, a4, a5, a6⟩ := h
  exact ⟨by rw [hn.1 96 (by decide)]; exact a1, by rw [hn.2 11 (by decide)]; exact a2, a3, a4, by rw [hn.2 8 (by decide)]; exact a5, by rw [hn.2 8 (by decide)]; exact a6⟩
theorem seeV_i {f : Nat → Int} {n p : Nat} (h : p < n) : seeV (n : Int) f (p : Int) = f p := by
  unfold seeV
  rw [if_pos (by omega), toN]
theorem seeV_o {f : Nat → Int} {n p : Nat} (h : n ≤ p) : seeV (n : Int) f (p : Int) = -1 := by
  unfold seeV
  rw [if_neg (by omega)]
section TOKM
variable {G : Ctx} {h : Nat} {I : MI} {J : MJ} {b : B3} {f : Nat → Int} {n p : Nat} {home : Bool}
theorem s206_76 {K : MI → MJ → B3 → Prop} {I' : MI} (hh : 9 ≤ h) (hM : MX f n home I) (hpn : p < n) (hL : isLb (f p) = true) (k : ∀ I2, NX I I2 → I2 91 14 = (p : Int) → I2 91 12 = ((tEnd f n p : Nat) : Int) → I2 91 13 = tkM home (kwV f home p (tEnd f n p)) → K I2 J b) : ∀ (m q : Nat) (I' : MI), q + m = n → p ≤ q → run isLb f n q = tEnd f n p → NX I I' → I' 91 12 = (q : Int) → I' 91 14 = (p : Int) → Tri G h 206 119 119 76 [some (vr 91)] [] (I', J, PP b) (cVN K) := by
  have h4 := hM.2.2.1
  intro m
  induction m with
  | zero =>
    intro q I' hq hpq hr hN h12 h14
    have hM' := hM.n hN
    have hrq := hr
    rw [run_n (by omega)] at hrq
    refine x206_76 (by omega) ?_
    rw [hM'.1, hM'.2.1, h12, seeV_o (by omega)]
    refine ⟨by omega, fun z => by omega, fun _ => s205 (home := home) (by omega) hM'.1 h12 h14 hpq (by omega) hM'.2.2.2.2.1 hM'.2.2.2.2.2 hL (cVN_r (k _ (hN.u (by decide)) ?_ ?_ ?_))⟩
    · rw [u2j (by decide)]
      exact h14
    · rw [u2j (by decide), h12, hrq]
    · rw [u2e, hrq]
  | succ m ih =>
    intro q I' hq hpq hr hN h12 h14
    have hM' := hM.n hN
    refine x206_76 (by omega) ?_
    rw [hM'.1, hM'.2.1, h12, seeV_i (by omega), w32_id (x := (q : Int) + 1) (by omega) (by omega)]
    refine ⟨by omega, fun z => ?_, fun z => ?_⟩
    · refine ih (q + 1) _ (by omega) (by omega) ?_ (hN.u (by decide)) ?_ ?_
      · rw [← run_y (by omega) (isLb_iff.2 z)]
        exact hr
      · rw [u2e]
        rfl
      · rw [u2j (by decide)]
        exact h14
    · have hrq := hr
      rw [run_n (fun y => z (isLb_iff.1 y.2))] at hrq
      refine s205 (home := home) (by omega) hM'.1 h12 h14 hpq (by omega) hM'.2.2.2.2.1 hM'.2.2.2.2.2 hL (cVN_r (k _ (hN.u (by decide)) ?_ ?_ ?_))
      · rw [u2j (by decide)]
        exact h14
      · rw [u2j (by decide), h12, hrq]
      · rw [u2e, hrq]
theorem s206_126 {K : MI → MJ → B3 → Prop} {e tot : Nat} {T : Int} (hh : 2 ≤ h) (hM : MX f n home I) (hpn : p < n) (he : e ≤ n) (hpe : p ≤ e) (hdg : ∀ j, p ≤ j → j < e → 48 ≤ f j ∧ f j ≤ 57) (hend : e < n → ¬ (48 ≤ f e ∧ f e ≤ 57)) (htot : tot = p + min (e - p) 4) (k : ∀ I2, NX I I2 → I2 91 14 = (p : Int) → I2 91 12 = (e : Int) → I2 91 13 = (if e ≤ p + 4 then 2 else 1) → I2 91 15 = T → K I2 J b) : ∀ (m q : Nat) (I' : MI) (v : Int), q + m = e → p ≤ q → NX I I' → I' 91 12 = (q : Int) → I' 91 14 = (p : Int) → I' 91 15 = v → (q ≤ tot → numV f (tot - q) q v = T) → (tot ≤ q → v = T) → 0 ≤ v → (v < 1 ∨ (v < 10 ∧ p + 1 ≤ q) ∨ (v < 100 ∧ p + 2 ≤ q) ∨ (v < 1000 ∧ p + 3 ≤ q) ∨ (v < 10000 ∧ p + 4 ≤ q)) → Tri G h 206 119 119 126 [some (vr 91)] [] (I', J, PP b) (cVN K) := by
  have h4 := hM.2.2.1
  intro m
  induction m with
  | zero =>
    intro q I' v hq hpq hN h12 h14 h15 i1 i2 v0 v1
    obtain rfl : q = e := by omega
    have hM' := hM.n hN
    refine x206_126 (by omega) ?_
    rw [hM'.1, hM'.2.1, h12, h14, w32_id (x := (q : Int) - p) (by omega) (by omega)]
    have hno : ¬ (48 ≤ seeV (n : Int) f (q : Int) ∧ seeV (n : Int) f (q : Int) ≤ 57) := by
      by_cases hqn : q < n
      · rw [seeV_i hqn]
        exact hend hqn
      · rw [seeV_o (by omega)]
        omega
    have hv := i2 (by omega)
    refine ⟨by omega, fun z => absurd z hno, fun _ => ⟨fun z => cVN_r (k _ (hN.u (by decide)) ?_ ?_ ?_ ?_), fun z => cVN_r (k _ (hN.u (by decide)) ?_ ?_ ?_ ?_)⟩⟩
    · rw [u2j (by decide)]; exact h14
    · rw [u2j (by decide)]; exact h12
    · rw [u2e, if_neg (by omega)]
    · rw [u2j (by decide), h15]; exact hv
    · rw [u2j (by decide)]; exact h14
    · rw [u2j (by decide)]; exact h12
    · rw [u2e, if_pos (by omega)]
    · rw [u2j (by decide), h15]; exact hv
  | succ m ih =>
    intro q I' v hq hpq hN h12 h14 h15 i1 i2 v0 v1
    have hM' := hM.n hN
    have hd := hdg q hpq (by omega)
    refine x206_126 (by omega) ?_
    rw [hM'.1, hM'.2.1, h12, h14, h15, seeV_i (by omega), w32_id (x := (p : Int) + 4) (by omega) (by omega), w32_id (x := (q : Int) + 1) (by omega) (by omega)]
    refine ⟨by omega, fun _ => ⟨fun z => ?_, fun z => ⟨by omega, ?_⟩⟩, fun z => absurd hd z⟩
    · refine ih (q + 1) _ v (by omega) (by omega) (hN.u (by decide)) (by rw [u2e]; rfl) (by rw [u2j (by decide)]; exact h14) (by rw [u2j (by decide)]; exact h15) (fun y => by omega) (fun _ => i2 (by omega)) v0 (by omega)
    · rw [w32_id (x := 10 * v) (by omega) (by omega), w32_id (x := 10 * v + f q) (by omega) (by omega), w32_id (x := 10 * v + f q - 48) (by omega) (by omega)]
      have hN2 : numV f (tot - (q + 1)) (q + 1) (10 * v + f q - 48) = T := by
        have h1 := i1 (by omega)
        rw [show tot - q = (tot - (q + 1)) + 1 by omega] at h1
        have h2 : numV f (tot - (q + 1)) (q + 1) (10 * v + (f q - 48)) = T := h1
        rw [show 10 * v + f q - 48 = 10 * v + (f q - 48) by omega]
        exact h2
      refine ih (q + 1) _ (10 * v + f q - 48) (by omega) (by omega) ((hN.u (by decide)).u (by decide)) (by rw [u2e]; rfl) (by rw [u2j (by decide), u2j (by decide)]; exact h14) (by rw [u2j (by decide), u2e]) (fun _ => hN2) (fun y => ?_) (by omega) (by omega)
      rw [show tot - (q + 1) = 0 by omega] at hN2
      exact hN2
theorem s206_39 {K : MI → MJ → B3 → Prop} {I' : MI} (hh : 9 ≤ h) (hM : MX f n home I) (hp : p ≤ n) (hnb : p < n → ¬ (f p = 32 ∨ f p = 10)) (hN : NX I I') (h12 : I' 91 12 = (p : Int)) (k : ∀ I2, NX I I2 → RS f n home I2 (TK f n home p) → K I2 J b) : Tri G h 206 119 119 39 [some (vr 91)] [] (I', J, PP b) (cVN K) := by
  have h4 := hM.2.2.1
  have hM' := hM.n hN
  refine x206_39 (by omega) ?_
  rw [hM'.1, hM'.2.1, h12]
  by_cases hpn : p < n
  · have hb := hM.2.2.2.1 p hpn
    have hb2 := tEnd_b (f := f) hpn
    rw [seeV_i hpn, w32_id (x := (p : Int) + 1) (by omega) (by omega)]
    have hTc := TK_c (f := f) (n := n) (home := home) hpn (hnb hpn)
    have rs : ∀ I2 : MI, I2 91 13 = tkM home (kdT f home p (tEnd f n p)) → I2 91 14 = (p : Int) → (kdT f home p (tEnd f n p) = 20 → I2 91 15 = numV f (min (tEnd f n p - p) 4) p 0) → I2 91 12 = ((tEnd f n p : Nat) : Int) → RS f n home I2 (TK f n home p) := by
      intro I2 g1 g2 g3 g4
      rw [hTc]
      exact ⟨g1, g2, g3, tEnd f n p, hb2.2, g4, fun _ => rfl⟩
    refine ⟨by omega, fun _ => ⟨fun z => ?_, fun z => ⟨fun z2 => ?_, fun z2 => ?_⟩⟩, fun z => by omega⟩
    · have hL := isLb_iff.2 z
      refine s206_76 (I' := I') hh hM hpn hL (fun I2 g1 g2 g3 g4 => k I2 g1 (rs I2 ?_ g2 (fun y => ?_) g3)) (n - p) p _ (by omega) (Nat.le_refl _) (tEnd_L hpn hL).symm (hN.u (by decide)) ?_ u2e
      · rw [g4]
        unfold kdT
        rw [if_pos hL]
      · have := kdT_dg hpn y p (Nat.le_refl _) hb2.1
        omega
      · rw [u2j (by decide)]
        exact h12
    · have hL : ¬ isLb (f p) = true := fun y => z (isLb_iff.1 y)
      have hD := isDb_iff.2 z2
      have hr := run_b (P := isDb) (f := f) (n := n) (n - p) p (by omega)
      rw [← tEnd_D hpn hL hD] at hr
      have hkd : kdT f home p (tEnd f n p) = if tEnd f n p ≤ p + 4 then 20 else 22 := by
        unfold kdT
        rw [if_neg hL, if_pos hD]
      refine s206_126 (e := tEnd f n p) (tot := p + min (tEnd f n p - p) 4) (T := numV f (min (tEnd f n p - p) 4) p 0) (by omega) hM hpn hb2.2 (by omega) (fun j h1 h2 => isDb_iff.1 (hr.2.2 j h1 h2)) (fun h1 h2 => ?_) rfl (fun I2 g1 g2 g3 g4 g5 => k I2 g1 (rs I2 ?_ g2 (fun _ => g5) g3)) (tEnd f n p - p) p _ 0 (by omega) (Nat.le_refl _) ((hN.u (by decide)).u (by decide)) ?_ ?_ u2e (fun _ => ?_) (fun y => ?_) (by omega) (Or.inl (by omega))
      · have e1 := tEnd_D hpn hL hD
        have hstop : ∀ (m j : Nat), j + m = n → run isDb f n j < n → ¬ isDb (f (run isDb f n j)) = true := by
          intro m
          induction m with
          | zero =>
            intro j hj hlt
            rw [run_n (by omega)] at hlt
            omega
          | succ m ihm =>
            intro j hj hlt
            by_cases hy : isDb (f j) = true
            · rw [run_y (by omega) hy] at hlt ⊢
              exact ihm (j + 1) (by omega) hlt
            · rw [run_n (fun w => hy w.2)]
              exact hy
        exact hstop (n - p) p (by omega) (by rw [← e1]; exact h1) (by rw [← e1]; exact isDb_iff.2 h2)
      · rw [g4, hkd]
        split
        · unfold tkM
          rw [if_pos rfl]
        · unfold tkM
          rw [if_neg (by decide), if_neg (by decide), if_pos rfl]
      · rw [u2j (by decide), u2j (by decide)]
        exact h12
      · rw [u2j (by decide), u2e]
      · rw [show p + min (tEnd f n p - p) 4 - p = min (tEnd f n p - p) 4 by omega]
      · omega
    · have hL : ¬ isLb (f p) = true := fun y => z (isLb_iff.1 y)
      have hD : ¬ isDb (f p) = true := fun y => z2 (isDb_iff.1 y)
      have e1 : tEnd f n p = p + 1 := by
        unfold tEnd
        rw [if_neg hL, if_neg hD]
      have hkd : kdT f home p (tEnd f n p) = kdS (f p) := by
        unfold kdT
        rw [if_neg hL, if_neg hD]
      have fin : ∀ l2 : Int, (l2 = 1 ∧ isSg (f p)) ∨ (l2 = 0 ∧ ¬ isSg (f p)) → Tri G h 206 119 119 290 [some (vr 91), some (vi (f p)), some (vi l2)] [] (u2 (u2 I' 91 14 (p : Int)) 91 12 ((p : Int) + 1), J, PP b) (cVN K) := by
        intro l2 hl
        have hcom : ∀ v : Int, v = tkM home (kdS (f p)) → K (u2 (u2 (u2 I' 91 14 (p : Int)) 91 12 ((p : Int) + 1)) 91 13 v) J b := by
          intro v hv
          refine k _ (((hN.u (by decide)).u (by decide)).u (by decide)) (rs _ ?_ ?_ (fun y => ?_) ?_)
          · rw [u2e, hkd]
            exact hv
          · rw [u2j (by decide), u2j (by decide), u2e]
          · exfalso
            have := kdT_dg hpn y p (Nat.le_refl _) hb2.1
            omega
          · rw [u2j (by decide), u2e, e1]
            rfl
        rcases hl with ⟨rfl, hs⟩ | ⟨rfl, hs⟩
        · refine x206_290 (Nat.zero_le _) ⟨fun y => absurd y (by decide), fun _ => cVN_r (hcom _ ?_)⟩
          rw [w32_id (by omega) (by omega)]
          unfold isSg at hs
          unfold kdS
          rw [if_pos hs]
          unfold tkM
          rw [if_neg (by omega), if_neg (by omega), if_neg (by omega), if_pos (by omega)]
        · refine x206_290 (Nat.zero_le _) ⟨fun _ => cVN_r (hcom _ ?_), fun y => absurd rfl y⟩
          unfold isSg at hs
          unfold kdS
          rw [if_neg hs]
          unfold tkM
          rw [if_neg (by decide), if_neg (by decide), if_pos rfl]
      have y1 : isSg (f p) → Tri G h 206 119 119 290 [some (vr 91), some (vi (f p)), some (vi 1)] [] (u2 (u2 I' 91 14 (p : Int)) 91 12 ((p : Int) + 1), J, PP b) (cVN K) := fun hs => fin 1 (Or.inl ⟨rfl, hs⟩)
      unfold isSg at y1
      refine ⟨fun q => y1 (by omega), fun q1 => ⟨fun q => y1 (by omega), fun q2 => ⟨fun q => y1 (by omega), fun q3 => ⟨fun q => y1 (by omega), fun q4 => ⟨fun q => y1 (by omega), fun q5 => ⟨fun q => y1 (by omega), fun q6 => ⟨fun q => y1 (by omega), fun q7 => ⟨fun q => y1 (by omega), fun q8 => ⟨fun q => y1 (by omega), fun q9 => ⟨fun q => fin 0 (Or.inr ⟨rfl, ?_⟩), fun q => y1 (by omega)⟩⟩⟩⟩⟩⟩⟩⟩⟩⟩
      unfold isSg
      omega
  · rw [seeV_o (by omega)]
    refine ⟨by omega, fun z => absurd rfl z, fun _ => cVN_r (k _ ((hN.u (by decide)).u (by decide)) ?_)⟩
    rw [TK_e (by omega)]
    refine ⟨?_, ?_, fun z => absurd (show (21 : Int) = 20 from z) (by decide), p, hp, ?_, fun z => absurd rfl z⟩
    · rw [u2e]
      show (0 : Int) = tkM home 21
      unfold tkM
      rw [if_neg (by decide), if_pos rfl]
    · rw [u2j (by decide), u2e]
      show (p : Int) = (n : Int)
      omega
    · rw [u2j (by decide), u2j (by decide)]
      exact h12
theorem s206 {K : MI → MJ → B3 → Prop} (hh : 10 ≤ h) (hM : MX f n home I) (hp : p ≤ n) (h12 : I 91 12 = (p : Int)) (k : ∀ I2, NX I I2 → RS f n home I2 (TK f n home p) → K I2 J b) : TriM G h 206 119 119 [vr 91] (I, J, PP b) (cVN K) := by
  have h4 := hM.2.2.1
  have loop : ∀ (m q : Nat) (I' : MI), q + m = n → NX I I' → I' 91 12 = (q : Int) → TK f n home q = TK f n home p → Tri G (h - 1) 206 119 119 0 [some (vr 91)] [] (I', J, PP b) (cVN K) := by
    intro m
    induction m with
    | zero =>
      intro q I' hq hN h12' hT
      have hM' := hM.n hN
      refine x206_0 (by omega) ?_
      rw [hM'.1, hM'.2.1, h12', seeV_o (by omega)]
      have go : Tri G (h - 1) 206 119 119 39 [some (vr 91)] [] (I', J, PP b) (cVN K) := s206_39 (p := q) (by omega) hM (by omega) (fun z => by omega) hN h12' (fun I2 g1 g2 => k I2 g1 (by rw [← hT]; exact g2))
      exact ⟨by omega, fun z => absurd z (by decide), fun _ => ⟨by omega, fun _ => go, fun z => absurd (by decide) z⟩⟩
    | succ m ih =>
      intro q I' hq hN h12' hT
      have hM' := hM.n hN
      refine x206_0 (by omega) ?_
      rw [hM'.1, hM'.2.1, h12', seeV_i (by omega), w32_id (x := (q : Int) + 1) (by omega) (by omega)]
      have nx : (f q = 32 ∨ f q = 10) → Tri G (h - 1) 206 119 119 0 [some (vr 91)] [] (u2 I' 91 12 ((q : Int) + 1), J, PP b) (cVN K) := fun hb => ih (q + 1) _ (by omega) (hN.u (by decide)) (by rw [u2e]; rfl) (by rw [← TK_b (by omega) hb]; exact hT)
      exact ⟨by omega, fun z => nx (Or.inl z), fun z => ⟨by omega, fun z2 => s206_39 (p := q) (by omega) hM (by omega) (fun _ y => by omega) hN h12' (fun I2 g1 g2 => k I2 g1 (by rw [← hT]; exact g2)), fun z2 => nx (Or.inr (Decidable.of_not_not z2))⟩⟩
  exact TriM_intro (h - 1) (by omega) (by decide) (Nat.le_of_ble_eq_true rfl) (Nat.le_refl _) (Nat.le_refl _) (loop (n - p) p I (by omega) NX.r h12 rfl)
end TOKM
