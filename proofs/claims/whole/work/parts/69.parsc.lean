def kdV (x : Int) (row : Nat → Int) : Int := if 0 ≤ x ∧ x < 401 then row x.toNat else 21
def nuV (x : Int) (row : Nat → Int) : Int := if 0 ≤ x ∧ x < 401 then row x.toNat else 0
theorem sx74 {G : Ctx} {h : Nat} {I : MI} {J : MJ} {b : B3} {K : Int → MS → Prop} (hh : 1 ≤ h) (k : K (kdV (I 62 9) (I 64)) (I, J, PP b)) : TriM G h 74 119 119 [vr 62] (I, J, PP b) (cI' K) := by
  unfold kdV at k
  refine x74_m hh (fun h hh => x74 hh ⟨fun q => cI_r ?_, fun q => ⟨fun q2 => cI_r ?_, fun q2 => ⟨by omega, cI_r ?_⟩⟩⟩)
  · rw [if_neg (by omega)] at k
    exact k
  · rw [if_neg (by omega)] at k
    exact k
  · rw [if_pos (by omega)] at k
    exact k
theorem sx75 {G : Ctx} {h : Nat} {I : MI} {J : MJ} {b : B3} {K : Int → MS → Prop} (hh : 1 ≤ h) (k : K (nuV (I 62 9) (I 66)) (I, J, PP b)) : TriM G h 75 119 119 [vr 62] (I, J, PP b) (cI' K) := by
  unfold nuV at k
  refine x75_m hh (fun h hh => x75 hh ⟨fun q => cI_r ?_, fun q => ⟨fun q2 => cI_r ?_, fun q2 => ⟨by omega, cI_r ?_⟩⟩⟩)
  · rw [if_neg (by omega)] at k
    exact k
  · rw [if_neg (by omega)] at k
    exact k
  · rw [if_pos (by omega)] at k
    exact k
set_option maxRecDepth 100000 in
theorem y76 {G : Ctx} {h : Nat} {Q : MP} {I : Nat → Nat → Int} {J : Nat → Nat → BitVec 64} {b : B3} {x : Int} (hh : 1 ≤ h) (H : (((I 62 0) = 0) → (((¬ (kdV (I 62 9) (I 64)) = x) → (TriM G h 77 119 119 [vr 62, vi 1] (I, J, PP b) (cVN fun I1 J1 b1 => (Q none (I1, J1, PP b1))))) ∧ (¬ (¬ (kdV (I 62 9) (I 64)) = x) → (Q none (u2 I 62 9 (w32 ((I 62 9) + 1)), J, PP b))))) ∧ (¬ ((I 62 0) = 0) → (Q none (I, J, PP b)))) : Tri G h 76 119 119 0 [some (vr 62), some (vi x)] [] (I, J, PP b) Q := wp_at ck76 [] 400 (And.intro (fun q1903 => sx74 (by omega)  (And.intro (fun q1905 => cVN_go ((H.1 q1903).1 q1905) (fun I1 J1 b1 q1907 => q1907)) (fun q1906 => (H.1 q1903).2 q1906))) (fun q1904 => H.2 q1904))
theorem y76_m {G : Ctx} {h : Nat} {Q : MP} {I : Nat → Nat → Int} {J : Nat → Nat → BitVec 64} {b : B3} {x : Int} (hh : 2 ≤ h) (H : ∀ h, 1 ≤ h → Tri G h 76 119 119 0 [some (vr 62), some (vi x)] [] (I, J, PP b) Q) : TriM G h 76 119 119 [vr 62, vi x] (I, J, PP b) Q := TriM_intro (h - 1) (by omega) (by decide) (Nat.le_of_ble_eq_true rfl) (Nat.le_refl _) (Nat.le_refl _) (H (h - 1) (by omega))
set_option maxRecDepth 100000 in
theorem x73 {G : Ctx} {h : Nat} {Q : MP} {I : Nat → Nat → Int} {J : Nat → Nat → BitVec 64} {b : B3} (hh : 1 ≤ h) (H : ((¬ (kdV (I 62 9) (I 64)) = 20) → ((((kdV (I 62 9) (I 64)) < 6) → (TriM G h 77 119 119 [vr 62, vi 1] (I, J, PP b) (cVN fun I1 J1 b1 => (Q none (I1, J1, PP b1))))) ∧ (¬ ((kdV (I 62 9) (I 64)) < 6) → (((20 ≤ (kdV (I 62 9) (I 64))) → (TriM G h 77 119 119 [vr 62, vi 1] (I, J, PP b) (cVN fun I2 J2 b2 => (Q none (I2, J2, PP b2))))) ∧ (¬ (20 ≤ (kdV (I 62 9) (I 64))) → (TriM G h 78 119 119 [vr 62, vi (w32 ((w32 (10000 + (kdV (I 62 9) (I 64)))) - 6))] (I, J, PP b) (cVN fun I3 J3 b3 => (Q none (u2 I3 62 9 (w32 ((I3 62 9) + 1)), J3, PP b3))))))))) ∧ (¬ (¬ (kdV (I 62 9) (I 64)) = 20) → (TriM G h 78 119 119 [vr 62, vi (nuV (I 62 9) (I 66))] (I, J, PP b) (cVN fun I4 J4 b4 => (Q none (u2 I4 62 9 (w32 ((I4 62 9) + 1)), J4, PP b4)))))) : Tri G h 73 119 119 0 [some (vr 62)] [] (I, J, PP b) Q := wp_at ck73 [] 400 (sx74 (by omega)  (And.intro (fun q1908 => And.intro (fun q1910 => cVN_go ((H.1 q1908).1 q1910) (fun I1 J1 b1 q1912 => q1912)) (fun q1911 => And.intro (fun q1913 => cVN_go (((H.1 q1908).2 q1911).1 q1913) (fun I2 J2 b2 q1915 => q1915)) (fun q1914 => cVN_go (((H.1 q1908).2 q1911).2 q1914) (fun I3 J3 b3 q1916 => q1916)))) (fun q1909 => sx75 (by omega)  (cVN_go (H.2 q1909) (fun I4 J4 b4 q1917 => q1917)))))
theorem x73_m {G : Ctx} {h : Nat} {Q : MP} {I : Nat → Nat → Int} {J : Nat → Nat → BitVec 64} {b : B3} (hh : 2 ≤ h) (H : ∀ h, 1 ≤ h → Tri G h 73 119 119 0 [some (vr 62)] [] (I, J, PP b) Q) : TriM G h 73 119 119 [vr 62] (I, J, PP b) Q := TriM_intro (h - 1) (by omega) (by decide) (Nat.le_of_ble_eq_true rfl) (Nat.le_refl _) (Nat.le_refl _) (H (h - 1) (by omega))
set_option maxRecDepth 100000 in
theorem x72 {G : Ctx} {h : Nat} {Q : MP} {I : Nat → Nat → Int} {J : Nat → Nat → BitVec 64} {b : B3} (hh : 2 ≤ h) (H : TriM G h 73 119 119 [vr 62] (I, J, PP b) (cVN fun I1 J1 b1 => (Tri G h 72 119 119 6 [some (vr 62), some (vi 0)] [] (I1, J1, PP b1) Q))) : Tri G h 72 119 119 0 [some (vr 62)] [] (I, J, PP b) Q := wp_at ck72 [(6, [true, true]), (38, [true, true]), (53, [true, true, true]), (101, [true, true, true])] 400 (cVN_go H (fun I1 J1 b1 q1918 => q1918))
set_option maxRecDepth 100000 in
theorem x72_6 {G : Ctx} {h : Nat} {Q : MP} {I : Nat → Nat → Int} {J : Nat → Nat → BitVec 64} {b : B3} {l1 : Int} (hh : 1 ≤ h) (H : ((400 ≤ l1) → (Q none (I, J, PP b))) ∧ (¬ (400 ≤ l1) → (((¬ (I 62 0) = 0) → (Q none (I, J, PP b))) ∧ (¬ (¬ (I 62 0) = 0) → ((((kdV (I 62 9) (I 64)) = 42) → (Tri G h 72 119 119 38 [some (vr 62), some (vi l1)] [] (I, J, PP b) Q)) ∧ (¬ ((kdV (I 62 9) (I 64)) = 42) → (((¬ (kdV (I 62 9) (I 64)) = 47) → (Q none (I, J, PP b))) ∧ (¬ (¬ (kdV (I 62 9) (I 64)) = 47) → (Tri G h 72 119 119 38 [some (vr 62), some (vi l1)] [] (I, J, PP b) Q))))))))) : Tri G h 72 119 119 6 [some (vr 62), some (vi l1)] [] (I, J, PP b) Q := wp_at ck72 [(6, [true, true]), (38, [true, true]), (53, [true, true, true]), (101, [true, true, true])] 400 (And.intro (fun q1919 => H.1 q1919) (fun q1920 => And.intro (fun q1921 => (H.2 q1920).1 q1921) (fun q1922 => sx74 (by omega)  (And.intro (fun q1923 => ((H.2 q1920).2 q1922).1 q1923) (fun q1924 => sx74 (by omega)  (((H.2 q1920).2 q1922).2 q1924))))))
set_option maxRecDepth 100000 in
theorem x72_38 {G : Ctx} {h : Nat} {Q : MP} {I : Nat → Nat → Int} {J : Nat → Nat → BitVec 64} {b : B3} {l1 : Int} (hh : 1 ≤ h) (H : Tri G h 72 119 119 53 [some (vr 62), some (vi l1), some (vi (kdV (I 62 9) (I 64)))] [] (u2 I 62 9 (w32 ((I 62 9) + 1)), J, PP b) Q) : Tri G h 72 119 119 38 [some (vr 62), some (vi l1)] [] (I, J, PP b) Q := wp_at ck72 [(6, [true, true]), (38, [true, true]), (53, [true, true, true]), (101, [true, true, true])] 400 (sx74 (by omega)  H)
set_option maxRecDepth 100000 in
theorem x72_53 {G : Ctx} {h : Nat} {Q : MP} {I : Nat → Nat → Int} {J : Nat → Nat → BitVec 64} {b : B3} {l1 l2 : Int} (hh : 2 ≤ h) (H : ((¬ l2 = 47) → (((¬ l2 = 47) → (TriM G h 73 119 119 [vr 62] (I, J, PP b) (cVN fun I1 J1 b1 => (Tri G h 72 119 119 101 [some (vr 62), some (vi l1), some (vi l2)] [] (I1, J1, PP b1) Q)))) ∧ (¬ (¬ l2 = 47) → (((¬ (nuV (I 62 9) (I 66)) = 0) → (TriM G h 73 119 119 [vr 62] (I, J, PP b) (cVN fun I2 J2 b2 => (Tri G h 72 119 119 101 [some (vr 62), some (vi l1), some (vi l2)] [] (I2, J2, PP b2) Q)))) ∧ (¬ (¬ (nuV (I 62 9) (I 66)) = 0) → (TriM G h 77 119 119 [vr 62, vi 2] (I, J, PP b) (cVN fun I3 J3 b3 => (Tri G h 72 119 119 101 [some (vr 62), some (vi l1), some (vi l2)] [] (I3, J3, PP b3) Q)))))))) ∧ (¬ (¬ l2 = 47) → ((((kdV (I 62 9) (I 64)) = 20) → (((¬ l2 = 47) → (TriM G h 73 119 119 [vr 62] (I, J, PP b) (cVN fun I4 J4 b4 => (Tri G h 72 119 119 101 [some (vr 62), some (vi l1), some (vi l2)] [] (I4, J4, PP b4) Q)))) ∧ (¬ (¬ l2 = 47) → (((¬ (nuV (I 62 9) (I 66)) = 0) → (TriM G h 73 119 119 [vr 62] (I, J, PP b) (cVN fun I5 J5 b5 => (Tri G h 72 119 119 101 [some (vr 62), some (vi l1), some (vi l2)] [] (I5, J5, PP b5) Q)))) ∧ (¬ (¬ (nuV (I 62 9) (I 66)) = 0) → (TriM G h 77 119 119 [vr 62, vi 2] (I, J, PP b) (cVN fun I6 J6 b6 => (Tri G h 72 119 119 101 [some (vr 62), some (vi l1), some (vi l2)] [] (I6, J6, PP b6) Q)))))))) ∧ (¬ ((kdV (I 62 9) (I 64)) = 20) → (TriM G h 77 119 119 [vr 62, vi 1] (I, J, PP b) (cVN fun I7 J7 b7 => (Tri G h 72 119 119 101 [some (vr 62), some (vi l1), some (vi l2)] [] (I7, J7, PP b7) Q))))))) : Tri G h 72 119 119 53 [some (vr 62), some (vi l1), some (vi l2)] [] (I, J, PP b) Q := wp_at ck72 [(6, [true, true]), (38, [true, true]), (53, [true, true, true]), (101, [true, true, true])] 400 (And.intro (fun q1925 => And.intro (fun q1927 => cVN_go ((H.1 q1925).1 q1927) (fun I1 J1 b1 q1929 => q1929)) (fun q1928 => sx75 (by omega)  (And.intro (fun q1930 => cVN_go (((H.1 q1925).2 q1928).1 q1930) (fun I2 J2 b2 q1932 => q1932)) (fun q1931 => cVN_go (((H.1 q1925).2 q1928).2 q1931) (fun I3 J3 b3 q1933 => q1933))))) (fun q1926 => sx74 (by omega)  (And.intro (fun q1934 => And.intro (fun q1936 => cVN_go (((H.2 q1926).1 q1934).1 q1936) (fun I4 J4 b4 q1938 => q1938)) (fun q1937 => sx75 (by omega)  (And.intro (fun q1939 => cVN_go ((((H.2 q1926).1 q1934).2 q1937).1 q1939) (fun I5 J5 b5 q1941 => q1941)) (fun q1940 => cVN_go ((((H.2 q1926).1 q1934).2 q1937).2 q1940) (fun I6 J6 b6 q1942 => q1942))))) (fun q1935 => cVN_go ((H.2 q1926).2 q1935) (fun I7 J7 b7 q1943 => q1943)))))
set_option maxRecDepth 100000 in
theorem x72_101 {G : Ctx} {h : Nat} {Q : MP} {I : Nat → Nat → Int} {J : Nat → Nat → BitVec 64} {b : B3} {l1 l2 : Int} (hh : 1 ≤ h) (H : TriM G h 78 119 119 [vr 62, vi (w32 (20000 + l2))] (I, J, PP b) (cVN fun I1 J1 b1 => (Tri G h 72 119 119 6 [some (vr 62), some (vi (w32 (l1 + 1)))] [] (I1, J1, PP b1) Q))) : Tri G h 72 119 119 101 [some (vr 62), some (vi l1), some (vi l2)] [] (I, J, PP b) Q := wp_at ck72 [(6, [true, true]), (38, [true, true]), (53, [true, true, true]), (101, [true, true, true])] 400 (cVN_go H (fun I1 J1 b1 q1944 => q1944))
theorem x72_m {G : Ctx} {h : Nat} {Q : MP} {I : Nat → Nat → Int} {J : Nat → Nat → BitVec 64} {b : B3} (hh : 3 ≤ h) (H : ∀ h, 2 ≤ h → Tri G h 72 119 119 0 [some (vr 62)] [] (I, J, PP b) Q) : TriM G h 72 119 119 [vr 62] (I, J, PP b) Q := TriM_intro (h - 1) (by omega) (by decide) (Nat.le_of_ble_eq_true rfl) (Nat.le_refl _) (Nat.le_refl _) (H (h - 1) (by omega))
set_option maxRecDepth 100000 in
theorem x71 {G : Ctx} {h : Nat} {Q : MP} {I : Nat → Nat → Int} {J : Nat → Nat → BitVec 64} {b : B3} (hh : 3 ≤ h) (H : TriM G h 72 119 119 [vr 62] (I, J, PP b) (cVN fun I1 J1 b1 => (Tri G h 71 119 119 6 [some (vr 62), some (vi 0)] [] (I1, J1, PP b1) Q))) : Tri G h 71 119 119 0 [some (vr 62)] [] (I, J, PP b) Q := wp_at ck71 [(6, [true, true])] 400 (cVN_go H (fun I1 J1 b1 q1945 => q1945))
set_option maxRecDepth 100000 in
theorem x71_6 {G : Ctx} {h : Nat} {Q : MP} {I : Nat → Nat → Int} {J : Nat → Nat → BitVec 64} {b : B3} {l1 : Int} (hh : 3 ≤ h) (H : ((400 ≤ l1) → (Q none (I, J, PP b))) ∧ (¬ (400 ≤ l1) → (((¬ (I 62 0) = 0) → (Q none (I, J, PP b))) ∧ (¬ (¬ (I 62 0) = 0) → ((((kdV (I 62 9) (I 64)) = 43) → (TriM G h 72 119 119 [vr 62] (u2 I 62 9 (w32 ((I 62 9) + 1)), J, PP b) (cVN fun I1 J1 b1 => (TriM G h 78 119 119 [vr 62, vi (w32 (20000 + (kdV (I 62 9) (I 64))))] (I1, J1, PP b1) (cVN fun I2 J2 b2 => (Tri G h 71 119 119 6 [some (vr 62), some (vi (w32 (l1 + 1)))] [] (I2, J2, PP b2) Q)))))) ∧ (¬ ((kdV (I 62 9) (I 64)) = 43) → (((¬ (kdV (I 62 9) (I 64)) = 45) → (Q none (I, J, PP b))) ∧ (¬ (¬ (kdV (I 62 9) (I 64)) = 45) → (TriM G h 72 119 119 [vr 62] (u2 I 62 9 (w32 ((I 62 9) + 1)), J, PP b) (cVN fun I3 J3 b3 => (TriM G h 78 119 119 [vr 62, vi (w32 (20000 + (kdV (I 62 9) (I 64))))] (I3, J3, PP b3) (cVN fun I4 J4 b4 => (Tri G h 71 119 119 6 [some (vr 62), some (vi (w32 (l1 + 1)))] [] (I4, J4, PP b4) Q))))))))))))) : Tri G h 71 119 119 6 [some (vr 62), some (vi l1)] [] (I, J, PP b) Q := wp_at ck71 [(6, [true, true])] 400 (And.intro (fun q1946 => H.1 q1946) (fun q1947 => And.intro (fun q1948 => (H.2 q1947).1 q1948) (fun q1949 => sx74 (by omega)  (And.intro (fun q1950 => sx74 (by omega)  (cVN_go (((H.2 q1947).2 q1949).1 q1950) (fun I1 J1 b1 q1952 => cVN_go q1952 (fun I2 J2 b2 q1953 => q1953)))) (fun q1951 => sx74 (by omega)  (And.intro (fun q1954 => (((H.2 q1947).2 q1949).2 q1951).1 q1954) (fun q1955 => sx74 (by omega)  (cVN_go ((((H.2 q1947).2 q1949).2 q1951).2 q1955) (fun I3 J3 b3 q1956 => cVN_go q1956 (fun I4 J4 b4 q1957 => q1957))))))))))
theorem x71_m {G : Ctx} {h : Nat} {Q : MP} {I : Nat → Nat → Int} {J : Nat → Nat → BitVec 64} {b : B3} (hh : 4 ≤ h) (H : ∀ h, 3 ≤ h → Tri G h 71 119 119 0 [some (vr 62)] [] (I, J, PP b) Q) : TriM G h 71 119 119 [vr 62] (I, J, PP b) Q := TriM_intro (h - 1) (by omega) (by decide) (Nat.le_of_ble_eq_true rfl) (Nat.le_refl _) (Nat.le_refl _) (H (h - 1) (by omega))
set_option maxRecDepth 100000 in
theorem x70 {G : Ctx} {h : Nat} {Q : MP} {I : Nat → Nat → Int} {J : Nat → Nat → BitVec 64} {b : B3} {x : Int} (hh : 4 ≤ h) (H : (((I 62 0) = 0) → ((((kdV (I 62 9) (I 64)) = 5) → (((x < 8) → (Tri G h 70 119 119 36 [some (vr 62), some (vi x), some (vi (kdV (I 62 9) (I 64)))] [] (I, J, PP b) Q)) ∧ (¬ (x < 8) → (TriM G h 77 119 119 [vr 62, vi 3] (I, J, PP b) (cVN fun I1 J1 b1 => (Q none (I1, J1, PP b1))))))) ∧ (¬ ((kdV (I 62 9) (I 64)) = 5) → (((¬ (kdV (I 62 9) (I 64)) = 40) → (TriM G h 71 119 119 [vr 62] (I, J, PP b) (cVN fun I2 J2 b2 => ((((kdV (I2 62 9) (I2 64)) = 60) → (Tri G h 70 119 119 109 [some (vr 62), none, none, some (vi (kdV (I2 62 9) (I2 64)))] [] (I2, J2, PP b2) Q)) ∧ (¬ ((kdV (I2 62 9) (I2 64)) = 60) → ((((kdV (I2 62 9) (I2 64)) = 61) → (Tri G h 70 119 119 109 [some (vr 62), none, none, some (vi (kdV (I2 62 9) (I2 64)))] [] (I2, J2, PP b2) Q)) ∧ (¬ ((kdV (I2 62 9) (I2 64)) = 61) → (((¬ (kdV (I2 62 9) (I2 64)) = 62) → (TriM G h 77 119 119 [vr 62, vi 1] (I2, J2, PP b2) (cVN fun I3 J3 b3 => (Q none (I3, J3, PP b3))))) ∧ (¬ (¬ (kdV (I2 62 9) (I2 64)) = 62) → (Tri G h 70 119 119 109 [some (vr 62), none, none, some (vi (kdV (I2 62 9) (I2 64)))] [] (I2, J2, PP b2) Q)))))))))) ∧ (¬ (¬ (kdV (I 62 9) (I 64)) = 40) → (((x < 8) → (Tri G h 70 119 119 36 [some (vr 62), some (vi x), some (vi (kdV (I 62 9) (I 64)))] [] (I, J, PP b) Q)) ∧ (¬ (x < 8) → (TriM G h 77 119 119 [vr 62, vi 3] (I, J, PP b) (cVN fun I4 J4 b4 => (Q none (I4, J4, PP b4))))))))))) ∧ (¬ ((I 62 0) = 0) → (Q none (I, J, PP b)))) : Tri G h 70 119 119 0 [some (vr 62), some (vi x)] [] (I, J, PP b) Q := wp_at ck70 [(36, [true, true, true]), (109, [true, false, false, true])] 400 (sx74 (by omega)  (And.intro (fun q1958 => And.intro (fun q1960 => And.intro (fun q1962 => ((H.1 q1958).1 q1960).1 q1962) (fun q1963 => cVN_go (((H.1 q1958).1 q1960).2 q1963) (fun I1 J1 b1 q1964 => q1964))) (fun q1961 => And.intro (fun q1965 => cVN_go (((H.1 q1958).2 q1961).1 q1965) (fun I2 J2 b2 q1967 => sx74 (by omega)  (And.intro (fun q1968 => q1967.1 q1968) (fun q1969 => And.intro (fun q1970 => (q1967.2 q1969).1 q1970) (fun q1971 => And.intro (fun q1972 => cVN_go (((q1967.2 q1969).2 q1971).1 q1972) (fun I3 J3 b3 q1974 => q1974)) (fun q1973 => ((q1967.2 q1969).2 q1971).2 q1973)))))) (fun q1966 => And.intro (fun q1975 => (((H.1 q1958).2 q1961).2 q1966).1 q1975) (fun q1976 => cVN_go ((((H.1 q1958).2 q1961).2 q1966).2 q1976) (fun I4 J4 b4 q1977 => q1977))))) (fun q1959 => H.2 q1959)))
set_option maxRecDepth 100000 in
theorem x70_36 {G : Ctx} {h : Nat} {Q : MP} {I : Nat → Nat → Int} {J : Nat → Nat → BitVec 64} {b : B3} {l1 l2 : Int} (hh : 2 ≤ h) (H : ((¬ l2 = 5) → (TriM G h 69 119 119 [vr 62, vi (w32 (l1 + 1))] (u2 I 62 9 (w32 ((I 62 9) + 1)), J, PP b) (cVN fun I1 J1 b1 => (TriM G h 76 119 119 [vr 62, vi 41] (I1, J1, PP b1) (cVN fun I2 J2 b2 => (Q none (I2, J2, PP b2))))))) ∧ (¬ (¬ l2 = 5) → (TriM G h 70 119 119 [vr 62, vi (w32 (l1 + 1))] (u2 I 62 9 (w32 ((I 62 9) + 1)), J, PP b) (cVN fun I3 J3 b3 => (TriM G h 78 119 119 [vr 62, vi 20005] (I3, J3, PP b3) (cVN fun I4 J4 b4 => (Q none (I4, J4, PP b4)))))))) : Tri G h 70 119 119 36 [some (vr 62), some (vi l1), some (vi l2)] [] (I, J, PP b) Q := wp_at ck70 [(36, [true, true, true]), (109, [true, false, false, true])] 400 (And.intro (fun q1978 => cVN_go (H.1 q1978) (fun I1 J1 b1 q1980 => cVN_go q1980 (fun I2 J2 b2 q1981 => q1981))) (fun q1979 => cVN_go (H.2 q1979) (fun I3 J3 b3 q1982 => cVN_go q1982 (fun I4 J4 b4 q1983 => q1983))))
set_option maxRecDepth 100000 in
theorem x70_109 {G : Ctx} {h : Nat} {Q : MP} {I : Nat → Nat → Int} {J : Nat → Nat → BitVec 64} {b : B3} {l3 : Int} (hh : 4 ≤ h) (H : TriM G h 76 119 119 [vr 62, vi l3] (I, J, PP b) (cVN fun I1 J1 b1 => (TriM G h 71 119 119 [vr 62] (I1, J1, PP b1) (cVN fun I2 J2 b2 => (TriM G h 78 119 119 [vr 62, vi (w32 (20000 + l3))] (I2, J2, PP b2) (cVN fun I3 J3 b3 => (Q none (I3, J3, PP b3)))))))) : Tri G h 70 119 119 109 [some (vr 62), none, none, some (vi l3)] [] (I, J, PP b) Q := wp_at ck70 [(36, [true, true, true]), (109, [true, false, false, true])] 400 (cVN_go H (fun I1 J1 b1 q1984 => cVN_go q1984 (fun I2 J2 b2 q1985 => cVN_go q1985 (fun I3 J3 b3 q1986 => q1986))))
theorem x70_m {G : Ctx} {h : Nat} {Q : MP} {I : Nat → Nat → Int} {J : Nat → Nat → BitVec 64} {b : B3} {x : Int} (hh : 5 ≤ h) (H : ∀ h, 4 ≤ h → Tri G h 70 119 119 0 [some (vr 62), some (vi x)] [] (I, J, PP b) Q) : TriM G h 70 119 119 [vr 62, vi x] (I, J, PP b) Q := TriM_intro (h - 1) (by omega) (by decide) (Nat.le_of_ble_eq_true rfl) (Nat.le_refl _) (Nat.le_refl _) (H (h - 1) (by omega))
set_option maxRecDepth 100000 in
theorem x69 {G : Ctx} {h : Nat} {Q : MP} {I : Nat → Nat → Int} {J : Nat → Nat → BitVec 64} {b : B3} {x : Int} (hh : 0 ≤ h) (H : Tri G h 69 119 119 4 [some (vr 62), some (vi x), some (vi 1), some (vi 0)] [] (I, J, PP b) Q) : Tri G h 69 119 119 0 [some (vr 62), some (vi x)] [] (I, J, PP b) Q := wp_at ck69 [(4, [true, true, true, true]), (30, [true, true, false, true, true]), (81, [true, true, false, true]), (92, [true, true, false, true])] 400 H
set_option maxRecDepth 100000 in
theorem x69_4 {G : Ctx} {h : Nat} {Q : MP} {I : Nat → Nat → Int} {J : Nat → Nat → BitVec 64} {b : B3} {l1 l2 l3 : Int} (hh : 5 ≤ h) (H : ((400 ≤ l3) → (Q none (I, J, PP b))) ∧ (¬ (400 ≤ l3) → (((l2 = 0) → (Q none (I, J, PP b))) ∧ (¬ (l2 = 0) → (((¬ (I 62 0) = 0) → (Q none (I, J, PP b))) ∧ (¬ (¬ (I 62 0) = 0) → (TriM G h 70 119 119 [vr 62, vi l1] (I, J, PP b) (cVN fun I1 J1 b1 => (Tri G h 69 119 119 30 [some (vr 62), some (vi l1), none, some (vi l3), some (vi 0)] [] (I1, J1, PP b1) Q))))))))) : Tri G h 69 119 119 4 [some (vr 62), some (vi l1), some (vi l2), some (vi l3)] [] (I, J, PP b) Q := wp_at ck69 [(4, [true, true, true, true]), (30, [true, true, false, true, true]), (81, [true, true, false, true]), (92, [true, true, false, true])] 400 (And.intro (fun q1987 => H.1 q1987) (fun q1988 => And.intro (fun q1989 => (H.2 q1988).1 q1989) (fun q1990 => And.intro (fun q1991 => ((H.2 q1988).2 q1990).1 q1991) (fun q1992 => cVN_go (((H.2 q1988).2 q1990).2 q1992) (fun I1 J1 b1 q1993 => q1993)))))
set_option maxRecDepth 100000 in
theorem x69_30 {G : Ctx} {h : Nat} {Q : MP} {I : Nat → Nat → Int} {J : Nat → Nat → BitVec 64} {b : B3} {l1 l3 l4 : Int} (hh : 5 ≤ h) (H : ((400 ≤ l4) → (Tri G h 69 119 119 81 [some (vr 62), some (vi l1), none, some (vi l3)] [] (I, J, PP b) Q)) ∧ (¬ (400 ≤ l4) → (((¬ (I 62 0) = 0) → (Tri G h 69 119 119 81 [some (vr 62), some (vi l1), none, some (vi l3)] [] (I, J, PP b) Q)) ∧ (¬ (¬ (I 62 0) = 0) → (((¬ (kdV (I 62 9) (I 64)) = 4) → (Tri G h 69 119 119 81 [some (vr 62), some (vi l1), none, some (vi l3)] [] (I, J, PP b) Q)) ∧ (¬ (¬ (kdV (I 62 9) (I 64)) = 4) → (TriM G h 70 119 119 [vr 62, vi l1] (u2 I 62 9 (w32 ((I 62 9) + 1)), J, PP b) (cVN fun I1 J1 b1 => (TriM G h 78 119 119 [vr 62, vi 20004] (I1, J1, PP b1) (cVN fun I2 J2 b2 => (Tri G h 69 119 119 30 [some (vr 62), some (vi l1), none, some (vi l3), some (vi (w32 (l4 + 1)))] [] (I2, J2, PP b2) Q))))))))))) : Tri G h 69 119 119 30 [some (vr 62), some (vi l1), none, some (vi l3), some (vi l4)] [] (I, J, PP b) Q := wp_at ck69 [(4, [true, true, true, true]), (30, [true, true, false, true, true]), (81, [true, true, false, true]), (92, [true, true, false, true])] 400 (And.intro (fun q1994 => H.1 q1994) (fun q1995 => And.intro (fun q1996 => (H.2 q1995).1 q1996) (fun q1997 => sx74 (by omega)  (And.intro (fun q1998 => ((H.2 q1995).2 q1997).1 q1998) (fun q1999 => cVN_go (((H.2 q1995).2 q1997).2 q1999) (fun I1 J1 b1 q2000 => cVN_go q2000 (fun I2 J2 b2 q2001 => q2001)))))))
set_option maxRecDepth 100000 in
theorem x69_81 {G : Ctx} {h : Nat} {Q : MP} {I : Nat → Nat → Int} {J : Nat → Nat → BitVec 64} {b : B3} {l1 l3 : Int} (hh : 1 ≤ h) (H : ((l3 ≤ 0) → (Tri G h 69 119 119 92 [some (vr 62), some (vi l1), none, some (vi l3)] [] (I, J, PP b) Q)) ∧ (¬ (l3 ≤ 0) → (TriM G h 78 119 119 [vr 62, vi 20003] (I, J, PP b) (cVN fun I1 J1 b1 => (Tri G h 69 119 119 92 [some (vr 62), some (vi l1), none, some (vi l3)] [] (I1, J1, PP b1) Q))))) : Tri G h 69 119 119 81 [some (vr 62), some (vi l1), none, some (vi l3)] [] (I, J, PP b) Q := wp_at ck69 [(4, [true, true, true, true]), (30, [true, true, false, true, true]), (81, [true, true, false, true]), (92, [true, true, false, true])] 400 (And.intro (fun q2002 => H.1 q2002) (fun q2003 => cVN_go (H.2 q2003) (fun I1 J1 b1 q2004 => q2004)))
set_option maxRecDepth 100000 in
theorem x69_92 {G : Ctx} {h : Nat} {Q : MP} {I : Nat → Nat → Int} {J : Nat → Nat → BitVec 64} {b : B3} {l1 l3 : Int} (hh : 1 ≤ h) (H : ((¬ (kdV (I 62 9) (I 64)) = 3) → (Tri G h 69 119 119 4 [some (vr 62), some (vi l1), some (vi 0), some (vi (w32 (l3 + 1)))] [] (I, J, PP b) Q)) ∧ (¬ (¬ (kdV (I 62 9) (I 64)) = 3) → (((¬ (I 62 0) = 0) → (Tri G h 69 119 119 4 [some (vr 62), some (vi l1), some (vi 1), some (vi (w32 (l3 + 1)))] [] (I, J, PP b) Q)) ∧ (¬ (¬ (I 62 0) = 0) → (Tri G h 69 119 119 4 [some (vr 62), some (vi l1), some (vi 1), some (vi (w32 (l3 + 1)))] [] (u2 I 62 9 (w32 ((I 62 9) + 1)), J, PP b) Q))))) : Tri G h 69 119 119 92 [some (vr 62), some (vi l1), none, some (vi l3)] [] (I, J, PP b) Q := wp_at ck69 [(4, [true, true, true, true]), (30, [true, true, false, true, true]), (81, [true, true, false, true]), (92, [true, true, false, true])] 400 (sx74 (by omega)  (And.intro (fun q2005 => And.intro (fun _ => H.1 q2005) (fun z => absurd (show (0 : Int) = (0 : Int) by decide) z)) (fun q2006 => And.intro (fun z => absurd z (show ¬ ((1 : Int) = (0 : Int)) by decide)) (fun _ => H.2 q2006))))
theorem x69_m {G : Ctx} {h : Nat} {Q : MP} {I : Nat → Nat → Int} {J : Nat → Nat → BitVec 64} {b : B3} {x : Int} (hh : 6 ≤ h) (H : ∀ h, 5 ≤ h → Tri G h 69 119 119 0 [some (vr 62), some (vi x)] [] (I, J, PP b) Q) : TriM G h 69 119 119 [vr 62, vi x] (I, J, PP b) Q := TriM_intro (h - 1) (by omega) (by decide) (Nat.le_of_ble_eq_true rfl) (Nat.le_refl _) (Nat.le_refl _) (H (h - 1) (by omega))
set_option maxRecDepth 100000 in
theorem x68 {G : Ctx} {h : Nat} {Q : MP} {I : Nat → Nat → Int} {J : Nat → Nat → BitVec 64} {b : B3} (hh : 0 ≤ h) (H : Tri G h 68 119 119 27 [some (vr 62), some (vi 0)] [] (u2 (u2 (u2 (u2 (u2 I 62 9 0) 62 0 0) 62 1 (-1)) 62 3 0) 62 2 0, J, PP b) Q) : Tri G h 68 119 119 0 [some (vr 62)] [] (I, J, PP b) Q := wp_at ck68 [(27, [true, true])] 400 H
set_option maxRecDepth 100000 in
theorem x68_27 {G : Ctx} {h : Nat} {Q : MP} {I : Nat → Nat → Int} {J : Nat → Nat → BitVec 64} {b : B3} {l1 : Int} (hh : 2 ≤ h) (H : ((16 < l1) → (Q none (I, J, PP b))) ∧ (¬ (16 < l1) → (((¬ (I 62 0) = 0) → (Q none (I, J, PP b))) ∧ (¬ (¬ (I 62 0) = 0) → ((((kdV (I 62 9) (I 64)) = 21) → (Q none (I, J, PP b))) ∧ (¬ ((kdV (I 62 9) (I 64)) = 21) → ((((kdV (I 62 9) (I 64)) < 2) → (((¬ (I 62 2) = 16) → (TriM G h 76 119 119 [vr 62, vi 2] (u2 I 62 9 (w32 ((I 62 9) + 1)), J, PP b) (cVN fun I1 J1 b1 => (TriM G h 69 119 119 [vr 62, vi 0] (I1, J1, PP b1) (cVN fun I2 J2 b2 => (TriM G h 76 119 119 [vr 62, vi 59] (I2, J2, PP b2) (cVN fun I3 J3 b3 => (TriM G h 78 119 119 [vr 62, vi (w32 (30000 + (kdV (I 62 9) (I 64))))] (I3, J3, PP b3) (cVN fun I4 J4 b4 => (Tri G h 68 119 119 27 [some (vr 62), some (vi (w32 (l1 + 1)))] [] (u2 I4 62 2 (w32 ((I4 62 2) + 1)), J4, PP b4) Q)))))))))) ∧ (¬ (¬ (I 62 2) = 16) → (TriM G h 77 119 119 [vr 62, vi 3] (I, J, PP b) (cVN fun I5 J5 b5 => (Tri G h 68 119 119 27 [some (vr 62), some (vi (w32 (l1 + 1)))] [] (I5, J5, PP b5) Q)))))) ∧ (¬ ((kdV (I 62 9) (I 64)) < 2) → (TriM G h 77 119 119 [vr 62, vi 1] (I, J, PP b) (cVN fun I6 J6 b6 => (Tri G h 68 119 119 27 [some (vr 62), some (vi (w32 (l1 + 1)))] [] (I6, J6, PP b6) Q))))))))))) : Tri G h 68 119 119 27 [some (vr 62), some (vi l1)] [] (I, J, PP b) Q := wp_at ck68 [(27, [true, true])] 400 (And.intro (fun q2007 => H.1 q2007) (fun q2008 => And.intro (fun q2009 => (H.2 q2008).1 q2009) (fun q2010 => sx74 (by omega)  (And.intro (fun q2011 => ((H.2 q2008).2 q2010).1 q2011) (fun q2012 => sx74 (by omega)  (And.intro (fun q2013 => And.intro (fun q2015 => cVN_go (((((H.2 q2008).2 q2010).2 q2012).1 q2013).1 q2015) (fun I1 J1 b1 q2017 => cVN_go q2017 (fun I2 J2 b2 q2018 => cVN_go q2018 (fun I3 J3 b3 q2019 => cVN_go q2019 (fun I4 J4 b4 q2020 => q2020))))) (fun q2016 => cVN_go (((((H.2 q2008).2 q2010).2 q2012).1 q2013).2 q2016) (fun I5 J5 b5 q2021 => q2021))) (fun q2014 => cVN_go ((((H.2 q2008).2 q2010).2 q2012).2 q2014) (fun I6 J6 b6 q2022 => q2022))))))))
theorem x68_m {G : Ctx} {h : Nat} {Q : MP} {I : Nat → Nat → Int} {J : Nat → Nat → BitVec 64} {b : B3} (hh : 3 ≤ h) (H : ∀ h, 2 ≤ h → Tri G h 68 119 119 0 [some (vr 62)] [] (I, J, PP b) Q) : TriM G h 68 119 119 [vr 62] (I, J, PP b) Q := TriM_intro (h - 1) (by omega) (by decide) (Nat.le_of_ble_eq_true rfl) (Nat.le_refl _) (Nat.le_refl _) (H (h - 1) (by omega))
/-! the class's tokens, its state without a fault, and what a method leaves -/
def TX (home : Bool) (TS : List Tok) (I : MI) : Prop := (∀ (j : Nat) (t : Tok), TS[j]? = some t → I 64 j = t.1 ∧ I 65 j = t.2.1 ∧ (t.1 = 20 → I 66 j = t.2.2)) ∧ TS.length ≤ 401 ∧ ∀ a, a < TS.length → VT home (TS.drop a)
def CS (TS : List Tok) (I : MI) (a len : Nat) : Prop := I 62 0 = 0 ∧ I 62 9 = (a : Int) ∧ I 62 3 = (len : Int) ∧ len ≤ a ∧ a < TS.length
def XC (I I2 : MI) (len a2 : Nat) (ws : List Int) : Prop := frK [62, 63] I I2 ∧ I2 62 0 = 0 ∧ I2 62 9 = (a2 : Int) ∧ I2 62 3 = ((len + ws.length : Nat) : Int) ∧ hasAt (I2 63) len ws ∧ (∀ j, j < len → I2 63 j = I 63 j) ∧ I2 62 2 = I 62 2 ∧ I2 62 1 = I 62 1
def FC (I I2 : MI) (e : Int × Nat) : Prop := frK [62, 63] I I2 ∧ I2 62 0 = e.1 ∧ I2 62 1 = (e.2 : Int) ∧ e.1 ≠ 0
/-- under a fault only the place in the row moves -/
def FX (I I2 : MI) : Prop := frK [62] I I2 ∧ ∀ j, j ≠ 9 → I2 62 j = I 62 j
theorem FX.r {I : MI} : FX I I := ⟨frK.r, fun _ _ => rfl⟩
theorem FX.t {I I1 I2 : MI} (h1 : FX I I1) (h2 : FX I1 I2) : FX I I2 := ⟨h1.1.t h2.1, fun j hj => by rw [h2.2 j hj, h1.2 j hj]⟩
theorem FX.at {I : MI} {v : Int} : FX I (u2 I 62 9 v) := ⟨frK.r.u (by decide), fun j hj => u2j hj⟩
theorem FC.x {I I1 I2 : MI} {e : Int × Nat} (h1 : FC I I1 e) (h2 : FX I1 I2) : FC I I2 e := ⟨h1.1.t (h2.1.mo (by decide)), by rw [h2.2 0 (by decide)]; exact h1.2.1, by rw [h2.2 1 (by decide)]; exact h1.2.2.1, h1.2.2.2⟩
theorem FC.n {I I1 : MI} {e : Int × Nat} (h1 : FC I I1 e) : ¬ I1 62 0 = 0 := by rw [h1.2.1]; exact h1.2.2.2
theorem XC.t {I I1 I2 : MI} {len a1 a2 : Nat} {w1 w2 : List Int} (h1 : XC I I1 len a1 w1) (h2 : XC I1 I2 (len + w1.length) a2 w2) : XC I I2 len a2 (w1 ++ w2) := by
  obtain ⟨f1, b1, c1, d1, e1, g1, i1⟩ := h1
  obtain ⟨f2, b2, c2, d2, e2, g2, i2⟩ := h2
  refine ⟨f1.t f2, b2, c2, ?_, fun i x hx => ?_, fun j hj => ?_, by rw [i2.1, i1.1], by rw [i2.2, i1.2]⟩
  · rw [d2, List.length_append]
    omega
  · by_cases hi : i < w1.length
    · rw [List.getElem?_append_left hi] at hx
      rw [g2 _ (by omega)]
      exact e1 i x hx
    · rw [List.getElem?_append_right (by omega)] at hx
      have := e2 (i - w1.length) x hx
      rw [show len + w1.length + (i - w1.length) = len + i by omega] at this
      exact this
  · rw [g2 j (by omega), g1 j hj]
theorem XC.f {I I1 I2 : MI} {len a1 : Nat} {w1 : List Int} {e : Int × Nat} (h1 : XC I I1 len a1 w1) (h2 : FC I1 I2 e) : FC I I2 e := ⟨h1.1.t h2.1, h2.2⟩
theorem XC.at {I : MI} {len a : Nat} (h0 : I 62 0 = 0) (h9 : I 62 9 = (a : Int)) (h3 : I 62 3 = (len : Int)) (ha : a < 1000) : XC I (u2 I 62 9 (w32 (I 62 9 + 1))) len (a + 1) [] := by
  refine ⟨frK.r.u (by decide), ?_, ?_, ?_, fun i x hx => by simp at hx, fun j hj => by rw [u2_ne (by decide)], u2j (by decide), u2j (by decide)⟩
  · rw [u2j (by decide)]
    exact h0
  · rw [u2e, h9, w32_id (by omega) (by omega)]
    omega
  · rw [u2j (by decide), h3]
    rfl
theorem CS.x {TS : List Tok} {I I2 : MI} {a len a2 : Nat} {w : List Int} (hS : CS TS I a len) (hx : XC I I2 len a2 w) (h1 : a + w.length ≤ a2) (h2 : a2 < TS.length) : CS TS I2 a2 (len + w.length) := ⟨hx.2.1, hx.2.2.1, hx.2.2.2.1, by have := hS.2.2.2.1; omega, h2⟩
theorem TX.x {home : Bool} {TS : List Tok} {I I2 : MI} (hX : TX home TS I) (hf : frK [62, 63] I I2) : TX home TS I2 := ⟨fun j t ht => by rw [hf 64 (by decide), hf 65 (by decide), hf 66 (by decide)]; exact hX.1 j t ht, hX.2⟩
theorem CS.hd {home : Bool} {TS : List Tok} {I : MI} {a len : Nat} (hS : CS TS I a len) (hX : TX home TS I) : kdV (I 62 9) (I 64) = (hdT (TS.drop a)).1 ∧ I 65 a = ((hdT (TS.drop a)).2.1 : Int) ∧ ((hdT (TS.drop a)).1 = 20 → nuV (I 62 9) (I 66) = (hdT (TS.drop a)).2.2) ∧ (TS.drop a).tail = TS.drop (a + 1) ∧ ((hdT (TS.drop a)).1 ≠ 21 → a + 1 < TS.length) ∧ okT home (hdT (TS.drop a)) ∧ a < 401 := by
  obtain ⟨h0, h9, h3, hl, ha⟩ := hS
  obtain ⟨x1, x2, x3⟩ := hX
  have hv := x3 a ha
  have hd : TS.drop a = TS[a] :: TS.drop (a + 1) := List.drop_eq_getElem_cons ha
  have ht : hdT (TS.drop a) = TS[a] := by rw [hd]; rfl
  have hr := x1 a TS[a] (List.getElem?_eq_getElem ha)
  rw [ht]
  refine ⟨?_, hr.2.1, fun z => ?_, by rw [hd]; rfl, fun z => ?_, ?_, by omega⟩
  · unfold kdV
    rw [h9, if_pos (by omega), toN]
    exact hr.1
  · unfold nuV
    rw [h9, if_pos (by omega), toN]
    exact hr.2.2 z
  · rw [hd] at hv
    have := hv.2.2 z
    apply Decidable.byContradiction
    intro z2
    rw [List.drop_eq_nil_of_le (by omega)] at this
    exact this
  · have := hv.c.2.1
    rw [ht] at this
    exact this
theorem enc_nm {home : Bool} {k : Int} (ho : okK home k) (h1 : 6 ≤ k) (h2 : k < 20) : encs [(if home = true then k + 2 else k - 5, 0)] = [10000 + (k - 6)] := by
  rw [encs_1]
  unfold enc
  unfold okK at ho
  dsimp only
  cases home with
  | true =>
    simp only [reduceCtorEq, false_and, false_or, or_false, true_and] at ho
    rw [if_pos rfl, if_neg (by omega), if_neg (by omega), if_pos (by omega), show k + 2 - 8 = k - 6 by omega]
  | false =>
    simp only [reduceCtorEq, false_and, false_or, or_false, true_and] at ho
    rw [if_neg (show ¬ (false = true) by decide), if_neg (by omega), if_pos (by omega), show k - 5 - 1 = k - 6 by omega]
section PARSC
variable {G : Ctx} {h : Nat} {I : MI} {J : MJ} {b : B3} {home : Bool} {TS : List Tok} {a len : Nat}
theorem s78 {K : MI → MJ → B3 → Prop} {v : Int} (hh : 1 ≤ h) (h0 : I 62 0 = 0) (h9 : I 62 9 = (a : Int)) (h3 : I 62 3 = (len : Int)) (hl : len < 400) (k : ∀ I2, XC I I2 len a [v] → K I2 J b) : TriM G h 78 119 119 [vr 62, vi v] (I, J, PP b) (cVN K) := by
  refine x78_m hh (fun h hh => x78 hh ⟨fun q => absurd h0 q, fun _ => ⟨fun q => by omega, fun _ => ⟨by omega, cVN_r (k _ ⟨(frK.r.u (by decide)).u (by decide), ?_, ?_, ?_, fun i x hx => ?_, fun j hj => ?_, ?_, ?_⟩)⟩⟩⟩)
  · rw [u2j (by decide), u2_ne (by decide)]
    exact h0
  · rw [u2j (by decide), u2_ne (by decide)]
    exact h9
  · rw [u2e, h3, w32_id (by omega) (by omega)]
    simp
  · rw [u2_ne (by decide), h3, toN, u2_at]
    cases i with
    | zero =>
      simp only [List.getElem?_cons_zero, Option.some.injEq] at hx
      rw [Nat.add_zero, if_pos rfl]
      exact hx
    | succ i => simp at hx
  · rw [u2_ne (by decide), h3, toN, u2j (by omega)]
  · rw [u2j (by decide), u2_ne (by decide)]
  · rw [u2j (by decide), u2_ne (by decide)]
theorem f78 {K : MI → MJ → B3 → Prop} {v : Int} (hh : 1 ≤ h) (h0 : ¬ I 62 0 = 0) (k : K I J b) : TriM G h 78 119 119 [vr 62, vi v] (I, J, PP b) (cVN K) := x78_m hh (fun h hh => x78 hh ⟨fun _ => cVN_r k, fun q => absurd h0 q⟩)
theorem s77 {K : MI → MJ → B3 → Prop} {v : Int} (hh : 1 ≤ h) (hX : TX home TS I) (hS : CS TS I a len) (hv : v ≠ 0) (k : ∀ I2, FC I I2 (v, (hdT (TS.drop a)).2.1) → K I2 J b) : TriM G h 77 119 119 [vr 62, vi v] (I, J, PP b) (cVN K) := by
  obtain ⟨-, hp, -, -, -, -, ha⟩ := hS.hd hX
  have h9 := hS.2.1
  refine x77_m hh (fun h hh => x77 hh ⟨fun q => absurd hS.1 q, fun _ => ⟨fun q => by omega, fun _ => ⟨fun q => by omega, fun _ => ⟨by omega, cVN_r (k _ ⟨(frK.r.u (by decide)).u (by decide), ?_, ?_, hv⟩)⟩⟩⟩⟩)
  · rw [u2j (by decide), u2e]
  · rw [u2e, h9, toN]
    exact hp
theorem f77 {K : MI → MJ → B3 → Prop} {v : Int} (hh : 1 ≤ h) (h0 : ¬ I 62 0 = 0) (k : K I J b) : TriM G h 77 119 119 [vr 62, vi v] (I, J, PP b) (cVN K) := x77_m hh (fun h hh => x77 hh ⟨fun _ => cVN_r k, fun q => absurd h0 q⟩)
theorem s76 {K : MI → MJ → B3 → Prop} {x : Int} (hh : 2 ≤ h) (hX : TX home TS I) (hS : CS TS I a len) (k1 : (hdT (TS.drop a)).1 = x → ∀ I2, XC I I2 len (a + 1) [] → K I2 J b) (k0 : (hdT (TS.drop a)).1 ≠ x → ∀ I2, FC I I2 (1, (hdT (TS.drop a)).2.1) → K I2 J b) : TriM G h 76 119 119 [vr 62, vi x] (I, J, PP b) (cVN K) := by
  obtain ⟨hk, -, -, -, -, -, ha⟩ := hS.hd hX
  refine y76_m hh (fun h hh => y76 hh ?_)
  rw [hk]
  refine ⟨fun _ => ⟨fun q => s77 (by omega) hX hS (by decide) fun I2 hF => cVN_r (k0 q I2 hF), fun q => cVN_r (k1 (Decidable.of_not_not q) _ (XC.at hS.1 hS.2.1 hS.2.2.1 (by omega)))⟩, fun q => absurd hS.1 q⟩
theorem f76 {K : MI → MJ → B3 → Prop} {x : Int} (hh : 2 ≤ h) (h0 : ¬ I 62 0 = 0) (k : K I J b) : TriM G h 76 119 119 [vr 62, vi x] (I, J, PP b) (cVN K) := y76_m hh (fun h hh => y76 hh ⟨fun q => absurd q h0, fun _ => cVN_r k⟩)
theorem s73 {K : MI → MJ → B3 → Prop} (hh : 3 ≤ h) (hX : TX home TS I) (hS : CS TS I a len) (kF : ∀ e I2, unP home (TS.drop a) = Sum.inl e → FC I I2 e → K I2 J b) (kS : ∀ s r I2 a2, unP home (TS.drop a) = Sum.inr (s, r) → r = TS.drop a2 → a + (encs s).length ≤ a2 → a2 < TS.length → XC I I2 len a2 (encs s) → K I2 J b) : TriM G h 73 119 119 [vr 62] (I, J, PP b) (cVN K) := by
  obtain ⟨hk, hp, hn, ht, hl, ho, ha⟩ := hS.hd hX
  obtain ⟨s0, s9, s3, sl, sa⟩ := id hS
  have hlen := hX.2.1
  refine x73_m (by omega) (fun h hh => x73 (by omega) ?_)
  rw [hk]
  unfold unP at kF kS
  have fin : ∀ (v : Int) (s : List Stp1) (I3 : MI), encs s = [v] → (hdT (TS.drop a)).1 ≠ 21 → XC I I3 len a [v] → XC I (u2 I3 62 9 (w32 (I3 62 9 + 1))) len (a + 1) (encs s) := by
    intro v s I3 he _ hx
    rw [he]
    exact hx.t (XC.at hx.2.1 hx.2.2.1 hx.2.2.2.1 (by omega))
  refine ⟨fun q1 => ⟨fun q2 => s77 (by omega) hX hS (by decide) fun I2 hF => cVN_r (kF _ I2 (by rw [if_neg q1, if_neg (by omega)]; rfl) hF), fun q2 => ⟨fun q3 => s77 (by omega) hX hS (by decide) fun I2 hF => cVN_r (kF _ I2 (by rw [if_neg q1, if_neg (by omega)]; rfl) hF), fun q3 => ?_⟩⟩, fun q1 => ?_⟩
  · have hl2 := hl (by omega)
    have he := enc_nm ho.1 (by omega) (by omega)
    rw [w32_id (x := 10000 + (hdT (TS.drop a)).1) (by omega) (by omega), w32_id (by omega) (by omega), show 10000 + (hdT (TS.drop a)).1 - 6 = 10000 + ((hdT (TS.drop a)).1 - 6) by omega]
    refine s78 (by omega) s0 s9 s3 (by omega) fun I3 hx => cVN_r (kS _ _ _ (a + 1) (by rw [if_neg q1, if_pos (by omega)]) ht ?_ hl2 (fin _ _ I3 he (by omega) hx))
    rw [he]
    exact Nat.le_refl _
  · have q2 := Decidable.of_not_not q1
    have hl2 := hl (by omega)
    rw [hn q2]
    have he : encs [((0 : Int), (hdT (TS.drop a)).2.2)] = [(hdT (TS.drop a)).2.2] := by
      rw [encs_1]
      unfold enc
      rw [if_pos rfl]
    refine s78 (by omega) s0 s9 s3 (by omega) fun I3 hx => cVN_r (kS _ _ _ (a + 1) (by rw [if_pos q2]) ht ?_ hl2 (fin _ _ I3 he (by omega) hx))
    rw [he]
    exact Nat.le_refl _
theorem f73 {K : MI → MJ → B3 → Prop} (hh : 3 ≤ h) (h0 : ¬ I 62 0 = 0) (k : ∀ I2, FX I I2 → K I2 J b) : TriM G h 73 119 119 [vr 62] (I, J, PP b) (cVN K) := x73_m (by omega) (fun h hh => x73 (by omega) ⟨fun _ => ⟨fun _ => f77 (by omega) h0 (cVN_r (k I FX.r)), fun _ => ⟨fun _ => f77 (by omega) h0 (cVN_r (k I FX.r)), fun _ => f78 (by omega) h0 (cVN_r (k _ FX.at))⟩⟩, fun _ => f78 (by omega) h0 (cVN_r (k _ FX.at))⟩)
theorem s72_l {Q : MP} (hh : 3 ≤ h) : ∀ (g i a len : Nat) (I' : MI), g + i = 401 → i ≤ a → TX home TS I' → CS TS I' a len → (∀ e I2, prL home g (TS.drop a) = Sum.inl e → FC I' I2 e → Q none (I2, J, PP b)) → (∀ s r I2 a2, prL home g (TS.drop a) = Sum.inr (s, r) → r = TS.drop a2 → a + (encs s).length ≤ a2 → a2 < TS.length → XC I' I2 len a2 (encs s) → Q none (I2, J, PP b)) → Tri G h 72 119 119 6 [some (vr 62), some (vi (i : Int))] [] (I', J, PP b) Q := by
  intro g
  induction g with
  | zero =>
    intro i a len I' hg hi hX hS kF kS
    have := (hS.hd hX).2.2.2.2.2.2
    omega
  | succ g ih =>
    intro i a len I' hg hi hX hS kF kS
    obtain ⟨hk, hp, hn, ht, hl, ho, ha⟩ := hS.hd hX
    obtain ⟨s0, s9, s3, sl, sa⟩ := id hS
    have hlen := hX.2.1
    have ep : prL home (g + 1) (TS.drop a) = (if (hdT (TS.drop a)).1 = 42 then bnd (unP home (TS.drop (a + 1))) (fun s r => pre (s ++ [(15, 0)]) (prL home g r)) else if (hdT (TS.drop a)).1 = 47 then (if (hdT (TS.drop (a + 1))).1 ≠ 20 then badP 1 (TS.drop (a + 1)) else if (hdT (TS.drop (a + 1))).2.2 = 0 then badP 2 (TS.drop (a + 1)) else pre [(16, (hdT (TS.drop (a + 1))).2.2)] (prL home g (TS.drop (a + 1)).tail)) else Sum.inr ([], TS.drop a)) := by rw [← ht]; rfl
    rw [ep] at kF kS
    have stop : ¬ (hdT (TS.drop a)).1 = 42 → ¬ (hdT (TS.drop a)).1 = 47 → Q none (I', J, PP b) := fun n1 n2 => kS [] _ I' a (by rw [if_neg n1, if_neg n2]) rfl (Nat.le_refl _) sa ⟨frK.r, s0, s9, s3, fun i x hx => by simp [encs] at hx, fun _ _ => rfl, rfl, rfl⟩
    have flt : ∀ (I2 : MI) (e : Int × Nat) (l1 l2 : Int), FC I' I2 e → (Q none (I2, J, PP b)) → Tri G h 72 119 119 101 [some (vr 62), some (vi l1), some (vi l2)] [] (I2, J, PP b) Q := fun I2 e l1 l2 hF hQ => x72_101 (by omega) (f78 (by omega) hF.n (x72_6 (by omega) ⟨fun _ => hQ, fun _ => ⟨fun _ => hQ, fun q => absurd hF.n q⟩⟩))
    refine x72_6 (by omega) ?_
    rw [hk]
    by_cases h21 : (hdT (TS.drop a)).1 = 21
    · have st := stop (by omega) (by omega)
      exact ⟨fun _ => st, fun _ => ⟨fun _ => st, fun _ => ⟨fun q => by omega, fun _ => ⟨fun _ => st, fun q => by omega⟩⟩⟩⟩
    have hl2 := hl h21
    have hx1 := XC.at s0 s9 s3 (by omega)
    have hS1 : CS TS (u2 I' 62 9 (w32 (I' 62 9 + 1))) (a + 1) len := ⟨hx1.2.1, hx1.2.2.1, hx1.2.2.2.1, by omega, hl2⟩
    have hX1 := hX.x hx1.1
    have go : ∀ (c : Int) (k2 : (hdT (TS.drop a)).1 = c), (c = 42 ∨ c = 47) → Tri G h 72 119 119 53 [some (vr 62), some (vi (i : Int)), some (vi c)] [] (u2 I' 62 9 (w32 (I' 62 9 + 1)), J, PP b) Q := by
      intro c k2 hc
      obtain ⟨hk', hp', hn', ht', hl', ho', ha'⟩ := hS1.hd hX1
      have emit : ∀ (s1 : List Stp1) (I3 : MI) (a3 : Nat) (w : Int), XC (u2 I' 62 9 (w32 (I' 62 9 + 1))) I3 len a3 (encs s1) → a + 1 + (encs s1).length ≤ a3 → a3 < TS.length → w32 (20000 + c) = w → (∀ e, prL home g (TS.drop a3) = Sum.inl e → (if (hdT (TS.drop a)).1 = 42 then bnd (unP home (TS.drop (a + 1))) (fun s r => pre (s ++ [(15, 0)]) (prL home g r)) else if (hdT (TS.drop a)).1 = 47 then (if (hdT (TS.drop (a + 1))).1 ≠ 20 then badP 1 (TS.drop (a + 1)) else if (hdT (TS.drop (a + 1))).2.2 = 0 then badP 2 (TS.drop (a + 1)) else pre [(16, (hdT (TS.drop (a + 1))).2.2)] (prL home g (TS.drop (a + 1)).tail)) else Sum.inr ([], TS.drop a)) = Sum.inl e) → (∀ s' r, prL home g (TS.drop a3) = Sum.inr (s', r) → ∃ s2, (if (hdT (TS.drop a)).1 = 42 then bnd (unP home (TS.drop (a + 1))) (fun s r => pre (s ++ [(15, 0)]) (prL home g r)) else if (hdT (TS.drop a)).1 = 47 then (if (hdT (TS.drop (a + 1))).1 ≠ 20 then badP 1 (TS.drop (a + 1)) else if (hdT (TS.drop (a + 1))).2.2 = 0 then badP 2 (TS.drop (a + 1)) else pre [(16, (hdT (TS.drop (a + 1))).2.2)] (prL home g (TS.drop (a + 1)).tail)) else Sum.inr ([], TS.drop a)) = Sum.inr (s2, r) ∧ encs s2 = encs s1 ++ ([w] ++ encs s')) → Tri G h 72 119 119 101 [some (vr 62), some (vi (i : Int)), some (vi c)] [] (I3, J, PP b) Q := by
        intro s1 I3 a3 w hx3 h3 h3a hw kl kr
        refine x72_101 (by omega) ?_
        rw [hw, w32_id (x := (i : Int) + 1) (by omega) (by omega)]
        refine s78 (by omega) hx3.2.1 hx3.2.2.1 hx3.2.2.2.1 (by omega) fun I4 hx4 => ?_
        have hx14 := (hx1.t hx3).t hx4
        refine ih (i + 1) a3 (len + (encs s1).length + 1) I4 (by omega) (by omega) (hX.x hx14.1) ⟨hx4.2.1, hx4.2.2.1, hx4.2.2.2.1, by omega, h3a⟩ (fun e I2 he hF => kF e I2 (kl e he) (hx14.f hF)) (fun s' r I2 a2 he hr h4 h5 hx5 => ?_)
        obtain ⟨s2, hs2, hs3⟩ := kr s' r he
        refine kS s2 r I2 a2 hs2 hr ?_ h5 ?_
        · rw [hs3]
          simp only [List.length_append, List.length_cons, List.length_nil]
          omega
        · rw [hs3]
          have := hx3.t (hx4.t hx5)
          exact (hx1.t this)
      refine x72_53 (by omega) ?_
      rcases hc with rfl | rfl
      · rw [if_pos k2] at kF kS
        refine ⟨fun _ => ⟨fun _ => s73 (by omega) hX1 hS1 (fun e I2 he hF => flt I2 e _ _ (hx1.f hF) (kF e I2 (bnd_l he) (hx1.f hF))) (fun s r I2 a2 he hr h4 h5 hx5 => ?_), fun q => absurd (by decide) q⟩, fun q => absurd (by decide) q⟩
        refine emit s I2 a2 20042 hx5 h4 h5 (by decide +kernel) (fun e he2 => ?_) (fun s' r' he2 => ⟨(s ++ [(15, 0)]) ++ s', ?_, ?_⟩)
        · rw [if_pos k2, bnd_r he, hr]
          exact bnd_l he2
        · rw [if_pos k2, bnd_r he, hr]
          exact bnd_r he2
        · rw [encs_a, encs_a, encs_1, List.append_assoc]
          rfl
      · rw [if_neg (by omega), if_pos k2] at kF kS
        rw [hk']
        refine ⟨fun q => absurd rfl q, fun _ => ⟨fun q2 => ⟨fun q => absurd rfl q, fun _ => ⟨fun q3 => ?_, fun q3 => ?_⟩⟩, fun q2 => ?_⟩⟩
        · rw [hn' q2] at q3
          rw [if_neg (by omega), if_neg q3] at kF kS
          refine s73 (by omega) hX1 hS1 (fun e I2 he hF => ?_) (fun s r I2 a2 he hr h4 h5 hx5 => ?_)
          · unfold unP at he
            rw [if_pos q2] at he
            exact nlr he.symm
          · unfold unP at he
            rw [if_pos q2] at he
            have he2 := Sum.inr.inj he
            have e1 := congrArg Prod.fst he2
            have e2 := congrArg Prod.snd he2
            dsimp only at e1 e2
            refine emit s I2 a2 20047 hx5 h4 h5 (by decide +kernel) (fun e he3 => ?_) (fun s' r' he3 => ⟨[(16, (hdT (TS.drop (a + 1))).2.2)] ++ s', ?_, ?_⟩)
            · rw [if_neg (by omega), if_pos k2, if_neg (by omega), if_neg q3, e2, hr]
              exact bnd_l he3
            · rw [if_neg (by omega), if_pos k2, if_neg (by omega), if_neg q3, e2, hr]
              exact bnd_r he3
            · rw [encs_a, encs_1, ← e1, encs_1]
              rfl
        · rw [hn' q2] at q3
          rw [if_neg (by omega), if_pos (Decidable.of_not_not q3)] at kF
          exact s77 (by omega) hX1 hS1 (by decide) fun I2 hF => flt I2 _ _ _ (hx1.f hF) (kF _ I2 rfl (hx1.f hF))
        · rw [if_pos q2] at kF
          exact s77 (by omega) hX1 hS1 (by decide) fun I2 hF => flt I2 _ _ _ (hx1.f hF) (kF _ I2 rfl (hx1.f hF))
    have go38 : (hdT (TS.drop a)).1 = 42 ∨ (hdT (TS.drop a)).1 = 47 → Tri G h 72 119 119 38 [some (vr 62), some (vi (i : Int))] [] (I', J, PP b) Q := by
      intro hc
      refine x72_38 (by omega) ?_
      rw [hk]
      exact go _ rfl hc
    exact ⟨fun q => by omega, fun _ => ⟨fun q => absurd s0 q, fun _ => ⟨fun q => go38 (Or.inl q), fun q => ⟨fun q2 => stop q q2, fun q2 => go38 (Or.inr (Decidable.of_not_not q2))⟩⟩⟩⟩

theorem s72 {K : MI → MJ → B3 → Prop} (hh : 4 ≤ h) (hX : TX home TS I) (hS : CS TS I a len) (kF : ∀ e I2, prP home (TS.drop a) = Sum.inl e → FC I I2 e → K I2 J b) (kS : ∀ s r I2 a2, prP home (TS.drop a) = Sum.inr (s, r) → r = TS.drop a2 → a + (encs s).length ≤ a2 → a2 < TS.length → XC I I2 len a2 (encs s) → K I2 J b) : TriM G h 72 119 119 [vr 62] (I, J, PP b) (cVN K) := by
  refine TriM_intro (h - 1) (by omega) (by decide) (Nat.le_of_ble_eq_true rfl) (Nat.le_refl _) (Nat.le_refl _) (x72 (by omega) (s73 (by omega) hX hS (fun e I2 he hF => ?_) (fun s r I2 a2 he hr h4 h5 hx => ?_)))
  · have hQ : cVN K none (I2, J, PP b) := cVN_r (kF e I2 (bnd_l he) hF)
    exact x72_6 (by omega) ⟨fun _ => hQ, fun _ => ⟨fun _ => hQ, fun q => absurd hF.n q⟩⟩
  · refine s72_l (by omega) 401 0 a2 (len + (encs s).length) I2 (by omega) (by omega) (hX.x hx.1) (hS.x hx h4 h5) (fun e I3 he2 hF => cVN_r (kF e I3 ?_ (hx.f hF))) (fun s' r' I3 a3 he2 hr2 h6 h7 hx2 => cVN_r (kS (s ++ s') r' I3 a3 ?_ hr2 ?_ h7 ?_))
    · unfold prP
      rw [bnd_r he, hr]
      exact bnd_l he2
    · unfold prP
      rw [bnd_r he, hr]
      exact bnd_r he2
    · rw [encs_a, List.length_append]
      omega
    · rw [encs_a]
      exact hx.t hx2
theorem f72 {K : MI → MJ → B3 → Prop} (hh : 4 ≤ h) (h0 : ¬ I 62 0 = 0) (k : ∀ I2, FX I I2 → K I2 J b) : TriM G h 72 119 119 [vr 62] (I, J, PP b) (cVN K) := by
  refine TriM_intro (h - 1) (by omega) (by decide) (Nat.le_of_ble_eq_true rfl) (Nat.le_refl _) (Nat.le_refl _) (x72 (by omega) (f73 (by omega) h0 (fun I2 hF => ?_)))
  have hQ : cVN K none (I2, J, PP b) := cVN_r (k I2 hF)
  exact x72_6 (by omega) ⟨fun _ => hQ, fun _ => ⟨fun _ => hQ, fun q => absurd (by rw [hF.2 0 (by decide)]; exact h0) q⟩⟩
theorem s71_l {Q : MP} (hh : 4 ≤ h) : ∀ (g i a len : Nat) (I' : MI), g + i = 401 → i ≤ a → TX home TS I' → CS TS I' a len → (∀ e I2, suL home g (TS.drop a) = Sum.inl e → FC I' I2 e → Q none (I2, J, PP b)) → (∀ s r I2 a2, suL home g (TS.drop a) = Sum.inr (s, r) → r = TS.drop a2 → a + (encs s).length ≤ a2 → a2 < TS.length → XC I' I2 len a2 (encs s) → Q none (I2, J, PP b)) → Tri G h 71 119 119 6 [some (vr 62), some (vi (i : Int))] [] (I', J, PP b) Q := by
  intro g
  induction g with
  | zero =>
    intro i a len I' hg hi hX hS kF kS
    have := (hS.hd hX).2.2.2.2.2.2
    omega
  | succ g ih =>
    intro i a len I' hg hi hX hS kF kS
    obtain ⟨hk, hp, hn, ht, hl, ho, ha⟩ := hS.hd hX
    obtain ⟨s0, s9, s3, sl, sa⟩ := id hS
    have hlen := hX.2.1
    have ep : suL home (g + 1) (TS.drop a) = (if (hdT (TS.drop a)).1 = 43 ∨ (hdT (TS.drop a)).1 = 45 then bnd (prP home (TS.drop (a + 1))) (fun s r => pre (s ++ [(if (hdT (TS.drop a)).1 = 43 then 13 else 14, 0)]) (suL home g r)) else Sum.inr ([], TS.drop a)) := by rw [← ht]; rfl
    rw [ep] at kF kS
    have stop : ¬ (hdT (TS.drop a)).1 = 43 → ¬ (hdT (TS.drop a)).1 = 45 → Q none (I', J, PP b) := fun n1 n2 => kS [] _ I' a (by rw [if_neg (by omega)]) rfl (Nat.le_refl _) sa ⟨frK.r, s0, s9, s3, fun i x hx => by simp [encs] at hx, fun _ _ => rfl, rfl, rfl⟩
    have flt : ∀ (I2 : MI) (e : Int × Nat) (l1 : Int) (v : Int), FC I' I2 e → (Q none (I2, J, PP b)) → TriM G h 78 119 119 [vr 62, vi v] (I2, J, PP b) (cVN fun I2 J2 b2 => Tri G h 71 119 119 6 [some (vr 62), some (vi l1)] [] (I2, J2, PP b2) Q) := fun I2 e l1 v hF hQ => f78 (by omega) hF.n (x71_6 (by omega) ⟨fun _ => hQ, fun _ => ⟨fun _ => hQ, fun q => absurd hF.n q⟩⟩)
    refine x71_6 (by omega) ?_
    rw [hk]
    by_cases h21 : (hdT (TS.drop a)).1 = 21
    · have st := stop (by omega) (by omega)
      exact ⟨fun _ => st, fun _ => ⟨fun _ => st, fun _ => ⟨fun q => by omega, fun _ => ⟨fun _ => st, fun q => by omega⟩⟩⟩⟩
    have hl2 := hl h21
    have hx1 := XC.at s0 s9 s3 (by omega)
    have hS1 : CS TS (u2 I' 62 9 (w32 (I' 62 9 + 1))) (a + 1) len := ⟨hx1.2.1, hx1.2.2.1, hx1.2.2.2.1, by omega, hl2⟩
    have hX1 := hX.x hx1.1
    have go : (hdT (TS.drop a)).1 = 43 ∨ (hdT (TS.drop a)).1 = 45 → TriM G h 72 119 119 [vr 62] (u2 I' 62 9 (w32 ((I' 62 9) + 1)), J, PP b) (cVN fun I1 J1 b1 => TriM G h 78 119 119 [vr 62, vi (w32 (20000 + (hdT (TS.drop a)).1))] (I1, J1, PP b1) (cVN fun I2 J2 b2 => Tri G h 71 119 119 6 [some (vr 62), some (vi (w32 ((i : Int) + 1)))] [] (I2, J2, PP b2) Q)) := by
      intro hc
      rw [if_pos hc] at kF kS
      rw [w32_id (x := 20000 + (hdT (TS.drop a)).1) (by omega) (by omega)]
      have he0 : enc (if (hdT (TS.drop a)).1 = 43 then 13 else 14, 0) = [20000 + (hdT (TS.drop a)).1] := by
        rcases hc with hc | hc
        · rw [if_pos hc, hc]
          rfl
        · rw [if_neg (by omega), hc]
          rfl
      refine s72 (by omega) hX1 hS1 (fun e I2 he hF => flt I2 e _ _ (hx1.f hF) (kF e I2 (bnd_l he) (hx1.f hF))) (fun s r I2 a2 he hr h4 h5 hx3 => ?_)
      rw [w32_id (x := (i : Int) + 1) (by omega) (by omega)]
      refine s78 (by omega) hx3.2.1 hx3.2.2.1 hx3.2.2.2.1 (by omega) fun I4 hx4 => ?_
      have hx14 := (hx1.t hx3).t hx4
      refine ih (i + 1) a2 (len + (encs s).length + 1) I4 (by omega) (by omega) (hX.x hx14.1) ⟨hx4.2.1, hx4.2.2.1, hx4.2.2.2.1, by omega, h5⟩ (fun e I5 he2 hF => kF e I5 ?_ (hx14.f hF)) (fun s' r' I5 a5 he2 hr2 h6 h7 hx5 => kS ((s ++ [(if (hdT (TS.drop a)).1 = 43 then 13 else 14, 0)]) ++ s') r' I5 a5 ?_ hr2 ?_ h7 ?_)
      · rw [bnd_r he, hr]
        exact bnd_l he2
      · rw [bnd_r he, hr]
        exact bnd_r he2
      · rw [encs_a, encs_a, encs_1, he0]
        simp only [List.length_append, List.length_cons, List.length_nil]
        omega
      · rw [encs_a, encs_a, encs_1, he0, List.append_assoc]
        exact hx1.t (hx3.t (hx4.t hx5))
    exact ⟨fun q => by omega, fun _ => ⟨fun q => absurd s0 q, fun _ => ⟨fun q => go (Or.inl q), fun q => ⟨fun q2 => stop q q2, fun q2 => go (Or.inr (Decidable.of_not_not q2))⟩⟩⟩⟩
theorem s71 {K : MI → MJ → B3 → Prop} (hh : 5 ≤ h) (hX : TX home TS I) (hS : CS TS I a len) (kF : ∀ e I2, suP home (TS.drop a) = Sum.inl e → FC I I2 e → K I2 J b) (kS : ∀ s r I2 a2, suP home (TS.drop a) = Sum.inr (s, r) → r = TS.drop a2 → a + (encs s).length ≤ a2 → a2 < TS.length → XC I I2 len a2 (encs s) → K I2 J b) : TriM G h 71 119 119 [vr 62] (I, J, PP b) (cVN K) := by
  refine TriM_intro (h - 1) (by omega) (by decide) (Nat.le_of_ble_eq_true rfl) (Nat.le_refl _) (Nat.le_refl _) (x71 (by omega) (s72 (by omega) hX hS (fun e I2 he hF => ?_) (fun s r I2 a2 he hr h4 h5 hx => ?_)))
  · have hQ : cVN K none (I2, J, PP b) := cVN_r (kF e I2 (bnd_l he) hF)
    exact x71_6 (by omega) ⟨fun _ => hQ, fun _ => ⟨fun _ => hQ, fun q => absurd hF.n q⟩⟩
  · refine s71_l (by omega) 401 0 a2 (len + (encs s).length) I2 (by omega) (by omega) (hX.x hx.1) (hS.x hx h4 h5) (fun e I3 he2 hF => cVN_r (kF e I3 ?_ (hx.f hF))) (fun s' r' I3 a3 he2 hr2 h6 h7 hx2 => cVN_r (kS (s ++ s') r' I3 a3 ?_ hr2 ?_ h7 ?_))
    · unfold suP
      rw [bnd_r he, hr]
      exact bnd_l he2
    · unfold suP
      rw [bnd_r he, hr]
      exact bnd_r he2
    · rw [encs_a, List.length_append]
      omega
    · rw [encs_a]
      exact hx.t hx2
theorem f71 {K : MI → MJ → B3 → Prop} (hh : 5 ≤ h) (h0 : ¬ I 62 0 = 0) (k : ∀ I2, FX I I2 → K I2 J b) : TriM G h 71 119 119 [vr 62] (I, J, PP b) (cVN K) := by
  refine TriM_intro (h - 1) (by omega) (by decide) (Nat.le_of_ble_eq_true rfl) (Nat.le_refl _) (Nat.le_refl _) (x71 (by omega) (f72 (by omega) h0 (fun I2 hF => ?_)))
  have hQ : cVN K none (I2, J, PP b) := cVN_r (k I2 hF)
  exact x71_6 (by omega) ⟨fun _ => hQ, fun _ => ⟨fun _ => hQ, fun q => absurd (by rw [hF.2 0 (by decide)]; exact h0) q⟩⟩
/-! conditions -/
def ONE (G : Ctx) (home : Bool) (TS : List Tok) (d h : Nat) (x : Int) : Prop := ∀ (I : MI) (J : MJ) (b : B3) (a len : Nat) (K : MI → MJ → B3 → Prop), TX home TS I → CS TS I a len → (∀ e I2, onP home d (TS.drop a) = Sum.inl e → FC I I2 e → K I2 J b) → (∀ s r I2 a2, onP home d (TS.drop a) = Sum.inr (s, r) → r = TS.drop a2 → a + (encs s).length ≤ a2 → a2 < TS.length → XC I I2 len a2 (encs s) → K I2 J b) → TriM G h 70 119 119 [vr 62, vi x] (I, J, PP b) (cVN K)
theorem f69_4 {Q : MP} {x l2 l3 : Int} (hh : 5 ≤ h) (h0 : ¬ I 62 0 = 0) (k : Q none (I, J, PP b)) : Tri G h 69 119 119 4 [some (vr 62), some (vi x), some (vi l2), some (vi l3)] [] (I, J, PP b) Q := x69_4 hh ⟨fun _ => k, fun _ => ⟨fun _ => k, fun _ => ⟨fun _ => k, fun q => absurd h0 q⟩⟩⟩
theorem f69_92 {Q : MP} {x l3 : Int} (hh : 5 ≤ h) (h0 : ¬ I 62 0 = 0) (k : Q none (I, J, PP b)) : Tri G h 69 119 119 92 [some (vr 62), some (vi x), none, some (vi l3)] [] (I, J, PP b) Q := x69_92 (by omega) ⟨fun _ => f69_4 hh h0 k, fun _ => ⟨fun _ => f69_4 hh h0 k, fun q => absurd h0 q⟩⟩
theorem f69_81 {Q : MP} {x l3 : Int} (hh : 5 ≤ h) (h0 : ¬ I 62 0 = 0) (k : Q none (I, J, PP b)) : Tri G h 69 119 119 81 [some (vr 62), some (vi x), none, some (vi l3)] [] (I, J, PP b) Q := x69_81 (by omega) ⟨fun _ => f69_92 hh h0 k, fun _ => f78 (by omega) h0 (f69_92 hh h0 k)⟩
theorem f69_30 {Q : MP} {x l3 l4 : Int} (hh : 5 ≤ h) (h0 : ¬ I 62 0 = 0) (k : Q none (I, J, PP b)) : Tri G h 69 119 119 30 [some (vr 62), some (vi x), none, some (vi l3), some (vi l4)] [] (I, J, PP b) Q := x69_30 hh ⟨fun _ => f69_81 hh h0 k, fun _ => ⟨fun _ => f69_81 hh h0 k, fun q => absurd h0 q⟩⟩
theorem f69 {K : MI → MJ → B3 → Prop} {x : Int} (hh : 6 ≤ h) (h0 : ¬ I 62 0 = 0) (k : K I J b) : TriM G h 69 119 119 [vr 62, vi x] (I, J, PP b) (cVN K) := TriM_intro (h - 1) (by omega) (by decide) (Nat.le_of_ble_eq_true rfl) (Nat.le_refl _) (Nat.le_refl _) (x69 (Nat.zero_le _) (f69_4 (by omega) h0 (cVN_r k)))
theorem s69_30 {Q : MP} {d : Nat} {x l3 : Int} (hh : 5 ≤ h) (h1 : ONE G home TS d h x) : ∀ (g i a len : Nat) (I' : MI), g + i = 401 → i ≤ a → TX home TS I' → CS TS I' a len → (∀ e I2, anL (onP home d) g (TS.drop a) = Sum.inl e → FC I' I2 e → Q none (I2, J, PP b)) → (∀ s r I2 a2, anL (onP home d) g (TS.drop a) = Sum.inr (s, r) → r = TS.drop a2 → a + (encs s).length ≤ a2 → a2 < TS.length → XC I' I2 len a2 (encs s) → Tri G h 69 119 119 81 [some (vr 62), some (vi x), none, some (vi l3)] [] (I2, J, PP b) Q) → Tri G h 69 119 119 30 [some (vr 62), some (vi x), none, some (vi l3), some (vi (i : Int))] [] (I', J, PP b) Q := by
  intro g
  induction g with
  | zero =>
    intro i a len I' hg hi hX hS kF kS
    have := (hS.hd hX).2.2.2.2.2.2
    omega
  | succ g ih =>
    intro i a len I' hg hi hX hS kF kS
    obtain ⟨hk, hp, hn, ht, hl, ho, ha⟩ := hS.hd hX
    obtain ⟨s0, s9, s3, sl, sa⟩ := id hS
    have hlen := hX.2.1
    have ep : anL (onP home d) (g + 1) (TS.drop a) = (if (hdT (TS.drop a)).1 = 4 then bnd (onP home d (TS.drop (a + 1))) (fun s r => pre (s ++ [(21, 0)]) (anL (onP home d) g r)) else Sum.inr ([], TS.drop a)) := by rw [← ht]; rfl
    rw [ep] at kF kS
    have stop : ¬ (hdT (TS.drop a)).1 = 4 → Tri G h 69 119 119 81 [some (vr 62), some (vi x), none, some (vi l3)] [] (I', J, PP b) Q := fun n1 => kS [] _ I' a (by rw [if_neg n1]) rfl (Nat.le_refl _) sa ⟨frK.r, s0, s9, s3, fun i x hx => by simp [encs] at hx, fun _ _ => rfl, rfl, rfl⟩
    refine x69_30 hh ?_
    rw [hk]
    by_cases h21 : (hdT (TS.drop a)).1 = 21
    · have st := stop (by omega)
      exact ⟨fun _ => st, fun _ => ⟨fun _ => st, fun _ => ⟨fun _ => st, fun q => by omega⟩⟩⟩
    have hl2 := hl h21
    have hx1 := XC.at s0 s9 s3 (by omega)
    have hS1 : CS TS (u2 I' 62 9 (w32 (I' 62 9 + 1))) (a + 1) len := ⟨hx1.2.1, hx1.2.2.1, hx1.2.2.2.1, by omega, hl2⟩
    have hX1 := hX.x hx1.1
    refine ⟨fun q => by omega, fun _ => ⟨fun q => absurd s0 q, fun _ => ⟨fun q => stop q, fun q => ?_⟩⟩⟩
    have hc := Decidable.of_not_not q
    rw [if_pos hc] at kF kS
    refine h1 _ _ _ (a + 1) len _ hX1 hS1 (fun e I2 he hF => f78 (by omega) hF.n (f69_30 hh hF.n (kF e I2 (bnd_l he) (hx1.f hF)))) (fun s r I2 a2 he hr h4 h5 hx3 => ?_)
    rw [w32_id (x := (i : Int) + 1) (by omega) (by omega)]
    refine s78 (by omega) hx3.2.1 hx3.2.2.1 hx3.2.2.2.1 (by omega) fun I4 hx4 => ?_
    have hx14 := (hx1.t hx3).t hx4
    refine ih (i + 1) a2 (len + (encs s).length + 1) I4 (by omega) (by omega) (hX.x hx14.1) ⟨hx4.2.1, hx4.2.2.1, hx4.2.2.2.1, by omega, h5⟩ (fun e I5 he2 hF => kF e I5 ?_ (hx14.f hF)) (fun s' r' I5 a5 he2 hr2 h6 h7 hx5 => kS ((s ++ [(21, 0)]) ++ s') r' I5 a5 ?_ hr2 ?_ h7 ?_)
    · rw [bnd_r he, hr]
      exact bnd_l he2
    · rw [bnd_r he, hr]
      exact bnd_r he2
    · rw [encs_a, encs_a, encs_1, show enc (21, 0) = [20004] from rfl]
      simp only [List.length_append, List.length_cons, List.length_nil]
      omega
    · rw [encs_a, encs_a, encs_1, List.append_assoc]
      exact hx1.t (hx3.t (hx4.t hx5))
theorem s69_4 {Q : MP} {d : Nat} {x : Int} {i a len : Nat} {I' : MI} (hh : 5 ≤ h) (h1 : ONE G home TS d h x) (hi : i < 400) (hX : TX home TS I') (hS : CS TS I' a len) (kF : ∀ e I2, evP (onP home d) (TS.drop a) = Sum.inl e → FC I' I2 e → Q none (I2, J, PP b)) (kS : ∀ s r I2 a2, evP (onP home d) (TS.drop a) = Sum.inr (s, r) → r = TS.drop a2 → a + (encs s).length ≤ a2 → a2 < TS.length → XC I' I2 len a2 (encs s) → Tri G h 69 119 119 81 [some (vr 62), some (vi x), none, some (vi (i : Int))] [] (I2, J, PP b) Q) : Tri G h 69 119 119 4 [some (vr 62), some (vi x), some (vi 1), some (vi (i : Int))] [] (I', J, PP b) Q := by
  refine x69_4 hh ⟨fun q => by omega, fun _ => ⟨fun q => absurd q (by decide), fun _ => ⟨fun q => absurd hS.1 q, fun _ => h1 _ _ _ a len _ hX hS (fun e I2 he hF => f69_30 hh hF.n (kF e I2 (bnd_l he) hF)) (fun s r I2 a2 he hr h4 h5 hx => ?_)⟩⟩⟩
  refine s69_30 hh h1 401 0 a2 (len + (encs s).length) I2 (by omega) (by omega) (hX.x hx.1) (hS.x hx h4 h5) (fun e I3 he2 hF => kF e I3 ?_ (hx.f hF)) (fun s' r' I3 a3 he2 hr2 h6 h7 hx2 => kS (s ++ s') r' I3 a3 ?_ hr2 ?_ h7 ?_)
  · unfold evP
    rw [bnd_r he, hr]
    exact bnd_l he2
  · unfold evP
    rw [bnd_r he, hr]
    exact bnd_r he2
  · rw [encs_a, List.length_append]
    omega
  · rw [encs_a]
    exact hx.t hx2
theorem enc_pos (q : Stp1) : 1 ≤ (enc q).length := by
  unfold enc
  (repeat' split) <;> simp
theorem ev_pos {d : Nat} {ts : List Tok} {s : List Stp1} {r : List Tok} (hv : VT home ts) (hd : d ≤ 8) (he : evP (onP home d) ts = Sum.inr (s, r)) : 1 ≤ (encs s).length := by
  have := (evP_g (onP_g d) hv s r he).2.2.2 [] (by simp; omega)
  cases s with
  | nil => exact absurd this (by simp [tyR])
  | cons q s =>
    show 1 ≤ (enc q ++ encs s).length
    have := enc_pos q
    rw [List.length_append]
    omega
theorem s69_92 {Q : MP} {d : Nat} {x : Int} (hh : 5 ≤ h) (hd : d ≤ 8) (h1 : ONE G home TS d h x) : ∀ (g i a len : Nat) (I' : MI), g + i = 401 → i + 1 ≤ a → TX home TS I' → CS TS I' a len → (∀ e I2, orL (onP home d) g (TS.drop a) = Sum.inl e → FC I' I2 e → Q none (I2, J, PP b)) → (∀ s r I2 a2, orL (onP home d) g (TS.drop a) = Sum.inr (s, r) → r = TS.drop a2 → a + (encs s).length ≤ a2 → a2 < TS.length → XC I' I2 len a2 (encs s) → Q none (I2, J, PP b)) → Tri G h 69 119 119 92 [some (vr 62), some (vi x), none, some (vi (i : Int))] [] (I', J, PP b) Q := by
  intro g
  induction g with
  | zero =>
    intro i a len I' hg hi hX hS kF kS
    have := (hS.hd hX).2.2.2.2.2.2
    omega
  | succ g ih =>
    intro i a len I' hg hi hX hS kF kS
    obtain ⟨hk, hp, hn, ht, hl, ho, ha⟩ := hS.hd hX
    obtain ⟨s0, s9, s3, sl, sa⟩ := id hS
    have hlen := hX.2.1
    have ep : orL (onP home d) (g + 1) (TS.drop a) = (if (hdT (TS.drop a)).1 = 3 then bnd (evP (onP home d) (TS.drop (a + 1))) (fun s r => pre (s ++ [(22, 0)]) (orL (onP home d) g r)) else Sum.inr ([], TS.drop a)) := by rw [← ht]; rfl
    rw [ep] at kF kS
    refine x69_92 (by omega) ?_
    rw [hk]
    refine ⟨fun q => ?_, fun q => ⟨fun q2 => absurd s0 q2, fun _ => ?_⟩⟩
    · have st : Q none (I', J, PP b) := kS [] _ I' a (by rw [if_neg q]) rfl (Nat.le_refl _) sa ⟨frK.r, s0, s9, s3, fun i x hx => by simp [encs] at hx, fun _ _ => rfl, rfl, rfl⟩
      exact x69_4 hh ⟨fun _ => st, fun _ => ⟨fun _ => st, fun q => absurd rfl q⟩⟩
    · have hc := Decidable.of_not_not q
      have hl2 := hl (by omega)
      rw [if_pos hc] at kF kS
      have hx1 := XC.at s0 s9 s3 (by omega)
      have hS1 : CS TS (u2 I' 62 9 (w32 (I' 62 9 + 1))) (a + 1) len := ⟨hx1.2.1, hx1.2.2.1, hx1.2.2.2.1, by omega, hl2⟩
      have hX1 := hX.x hx1.1
      rw [w32_id (x := (i : Int) + 1) (by omega) (by omega)]
      refine s69_4 (i := i + 1) hh h1 (by omega) hX1 hS1 (fun e I2 he hF => kF e I2 (bnd_l he) (hx1.f hF)) (fun s r I2 a2 he hr h4 h5 hx3 => ?_)
      have hpos := ev_pos (hX.2.2 (a + 1) hl2) hd he
      refine x69_81 (by omega) ⟨fun q => by omega, fun _ => s78 (by omega) hx3.2.1 hx3.2.2.1 hx3.2.2.2.1 (by omega) fun I4 hx4 => ?_⟩
      have hx14 := (hx1.t hx3).t hx4
      refine ih (i + 1) a2 (len + (encs s).length + 1) I4 (by omega) (by omega) (hX.x hx14.1) ⟨hx4.2.1, hx4.2.2.1, hx4.2.2.2.1, by omega, h5⟩ (fun e I5 he2 hF => kF e I5 ?_ (hx14.f hF)) (fun s' r' I5 a5 he2 hr2 h6 h7 hx5 => kS ((s ++ [(22, 0)]) ++ s') r' I5 a5 ?_ hr2 ?_ h7 ?_)
      · rw [bnd_r he, hr]
        exact bnd_l he2
      · rw [bnd_r he, hr]
        exact bnd_r he2
      · rw [encs_a, encs_a, encs_1, show enc (22, 0) = [20003] from rfl]
        simp only [List.length_append, List.length_cons, List.length_nil]
        omega
      · rw [encs_a, encs_a, encs_1, List.append_assoc]
        exact hx1.t (hx3.t (hx4.t hx5))
theorem s69 {K : MI → MJ → B3 → Prop} {d : Nat} {x : Int} (hh : 6 ≤ h) (hd : d ≤ 8) (h1 : ONE G home TS d (h - 1) x) (hX : TX home TS I) (hS : CS TS I a len) (kF : ∀ e I2, anyP (onP home d) (TS.drop a) = Sum.inl e → FC I I2 e → K I2 J b) (kS : ∀ s r I2 a2, anyP (onP home d) (TS.drop a) = Sum.inr (s, r) → r = TS.drop a2 → a + (encs s).length ≤ a2 → a2 < TS.length → XC I I2 len a2 (encs s) → K I2 J b) : TriM G h 69 119 119 [vr 62, vi x] (I, J, PP b) (cVN K) := by
  refine TriM_intro (h - 1) (by omega) (by decide) (Nat.le_of_ble_eq_true rfl) (Nat.le_refl _) (Nat.le_refl _) (x69 (Nat.zero_le _) (s69_4 (i := 0) (by omega) h1 (by omega) hX hS (fun e I2 he hF => cVN_r (kF e I2 (bnd_l he) hF)) (fun s r I2 a2 he hr h4 h5 hx => ?_)))
  have hpos := ev_pos (hX.2.2 a hS.2.2.2.2) hd he
  refine x69_81 (by omega) ⟨fun _ => ?_, fun q => absurd (by decide) q⟩
  refine s69_92 (by omega) hd h1 401 0 a2 (len + (encs s).length) I2 (by omega) (by omega) (hX.x hx.1) (hS.x hx h4 h5) (fun e I3 he2 hF => cVN_r (kF e I3 ?_ (hx.f hF))) (fun s' r' I3 a3 he2 hr2 h6 h7 hx2 => cVN_r (kS (s ++ s') r' I3 a3 ?_ hr2 ?_ h7 ?_))
  · unfold anyP
    rw [bnd_r he, hr]
    exact bnd_l he2
  · unfold anyP
    rw [bnd_r he, hr]
    exact bnd_r he2
  · rw [encs_a, List.length_append]
    omega
  · rw [encs_a]
    exact hx.t hx2
theorem s70_c {Q : MP} {I' : MI} (hh : 5 ≤ h) (hX : TX home TS I') (hS : CS TS I' a len) (kF : ∀ e I2, cmP home (TS.drop a) = Sum.inl e → FC I' I2 e → Q none (I2, J, PP b)) (kS : ∀ s r I2 a2, cmP home (TS.drop a) = Sum.inr (s, r) → r = TS.drop a2 → a + (encs s).length ≤ a2 → a2 < TS.length → XC I' I2 len a2 (encs s) → Q none (I2, J, PP b)) : TriM G h 71 119 119 [vr 62] (I', J, PP b) (cVN fun I2 J2 b2 => ((((kdV (I2 62 9) (I2 64)) = 60) → (Tri G h 70 119 119 109 [some (vr 62), none, none, some (vi (kdV (I2 62 9) (I2 64)))] [] (I2, J2, PP b2) Q)) ∧ (¬ ((kdV (I2 62 9) (I2 64)) = 60) → ((((kdV (I2 62 9) (I2 64)) = 61) → (Tri G h 70 119 119 109 [some (vr 62), none, none, some (vi (kdV (I2 62 9) (I2 64)))] [] (I2, J2, PP b2) Q)) ∧ (¬ ((kdV (I2 62 9) (I2 64)) = 61) → (((¬ (kdV (I2 62 9) (I2 64)) = 62) → (TriM G h 77 119 119 [vr 62, vi 1] (I2, J2, PP b2) (cVN fun I3 J3 b3 => (Q none (I3, J3, PP b3))))) ∧ (¬ (¬ (kdV (I2 62 9) (I2 64)) = 62) → (Tri G h 70 119 119 109 [some (vr 62), none, none, some (vi (kdV (I2 62 9) (I2 64)))] [] (I2, J2, PP b2) Q)))))))) := by
  refine s71 hh hX hS (fun e I2 he hF => ?_) (fun s r I2 a2 he hr h4 h5 hx => ?_)
  · have kk := kF e
    have f109 : ∀ v : Int, Tri G h 70 119 119 109 [some (vr 62), none, none, some (vi v)] [] (I2, J, PP b) Q := fun v => x70_109 (by omega) (f76 (by omega) hF.n (f71 (by omega) hF.n (fun I3 hf3 => f78 (by omega) (by rw [hf3.2 0 (by decide)]; exact hF.n) (kk I3 (bnd_l he) (hF.x hf3)))))
    exact ⟨fun _ => f109 _, fun _ => ⟨fun _ => f109 _, fun _ => ⟨fun _ => f77 (by omega) hF.n (kk I2 (bnd_l he) hF), fun _ => f109 _⟩⟩⟩
  · have hS2 := hS.x hx h4 h5
    have hX2 := hX.x hx.1
    have hlen := hX.2.1
    obtain ⟨hk, hp, hn, ht, hl, ho, ha⟩ := hS2.hd hX2
    rw [hk]
    have ec : cmP home (TS.drop a) = (if (hdT (TS.drop a2)).1 = 60 ∨ (hdT (TS.drop a2)).1 = 61 ∨ (hdT (TS.drop a2)).1 = 62 then bnd (suP home (TS.drop (a2 + 1))) (fun s2 r2 => Sum.inr (s ++ (s2 ++ [((hdT (TS.drop a2)).1 - 43, 0)]), r2)) else badP 1 (TS.drop a2)) := by
      unfold cmP
      rw [bnd_r he, hr, ht]
    rw [ec] at kF kS
    have go : (hdT (TS.drop a2)).1 = 60 ∨ (hdT (TS.drop a2)).1 = 61 ∨ (hdT (TS.drop a2)).1 = 62 → Tri G h 70 119 119 109 [some (vr 62), none, none, some (vi (hdT (TS.drop a2)).1)] [] (I2, J, PP b) Q := by
      intro hc
      have hl2 := hl (by omega)
      rw [if_pos hc] at kF kS
      have he0 : enc ((hdT (TS.drop a2)).1 - 43, 0) = [20000 + (hdT (TS.drop a2)).1] := by
        rcases hc with hc | hc | hc <;> rw [hc] <;> rfl
      refine x70_109 (by omega) (s76 (by omega) hX2 hS2 (fun _ I3 hx3 => ?_) (fun q => absurd rfl q))
      have hx13 := hx.t hx3
      have hS3 : CS TS I3 (a2 + 1) (len + (encs s).length) := ⟨hx3.2.1, hx3.2.2.1, hx3.2.2.2.1, by have := hS2.2.2.2.1; omega, hl2⟩
      refine s71 hh (hX.x hx13.1) hS3 (fun e I4 he4 hF => f78 (by omega) hF.n (kF e I4 (bnd_l he4) (hx13.f hF))) (fun s4 r4 I4 a4 he4 hr4 h6 h7 hx4 => ?_)
      rw [w32_id (by omega) (by omega)]
      have hb := hS2.2.2.2.1
      refine s78 (by omega) hx4.2.1 hx4.2.2.1 hx4.2.2.2.1 (by omega) fun I5 hx5 => kS (s ++ (s4 ++ [((hdT (TS.drop a2)).1 - 43, 0)])) r4 I5 a4 (bnd_r he4) hr4 ?_ h7 ?_
      · rw [encs_a, encs_a, encs_1, he0]
        simp only [List.length_append, List.length_cons, List.length_nil]
        omega
      · rw [encs_a, encs_a, encs_1, he0]
        exact hx.t (hx3.t (hx4.t hx5))
    exact ⟨fun q => go (Or.inl q), fun q => ⟨fun q2 => go (Or.inr (Or.inl q2)), fun q2 => ⟨fun q3 => s77 (by omega) hX2 hS2 (by decide) fun I3 hF => kF _ I3 (by rw [if_neg (by omega)]; rfl) (hx.f hF), fun q3 => go (Or.inr (Or.inr (Decidable.of_not_not q3)))⟩⟩⟩
theorem s70 : ∀ (d h : Nat) (x : Int), d ≤ 8 → 6 + 2 * d ≤ h → x = 8 - (d : Int) → ONE G home TS d h x := by
  intro d
  induction d with
  | zero =>
    intro h x hd hh hx I J b a len K hX hS kF kS
    obtain ⟨hk, hp, hn, ht, hl, ho, ha⟩ := hS.hd hX
    have ep : onP home 0 (TS.drop a) = (if (hdT (TS.drop a)).1 = 5 ∨ (hdT (TS.drop a)).1 = 40 then badP 3 (TS.drop a) else cmP home (TS.drop a)) := rfl
    rw [ep] at kF kS
    refine TriM_intro (h - 1) (by omega) (by decide) (Nat.le_of_ble_eq_true rfl) (Nat.le_refl _) (Nat.le_refl _) (x70 (by omega) ?_)
    rw [hk]
    refine ⟨fun _ => ⟨fun q1 => ⟨fun q2 => by omega, fun _ => s77 (by omega) hX hS (by decide) fun I2 hF => cVN_r (kF _ I2 (by rw [if_pos (Or.inl q1)]; rfl) hF)⟩, fun q1 => ⟨fun q2 => ?_, fun q2 => ⟨fun q3 => by omega, fun _ => s77 (by omega) hX hS (by decide) fun I2 hF => cVN_r (kF _ I2 (by rw [if_pos (Or.inr (Decidable.of_not_not q2))]; rfl) hF)⟩⟩⟩, fun q => absurd hS.1 q⟩
    rw [if_neg (by omega)] at kF kS
    exact s70_c (by omega) hX hS (fun e I2 he hF => cVN_r (kF e I2 he hF)) (fun s r I2 a2 he hr h4 h5 hx => cVN_r (kS s r I2 a2 he hr h4 h5 hx))
  | succ d ih =>
    intro h x hd hh hx I J b a len K hX hS kF kS
    obtain ⟨hk, hp, hn, ht, hl, ho, ha⟩ := hS.hd hX
    obtain ⟨s0, s9, s3, sl, sa⟩ := id hS
    have hlen := hX.2.1
    have ep : onP home (d + 1) (TS.drop a) = (if (hdT (TS.drop a)).1 = 5 then bnd (onP home d (TS.drop (a + 1))) (fun s r => Sum.inr (s ++ [(20, 0)], r)) else if (hdT (TS.drop a)).1 = 40 then bnd (anyP (onP home d) (TS.drop (a + 1))) (fun s r => if (hdT r).1 = 41 then Sum.inr (s, r.tail) else badP 1 r) else cmP home (TS.drop a)) := by rw [← ht]; rfl
    rw [ep] at kF kS
    have hx1 := XC.at s0 s9 s3 (by omega)
    have hX1 := hX.x hx1.1
    have hS1 : (hdT (TS.drop a)).1 ≠ 21 → CS TS (u2 I 62 9 (w32 (I 62 9 + 1))) (a + 1) len := fun z => ⟨hx1.2.1, hx1.2.2.1, hx1.2.2.2.1, by omega, hl z⟩
    refine TriM_intro (h - 1) (by omega) (by decide) (Nat.le_of_ble_eq_true rfl) (Nat.le_refl _) (Nat.le_refl _) (x70 (by omega) ?_)
    rw [hk]
    refine ⟨fun _ => ⟨fun q1 => ⟨fun _ => ?_, fun q2 => by omega⟩, fun q1 => ⟨fun q2 => ?_, fun q2 => ⟨fun _ => ?_, fun q3 => by omega⟩⟩⟩, fun q => absurd hS.1 q⟩
    · rw [if_pos q1] at kF kS
      rw [q1]
      refine x70_36 (by omega) ⟨fun q => absurd rfl q, fun _ => ?_⟩
      rw [w32_id (x := x + 1) (by omega) (by omega)]
      refine ih (h - 1) (x + 1) (by omega) (by omega) (by omega) _ _ _ (a + 1) len _ hX1 (hS1 (by omega)) (fun e I2 he hF => f78 (by omega) hF.n (cVN_r (kF e I2 (bnd_l he) (hx1.f hF)))) (fun s r I2 a2 he hr h4 h5 hx3 => ?_)
      refine s78 (by omega) hx3.2.1 hx3.2.2.1 hx3.2.2.2.1 (by omega) fun I4 hx4 => cVN_r (kS (s ++ [(20, 0)]) r I4 a2 (bnd_r he) hr ?_ h5 ?_)
      · rw [encs_a, encs_1, show enc (20, 0) = [20005] from rfl]
        simp only [List.length_append, List.length_cons, List.length_nil]
        omega
      · rw [encs_a, encs_1]
        exact hx1.t (hx3.t hx4)
    · rw [if_neg q1, if_neg q2] at kF kS
      exact s70_c (by omega) hX hS (fun e I2 he hF => cVN_r (kF e I2 he hF)) (fun s r I2 a2 he hr h4 h5 hx => cVN_r (kS s r I2 a2 he hr h4 h5 hx))
    · have q3 := Decidable.of_not_not q2
      rw [if_neg q1, if_pos q3] at kF kS
      rw [q3]
      refine x70_36 (by omega) ⟨fun _ => ?_, fun q => absurd (by decide) q⟩
      rw [w32_id (x := x + 1) (by omega) (by omega)]
      refine s69 (d := d) (by omega) (by omega) (ih (h - 1 - 1) (x + 1) (by omega) (by omega) (by omega)) hX1 (hS1 (by omega)) (fun e I2 he hF => f76 (by omega) hF.n (cVN_r (kF e I2 (bnd_l he) (hx1.f hF)))) (fun s r I2 a2 he hr h4 h5 hx3 => ?_)
      have hS3 := (hS1 (by omega)).x hx3 h4 h5
      have hX3 := hX1.x hx3.1
      obtain ⟨hk', hp', hn', ht', hl', ho', ha'⟩ := hS3.hd hX3
      refine s76 (by omega) hX3 hS3 (fun q I4 hx4 => cVN_r (kS s r.tail I4 (a2 + 1) ?_ ?_ ?_ (hl' (by omega)) ?_)) (fun q I4 hF => cVN_r (kF _ I4 ?_ (hx1.f (hx3.f hF))))
      · rw [bnd_r he, hr, if_pos q]
      · rw [hr]
        exact ht'
      · omega
      · have := hx1.t (hx3.t hx4)
        rw [List.append_nil] at this
        exact this
      · rw [bnd_r he, hr, if_neg q]
        rfl
/-! all lines -/
theorem FC.ln {I I1 : MI} {e : Int × Nat} {v : Int} (h1 : FC I I1 e) : FC I (u2 I1 62 2 v) e := ⟨h1.1.u (by decide), by rw [u2j (by decide)]; exact h1.2.1, by rw [u2j (by decide)]; exact h1.2.2.1, h1.2.2.2⟩
theorem s68_l {Q : MP} (hh : 40 ≤ h) : ∀ (m i a len : Nat) (I' : MI), m + i = 16 → TX home TS I' → CS TS I' a len → I' 62 2 = (i : Int) → (∀ e I2, txP home m (TS.drop a) = Sum.inl e → FC I' I2 e → Q none (I2, J, PP b)) → (∀ p I2, txP home m (TS.drop a) = Sum.inr p → frK [62, 63] I' I2 → I2 62 0 = 0 → I2 62 1 = I' 62 1 → I2 62 2 = ((i + p.length : Nat) : Int) → I2 62 3 = ((len + (encP p).length : Nat) : Int) → hasAt (I2 63) len (encP p) → (∀ j, j < len → I2 63 j = I' 63 j) → Q none (I2, J, PP b)) → Tri G h 68 119 119 27 [some (vr 62), some (vi (i : Int))] [] (I', J, PP b) Q := by
  intro m
  induction m with
  | zero =>
    intro i a len I' hm hX hS h2 kF kS
    obtain ⟨hk, hp, hn, ht, hl, ho, ha⟩ := hS.hd hX
    have ep : txP home 0 (TS.drop a) = (if (hdT (TS.drop a)).1 = 21 then Sum.inr [] else if (hdT (TS.drop a)).1 < 2 then Sum.inl (3, (hdT (TS.drop a)).2.1) else Sum.inl (1, (hdT (TS.drop a)).2.1)) := rfl
    rw [ep] at kF kS
    have flt : ∀ (I2 : MI) (e : Int × Nat) (l1 : Int), FC I' I2 e → Q none (I2, J, PP b) → Tri G h 68 119 119 27 [some (vr 62), some (vi l1)] [] (I2, J, PP b) Q := fun I2 e l1 hF hQ => x68_27 (by omega) ⟨fun _ => hQ, fun _ => ⟨fun _ => hQ, fun q => absurd hF.n q⟩⟩
    refine x68_27 (by omega) ?_
    rw [hk, h2]
    refine ⟨fun q => by omega, fun _ => ⟨fun q => absurd hS.1 q, fun _ => ⟨fun q1 => ?_, fun q1 => ⟨fun q2 => ⟨fun q3 => by omega, fun _ => s77 (by omega) hX hS (by decide) fun I2 hF => flt I2 _ _ hF (kF _ I2 (by rw [if_neg q1, if_pos q2]) hF)⟩, fun q2 => s77 (by omega) hX hS (by decide) fun I2 hF => flt I2 _ _ hF (kF _ I2 (by rw [if_neg q1, if_neg q2]) hF)⟩⟩⟩⟩
    exact kS [] I' (by rw [if_pos q1]) frK.r hS.1 rfl (by rw [h2]; rfl) hS.2.2.1 (fun i x hx => by simp [encP] at hx) (fun _ _ => rfl)
  | succ m ih =>
    intro i a len I' hm hX hS h2 kF kS
    obtain ⟨hk, hp, hn, ht, hl, ho, ha⟩ := hS.hd hX
    obtain ⟨s0, s9, s3, sl, sa⟩ := id hS
    have hlen := hX.2.1
    have ep : txP home (m + 1) (TS.drop a) = (if (hdT (TS.drop a)).1 = 21 then Sum.inr [] else if (hdT (TS.drop a)).1 < 2 then (match lnP home (TS.drop a) with
    | Sum.inl e => Sum.inl e
    | Sum.inr q => (match txP home m q.2 with
      | Sum.inl e => Sum.inl e
      | Sum.inr p => Sum.inr ((bgK home (hdT (TS.drop a)).1, q.1) :: p))) else Sum.inl (1, (hdT (TS.drop a)).2.1)) := rfl
    rw [ep] at kF kS
    have flt : ∀ (I2 : MI) (e : Int × Nat) (l1 : Int), FC I' I2 e → Q none (I2, J, PP b) → Tri G h 68 119 119 27 [some (vr 62), some (vi l1)] [] (I2, J, PP b) Q := fun I2 e l1 hF hQ => x68_27 (by omega) ⟨fun _ => hQ, fun _ => ⟨fun _ => hQ, fun q => absurd hF.n q⟩⟩
    refine x68_27 (by omega) ?_
    rw [hk, h2]
    refine ⟨fun q => by omega, fun _ => ⟨fun q => absurd hS.1 q, fun _ => ⟨fun q1 => ?_, fun q1 => ⟨fun q2 => ⟨fun _ => ?_, fun q3 => absurd (show ¬ (i : Int) = 16 by omega) q3⟩, fun q2 => s77 (by omega) hX hS (by decide) fun I2 hF => flt I2 _ _ hF (kF _ I2 (by rw [if_neg q1, if_neg q2]) hF)⟩⟩⟩⟩
    · exact kS [] I' (by rw [if_pos q1]) frK.r hS.1 rfl (by rw [h2]; rfl) hS.2.2.1 (fun i x hx => by simp [encP] at hx) (fun _ _ => rfl)
    · rw [if_neg q1, if_pos q2] at kF kS
      have hl2 := hl q1
      have hx1 := XC.at s0 s9 s3 (by omega)
      have hX1 := hX.x hx1.1
      have hS1 : CS TS (u2 I' 62 9 (w32 (I' 62 9 + 1))) (a + 1) len := ⟨hx1.2.1, hx1.2.2.1, hx1.2.2.2.1, by omega, hl2⟩
      obtain ⟨hk1, hp1, hn1, ht1, hl1, ho1, ha1⟩ := hS1.hd hX1
      have el : lnP home (TS.drop a) = (if (hdT (TS.drop (a + 1))).1 = 2 then bnd (anyP (onP home 8) (TS.drop (a + 1 + 1))) (fun s r => if (hdT r).1 = 59 then Sum.inr (s, r.tail) else badP 1 r) else badP 1 (TS.drop (a + 1))) := by
        unfold lnP
        rw [ht, ht1]
      have fl : ∀ (I2 : MI) (e : Int × Nat), FC I' I2 e → lnP home (TS.drop a) = Sum.inl e → TriM G h 78 119 119 [vr 62, vi (w32 (30000 + (hdT (TS.drop a)).1))] (I2, J, PP b) (cVN fun I4 J4 b4 => Tri G h 68 119 119 27 [some (vr 62), some (vi (w32 ((i : Int) + 1)))] [] (u2 I4 62 2 (w32 ((I4 62 2) + 1)), J4, PP b4) Q) := fun I2 e hF he => f78 (by omega) hF.n (flt _ e _ hF.ln (kF e _ (by rw [he]) hF.ln))
      refine s76 (by omega) hX1 hS1 (fun k2 I2 hx2 => ?_) (fun k2 I2 hF => ?_)
      · have hl3 := hl1 (by omega)
        rw [if_pos k2] at el
        have hx12 := hx1.t hx2
        have hS2 : CS TS I2 (a + 1 + 1) len := ⟨hx2.2.1, hx2.2.2.1, hx2.2.2.2.1, by omega, hl3⟩
        refine s69 (d := 8) (by omega) (by omega) (s70 8 (h - 1) 0 (by omega) (by omega) (by omega)) (hX.x hx12.1) hS2 (fun e I3 he hF => f76 (by omega) hF.n (fl I3 e (hx12.f hF) (by rw [el]; exact bnd_l he))) (fun s r I3 a3 he hr h4 h5 hx3 => ?_)
        have hx13 := hx12.t hx3
        have hS3 := hS2.x hx3 h4 h5
        have hX3 := hX.x hx13.1
        obtain ⟨hk3, hp3, hn3, ht3, hl3', ho3, ha3⟩ := hS3.hd hX3
        refine s76 (by omega) hX3 hS3 (fun k4 I4 hx4 => ?_) (fun k4 I4 hF => fl I4 _ (hx13.f hF) (by rw [el, bnd_r he, hr, if_neg k4]; rfl))
        have hl4 := hl3' (by omega)
        have hb2 := hS2.2.2.2.1
        have okk := ho.1
        have hk0 : 0 ≤ (hdT (TS.drop a)).1 := by
          unfold okK at okk
          omega
        rw [w32_id (x := 30000 + (hdT (TS.drop a)).1) (by omega) (by omega), w32_id (x := (i : Int) + 1) (by omega) (by omega)]
        refine s78 (by omega) hx4.2.1 hx4.2.2.1 hx4.2.2.2.1 (by simp only [List.length_nil]; omega) fun I5 hx5 => ?_
        have hx15 := hx13.t (hx4.t hx5)
        have eln : lnP home (TS.drop a) = Sum.inr (s, TS.drop (a3 + 1)) := by
          rw [el, bnd_r he, hr, if_pos k4, ht3]
        rw [eln] at kF kS
        have hw : ([] ++ [] ++ encs s ++ ([] ++ [30000 + (hdT (TS.drop a)).1]) : List Int) = encL (bgK home (hdT (TS.drop a)).1, s) := by
          unfold encL bgK
          unfold okK at okk
          dsimp only
          cases home with
          | true =>
            simp only [reduceCtorEq, false_and, false_or, or_false, true_and] at okk
            have : (hdT (TS.drop a)).1 = 0 ∨ (hdT (TS.drop a)).1 = 1 := by omega
            rcases this with e | e <;> rw [e] <;> simp
          | false =>
            simp only [reduceCtorEq, false_and, false_or, or_false, true_and] at okk
            have : (hdT (TS.drop a)).1 = 0 := by omega
            rw [this]
            simp
        rw [hw] at hx15
        have h62 : (u2 I5 62 2 (w32 ((I5 62 2) + 1))) 62 2 = ((i + 1 : Nat) : Int) := by
          rw [u2e, hx15.2.2.2.2.2.2.1, h2, w32_id (by omega) (by omega)]
          omega
        have hf6 : frK [62, 63] I' (u2 I5 62 2 (w32 ((I5 62 2) + 1))) := hx15.1.u (by decide)
        have hll : (encL (bgK home (hdT (TS.drop a)).1, s)).length = (encs s).length + 1 := by rw [← hw]; simp
        have h63 : (u2 I5 62 2 (w32 ((I5 62 2) + 1))) 63 = I5 63 := u2_ne (by decide)
        refine ih (i + 1) (a3 + 1) (len + (encL (bgK home (hdT (TS.drop a)).1, s)).length) _ (by omega) (hX.x hf6) ⟨?_, ?_, ?_, by rw [hll]; omega, hl4⟩ h62 (fun e I7 he7 hF => kF e I7 ?_ ⟨hf6.t hF.1, hF.2⟩) (fun p I7 he7 hf7 g0 g1 g2 g3 g4 g5 => kS ((bgK home (hdT (TS.drop a)).1, s) :: p) I7 ?_ (hf6.t hf7) g0 ?_ ?_ ?_ ?_ ?_)
        · rw [u2j (by decide)]
          exact hx15.2.1
        · rw [u2j (by decide)]
          exact hx5.2.2.1
        · rw [u2j (by decide)]
          exact hx15.2.2.2.1
        · dsimp only
          rw [he7]
        · dsimp only
          rw [he7]
        · rw [g1, u2j (by decide)]
          exact hx15.2.2.2.2.2.2.2
        · rw [g2, List.length_cons]
          omega
        · rw [g3]
          show _ = ((len + (encL (bgK home (hdT (TS.drop a)).1, s) ++ encP p).length : Nat) : Int)
          rw [List.length_append]
          omega
        · show hasAt (I7 63) len (encL (bgK home (hdT (TS.drop a)).1, s) ++ encP p)
          intro k y hy
          by_cases hk9 : k < (encL (bgK home (hdT (TS.drop a)).1, s)).length
          · rw [List.getElem?_append_left hk9] at hy
            rw [g5 _ (by omega), h63]
            exact hx15.2.2.2.2.1 k y hy
          · rw [List.getElem?_append_right (by omega)] at hy
            have := g4 _ y hy
            rw [show len + (encL (bgK home (hdT (TS.drop a)).1, s)).length + (k - (encL (bgK home (hdT (TS.drop a)).1, s)).length) = len + k by omega] at this
            exact this
        · intro j hj
          rw [g5 j (by omega), h63]
          exact hx15.2.2.2.2.2.1 j hj
      · have hF2 := hx1.f hF
        rw [if_neg k2] at el
        exact f69 (by omega) hF.n (f76 (by omega) hF.n (fl I2 _ hF2 el))
theorem s68 {K : MI → MJ → B3 → Prop} (hh : 41 ≤ h) (hX : TX home TS I) (hT : 0 < TS.length) (kF : ∀ e I2, txP home 16 TS = Sum.inl e → FC I I2 e → K I2 J b) (kS : ∀ p I2, txP home 16 TS = Sum.inr p → frK [62, 63] I I2 → I2 62 0 = 0 → I2 62 1 = -1 → I2 62 2 = (p.length : Int) → I2 62 3 = ((encP p).length : Int) → hasAt (I2 63) 0 (encP p) → K I2 J b) : TriM G h 68 119 119 [vr 62] (I, J, PP b) (cVN K) := by
  have hf : frK [62, 63] I (u2 (u2 (u2 (u2 (u2 I 62 9 0) 62 0 0) 62 1 (-1)) 62 3 0) 62 2 0) := ((((frK.r.u (by decide)).u (by decide)).u (by decide)).u (by decide)).u (by decide)
  refine TriM_intro (h - 1) (by omega) (by decide) (Nat.le_of_ble_eq_true rfl) (Nat.le_refl _) (Nat.le_refl _) (x68 (Nat.zero_le _) (s68_l (home := home) (TS := TS) (by omega) 16 0 0 0 _ (by omega) (hX.x hf) ⟨?_, ?_, ?_, Nat.le_refl _, hT⟩ ?_ (fun e I2 he hF => cVN_r (kF e I2 he ⟨hf.t hF.1, hF.2⟩)) (fun p I2 he hf2 g0 g1 g2 g3 g4 g5 => cVN_r (kS p I2 he (hf.t hf2) g0 ?_ ?_ ?_ g4))))
  · rw [u2j (by decide), u2j (by decide), u2j (by decide), u2e]
  · rw [u2j (by decide), u2j (by decide), u2j (by decide), u2j (by decide), u2e]
    rfl
  · rw [u2j (by decide), u2e]
    rfl
  · rw [u2e]
    rfl
  · rw [g1, u2j (by decide), u2j (by decide), u2e]
  · rw [g2, Nat.zero_add]
  · rw [g3, Nat.zero_add]

end PARSC
