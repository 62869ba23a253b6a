set_option maxRecDepth 100000 in
theorem x208 {G : Ctx} {h : Nat} {Q : MP} {I : Nat → Nat → Int} {J : Nat → Nat → BitVec 64} {b : B3} {x : Int} (hh : 10 ≤ h) (H : (((I 91 13) = x) → (TriM G h 206 119 119 [vr 91] (I, J, PP b) (cVN fun I1 J1 b1 => (Q (some (vi 1)) (I1, J1, PP b1))))) ∧ (¬ ((I 91 13) = x) → (Q (some (vi 0)) (u2 (u2 I 91 16 1) 91 17 (I 91 14), J, PP b)))) : Tri G h 208 119 119 0 [some (vr 91), some (vi x)] [] (I, J, PP b) Q := wp_at ck208 [] 400 (And.intro (fun q2082 => cVN_go (H.1 q2082) (fun I1 J1 b1 q2084 => And.intro (show (1 : Int) = 0 ∨ (1 : Int) = 1 by decide) q2084)) (fun q2083 => x207_m (by omega) (fun h hh => x207 hh (cI_r (And.intro (show (0 : Int) = 0 ∨ (0 : Int) = 1 by decide) (H.2 q2083))))))
theorem x208_m {G : Ctx} {h : Nat} {Q : MP} {I : Nat → Nat → Int} {J : Nat → Nat → BitVec 64} {b : B3} {x : Int} (hh : 11 ≤ h) (H : ∀ h, 10 ≤ h → Tri G h 208 119 119 0 [some (vr 91), some (vi x)] [] (I, J, PP b) Q) : TriM G h 208 119 119 [vr 91, vi x] (I, J, PP b) Q := TriM_intro (h - 1) (by omega) (by decide) (Nat.le_of_ble_eq_true rfl) (Nat.le_refl _) (Nat.le_refl _) (H (h - 1) (by omega))
set_option maxRecDepth 100000 in
theorem x210 {G : Ctx} {h : Nat} {Q : MP} {I : Nat → Nat → Int} {J : Nat → Nat → BitVec 64} {b : B3} (hh : 10 ≤ h) (H : ((¬ (I 91 19) = 8) → (TriM G h 206 119 119 [vr 91] (u2 I 91 19 (w32 ((I 91 19) + 1)), J, PP b) (cVN fun I1 J1 b1 => (Q (some (vi 1)) (I1, J1, PP b1))))) ∧ (¬ (¬ (I 91 19) = 8) → (Q (some (vi 0)) (u2 (u2 I 91 16 3) 91 17 (I 91 14), J, PP b)))) : Tri G h 210 119 119 0 [some (vr 91)] [] (I, J, PP b) Q := wp_at ck210 [] 400 (And.intro (fun q2085 => cVN_go (H.1 q2085) (fun I1 J1 b1 q2087 => And.intro (show (1 : Int) = 0 ∨ (1 : Int) = 1 by decide) q2087)) (fun q2086 => x207_m (by omega) (fun h hh => x207 hh (cI_r (And.intro (show (0 : Int) = 0 ∨ (0 : Int) = 1 by decide) (H.2 q2086))))))
theorem x210_m {G : Ctx} {h : Nat} {Q : MP} {I : Nat → Nat → Int} {J : Nat → Nat → BitVec 64} {b : B3} (hh : 11 ≤ h) (H : ∀ h, 10 ≤ h → Tri G h 210 119 119 0 [some (vr 91)] [] (I, J, PP b) Q) : TriM G h 210 119 119 [vr 91] (I, J, PP b) Q := TriM_intro (h - 1) (by omega) (by decide) (Nat.le_of_ble_eq_true rfl) (Nat.le_refl _) (Nat.le_refl _) (H (h - 1) (by omega))
set_option maxRecDepth 100000 in
theorem x213 {G : Ctx} {h : Nat} {Q : MP} {I : Nat → Nat → Int} {J : Nat → Nat → BitVec 64} {b : B3} (hh : 10 ≤ h) (H : (((41 : Int) ≤ (I 91 13) ∧ (I 91 13) ≤ (52 : Int)) → ((((I 91 13) = 2) → (TriM G h 209 119 119 [vr 91, vi (w32 ((I 91 13) - 40)), vi (I 91 15)] (I, J, PP b) (cVN fun I1 J1 b1 => (TriM G h 206 119 119 [vr 91] (I1, J1, PP b1) (cVN fun I2 J2 b2 => (Q (some (vi 1)) (I2, J2, PP b2))))))) ∧ (¬ ((I 91 13) = 2) → (TriM G h 209 119 119 [vr 91, vi (w32 ((I 91 13) - 40)), vi (I 91 15)] (I, J, PP b) (cVN fun I3 J3 b3 => (TriM G h 206 119 119 [vr 91] (I3, J3, PP b3) (cVN fun I4 J4 b4 => (Q (some (vi 1)) (I4, J4, PP b4))))))))) ∧ (¬ ((41 : Int) ≤ (I 91 13) ∧ (I 91 13) ≤ (52 : Int)) → ((((I 91 13) = 2) → (TriM G h 209 119 119 [vr 91, vi 0, vi (I 91 15)] (I, J, PP b) (cVN fun I5 J5 b5 => (TriM G h 206 119 119 [vr 91] (I5, J5, PP b5) (cVN fun I6 J6 b6 => (Q (some (vi 1)) (I6, J6, PP b6))))))) ∧ (¬ ((I 91 13) = 2) → (Q (some (vi 0)) (u2 (u2 I 91 16 1) 91 17 (I 91 14), J, PP b)))))) : Tri G h 213 119 119 0 [some (vr 91)] [] (I, J, PP b) Q := wp_at ck213 [] 400 (sx181 (by omega)  (fun q2088 => And.intro (fun q2090 => And.intro (fun z => absurd z (show ¬ ((1 : Int) = (0 : Int)) by decide)) (fun _ => cVN_go ((H.1 q2088).1 q2090) (fun I1 J1 b1 q2092 => cVN_go q2092 (fun I2 J2 b2 q2093 => And.intro (show (1 : Int) = 0 ∨ (1 : Int) = 1 by decide) q2093)))) (fun q2091 => And.intro (fun _ => And.intro (fun z => absurd z (show ¬ ((1 : Int) = (0 : Int)) by decide)) (fun _ => cVN_go ((H.1 q2088).2 q2091) (fun I3 J3 b3 q2094 => cVN_go q2094 (fun I4 J4 b4 q2095 => And.intro (show (1 : Int) = 0 ∨ (1 : Int) = 1 by decide) q2095)))) (fun z => absurd (show ¬ (1 : Int) = (0 : Int) by decide) z))) (fun q2089 => And.intro (fun q2096 => And.intro (fun _ => cVN_go ((H.2 q2089).1 q2096) (fun I5 J5 b5 q2098 => cVN_go q2098 (fun I6 J6 b6 q2099 => And.intro (show (1 : Int) = 0 ∨ (1 : Int) = 1 by decide) q2099))) (fun z => absurd (show (0 : Int) = (0 : Int) by decide) z)) (fun q2097 => And.intro (fun z => absurd z (show ¬ (¬ (0 : Int) = (0 : Int)) by decide)) (fun _ => x207_m (by omega) (fun h hh => x207 hh (cI_r (And.intro (show (0 : Int) = 0 ∨ (0 : Int) = 1 by decide) ((H.2 q2089).2 q2097))))))))
theorem x213_m {G : Ctx} {h : Nat} {Q : MP} {I : Nat → Nat → Int} {J : Nat → Nat → BitVec 64} {b : B3} (hh : 11 ≤ h) (H : ∀ h, 10 ≤ h → Tri G h 213 119 119 0 [some (vr 91)] [] (I, J, PP b) Q) : TriM G h 213 119 119 [vr 91] (I, J, PP b) Q := TriM_intro (h - 1) (by omega) (by decide) (Nat.le_of_ble_eq_true rfl) (Nat.le_refl _) (Nat.le_refl _) (H (h - 1) (by omega))
set_option maxRecDepth 100000 in
theorem x212 {G : Ctx} {h : Nat} {Q : MP} {I : Nat → Nat → Int} {J : Nat → Nat → BitVec 64} {b : B3} (hh : 11 ≤ h) (H : TriM G h 213 119 119 [vr 91] (I, J, PP b) (cIN fun r1 I1 J1 b1 => (((¬ r1 = 0) → (Tri G h 212 119 119 9 [some (vr 91)] [] (I1, J1, PP b1) Q)) ∧ (¬ (¬ r1 = 0) → (Q (some (vi 0)) (I1, J1, PP b1)))))) : Tri G h 212 119 119 0 [some (vr 91)] [] (I, J, PP b) Q := wp_at ck212 [(9, [true])] 400 (cIN_go H (fun r1 I1 J1 b1 q2100 => And.intro (fun q2101 => q2100.1 q2101) (fun q2102 => And.intro (show (0 : Int) = 0 ∨ (0 : Int) = 1 by decide) (q2100.2 q2102))))
set_option maxRecDepth 100000 in
theorem x212_9 {G : Ctx} {h : Nat} {Q : MP} {I : Nat → Nat → Int} {J : Nat → Nat → BitVec 64} {b : B3} (hh : 11 ≤ h) (H : (((I 91 13) = 142) → (((¬ (I 91 13) = 147) → (TriM G h 206 119 119 [vr 91] (I, J, PP b) (cVN fun I1 J1 b1 => (TriM G h 213 119 119 [vr 91] (I1, J1, PP b1) (cIN fun r2 I2 J2 b2 => (((¬ r2 = 0) → (TriM G h 209 119 119 [vr 91, vi 15, vi 0] (I2, J2, PP b2) (cVN fun I3 J3 b3 => (Tri G h 212 119 119 9 [some (vr 91)] [] (I3, J3, PP b3) Q)))) ∧ (¬ (¬ r2 = 0) → (Q (some (vi 0)) (I2, J2, PP b2))))))))) ∧ (¬ (¬ (I 91 13) = 147) → (TriM G h 206 119 119 [vr 91] (I, J, PP b) (cVN fun I4 J4 b4 => ((((I4 91 13) = 2) → (((¬ (I4 91 15) = 0) → (TriM G h 206 119 119 [vr 91] (I4, J4, PP b4) (cVN fun I5 J5 b5 => (TriM G h 209 119 119 [vr 91, vi 16, vi (I4 91 15)] (I5, J5, PP b5) (cVN fun I6 J6 b6 => (Tri G h 212 119 119 9 [some (vr 91)] [] (I6, J6, PP b6) Q)))))) ∧ (¬ (¬ (I4 91 15) = 0) → (Q (some (vi 0)) (u2 (u2 I4 91 16 2) 91 17 (I4 91 14), J4, PP b4))))) ∧ (¬ ((I4 91 13) = 2) → (Q (some (vi 0)) (u2 (u2 I4 91 16 1) 91 17 (I4 91 14), J4, PP b4))))))))) ∧ (¬ ((I 91 13) = 142) → (((¬ (I 91 13) = 147) → (Q (some (vi 1)) (I, J, PP b))) ∧ (¬ (¬ (I 91 13) = 147) → (((¬ (I 91 13) = 147) → (TriM G h 206 119 119 [vr 91] (I, J, PP b) (cVN fun I7 J7 b7 => (TriM G h 213 119 119 [vr 91] (I7, J7, PP b7) (cIN fun r8 I8 J8 b8 => (((¬ r8 = 0) → (TriM G h 209 119 119 [vr 91, vi 15, vi 0] (I8, J8, PP b8) (cVN fun I9 J9 b9 => (Tri G h 212 119 119 9 [some (vr 91)] [] (I9, J9, PP b9) Q)))) ∧ (¬ (¬ r8 = 0) → (Q (some (vi 0)) (I8, J8, PP b8))))))))) ∧ (¬ (¬ (I 91 13) = 147) → (TriM G h 206 119 119 [vr 91] (I, J, PP b) (cVN fun I10 J10 b10 => ((((I10 91 13) = 2) → (((¬ (I10 91 15) = 0) → (TriM G h 206 119 119 [vr 91] (I10, J10, PP b10) (cVN fun I11 J11 b11 => (TriM G h 209 119 119 [vr 91, vi 16, vi (I10 91 15)] (I11, J11, PP b11) (cVN fun I12 J12 b12 => (Tri G h 212 119 119 9 [some (vr 91)] [] (I12, J12, PP b12) Q)))))) ∧ (¬ (¬ (I10 91 15) = 0) → (Q (some (vi 0)) (u2 (u2 I10 91 16 2) 91 17 (I10 91 14), J10, PP b10))))) ∧ (¬ ((I10 91 13) = 2) → (Q (some (vi 0)) (u2 (u2 I10 91 16 1) 91 17 (I10 91 14), J10, PP b10)))))))))))) : Tri G h 212 119 119 9 [some (vr 91)] [] (I, J, PP b) Q := wp_at ck212 [(9, [true])] 400 (And.intro (fun q2103 => And.intro (fun q2105 => cVN_go ((H.1 q2103).1 q2105) (fun I1 J1 b1 q2107 => And.intro (fun _ => cIN_go q2107 (fun r2 I2 J2 b2 q2108 => And.intro (fun q2109 => cVN_go (q2108.1 q2109) (fun I3 J3 b3 q2111 => q2111)) (fun q2110 => And.intro (show (0 : Int) = 0 ∨ (0 : Int) = 1 by decide) (q2108.2 q2110)))) (fun z => absurd (show (0 : Int) = (0 : Int) by decide) z))) (fun q2106 => cVN_go ((H.1 q2103).2 q2106) (fun I4 J4 b4 q2112 => And.intro (fun z => absurd z (show ¬ ((1 : Int) = (0 : Int)) by decide)) (fun _ => And.intro (fun q2113 => And.intro (fun q2115 => cVN_go ((q2112.1 q2113).1 q2115) (fun I5 J5 b5 q2117 => cVN_go q2117 (fun I6 J6 b6 q2118 => q2118))) (fun q2116 => x207_m (by omega) (fun h hh => x207 hh (cI_r (And.intro (show (0 : Int) = 0 ∨ (0 : Int) = 1 by decide) ((q2112.1 q2113).2 q2116)))))) (fun q2114 => x207_m (by omega) (fun h hh => x207 hh (cI_r (And.intro (show (0 : Int) = 0 ∨ (0 : Int) = 1 by decide) (q2112.2 q2114))))))))) (fun q2104 => And.intro (fun q2119 => And.intro (show (1 : Int) = 0 ∨ (1 : Int) = 1 by decide) ((H.2 q2104).1 q2119)) (fun q2120 => And.intro (fun q2121 => cVN_go (((H.2 q2104).2 q2120).1 q2121) (fun I7 J7 b7 q2123 => And.intro (fun _ => cIN_go q2123 (fun r8 I8 J8 b8 q2124 => And.intro (fun q2125 => cVN_go (q2124.1 q2125) (fun I9 J9 b9 q2127 => q2127)) (fun q2126 => And.intro (show (0 : Int) = 0 ∨ (0 : Int) = 1 by decide) (q2124.2 q2126)))) (fun z => absurd (show (0 : Int) = (0 : Int) by decide) z))) (fun q2122 => cVN_go (((H.2 q2104).2 q2120).2 q2122) (fun I10 J10 b10 q2128 => And.intro (fun z => absurd z (show ¬ ((1 : Int) = (0 : Int)) by decide)) (fun _ => And.intro (fun q2129 => And.intro (fun q2131 => cVN_go ((q2128.1 q2129).1 q2131) (fun I11 J11 b11 q2133 => cVN_go q2133 (fun I12 J12 b12 q2134 => q2134))) (fun q2132 => x207_m (by omega) (fun h hh => x207 hh (cI_r (And.intro (show (0 : Int) = 0 ∨ (0 : Int) = 1 by decide) ((q2128.1 q2129).2 q2132)))))) (fun q2130 => x207_m (by omega) (fun h hh => x207 hh (cI_r (And.intro (show (0 : Int) = 0 ∨ (0 : Int) = 1 by decide) (q2128.2 q2130)))))))))))
theorem x212_m {G : Ctx} {h : Nat} {Q : MP} {I : Nat → Nat → Int} {J : Nat → Nat → BitVec 64} {b : B3} (hh : 12 ≤ h) (H : ∀ h, 11 ≤ h → Tri G h 212 119 119 0 [some (vr 91)] [] (I, J, PP b) Q) : TriM G h 212 119 119 [vr 91] (I, J, PP b) Q := TriM_intro (h - 1) (by omega) (by decide) (Nat.le_of_ble_eq_true rfl) (Nat.le_refl _) (Nat.le_refl _) (H (h - 1) (by omega))
set_option maxRecDepth 100000 in
theorem x211 {G : Ctx} {h : Nat} {Q : MP} {I : Nat → Nat → Int} {J : Nat → Nat → BitVec 64} {b : B3} (hh : 12 ≤ h) (H : TriM G h 212 119 119 [vr 91] (I, J, PP b) (cIN fun r1 I1 J1 b1 => (((¬ r1 = 0) → (Tri G h 211 119 119 9 [some (vr 91)] [] (I1, J1, PP b1) Q)) ∧ (¬ (¬ r1 = 0) → (Q (some (vi 0)) (I1, J1, PP b1)))))) : Tri G h 211 119 119 0 [some (vr 91)] [] (I, J, PP b) Q := wp_at ck211 [(9, [true])] 400 (cIN_go H (fun r1 I1 J1 b1 q2135 => And.intro (fun q2136 => q2135.1 q2136) (fun q2137 => And.intro (show (0 : Int) = 0 ∨ (0 : Int) = 1 by decide) (q2135.2 q2137))))
set_option maxRecDepth 100000 in
theorem x211_9 {G : Ctx} {h : Nat} {Q : MP} {I : Nat → Nat → Int} {J : Nat → Nat → BitVec 64} {b : B3} (hh : 12 ≤ h) (H : (((I 91 13) = 143) → (((¬ (I 91 13) = 143) → (TriM G h 206 119 119 [vr 91] (I, J, PP b) (cVN fun I1 J1 b1 => (TriM G h 212 119 119 [vr 91] (I1, J1, PP b1) (cIN fun r2 I2 J2 b2 => (((¬ r2 = 0) → (TriM G h 209 119 119 [vr 91, vi 14, vi 0] (I2, J2, PP b2) (cVN fun I3 J3 b3 => (Tri G h 211 119 119 9 [some (vr 91)] [] (I3, J3, PP b3) Q)))) ∧ (¬ (¬ r2 = 0) → (Q (some (vi 0)) (I2, J2, PP b2))))))))) ∧ (¬ (¬ (I 91 13) = 143) → (TriM G h 206 119 119 [vr 91] (I, J, PP b) (cVN fun I4 J4 b4 => (TriM G h 212 119 119 [vr 91] (I4, J4, PP b4) (cIN fun r5 I5 J5 b5 => (((¬ r5 = 0) → (TriM G h 209 119 119 [vr 91, vi 13, vi 0] (I5, J5, PP b5) (cVN fun I6 J6 b6 => (Tri G h 211 119 119 9 [some (vr 91)] [] (I6, J6, PP b6) Q)))) ∧ (¬ (¬ r5 = 0) → (Q (some (vi 0)) (I5, J5, PP b5))))))))))) ∧ (¬ ((I 91 13) = 143) → (((¬ (I 91 13) = 145) → (Q (some (vi 1)) (I, J, PP b))) ∧ (¬ (¬ (I 91 13) = 145) → (((¬ (I 91 13) = 143) → (TriM G h 206 119 119 [vr 91] (I, J, PP b) (cVN fun I7 J7 b7 => (TriM G h 212 119 119 [vr 91] (I7, J7, PP b7) (cIN fun r8 I8 J8 b8 => (((¬ r8 = 0) → (TriM G h 209 119 119 [vr 91, vi 14, vi 0] (I8, J8, PP b8) (cVN fun I9 J9 b9 => (Tri G h 211 119 119 9 [some (vr 91)] [] (I9, J9, PP b9) Q)))) ∧ (¬ (¬ r8 = 0) → (Q (some (vi 0)) (I8, J8, PP b8))))))))) ∧ (¬ (¬ (I 91 13) = 143) → (TriM G h 206 119 119 [vr 91] (I, J, PP b) (cVN fun I10 J10 b10 => (TriM G h 212 119 119 [vr 91] (I10, J10, PP b10) (cIN fun r11 I11 J11 b11 => (((¬ r11 = 0) → (TriM G h 209 119 119 [vr 91, vi 13, vi 0] (I11, J11, PP b11) (cVN fun I12 J12 b12 => (Tri G h 211 119 119 9 [some (vr 91)] [] (I12, J12, PP b12) Q)))) ∧ (¬ (¬ r11 = 0) → (Q (some (vi 0)) (I11, J11, PP b11)))))))))))))) : Tri G h 211 119 119 9 [some (vr 91)] [] (I, J, PP b) Q := wp_at ck211 [(9, [true])] 400 (And.intro (fun q2138 => And.intro (fun q2140 => cVN_go ((H.1 q2138).1 q2140) (fun I1 J1 b1 q2142 => cIN_go q2142 (fun r2 I2 J2 b2 q2143 => And.intro (fun q2144 => cVN_go (q2143.1 q2144) (fun I3 J3 b3 q2146 => q2146)) (fun q2145 => And.intro (show (0 : Int) = 0 ∨ (0 : Int) = 1 by decide) (q2143.2 q2145))))) (fun q2141 => cVN_go ((H.1 q2138).2 q2141) (fun I4 J4 b4 q2147 => cIN_go q2147 (fun r5 I5 J5 b5 q2148 => And.intro (fun q2149 => cVN_go (q2148.1 q2149) (fun I6 J6 b6 q2151 => q2151)) (fun q2150 => And.intro (show (0 : Int) = 0 ∨ (0 : Int) = 1 by decide) (q2148.2 q2150)))))) (fun q2139 => And.intro (fun q2152 => And.intro (show (1 : Int) = 0 ∨ (1 : Int) = 1 by decide) ((H.2 q2139).1 q2152)) (fun q2153 => And.intro (fun q2154 => cVN_go (((H.2 q2139).2 q2153).1 q2154) (fun I7 J7 b7 q2156 => cIN_go q2156 (fun r8 I8 J8 b8 q2157 => And.intro (fun q2158 => cVN_go (q2157.1 q2158) (fun I9 J9 b9 q2160 => q2160)) (fun q2159 => And.intro (show (0 : Int) = 0 ∨ (0 : Int) = 1 by decide) (q2157.2 q2159))))) (fun q2155 => cVN_go (((H.2 q2139).2 q2153).2 q2155) (fun I10 J10 b10 q2161 => cIN_go q2161 (fun r11 I11 J11 b11 q2162 => And.intro (fun q2163 => cVN_go (q2162.1 q2163) (fun I12 J12 b12 q2165 => q2165)) (fun q2164 => And.intro (show (0 : Int) = 0 ∨ (0 : Int) = 1 by decide) (q2162.2 q2164))))))))
theorem x211_m {G : Ctx} {h : Nat} {Q : MP} {I : Nat → Nat → Int} {J : Nat → Nat → BitVec 64} {b : B3} (hh : 13 ≤ h) (H : ∀ h, 12 ≤ h → Tri G h 211 119 119 0 [some (vr 91)] [] (I, J, PP b) Q) : TriM G h 211 119 119 [vr 91] (I, J, PP b) Q := TriM_intro (h - 1) (by omega) (by decide) (Nat.le_of_ble_eq_true rfl) (Nat.le_refl _) (Nat.le_refl _) (H (h - 1) (by omega))
set_option maxRecDepth 100000 in
theorem x215 {G : Ctx} {h : Nat} {Q : MP} {I : Nat → Nat → Int} {J : Nat → Nat → BitVec 64} {b : B3} (hh : 1 ≤ h) (H : TriM G h 216 119 119 [vr 91] (I, J, PP b) (cIN fun r1 I1 J1 b1 => (((¬ r1 = 0) → (Tri G h 215 119 119 9 [some (vr 91)] [] (I1, J1, PP b1) Q)) ∧ (¬ (¬ r1 = 0) → (Q (some (vi 0)) (I1, J1, PP b1)))))) : Tri G h 215 119 119 0 [some (vr 91)] [] (I, J, PP b) Q := wp_at ck215 [(9, [true])] 400 (cIN_go H (fun r1 I1 J1 b1 q2166 => And.intro (fun q2167 => q2166.1 q2167) (fun q2168 => And.intro (show (0 : Int) = 0 ∨ (0 : Int) = 1 by decide) (q2166.2 q2168))))
set_option maxRecDepth 100000 in
theorem x215_9 {G : Ctx} {h : Nat} {Q : MP} {I : Nat → Nat → Int} {J : Nat → Nat → BitVec 64} {b : B3} (hh : 10 ≤ h) (H : ((¬ (I 91 13) = 5) → (Q (some (vi 1)) (I, J, PP b))) ∧ (¬ (¬ (I 91 13) = 5) → (TriM G h 206 119 119 [vr 91] (I, J, PP b) (cVN fun I1 J1 b1 => (TriM G h 216 119 119 [vr 91] (I1, J1, PP b1) (cIN fun r2 I2 J2 b2 => (((¬ r2 = 0) → (TriM G h 209 119 119 [vr 91, vi 21, vi 0] (I2, J2, PP b2) (cVN fun I3 J3 b3 => (Tri G h 215 119 119 9 [some (vr 91)] [] (I3, J3, PP b3) Q)))) ∧ (¬ (¬ r2 = 0) → (Q (some (vi 0)) (I2, J2, PP b2)))))))))) : Tri G h 215 119 119 9 [some (vr 91)] [] (I, J, PP b) Q := wp_at ck215 [(9, [true])] 400 (And.intro (fun q2169 => And.intro (show (1 : Int) = 0 ∨ (1 : Int) = 1 by decide) (H.1 q2169)) (fun q2170 => cVN_go (H.2 q2170) (fun I1 J1 b1 q2171 => cIN_go q2171 (fun r2 I2 J2 b2 q2172 => And.intro (fun q2173 => cVN_go (q2172.1 q2173) (fun I3 J3 b3 q2175 => q2175)) (fun q2174 => And.intro (show (0 : Int) = 0 ∨ (0 : Int) = 1 by decide) (q2172.2 q2174))))))
theorem x215_m {G : Ctx} {h : Nat} {Q : MP} {I : Nat → Nat → Int} {J : Nat → Nat → BitVec 64} {b : B3} (hh : 11 ≤ h) (H : ∀ h, 10 ≤ h → Tri G h 215 119 119 0 [some (vr 91)] [] (I, J, PP b) Q) : TriM G h 215 119 119 [vr 91] (I, J, PP b) Q := TriM_intro (h - 1) (by omega) (by decide) (Nat.le_of_ble_eq_true rfl) (Nat.le_refl _) (Nat.le_refl _) (H (h - 1) (by omega))
set_option maxRecDepth 100000 in
theorem x214 {G : Ctx} {h : Nat} {Q : MP} {I : Nat → Nat → Int} {J : Nat → Nat → BitVec 64} {b : B3} (hh : 1 ≤ h) (H : TriM G h 215 119 119 [vr 91] (I, J, PP b) (cIN fun r1 I1 J1 b1 => (((¬ r1 = 0) → (Tri G h 214 119 119 9 [some (vr 91)] [] (I1, J1, PP b1) Q)) ∧ (¬ (¬ r1 = 0) → (Q (some (vi 0)) (I1, J1, PP b1)))))) : Tri G h 214 119 119 0 [some (vr 91)] [] (I, J, PP b) Q := wp_at ck214 [(9, [true])] 400 (cIN_go H (fun r1 I1 J1 b1 q2176 => And.intro (fun q2177 => q2176.1 q2177) (fun q2178 => And.intro (show (0 : Int) = 0 ∨ (0 : Int) = 1 by decide) (q2176.2 q2178))))
set_option maxRecDepth 100000 in
theorem x214_9 {G : Ctx} {h : Nat} {Q : MP} {I : Nat → Nat → Int} {J : Nat → Nat → BitVec 64} {b : B3} (hh : 10 ≤ h) (H : ((¬ (I 91 13) = 4) → (Q (some (vi 1)) (I, J, PP b))) ∧ (¬ (¬ (I 91 13) = 4) → (TriM G h 206 119 119 [vr 91] (I, J, PP b) (cVN fun I1 J1 b1 => (TriM G h 215 119 119 [vr 91] (I1, J1, PP b1) (cIN fun r2 I2 J2 b2 => (((¬ r2 = 0) → (TriM G h 209 119 119 [vr 91, vi 22, vi 0] (I2, J2, PP b2) (cVN fun I3 J3 b3 => (Tri G h 214 119 119 9 [some (vr 91)] [] (I3, J3, PP b3) Q)))) ∧ (¬ (¬ r2 = 0) → (Q (some (vi 0)) (I2, J2, PP b2)))))))))) : Tri G h 214 119 119 9 [some (vr 91)] [] (I, J, PP b) Q := wp_at ck214 [(9, [true])] 400 (And.intro (fun q2179 => And.intro (show (1 : Int) = 0 ∨ (1 : Int) = 1 by decide) (H.1 q2179)) (fun q2180 => cVN_go (H.2 q2180) (fun I1 J1 b1 q2181 => cIN_go q2181 (fun r2 I2 J2 b2 q2182 => And.intro (fun q2183 => cVN_go (q2182.1 q2183) (fun I3 J3 b3 q2185 => q2185)) (fun q2184 => And.intro (show (0 : Int) = 0 ∨ (0 : Int) = 1 by decide) (q2182.2 q2184))))))
theorem x214_m {G : Ctx} {h : Nat} {Q : MP} {I : Nat → Nat → Int} {J : Nat → Nat → BitVec 64} {b : B3} (hh : 11 ≤ h) (H : ∀ h, 10 ≤ h → Tri G h 214 119 119 0 [some (vr 91)] [] (I, J, PP b) Q) : TriM G h 214 119 119 [vr 91] (I, J, PP b) Q := TriM_intro (h - 1) (by omega) (by decide) (Nat.le_of_ble_eq_true rfl) (Nat.le_refl _) (Nat.le_refl _) (H (h - 1) (by omega))
set_option maxRecDepth 100000 in
theorem x216 {G : Ctx} {h : Nat} {Q : MP} {I : Nat → Nat → Int} {J : Nat → Nat → BitVec 64} {b : B3} (hh : 13 ≤ h) (H : ((¬ (I 91 13) = 6) → (((¬ (I 91 13) = 140) → (TriM G h 211 119 119 [vr 91] (I, J, PP b) (cIN fun r1 I1 J1 b1 => (((¬ r1 = 0) → (((¬ (I1 91 13) = 160) → (((¬ (I1 91 13) = 161) → (((¬ (I1 91 13) = 162) → (Q (some (vi 0)) (u2 (u2 I1 91 16 1) 91 17 (I1 91 14), J1, PP b1))) ∧ (¬ (¬ (I1 91 13) = 162) → (TriM G h 206 119 119 [vr 91] (I1, J1, PP b1) (cVN fun I2 J2 b2 => (TriM G h 211 119 119 [vr 91] (I2, J2, PP b2) (cIN fun r3 I3 J3 b3 => (((¬ r3 = 0) → (TriM G h 209 119 119 [vr 91, vi 19, vi 0] (I3, J3, PP b3) (cVN fun I4 J4 b4 => (Q (some (vi 1)) (I4, J4, PP b4))))) ∧ (¬ (¬ r3 = 0) → (Q (some (vi 0)) (I3, J3, PP b3))))))))))) ∧ (¬ (¬ (I1 91 13) = 161) → (TriM G h 206 119 119 [vr 91] (I1, J1, PP b1) (cVN fun I5 J5 b5 => (TriM G h 211 119 119 [vr 91] (I5, J5, PP b5) (cIN fun r6 I6 J6 b6 => (((¬ r6 = 0) → (TriM G h 209 119 119 [vr 91, vi 18, vi 0] (I6, J6, PP b6) (cVN fun I7 J7 b7 => (Q (some (vi 1)) (I7, J7, PP b7))))) ∧ (¬ (¬ r6 = 0) → (Q (some (vi 0)) (I6, J6, PP b6))))))))))) ∧ (¬ (¬ (I1 91 13) = 160) → (TriM G h 206 119 119 [vr 91] (I1, J1, PP b1) (cVN fun I8 J8 b8 => (TriM G h 211 119 119 [vr 91] (I8, J8, PP b8) (cIN fun r9 I9 J9 b9 => (((¬ r9 = 0) → (TriM G h 209 119 119 [vr 91, vi 17, vi 0] (I9, J9, PP b9) (cVN fun I10 J10 b10 => (Q (some (vi 1)) (I10, J10, PP b10))))) ∧ (¬ (¬ r9 = 0) → (Q (some (vi 0)) (I9, J9, PP b9))))))))))) ∧ (¬ (¬ r1 = 0) → (Q (some (vi 0)) (I1, J1, PP b1))))))) ∧ (¬ (¬ (I 91 13) = 140) → (TriM G h 210 119 119 [vr 91] (I, J, PP b) (cIN fun r11 I11 J11 b11 => (((r11 = 0) → (Q (some (vi 0)) (I11, J11, PP b11))) ∧ (¬ (r11 = 0) → (TriM G h 214 119 119 [vr 91] (I11, J11, PP b11) (cIN fun r12 I12 J12 b12 => (((r12 = 0) → (Q (some (vi 0)) (I12, J12, PP b12))) ∧ (¬ (r12 = 0) → (TriM G h 208 119 119 [vr 91, vi 141] (I12, J12, PP b12) (cIN fun r13 I13 J13 b13 => (((¬ r13 = 0) → (Q (some (vi 1)) (u2 I13 91 19 (w32 ((I13 91 19) - 1)), J13, PP b13))) ∧ (¬ (¬ r13 = 0) → (Q (some (vi 0)) (I13, J13, PP b13))))))))))))))))) ∧ (¬ (¬ (I 91 13) = 6) → (TriM G h 210 119 119 [vr 91] (I, J, PP b) (cIN fun r14 I14 J14 b14 => (((r14 = 0) → (Q (some (vi 0)) (I14, J14, PP b14))) ∧ (¬ (r14 = 0) → (TriM G h 216 119 119 [vr 91] (I14, J14, PP b14) (cIN fun r15 I15 J15 b15 => (((¬ r15 = 0) → (TriM G h 209 119 119 [vr 91, vi 20, vi 0] (u2 I15 91 19 (w32 ((I15 91 19) - 1)), J15, PP b15) (cVN fun I16 J16 b16 => (Q (some (vi 1)) (I16, J16, PP b16))))) ∧ (¬ (¬ r15 = 0) → (Q (some (vi 0)) (I15, J15, PP b15)))))))))))) : Tri G h 216 119 119 0 [some (vr 91)] [] (I, J, PP b) Q := wp_at ck216 [] 400 (And.intro (fun q2186 => And.intro (fun q2188 => cIN_go ((H.1 q2186).1 q2188) (fun r1 I1 J1 b1 q2190 => And.intro (fun q2191 => And.intro (fun q2193 => And.intro (fun q2195 => And.intro (fun q2197 => And.intro (fun z => absurd z (show ¬ (¬ ((-1) : Int) = ((-1) : Int)) by decide)) (fun _ => x207_m (by omega) (fun h hh => x207 hh (cI_r (And.intro (show (0 : Int) = 0 ∨ (0 : Int) = 1 by decide) ((((q2190.1 q2191).1 q2193).1 q2195).1 q2197)))))) (fun q2198 => And.intro (fun _ => cVN_go ((((q2190.1 q2191).1 q2193).1 q2195).2 q2198) (fun I2 J2 b2 q2199 => cIN_go q2199 (fun r3 I3 J3 b3 q2200 => And.intro (fun q2201 => cVN_go (q2200.1 q2201) (fun I4 J4 b4 q2203 => And.intro (show (1 : Int) = 0 ∨ (1 : Int) = 1 by decide) q2203)) (fun q2202 => And.intro (show (0 : Int) = 0 ∨ (0 : Int) = 1 by decide) (q2200.2 q2202))))) (fun z => absurd (show ¬ (19 : Int) = ((-1) : Int) by decide) z))) (fun q2196 => And.intro (fun _ => cVN_go (((q2190.1 q2191).1 q2193).2 q2196) (fun I5 J5 b5 q2204 => cIN_go q2204 (fun r6 I6 J6 b6 q2205 => And.intro (fun q2206 => cVN_go (q2205.1 q2206) (fun I7 J7 b7 q2208 => And.intro (show (1 : Int) = 0 ∨ (1 : Int) = 1 by decide) q2208)) (fun q2207 => And.intro (show (0 : Int) = 0 ∨ (0 : Int) = 1 by decide) (q2205.2 q2207))))) (fun z => absurd (show ¬ (18 : Int) = ((-1) : Int) by decide) z))) (fun q2194 => And.intro (fun _ => cVN_go ((q2190.1 q2191).2 q2194) (fun I8 J8 b8 q2209 => cIN_go q2209 (fun r9 I9 J9 b9 q2210 => And.intro (fun q2211 => cVN_go (q2210.1 q2211) (fun I10 J10 b10 q2213 => And.intro (show (1 : Int) = 0 ∨ (1 : Int) = 1 by decide) q2213)) (fun q2212 => And.intro (show (0 : Int) = 0 ∨ (0 : Int) = 1 by decide) (q2210.2 q2212))))) (fun z => absurd (show ¬ (17 : Int) = ((-1) : Int) by decide) z))) (fun q2192 => And.intro (show (0 : Int) = 0 ∨ (0 : Int) = 1 by decide) (q2190.2 q2192)))) (fun q2189 => cIN_go ((H.1 q2186).2 q2189) (fun r11 I11 J11 b11 q2214 => And.intro (fun q2215 => And.intro (show (0 : Int) = 0 ∨ (0 : Int) = 1 by decide) (q2214.1 q2215)) (fun q2216 => cIN_go (q2214.2 q2216) (fun r12 I12 J12 b12 q2217 => And.intro (fun q2218 => And.intro (show (0 : Int) = 0 ∨ (0 : Int) = 1 by decide) (q2217.1 q2218)) (fun q2219 => cIN_go (q2217.2 q2219) (fun r13 I13 J13 b13 q2220 => And.intro (fun q2221 => And.intro (show (1 : Int) = 0 ∨ (1 : Int) = 1 by decide) (q2220.1 q2221)) (fun q2222 => And.intro (show (0 : Int) = 0 ∨ (0 : Int) = 1 by decide) (q2220.2 q2222))))))))) (fun q2187 => cIN_go (H.2 q2187) (fun r14 I14 J14 b14 q2223 => And.intro (fun q2224 => And.intro (show (0 : Int) = 0 ∨ (0 : Int) = 1 by decide) (q2223.1 q2224)) (fun q2225 => cIN_go (q2223.2 q2225) (fun r15 I15 J15 b15 q2226 => And.intro (fun q2227 => cVN_go (q2226.1 q2227) (fun I16 J16 b16 q2229 => And.intro (show (1 : Int) = 0 ∨ (1 : Int) = 1 by decide) q2229)) (fun q2228 => And.intro (show (0 : Int) = 0 ∨ (0 : Int) = 1 by decide) (q2226.2 q2228)))))))
theorem x216_m {G : Ctx} {h : Nat} {Q : MP} {I : Nat → Nat → Int} {J : Nat → Nat → BitVec 64} {b : B3} (hh : 14 ≤ h) (H : ∀ h, 13 ≤ h → Tri G h 216 119 119 0 [some (vr 91)] [] (I, J, PP b) Q) : TriM G h 216 119 119 [vr 91] (I, J, PP b) Q := TriM_intro (h - 1) (by omega) (by decide) (Nat.le_of_ble_eq_true rfl) (Nat.le_refl _) (Nat.le_refl _) (H (h - 1) (by omega))
set_option maxRecDepth 100000 in
theorem x217 {G : Ctx} {h : Nat} {Q : MP} {I : Nat → Nat → Int} {J : Nat → Nat → BitVec 64} {b : B3} (hh : 11 ≤ h) (H : ((2 ≤ (I 91 8)) → ((((w32 (20 + 1)) ≤ (I 91 13) ∧ (I 91 13) ≤ (w32 (20 + 2))) → (((¬ (I 91 9) = 16) → ((0 ≤ (w32 (3 * (I 91 9))) ∧ (w32 (3 * (I 91 9))) < (48 : Int)) ∧ (TriM G h 206 119 119 [vr 91] (u2 (u2 I 94 ((w32 (3 * (I 91 9))).toNat) (w32 ((I 91 13) - 20))) 91 19 0, J, PP b) (cVN fun I1 J1 b1 => ((0 ≤ (w32 ((w32 (3 * (I1 91 9))) + 1)) ∧ (w32 ((w32 (3 * (I1 91 9))) + 1)) < (48 : Int)) ∧ (TriM G h 208 119 119 [vr 91, vi 3] (u2 I1 94 ((w32 ((w32 (3 * (I1 91 9))) + 1)).toNat) (I1 91 10), J1, PP b1) (cIN fun r2 I2 J2 b2 => (((r2 = 0) → (Q (some (vi 0)) (I2, J2, PP b2))) ∧ (¬ (r2 = 0) → (TriM G h 214 119 119 [vr 91] (I2, J2, PP b2) (cIN fun r3 I3 J3 b3 => (((¬ r3 = 0) → ((0 ≤ (w32 ((w32 (3 * (I3 91 9))) + 2)) ∧ (w32 ((w32 (3 * (I3 91 9))) + 2)) < (48 : Int)) ∧ (TriM G h 208 119 119 [vr 91, vi 159] (u2 I3 94 ((w32 ((w32 (3 * (I3 91 9))) + 2)).toNat) (I3 91 10), J3, PP b3) (cIN fun r4 I4 J4 b4 => ((r4 = 0 ∨ r4 = 1) ∧ Q (some (vi r4)) (I4, J4, PP b4)))))) ∧ (¬ (¬ r3 = 0) → (Q (some (vi 0)) (I3, J3, PP b3))))))))))))))) ∧ (¬ (¬ (I 91 9) = 16) → (Q (some (vi 0)) (u2 (u2 I 91 16 3) 91 17 (I 91 14), J, PP b))))) ∧ (¬ ((w32 (20 + 1)) ≤ (I 91 13) ∧ (I 91 13) ≤ (w32 (20 + 2))) → (Q (some (vi 0)) (u2 (u2 I 91 16 1) 91 17 (I 91 14), J, PP b))))) ∧ (¬ (2 ≤ (I 91 8)) → ((((w32 (20 + 0)) ≤ (I 91 13) ∧ (I 91 13) ≤ (w32 (20 + 0))) → (((¬ (I 91 9) = 16) → ((0 ≤ (w32 (3 * (I 91 9))) ∧ (w32 (3 * (I 91 9))) < (48 : Int)) ∧ (TriM G h 206 119 119 [vr 91] (u2 (u2 I 94 ((w32 (3 * (I 91 9))).toNat) (w32 ((I 91 13) - 20))) 91 19 0, J, PP b) (cVN fun I5 J5 b5 => ((0 ≤ (w32 ((w32 (3 * (I5 91 9))) + 1)) ∧ (w32 ((w32 (3 * (I5 91 9))) + 1)) < (48 : Int)) ∧ (TriM G h 208 119 119 [vr 91, vi 3] (u2 I5 94 ((w32 ((w32 (3 * (I5 91 9))) + 1)).toNat) (I5 91 10), J5, PP b5) (cIN fun r6 I6 J6 b6 => (((r6 = 0) → (Q (some (vi 0)) (I6, J6, PP b6))) ∧ (¬ (r6 = 0) → (TriM G h 214 119 119 [vr 91] (I6, J6, PP b6) (cIN fun r7 I7 J7 b7 => (((¬ r7 = 0) → ((0 ≤ (w32 ((w32 (3 * (I7 91 9))) + 2)) ∧ (w32 ((w32 (3 * (I7 91 9))) + 2)) < (48 : Int)) ∧ (TriM G h 208 119 119 [vr 91, vi 159] (u2 I7 94 ((w32 ((w32 (3 * (I7 91 9))) + 2)).toNat) (I7 91 10), J7, PP b7) (cIN fun r8 I8 J8 b8 => ((r8 = 0 ∨ r8 = 1) ∧ Q (some (vi r8)) (I8, J8, PP b8)))))) ∧ (¬ (¬ r7 = 0) → (Q (some (vi 0)) (I7, J7, PP b7))))))))))))))) ∧ (¬ (¬ (I 91 9) = 16) → (Q (some (vi 0)) (u2 (u2 I 91 16 3) 91 17 (I 91 14), J, PP b))))) ∧ (¬ ((w32 (20 + 0)) ≤ (I 91 13) ∧ (I 91 13) ≤ (w32 (20 + 0))) → (Q (some (vi 0)) (u2 (u2 I 91 16 1) 91 17 (I 91 14), J, PP b)))))) : Tri G h 217 119 119 0 [some (vr 91)] [] (I, J, PP b) Q := wp_at ck217 [] 400 (And.intro (fun q2230 => And.intro (fun _ => And.intro (fun _ => sx181 (by omega)  (fun q2232 => And.intro (fun _ => And.intro (fun q2234 => And.intro (((H.1 q2230).1 q2232).1 q2234).1 (cVN_go ((((H.1 q2230).1 q2232).1 q2234).2) (fun I1 J1 b1 q2236 => And.intro q2236.1 (cIN_go q2236.2 (fun r2 I2 J2 b2 q2237 => And.intro (fun q2238 => And.intro (show (0 : Int) = 0 ∨ (0 : Int) = 1 by decide) (q2237.1 q2238)) (fun q2239 => cIN_go (q2237.2 q2239) (fun r3 I3 J3 b3 q2240 => And.intro (fun q2241 => And.intro (q2240.1 q2241).1 (cIN_go ((q2240.1 q2241).2) (fun r4 I4 J4 b4 q2243 => q2243))) (fun q2242 => And.intro (show (0 : Int) = 0 ∨ (0 : Int) = 1 by decide) (q2240.2 q2242))))))))) (fun q2235 => x207_m (by omega) (fun h hh => x207 hh (cI_r (And.intro (show (0 : Int) = 0 ∨ (0 : Int) = 1 by decide) (((H.1 q2230).1 q2232).2 q2235)))))) (fun z => absurd (show ¬ (1 : Int) = (0 : Int) by decide) z)) (fun q2233 => And.intro (fun z => absurd z (show ¬ (¬ (0 : Int) = (0 : Int)) by decide)) (fun _ => x207_m (by omega) (fun h hh => x207 hh (cI_r (And.intro (show (0 : Int) = 0 ∨ (0 : Int) = 1 by decide) ((H.1 q2230).2 q2233))))))) (fun z => absurd (show (0 : Int) = (0 : Int) by decide) z)) (fun z => absurd (show (0 : Int) = (0 : Int) by decide) z)) (fun q2231 => And.intro (fun z => absurd z (show ¬ ((1 : Int) = (0 : Int)) by decide)) (fun _ => And.intro (fun z => absurd z (show ¬ ((1 : Int) = (0 : Int)) by decide)) (fun _ => sx181 (by omega)  (fun q2244 => And.intro (fun _ => And.intro (fun q2246 => And.intro (((H.2 q2231).1 q2244).1 q2246).1 (cVN_go ((((H.2 q2231).1 q2244).1 q2246).2) (fun I5 J5 b5 q2248 => And.intro q2248.1 (cIN_go q2248.2 (fun r6 I6 J6 b6 q2249 => And.intro (fun q2250 => And.intro (show (0 : Int) = 0 ∨ (0 : Int) = 1 by decide) (q2249.1 q2250)) (fun q2251 => cIN_go (q2249.2 q2251) (fun r7 I7 J7 b7 q2252 => And.intro (fun q2253 => And.intro (q2252.1 q2253).1 (cIN_go ((q2252.1 q2253).2) (fun r8 I8 J8 b8 q2255 => q2255))) (fun q2254 => And.intro (show (0 : Int) = 0 ∨ (0 : Int) = 1 by decide) (q2252.2 q2254))))))))) (fun q2247 => x207_m (by omega) (fun h hh => x207 hh (cI_r (And.intro (show (0 : Int) = 0 ∨ (0 : Int) = 1 by decide) (((H.2 q2231).1 q2244).2 q2247)))))) (fun z => absurd (show ¬ (1 : Int) = (0 : Int) by decide) z)) (fun q2245 => And.intro (fun z => absurd z (show ¬ (¬ (0 : Int) = (0 : Int)) by decide)) (fun _ => x207_m (by omega) (fun h hh => x207 hh (cI_r (And.intro (show (0 : Int) = 0 ∨ (0 : Int) = 1 by decide) ((H.2 q2231).2 q2245))))))))))
theorem x217_m {G : Ctx} {h : Nat} {Q : MP} {I : Nat → Nat → Int} {J : Nat → Nat → BitVec 64} {b : B3} (hh : 12 ≤ h) (H : ∀ h, 11 ≤ h → Tri G h 217 119 119 0 [some (vr 91)] [] (I, J, PP b) Q) : TriM G h 217 119 119 [vr 91] (I, J, PP b) Q := TriM_intro (h - 1) (by omega) (by decide) (Nat.le_of_ble_eq_true rfl) (Nat.le_refl _) (Nat.le_refl _) (H (h - 1) (by omega))
/-! what a method of the reference leaves -/
def XM (I I2 : MI) (st : Nat) (s : List Stp1) : Prop := frK [91, 95] I I2 ∧ I2 91 10 = ((st + s.length : Nat) : Int) ∧ hasSt (I2 95) (2 * st) s ∧ (∀ j, j < 2 * st → I2 95 j = I 95 j) ∧ ∀ j, j ∉ [10, 12, 13, 14, 15] → I2 91 j = I 91 j
def FM (I I2 : MI) (e : Int × Nat) : Prop := frK [91, 95] I I2 ∧ I2 91 16 = e.1 ∧ I2 91 17 = (e.2 : Int) ∧ ∀ j, j ∉ [10, 12, 13, 14, 15, 16, 17, 19] → I2 91 j = I 91 j
theorem XM.t {I I1 I2 : MI} {st : Nat} {s1 s2 : List Stp1} (h1 : XM I I1 st s1) (h2 : XM I1 I2 (st + s1.length) s2) : XM I I2 st (s1 ++ s2) := by
  obtain ⟨f1, b1, c1, d1, e1⟩ := h1
  obtain ⟨f2, b2, c2, d2, e2⟩ := h2
  refine ⟨f1.t f2, ?_, fun i q hq => ?_, fun j hj => ?_, fun j hj => by rw [e2 j hj, e1 j hj]⟩
  · rw [b2, List.length_append]
    omega
  · by_cases hi : i < s1.length
    · rw [List.getElem?_append_left hi] at hq
      rw [d2 _ (by omega), d2 _ (by omega)]
      exact c1 i q hq
    · rw [List.getElem?_append_right (by omega)] at hq
      have := c2 (i - s1.length) q hq
      rw [show 2 * (st + s1.length) + 2 * (i - s1.length) = 2 * st + 2 * i by omega] at this
      exact this
  · rw [d2 j (by omega), d1 j hj]
theorem XM.f {I I1 I2 : MI} {st : Nat} {s1 : List Stp1} {e : Int × Nat} (h1 : XM I I1 st s1) (h2 : FM I1 I2 e) : FM I I2 e := by
  refine ⟨h1.1.t h2.1, h2.2.1, h2.2.2.1, fun j hj => ?_⟩
  rw [h2.2.2.2 j hj, h1.2.2.2.2 j (fun z => hj (by revert z; simp; omega))]
theorem NX.x {I I2 : MI} {st : Nat} (h : NX I I2) (h10 : I 91 10 = (st : Int)) : XM I I2 st [] := ⟨h.1.mo (by decide), by rw [h.2 10 (by decide)]; exact h10, fun i q hq => by simp at hq, fun j _ => by rw [h.1 95 (by decide)], fun j hj => h.2 j (fun z => hj (by revert z; simp; omega))⟩
theorem MX.x {f : Nat → Int} {n : Nat} {home : Bool} {I I2 : MI} (h : MX f n home I) (hf : frK [91, 95] I I2) (h8 : I2 91 8 = I 91 8) (h11 : I2 91 11 = I 91 11) : MX f n home I2 := by
  obtain ⟨a1, a2, a3, a4, a5, a6⟩ := h
  exact ⟨by rw [hf 96 (by decide)]; exact a1, by rw [h11]; exact a2, a3, a4, by rw [h8]; exact a5, by rw [h8]; exact a6⟩
theorem XM.m {f : Nat → Int} {n : Nat} {home : Bool} {I I2 : MI} {st : Nat} {s : List Stp1} (hx : XM I I2 st s) (h : MX f n home I) : MX f n home I2 := h.x hx.1 (hx.2.2.2.2 8 (by decide)) (hx.2.2.2.2 11 (by decide))
theorem RS.k {f : Nat → Int} {n : Nat} {home : Bool} {I I2 : MI} {ts : List Tok} (h : RS f n home I ts) (hk : ∀ j, 12 ≤ j → j ≤ 15 → I2 91 j = I 91 j) : RS f n home I2 ts := by
  obtain ⟨a1, a2, a3, p, a4, a5, a6⟩ := h
  exact ⟨by rw [hk 13 (by omega) (by omega)]; exact a1, by rw [hk 14 (by omega) (by omega)]; exact a2, fun z => by rw [hk 15 (by omega) (by omega)]; exact a3 z, p, a4, by rw [hk 12 (by omega) (by omega)]; exact a5, a6⟩
theorem FM.bad {f : Nat → Int} {n : Nat} {home : Bool} {I : MI} {ts : List Tok} {k : Int} (hR : RS f n home I ts) : FM I (u2 (u2 I 91 16 k) 91 17 (I 91 14)) (k, (hdT ts).2.1) := by
  refine ⟨(frK.r.u (by decide)).u (by decide), ?_, ?_, fun j hj => ?_⟩
  · rw [u2j (by decide), u2e]
  · rw [u2e]
    exact hR.2.1
  · rw [u2j (fun z => hj (by rw [z]; decide)), u2j (fun z => hj (by rw [z]; decide))]
theorem VT.ln {home : Bool} {ts : List Tok} (h : VT home ts) : ts.length = ts.tail.length + 1 := by
  have := h.c.1
  rw [this]
  rfl
section PARSM
variable {G : Ctx} {h : Nat} {I : MI} {J : MJ} {b : B3} {f : Nat → Int} {n : Nat} {home : Bool} {ts : List Tok} {st : Nat}
theorem nxW {K : MI → MJ → B3 → Prop} (hh : 10 ≤ h) (hM : MX f n home I) (hR : RS f n home I ts) (hk : (hdT ts).1 ≠ 21) (k : ∀ I2, NX I I2 → RS f n home I2 ts.tail → K I2 J b) : TriM G h 206 119 119 [vr 91] (I, J, PP b) (cVN K) := by
  obtain ⟨a1, a2, a3, p, a4, a5, a6⟩ := hR
  exact s206 hh hM a4 a5 (fun I2 h1 h2 => k I2 h1 (by rw [a6 hk]; exact h2))
theorem s209 {K : MI → MJ → B3 → Prop} {x y : Int} (hh : 1 ≤ h) (h10 : I 91 10 = (st : Int)) (hst : st ≤ 405) (k : ∀ I2, XM I I2 st [(x, y)] → (∀ j, j ≠ 10 → I2 91 j = I 91 j) → K I2 J b) : TriM G h 209 119 119 [vr 91, vi x, vi y] (I, J, PP b) (cVN K) := by
  refine x209_m hh (fun h hh => x209 (by omega) ?_)
  rw [h10, w32_id (x := 2 * (st : Int)) (by omega) (by omega), w32_id (x := 2 * (st : Int) + 1) (by omega) (by omega), w32_id (x := (st : Int) + 1) (by omega) (by omega), show (2 * (st : Int)).toNat = 2 * st by omega, show (2 * (st : Int) + 1).toNat = 2 * st + 1 by omega]
  refine ⟨by omega, by omega, cVN_r (k _ ⟨((frK.r.u (by decide)).u (by decide)).u (by decide), ?_, fun i q hq => ?_, fun j hj => ?_, fun j hj => ?_⟩ (fun j hj => ?_))⟩
  · rw [u2e]
    rfl
  · cases i with
    | zero =>
      simp only [List.getElem?_cons_zero, Option.some.injEq] at hq
      rw [u2_ne (by decide), ← hq]
      refine ⟨?_, fun _ => u2e⟩
      rw [show 2 * st + 2 * 0 = 2 * st by omega, u2j (by omega), u2e]
    | succ i => simp at hq
  · rw [u2_ne (by decide), u2j (by omega), u2j (by omega)]
  · rw [u2j (fun z => hj (by rw [z]; decide)), u2_ne (by decide), u2_ne (by decide)]
  · rw [u2j hj, u2_ne (by decide), u2_ne (by decide)]
/-- a step laid, the words as they are -/
theorem s209r {K : MI → MJ → B3 → Prop} {x y : Int} {r : List Tok} (hh : 1 ≤ h) (h10 : I 91 10 = (st : Int)) (hst : st ≤ 405) (hR : RS f n home I r) (k : ∀ I2, XM I I2 st [(x, y)] → RS f n home I2 r → K I2 J b) : TriM G h 209 119 119 [vr 91, vi x, vi y] (I, J, PP b) (cVN K) := s209 hh h10 hst (fun I2 h1 h2 => k I2 h1 (hR.k (fun j j1 j2 => h2 j (by omega))))
theorem s213 {K : Int → MI → MJ → B3 → Prop} (hh : 12 ≤ h) (hM : MX f n home I) (hR : RS f n home I ts) (hV : VT home ts) (h10 : I 91 10 = (st : Int)) (hB : st + ts.length ≤ 401) (kF : ∀ e I2, unP home ts = Sum.inl e → FM I I2 e → K 0 I2 J b) (kS : ∀ s r I2, unP home ts = Sum.inr (s, r) → XM I I2 st s → RS f n home I2 r → VT home r → s.length + r.length ≤ ts.length → K 1 I2 J b) : TriM G h 213 119 119 [vr 91] (I, J, PP b) (cIN K) := by
  have ho := hV.c.2.1
  have hln := hV.ln
  unfold unP at kF kS
  refine TriM_intro (h - 1) (by omega) (by decide) (Nat.le_of_ble_eq_true rfl) (Nat.le_refl _) (Nat.le_refl _) (x213 (by omega) ?_)
  rw [hR.1, (tm_nm ho.1).1, tm_2 ho.1]
  have fin : ∀ (x : Int), (hdT ts).1 ≠ 21 → (hdT ts).1 = 20 ∨ (x ≠ 0 ∧ x ≠ 16) → (∀ (v : Int) I2, ((hdT ts).1 = 20 → v = (hdT ts).2.2) → XM I I2 st [(x, v)] → RS f n home I2 ts.tail → VT home ts.tail → K 1 I2 J b) → TriM G (h - 1) 209 119 119 [vr 91, vi x, vi (I 91 15)] (I, J, PP b) (cVN fun I5 J5 b5 => (TriM G (h - 1) 206 119 119 [vr 91] (I5, J5, PP b5) (cVN fun I6 J6 b6 => (cIN K (some (vi 1)) (I6, J6, PP b6))))) := by
    intro x h21 _ kk
    refine s209r (by omega) h10 (by omega) hR fun I2 hx hr => nxW (by omega) (hx.m hM) hr h21 fun I3 hn hr3 => cIN_r fun _ => kk (I 91 15) I3 (fun z => hR.2.2.1 z) ?_ hr3 (hV.tk h21).2
    have := hx.t (hn.x (st := st + 1) hx.2.1)
    rw [List.append_nil] at this
    exact this
  refine ⟨fun q1 => ⟨fun q2 => by omega, fun q2 => ?_⟩, fun q1 => ⟨fun q2 => ?_, fun q2 => ?_⟩⟩
  · have ev : w32 (tkM home (hdT ts).1 - 40) = if home = true then (hdT ts).1 + 2 else (hdT ts).1 - 5 := by
      rw [(tm_nm ho.1).2 q1.1 q1.2]
      split
      · rw [w32_id (by omega) (by omega)]
        omega
      · rw [w32_id (by omega) (by omega)]
        omega
    rw [ev]
    refine fin _ (by omega) (Or.inr ?_) (fun v I2 _ hx hr hv => kS [(_, 0)] ts.tail I2 (by rw [if_neg q2, if_pos q1]) ?_ hr hv (by simp only [List.length_cons, List.length_nil]; omega))
    · have h1 := ho.1
      unfold okK at h1
      cases home <;> simp only [reduceCtorEq, Bool.false_eq_true, if_true, if_false, false_and, false_or, or_false, true_and] at h1 ⊢ <;> omega
    · refine ⟨hx.1, hx.2.1, fun i q hq => ?_, hx.2.2.2⟩
      cases i with
      | zero =>
        simp only [List.getElem?_cons_zero, Option.some.injEq] at hq
        have := hx.2.2.1 0 _ rfl
        rw [← hq]
        refine ⟨this.1, fun z => ?_⟩
        exfalso
        have h1 := ho.1
        unfold okK at h1
        dsimp only at z
        cases home <;> simp only [reduceCtorEq, Bool.false_eq_true, if_true, if_false, false_and, false_or, or_false, true_and] at h1 z <;> omega
      | succ i => simp at hq
  · refine fin 0 (by omega) (Or.inl q2) (fun v I2 hv1 hx hr hv => kS [(0, (hdT ts).2.2)] ts.tail I2 (by rw [if_pos q2]) ?_ hr hv (by simp only [List.length_cons, List.length_nil]; omega))
    rw [← hv1 q2]
    exact hx
  · exact cIN_r fun _ => kF _ _ (by rw [if_neg q2, if_neg q1]; rfl) (FM.bad hR)
theorem s212_l {Q : MP} (hh : 12 ≤ h) : ∀ (g st : Nat) (ts : List Tok) (I' : MI), ts.length ≤ g → MX f n home I' → RS f n home I' ts → VT home ts → I' 91 10 = (st : Int) → st + ts.length ≤ 401 → (∀ e I2, prL home g ts = Sum.inl e → FM I' I2 e → Q (some (vi 0)) (I2, J, PP b)) → (∀ s r I2, prL home g ts = Sum.inr (s, r) → XM I' I2 st s → RS f n home I2 r → VT home r → s.length + r.length ≤ ts.length → Q (some (vi 1)) (I2, J, PP b)) → Tri G h 212 119 119 9 [some (vr 91)] [] (I', J, PP b) Q := by
  intro g
  induction g with
  | zero =>
    intro st ts I' hg hM hR hV
    have := hV.ln
    omega
  | succ g ih =>
    intro st ts I' hg hM hR hV h10 hB kF kS
    have ho := hV.c.2.1
    have hln := hV.ln
    have ep : prL home (g + 1) ts = (if (hdT ts).1 = 42 then bnd (unP home ts.tail) (fun s r => pre (s ++ [(15, 0)]) (prL home g r)) else if (hdT ts).1 = 47 then (if (hdT ts.tail).1 ≠ 20 then badP 1 ts.tail else if (hdT ts.tail).2.2 = 0 then badP 2 ts.tail else pre [(16, (hdT ts.tail).2.2)] (prL home g ts.tail.tail)) else Sum.inr ([], ts)) := rfl
    rw [ep] at kF kS
    refine x212_9 (by omega) ?_
    rw [hR.1, tm_142 ho.1, tm_147 ho.1]
    have star : (hdT ts).1 = 42 → TriM G h 206 119 119 [vr 91] (I', J, PP b) (cVN fun I1 J1 b1 => (TriM G h 213 119 119 [vr 91] (I1, J1, PP b1) (cIN fun r2 I2 J2 b2 => (((¬ r2 = 0) → (TriM G h 209 119 119 [vr 91, vi 15, vi 0] (I2, J2, PP b2) (cVN fun I3 J3 b3 => (Tri G h 212 119 119 9 [some (vr 91)] [] (I3, J3, PP b3) Q)))) ∧ (¬ (¬ r2 = 0) → (Q (some (vi 0)) (I2, J2, PP b2))))))) := by
      intro hc
      rw [if_pos hc] at kF kS
      have hvt := (hV.tk (by omega)).2
      refine nxW (by omega) hM hR (by omega) fun I1 hn1 hr1 => ?_
      have hx1 := hn1.x h10
      refine s213 (st := st) (by omega) (hx1.m hM) hr1 hvt hx1.2.1 (by omega) (fun e I2 he hF => ⟨fun z => absurd rfl z, fun _ => kF e I2 (bnd_l he) (hx1.f hF)⟩) (fun s r I2 he hx2 hr2 hv2 hlen => ⟨fun _ => ?_, fun z => absurd (by decide) z⟩)
      refine s209r (by omega) hx2.2.1 (by omega) hr2 fun I3 hx3 hr3 => ?_
      have hx13 := hx1.t (hx2.t hx3)
      refine ih (st + s.length + 1) r I3 (by omega) (hx13.m hM) hr3 hv2 hx3.2.1 (by omega) (fun e I4 he4 hF => kF e I4 ?_ (hx13.f hF)) (fun s4 r4 I4 he4 hx4 hr4 hv4 hl4 => kS ((s ++ [(15, 0)]) ++ s4) r4 I4 ?_ ?_ hr4 hv4 ?_)
      · rw [bnd_r he]
        exact bnd_l he4
      · rw [bnd_r he]
        exact bnd_r he4
      · rw [List.append_assoc]
        exact hx1.t (hx2.t (hx3.t hx4))
      · simp only [List.length_append, List.length_cons, List.length_nil]
        omega
    have part : (hdT ts).1 = 47 → TriM G h 206 119 119 [vr 91] (I', J, PP b) (cVN fun I4 J4 b4 => ((((I4 91 13) = 2) → (((¬ (I4 91 15) = 0) → (TriM G h 206 119 119 [vr 91] (I4, J4, PP b4) (cVN fun I5 J5 b5 => (TriM G h 209 119 119 [vr 91, vi 16, vi (I4 91 15)] (I5, J5, PP b5) (cVN fun I6 J6 b6 => (Tri G h 212 119 119 9 [some (vr 91)] [] (I6, J6, PP b6) Q)))))) ∧ (¬ (¬ (I4 91 15) = 0) → (Q (some (vi 0)) (u2 (u2 I4 91 16 2) 91 17 (I4 91 14), J4, PP b4))))) ∧ (¬ ((I4 91 13) = 2) → (Q (some (vi 0)) (u2 (u2 I4 91 16 1) 91 17 (I4 91 14), J4, PP b4))))) := by
      intro hc
      rw [if_neg (by omega), if_pos hc] at kF kS
      have hvt := (hV.tk (by omega)).2
      have ho1 := hvt.c.2.1
      have hln1 := hvt.ln
      refine nxW (by omega) hM hR (by omega) fun I1 hn1 hr1 => ?_
      have hx1 := hn1.x h10
      rw [hr1.1, tm_2 ho1.1]
      refine ⟨fun q1 => ⟨fun q2 => ?_, fun q2 => ?_⟩, fun q1 => ?_⟩
      · rw [hr1.2.2.1 q1] at q2 ⊢
        rw [if_neg (by omega), if_neg q2] at kF kS
        have hvt2 := (hvt.tk (by omega)).2
        refine nxW (by omega) (hx1.m hM) hr1 (by omega) fun I2 hn2 hr2 => ?_
        have hx2 := hn2.x (st := st) hx1.2.1
        refine s209r (st := st) (by omega) hx2.2.1 (by omega) hr2 fun I3 hx3 hr3 => ?_
        have hx13 := hx1.t (hx2.t hx3)
        refine ih (st + 1) ts.tail.tail I3 (by omega) (hx13.m hM) hr3 hvt2 hx3.2.1 (by omega) (fun e I4 he4 hF => kF e I4 (bnd_l he4) (hx13.f hF)) (fun s4 r4 I4 he4 hx4 hr4 hv4 hl4 => kS ([(16, (hdT ts.tail).2.2)] ++ s4) r4 I4 (bnd_r he4) (hx1.t (hx2.t (hx3.t hx4))) hr4 hv4 ?_)
        simp only [List.length_append, List.length_cons, List.length_nil]
        omega
      · rw [hr1.2.2.1 q1] at q2
        rw [if_neg (by omega), if_pos (Decidable.of_not_not q2)] at kF
        exact kF _ _ rfl (hx1.f (FM.bad hr1))
      · rw [if_pos q1] at kF
        exact kF _ _ rfl (hx1.f (FM.bad hr1))
    refine ⟨fun q1 => ⟨fun _ => star q1, fun q2 => by omega⟩, fun q1 => ⟨fun q2 => ?_, fun q2 => ⟨fun q3 => absurd q3 q2, fun _ => part (Decidable.of_not_not q2)⟩⟩⟩
    exact kS [] ts I' (by rw [if_neg q1, if_neg q2]) (NX.r.x h10) hR hV (by simp)
theorem s212 {K : Int → MI → MJ → B3 → Prop} (hh : 13 ≤ h) (hM : MX f n home I) (hR : RS f n home I ts) (hV : VT home ts) (h10 : I 91 10 = (st : Int)) (hB : st + ts.length ≤ 401) (kF : ∀ e I2, prP home ts = Sum.inl e → FM I I2 e → K 0 I2 J b) (kS : ∀ s r I2, prP home ts = Sum.inr (s, r) → XM I I2 st s → RS f n home I2 r → VT home r → s.length + r.length ≤ ts.length → K 1 I2 J b) : TriM G h 212 119 119 [vr 91] (I, J, PP b) (cIN K) := by
  refine TriM_intro (h - 1) (by omega) (by decide) (Nat.le_of_ble_eq_true rfl) (Nat.le_refl _) (Nat.le_refl _) (x212 (by omega) (s213 (by omega) hM hR hV h10 hB (fun e I2 he hF => ⟨fun z => absurd rfl z, fun _ => cIN_r fun _ => kF e I2 (bnd_l he) hF⟩) (fun s r I2 he hx hr hv hl => ⟨fun _ => ?_, fun z => absurd (by decide) z⟩)))
  refine s212_l (by omega) 401 (st + s.length) r I2 (by omega) (hx.m hM) hr hv hx.2.1 (by omega) (fun e I3 he3 hF => cIN_r fun _ => kF e I3 ?_ (hx.f hF)) (fun s3 r3 I3 he3 hx3 hr3 hv3 hl3 => cIN_r fun _ => kS (s ++ s3) r3 I3 ?_ (hx.t hx3) hr3 hv3 ?_)
  · unfold prP
    rw [bnd_r he]
    exact bnd_l he3
  · unfold prP
    rw [bnd_r he]
    exact bnd_r he3
  · rw [List.length_append]
    omega
theorem s211_l {Q : MP} (hh : 13 ≤ h) : ∀ (g st : Nat) (ts : List Tok) (I' : MI), ts.length ≤ g → MX f n home I' → RS f n home I' ts → VT home ts → I' 91 10 = (st : Int) → st + ts.length ≤ 401 → (∀ e I2, suL home g ts = Sum.inl e → FM I' I2 e → Q (some (vi 0)) (I2, J, PP b)) → (∀ s r I2, suL home g ts = Sum.inr (s, r) → XM I' I2 st s → RS f n home I2 r → VT home r → s.length + r.length ≤ ts.length → Q (some (vi 1)) (I2, J, PP b)) → Tri G h 211 119 119 9 [some (vr 91)] [] (I', J, PP b) Q := by
  intro g
  induction g with
  | zero =>
    intro st ts I' hg hM hR hV
    have := hV.ln
    omega
  | succ g ih =>
    intro st ts I' hg hM hR hV h10 hB kF kS
    have ho := hV.c.2.1
    have hln := hV.ln
    have ep : suL home (g + 1) ts = (if (hdT ts).1 = 43 ∨ (hdT ts).1 = 45 then bnd (prP home ts.tail) (fun s r => pre (s ++ [(if (hdT ts).1 = 43 then 13 else 14, 0)]) (suL home g r)) else Sum.inr ([], ts)) := rfl
    rw [ep] at kF kS
    refine x211_9 (by omega) ?_
    rw [hR.1, tm_143 ho.1, tm_145 ho.1]
    have go : ∀ w : Int, (hdT ts).1 = 43 ∨ (hdT ts).1 = 45 → (if (hdT ts).1 = 43 then (13 : Int) else 14) = w → TriM G h 206 119 119 [vr 91] (I', J, PP b) (cVN fun I1 J1 b1 => (TriM G h 212 119 119 [vr 91] (I1, J1, PP b1) (cIN fun r2 I2 J2 b2 => (((¬ r2 = 0) → (TriM G h 209 119 119 [vr 91, vi w, vi 0] (I2, J2, PP b2) (cVN fun I3 J3 b3 => (Tri G h 211 119 119 9 [some (vr 91)] [] (I3, J3, PP b3) Q)))) ∧ (¬ (¬ r2 = 0) → (Q (some (vi 0)) (I2, J2, PP b2))))))) := by
      intro w hc hw
      rw [if_pos hc, hw] at kF kS
      have hvt := (hV.tk (by omega)).2
      refine nxW (by omega) hM hR (by omega) fun I1 hn1 hr1 => ?_
      have hx1 := hn1.x h10
      refine s212 (st := st) (by omega) (hx1.m hM) hr1 hvt hx1.2.1 (by omega) (fun e I2 he hF => ⟨fun z => absurd rfl z, fun _ => kF e I2 (bnd_l he) (hx1.f hF)⟩) (fun s r I2 he hx2 hr2 hv2 hlen => ⟨fun _ => ?_, fun z => absurd (by decide) z⟩)
      refine s209r (by omega) hx2.2.1 (by omega) hr2 fun I3 hx3 hr3 => ?_
      have hx13 := hx1.t (hx2.t hx3)
      refine ih (st + s.length + 1) r I3 (by omega) (hx13.m hM) hr3 hv2 hx3.2.1 (by omega) (fun e I4 he4 hF => kF e I4 ?_ (hx13.f hF)) (fun s4 r4 I4 he4 hx4 hr4 hv4 hl4 => kS ((s ++ [(w, 0)]) ++ s4) r4 I4 ?_ ?_ hr4 hv4 ?_)
      · rw [bnd_r he]
        exact bnd_l he4
      · rw [bnd_r he]
        exact bnd_r he4
      · rw [List.append_assoc]
        exact hx1.t (hx2.t (hx3.t hx4))
      · simp only [List.length_append, List.length_cons, List.length_nil]
        omega
    refine ⟨fun q1 => ⟨fun q2 => absurd q1 q2, fun _ => go 13 (Or.inl q1) (if_pos q1)⟩, fun q1 => ⟨fun q2 => ?_, fun q2 => ⟨fun _ => go 14 (Or.inr (Decidable.of_not_not q2)) (if_neg q1), fun q3 => absurd q1 q3⟩⟩⟩
    exact kS [] ts I' (by rw [if_neg (by omega)]) (NX.r.x h10) hR hV (by simp)
theorem s211 {K : Int → MI → MJ → B3 → Prop} (hh : 14 ≤ h) (hM : MX f n home I) (hR : RS f n home I ts) (hV : VT home ts) (h10 : I 91 10 = (st : Int)) (hB : st + ts.length ≤ 401) (kF : ∀ e I2, suP home ts = Sum.inl e → FM I I2 e → K 0 I2 J b) (kS : ∀ s r I2, suP home ts = Sum.inr (s, r) → XM I I2 st s → RS f n home I2 r → VT home r → s.length + r.length ≤ ts.length → K 1 I2 J b) : TriM G h 211 119 119 [vr 91] (I, J, PP b) (cIN K) := by
  refine TriM_intro (h - 1) (by omega) (by decide) (Nat.le_of_ble_eq_true rfl) (Nat.le_refl _) (Nat.le_refl _) (x211 (by omega) (s212 (by omega) hM hR hV h10 hB (fun e I2 he hF => ⟨fun z => absurd rfl z, fun _ => cIN_r fun _ => kF e I2 (bnd_l he) hF⟩) (fun s r I2 he hx hr hv hl => ⟨fun _ => ?_, fun z => absurd (by decide) z⟩)))
  refine s211_l (by omega) 401 (st + s.length) r I2 (by omega) (hx.m hM) hr hv hx.2.1 (by omega) (fun e I3 he3 hF => cIN_r fun _ => kF e I3 ?_ (hx.f hF)) (fun s3 r3 I3 he3 hx3 hr3 hv3 hl3 => cIN_r fun _ => kS (s ++ s3) r3 I3 ?_ (hx.t hx3) hr3 hv3 ?_)
  · unfold suP
    rw [bnd_r he]
    exact bnd_l he3
  · unfold suP
    rw [bnd_r he]
    exact bnd_r he3
  · rw [List.length_append]
    omega
/-! conditions -/
def ONM (G : Ctx) (f : Nat → Int) (n : Nat) (home : Bool) (d h : Nat) : Prop := ∀ (I : MI) (J : MJ) (b : B3) (ts : List Tok) (st : Nat) (K : Int → MI → MJ → B3 → Prop), MX f n home I → RS f n home I ts → VT home ts → I 91 10 = (st : Int) → st + ts.length ≤ 401 → I 91 19 = 8 - (d : Int) → (∀ e I2, onP home d ts = Sum.inl e → FM I I2 e → K 0 I2 J b) → (∀ s r I2, onP home d ts = Sum.inr (s, r) → XM I I2 st s → RS f n home I2 r → VT home r → s.length + r.length ≤ ts.length → K 1 I2 J b) → TriM G h 216 119 119 [vr 91] (I, J, PP b) (cIN K)

def EVM (G : Ctx) (f : Nat → Int) (n : Nat) (home : Bool) (d h : Nat) : Prop := ∀ (I : MI) (J : MJ) (b : B3) (ts : List Tok) (st : Nat) (K : Int → MI → MJ → B3 → Prop), MX f n home I → RS f n home I ts → VT home ts → I 91 10 = (st : Int) → st + ts.length ≤ 401 → I 91 19 = 8 - (d : Int) → (∀ e I2, evP (onP home d) ts = Sum.inl e → FM I I2 e → K 0 I2 J b) → (∀ s r I2, evP (onP home d) ts = Sum.inr (s, r) → XM I I2 st s → RS f n home I2 r → VT home r → s.length + r.length ≤ ts.length → K 1 I2 J b) → TriM G h 215 119 119 [vr 91] (I, J, PP b) (cIN K)
def ANM (G : Ctx) (f : Nat → Int) (n : Nat) (home : Bool) (d h : Nat) : Prop := ∀ (I : MI) (J : MJ) (b : B3) (ts : List Tok) (st : Nat) (K : Int → MI → MJ → B3 → Prop), MX f n home I → RS f n home I ts → VT home ts → I 91 10 = (st : Int) → st + ts.length ≤ 401 → I 91 19 = 8 - (d : Int) → (∀ e I2, anyP (onP home d) ts = Sum.inl e → FM I I2 e → K 0 I2 J b) → (∀ s r I2, anyP (onP home d) ts = Sum.inr (s, r) → XM I I2 st s → RS f n home I2 r → VT home r → s.length + r.length ≤ ts.length → K 1 I2 J b) → TriM G h 214 119 119 [vr 91] (I, J, PP b) (cIN K)
theorem s215_l {Q : MP} {d : Nat} (hh : 11 ≤ h) (h1 : ONM G f n home d h) : ∀ (g st : Nat) (ts : List Tok) (I' : MI), ts.length ≤ g → MX f n home I' → RS f n home I' ts → VT home ts → I' 91 10 = (st : Int) → st + ts.length ≤ 401 → I' 91 19 = 8 - (d : Int) → (∀ e I2, anL (onP home d) g ts = Sum.inl e → FM I' I2 e → Q (some (vi 0)) (I2, J, PP b)) → (∀ s r I2, anL (onP home d) g ts = Sum.inr (s, r) → XM I' I2 st s → RS f n home I2 r → VT home r → s.length + r.length ≤ ts.length → Q (some (vi 1)) (I2, J, PP b)) →  Tri G h 215 119 119 9 [some (vr 91)] [] (I', J, PP b) Q := by
  intro g
  induction g with
  | zero =>
    intro st ts I' hg hM hR hV
    have := hV.ln
    omega
  | succ g ih =>
    intro st ts I' hg hM hR hV h10 hB h19 kF kS
    have ho := hV.c.2.1
    have hln := hV.ln
    have ep : anL (onP home d) (g + 1) ts = (if (hdT ts).1 = 4 then bnd (onP home d ts.tail) (fun s r => pre (s ++ [(21, 0)]) (anL (onP home d) g r)) else Sum.inr ([], ts)) := rfl
    rw [ep] at kF kS
    refine x215_9 (by omega) ?_
    rw [hR.1, tm_5 ho.1]
    refine ⟨fun q1 => kS [] ts I' (by rw [if_neg q1]) (NX.r.x h10) hR hV (by simp), fun q1 => ?_⟩
    have hc := Decidable.of_not_not q1
    rw [if_pos hc] at kF kS
    have hvt := (hV.tk (by omega)).2
    refine nxW (by omega) hM hR (by omega) fun I1 hn1 hr1 => ?_
    have hx1 := hn1.x h10
    refine h1 _ _ _ ts.tail st _ (hx1.m hM) hr1 hvt hx1.2.1 (by omega) (by rw [hx1.2.2.2.2 19 (by decide)]; exact h19) (fun e I2 he hF => ⟨fun z => absurd rfl z, fun _ => kF e I2 (bnd_l he) (hx1.f hF)⟩) (fun s r I2 he hx2 hr2 hv2 hlen => ⟨fun _ => ?_, fun z => absurd (by decide) z⟩)
    refine s209r (by omega) hx2.2.1 (by omega) hr2 fun I3 hx3 hr3 => ?_
    have hx13 := hx1.t (hx2.t hx3)
    refine ih (st + s.length + 1) r I3 (by omega) (hx13.m hM) hr3 hv2 hx3.2.1 (by omega) (by rw [hx13.2.2.2.2 19 (by decide)]; exact h19) (fun e I4 he4 hF => kF e I4 ?_ (hx13.f hF)) (fun s4 r4 I4 he4 hx4 hr4 hv4 hl4 => kS ((s ++ [(21, 0)]) ++ s4) r4 I4 ?_ ?_ hr4 hv4 ?_)
    · rw [bnd_r he]
      exact bnd_l he4
    · rw [bnd_r he]
      exact bnd_r he4
    · rw [List.append_assoc]
      exact hx1.t (hx2.t (hx3.t hx4))
    · simp only [List.length_append, List.length_cons, List.length_nil]
      omega
theorem s215 {d : Nat} (hh : 12 ≤ h) (h1 : ONM G f n home d (h - 1)) : EVM G f n home d h := by
  intro I J b ts st K hM hR hV h10 hB h19 kF kS
  refine TriM_intro (h - 1) (by omega) (by decide) (Nat.le_of_ble_eq_true rfl) (Nat.le_refl _) (Nat.le_refl _) (x215 (by omega) (h1 _ _ _ ts st _ hM hR hV h10 hB h19 (fun e I2 he hF => ⟨fun z => absurd rfl z, fun _ => cIN_r fun _ => kF e I2 (bnd_l he) hF⟩) (fun s r I2 he hx hr hv hl => ⟨fun _ => ?_, fun z => absurd (by decide) z⟩)))
  refine s215_l (d := d) (by omega) h1 401 (st + s.length) r I2 (by omega) (hx.m hM) hr hv hx.2.1 (by omega) (by rw [hx.2.2.2.2 19 (by decide)]; exact h19) (fun e I3 he3 hF => cIN_r fun _ => kF e I3 ?_ (hx.f hF)) (fun s3 r3 I3 he3 hx3 hr3 hv3 hl3 => cIN_r fun _ => kS (s ++ s3) r3 I3 ?_ (hx.t hx3) hr3 hv3 ?_)
  · unfold evP
    rw [bnd_r he]
    exact bnd_l he3
  · unfold evP
    rw [bnd_r he]
    exact bnd_r he3
  · rw [List.length_append]
    omega
theorem s214_l {Q : MP} {d : Nat} (hh : 11 ≤ h) (h1 : EVM G f n home d h) : ∀ (g st : Nat) (ts : List Tok) (I' : MI), ts.length ≤ g → MX f n home I' → RS f n home I' ts → VT home ts → I' 91 10 = (st : Int) → st + ts.length ≤ 401 → I' 91 19 = 8 - (d : Int) → (∀ e I2, orL (onP home d) g ts = Sum.inl e → FM I' I2 e → Q (some (vi 0)) (I2, J, PP b)) → (∀ s r I2, orL (onP home d) g ts = Sum.inr (s, r) → XM I' I2 st s → RS f n home I2 r → VT home r → s.length + r.length ≤ ts.length → Q (some (vi 1)) (I2, J, PP b)) →  Tri G h 214 119 119 9 [some (vr 91)] [] (I', J, PP b) Q := by
  intro g
  induction g with
  | zero =>
    intro st ts I' hg hM hR hV
    have := hV.ln
    omega
  | succ g ih =>
    intro st ts I' hg hM hR hV h10 hB h19 kF kS
    have ho := hV.c.2.1
    have hln := hV.ln
    have ep : orL (onP home d) (g + 1) ts = (if (hdT ts).1 = 3 then bnd (evP (onP home d) ts.tail) (fun s r => pre (s ++ [(22, 0)]) (orL (onP home d) g r)) else Sum.inr ([], ts)) := rfl
    rw [ep] at kF kS
    refine x214_9 (by omega) ?_
    rw [hR.1, tm_4 ho.1]
    refine ⟨fun q1 => kS [] ts I' (by rw [if_neg q1]) (NX.r.x h10) hR hV (by simp), fun q1 => ?_⟩
    have hc := Decidable.of_not_not q1
    rw [if_pos hc] at kF kS
    have hvt := (hV.tk (by omega)).2
    refine nxW (by omega) hM hR (by omega) fun I1 hn1 hr1 => ?_
    have hx1 := hn1.x h10
    refine h1 _ _ _ ts.tail st _ (hx1.m hM) hr1 hvt hx1.2.1 (by omega) (by rw [hx1.2.2.2.2 19 (by decide)]; exact h19) (fun e I2 he hF => ⟨fun z => absurd rfl z, fun _ => kF e I2 (bnd_l he) (hx1.f hF)⟩) (fun s r I2 he hx2 hr2 hv2 hlen => ⟨fun _ => ?_, fun z => absurd (by decide) z⟩)
    refine s209r (by omega) hx2.2.1 (by omega) hr2 fun I3 hx3 hr3 => ?_
    have hx13 := hx1.t (hx2.t hx3)
    refine ih (st + s.length + 1) r I3 (by omega) (hx13.m hM) hr3 hv2 hx3.2.1 (by omega) (by rw [hx13.2.2.2.2 19 (by decide)]; exact h19) (fun e I4 he4 hF => kF e I4 ?_ (hx13.f hF)) (fun s4 r4 I4 he4 hx4 hr4 hv4 hl4 => kS ((s ++ [(22, 0)]) ++ s4) r4 I4 ?_ ?_ hr4 hv4 ?_)
    · rw [bnd_r he]
      exact bnd_l he4
    · rw [bnd_r he]
      exact bnd_r he4
    · rw [List.append_assoc]
      exact hx1.t (hx2.t (hx3.t hx4))
    · simp only [List.length_append, List.length_cons, List.length_nil]
      omega
theorem s214 {d : Nat} (hh : 12 ≤ h) (h1 : EVM G f n home d (h - 1)) : ANM G f n home d h := by
  intro I J b ts st K hM hR hV h10 hB h19 kF kS
  refine TriM_intro (h - 1) (by omega) (by decide) (Nat.le_of_ble_eq_true rfl) (Nat.le_refl _) (Nat.le_refl _) (x214 (by omega) (h1 _ _ _ ts st _ hM hR hV h10 hB h19 (fun e I2 he hF => ⟨fun z => absurd rfl z, fun _ => cIN_r fun _ => kF e I2 (bnd_l he) hF⟩) (fun s r I2 he hx hr hv hl => ⟨fun _ => ?_, fun z => absurd (by decide) z⟩)))
  refine s214_l (d := d) (by omega) h1 401 (st + s.length) r I2 (by omega) (hx.m hM) hr hv hx.2.1 (by omega) (by rw [hx.2.2.2.2 19 (by decide)]; exact h19) (fun e I3 he3 hF => cIN_r fun _ => kF e I3 ?_ (hx.f hF)) (fun s3 r3 I3 he3 hx3 hr3 hv3 hl3 => cIN_r fun _ => kS (s ++ s3) r3 I3 ?_ (hx.t hx3) hr3 hv3 ?_)
  · unfold anyP
    rw [bnd_r he]
    exact bnd_l he3
  · unfold anyP
    rw [bnd_r he]
    exact bnd_r he3
  · rw [List.length_append]
    omega
theorem s216_c {Q : MP} {I' : MI} (hh : 14 ≤ h) (hM : MX f n home I') (hR : RS f n home I' ts) (hV : VT home ts) (h10 : I' 91 10 = (st : Int)) (hB : st + ts.length ≤ 401) (kF : ∀ e I2, cmP home ts = Sum.inl e → FM I' I2 e → Q (some (vi 0)) (I2, J, PP b)) (kS : ∀ s r I2, cmP home ts = Sum.inr (s, r) → XM I' I2 st s → RS f n home I2 r → VT home r → s.length + r.length ≤ ts.length → Q (some (vi 1)) (I2, J, PP b)) : TriM G h 211 119 119 [vr 91] (I', J, PP b) (cIN fun r1 I1 J1 b1 => (((¬ r1 = 0) → (((¬ (I1 91 13) = 160) → (((¬ (I1 91 13) = 161) → (((¬ (I1 91 13) = 162) → (Q (some (vi 0)) (u2 (u2 I1 91 16 1) 91 17 (I1 91 14), J1, PP b1))) ∧ (¬ (¬ (I1 91 13) = 162) → (TriM G h 206 119 119 [vr 91] (I1, J1, PP b1) (cVN fun I2 J2 b2 => (TriM G h 211 119 119 [vr 91] (I2, J2, PP b2) (cIN fun r3 I3 J3 b3 => (((¬ r3 = 0) → (TriM G h 209 119 119 [vr 91, vi 19, vi 0] (I3, J3, PP b3) (cVN fun I4 J4 b4 => (Q (some (vi 1)) (I4, J4, PP b4))))) ∧ (¬ (¬ r3 = 0) → (Q (some (vi 0)) (I3, J3, PP b3))))))))))) ∧ (¬ (¬ (I1 91 13) = 161) → (TriM G h 206 119 119 [vr 91] (I1, J1, PP b1) (cVN fun I5 J5 b5 => (TriM G h 211 119 119 [vr 91] (I5, J5, PP b5) (cIN fun r6 I6 J6 b6 => (((¬ r6 = 0) → (TriM G h 209 119 119 [vr 91, vi 18, vi 0] (I6, J6, PP b6) (cVN fun I7 J7 b7 => (Q (some (vi 1)) (I7, J7, PP b7))))) ∧ (¬ (¬ r6 = 0) → (Q (some (vi 0)) (I6, J6, PP b6))))))))))) ∧ (¬ (¬ (I1 91 13) = 160) → (TriM G h 206 119 119 [vr 91] (I1, J1, PP b1) (cVN fun I8 J8 b8 => (TriM G h 211 119 119 [vr 91] (I8, J8, PP b8) (cIN fun r9 I9 J9 b9 => (((¬ r9 = 0) → (TriM G h 209 119 119 [vr 91, vi 17, vi 0] (I9, J9, PP b9) (cVN fun I10 J10 b10 => (Q (some (vi 1)) (I10, J10, PP b10))))) ∧ (¬ (¬ r9 = 0) → (Q (some (vi 0)) (I9, J9, PP b9))))))))))) ∧ (¬ (¬ r1 = 0) → (Q (some (vi 0)) (I1, J1, PP b1))))) := by
  refine s211 (by omega) hM hR hV h10 hB (fun e I2 he hF => ⟨fun z => absurd rfl z, fun _ => kF e I2 (bnd_l he) hF⟩) (fun s r I2 he hx hr hv hl => ⟨fun _ => ?_, fun z => absurd (by decide) z⟩)
  have ho := hv.c.2.1
  have hln := hv.ln
  have ec : cmP home ts = (if (hdT r).1 = 60 ∨ (hdT r).1 = 61 ∨ (hdT r).1 = 62 then bnd (suP home r.tail) (fun s2 r2 => Sum.inr (s ++ (s2 ++ [((hdT r).1 - 43, 0)]), r2)) else badP 1 r) := by
    unfold cmP
    rw [bnd_r he]
  rw [ec] at kF kS
  rw [hr.1, tm_160 ho.1, tm_161 ho.1, tm_162 ho.1]
  have go : ∀ w : Int, (hdT r).1 = 60 ∨ (hdT r).1 = 61 ∨ (hdT r).1 = 62 → (hdT r).1 - 43 = w → TriM G h 206 119 119 [vr 91] (I2, J, PP b) (cVN fun I2 J2 b2 => (TriM G h 211 119 119 [vr 91] (I2, J2, PP b2) (cIN fun r3 I3 J3 b3 => (((¬ r3 = 0) → (TriM G h 209 119 119 [vr 91, vi w, vi 0] (I3, J3, PP b3) (cVN fun I4 J4 b4 => (Q (some (vi 1)) (I4, J4, PP b4))))) ∧ (¬ (¬ r3 = 0) → (Q (some (vi 0)) (I3, J3, PP b3))))))) := by
    intro w hc hw
    rw [if_pos hc, hw] at kF kS
    have hvt := (hv.tk (by omega)).2
    refine nxW (by omega) (hx.m hM) hr (by omega) fun I3 hn3 hr3 => ?_
    have hx3 := hn3.x hx.2.1
    have hx13 := hx.t hx3
    refine s211 (st := st + s.length) (by omega) (hx13.m hM) hr3 hvt hx3.2.1 (by omega) (fun e I4 he4 hF => ⟨fun z => absurd rfl z, fun _ => kF e I4 (bnd_l he4) (hx13.f hF)⟩) (fun s4 r4 I4 he4 hx4 hr4 hv4 hl4 => ⟨fun _ => ?_, fun z => absurd (by decide) z⟩)
    refine s209r (by omega) hx4.2.1 (by omega) hr4 fun I5 hx5 hr5 => kS (s ++ (s4 ++ [(w, 0)])) r4 I5 (bnd_r he4) (hx.t (hx3.t (hx4.t hx5))) hr5 hv4 ?_
    simp only [List.length_append, List.length_cons, List.length_nil]
    omega
  refine ⟨fun q1 => ⟨fun q2 => ⟨fun q3 => ?_, fun q3 => go 19 (Or.inr (Or.inr (Decidable.of_not_not q3))) (by omega)⟩, fun q2 => go 18 (Or.inr (Or.inl (Decidable.of_not_not q2))) (by omega)⟩, fun q1 => go 17 (Or.inl (Decidable.of_not_not q1)) (by omega)⟩
  exact kF _ _ (by rw [if_neg (by omega)]; rfl) (hx.f (FM.bad hr))
theorem FM.dep {I I1 I2 : MI} {e : Int × Nat} {v : Int} (h : FM (u2 I 91 19 v) I2 e) : FM I I2 e := ⟨(frK.r.u (by decide)).t h.1, h.2.1, h.2.2.1, fun j hj => by rw [h.2.2.2 j hj, u2j (fun z => hj (by rw [z]; decide))]⟩
theorem s216 : ∀ (d h : Nat), d ≤ 8 → 16 + 3 * d ≤ h → ONM G f n home d h := by
  intro d
  induction d with
  | zero =>
    intro h hd hh I J b ts st K hM hR hV h10 hB h19 kF kS
    have ho := hV.c.2.1
    have ep : onP home 0 ts = (if (hdT ts).1 = 5 ∨ (hdT ts).1 = 40 then badP 3 ts else cmP home ts) := rfl
    rw [ep] at kF kS
    refine TriM_intro (h - 1) (by omega) (by decide) (Nat.le_of_ble_eq_true rfl) (Nat.le_refl _) (Nat.le_refl _) (x216 (by omega) ?_)
    rw [hR.1, tm_6 ho.1, tm_140 ho.1]
    have no : (hdT ts).1 = 5 ∨ (hdT ts).1 = 40 → ∀ K2 : Int → MI → MJ → B3 → Prop, (∀ I2, FM I I2 (3, (hdT ts).2.1) → K2 0 I2 J b) → TriM G (h - 1) 210 119 119 [vr 91] (I, J, PP b) (cIN K2) := by
      intro _ K2 hk2
      refine TriM_intro (h - 1 - 1) (by omega) (by decide) (Nat.le_of_ble_eq_true rfl) (Nat.le_refl _) (Nat.le_refl _) (x210 (by omega) ?_)
      rw [h19]
      exact ⟨fun z => absurd (by decide) z, fun _ => cIN_r fun _ => hk2 _ (FM.bad hR)⟩
    refine ⟨fun q1 => ⟨fun q2 => ?_, fun q2 => no (Or.inr (Decidable.of_not_not q2)) _ (fun I2 hF => ⟨fun _ => cIN_r fun _ => kF _ I2 (by rw [if_pos (Or.inr (Decidable.of_not_not q2))]; rfl) hF, fun z => absurd rfl z⟩)⟩, fun q1 => no (Or.inl (Decidable.of_not_not q1)) _ (fun I2 hF => ⟨fun _ => cIN_r fun _ => kF _ I2 (by rw [if_pos (Or.inl (Decidable.of_not_not q1))]; rfl) hF, fun z => absurd rfl z⟩)⟩
    rw [if_neg (by omega)] at kF kS
    exact s216_c (by omega) hM hR hV h10 hB (fun e I2 he hF => cIN_r fun _ => kF e I2 he hF) (fun s r I2 he hx hr hv hl => cIN_r fun _ => kS s r I2 he hx hr hv hl)
  | succ d ih =>
    intro h hd hh I J b ts st K hM hR hV h10 hB h19 kF kS
    have ho := hV.c.2.1
    have hln := hV.ln
    have ep : onP home (d + 1) ts = (if (hdT ts).1 = 5 then bnd (onP home d ts.tail) (fun s r => Sum.inr (s ++ [(20, 0)], r)) else if (hdT ts).1 = 40 then bnd (anyP (onP home d) ts.tail) (fun s r => if (hdT r).1 = 41 then Sum.inr (s, r.tail) else badP 1 r) else cmP home ts) := rfl
    rw [ep] at kF kS
    refine TriM_intro (h - 1) (by omega) (by decide) (Nat.le_of_ble_eq_true rfl) (Nat.le_refl _) (Nat.le_refl _) (x216 (by omega) ?_)
    rw [hR.1, tm_6 ho.1, tm_140 ho.1]
    have opn : (hdT ts).1 ≠ 21 → ∀ K2 : Int → MI → MJ → B3 → Prop, (∀ I2, NX (u2 I 91 19 (8 - (d : Int))) I2 → RS f n home I2 ts.tail → K2 1 I2 J b) → TriM G (h - 1) 210 119 119 [vr 91] (I, J, PP b) (cIN K2) := by
      intro h21 K2 hk2
      refine TriM_intro (h - 1 - 1) (by omega) (by decide) (Nat.le_of_ble_eq_true rfl) (Nat.le_refl _) (Nat.le_refl _) (x210 (by omega) ?_)
      rw [h19, w32_id (by omega) (by omega), show 8 - ((d + 1 : Nat) : Int) + 1 = 8 - (d : Int) by omega]
      refine ⟨fun _ => nxW (by omega) (hM.x (frK.r.u (S := [91, 95]) (by decide)) (u2j (by decide)) (u2j (by decide))) (hR.k (fun j j1 j2 => u2j (by omega))) h21 (fun I2 h1 h2 => cIN_r fun _ => hk2 I2 h1 h2), fun z => absurd (by omega) z⟩
    have dep : ∀ (I1 I2 : MI) (s : List Stp1), NX (u2 I 91 19 (8 - (d : Int))) I1 → XM I1 I2 st s → XM I (u2 I2 91 19 (w32 ((I2 91 19) - 1))) st s := by
      intro I1 I2 s hn hx
      have e19 : I2 91 19 = 8 - (d : Int) := by rw [hx.2.2.2.2 19 (by decide), hn.2 19 (by decide), u2e]
      refine ⟨(((frK.r.u (by decide)).t (hn.1.mo (by decide))).t hx.1).u (by decide), ?_, ?_, fun j hj => ?_, fun j hj => ?_⟩
      · rw [u2j (by decide)]
        exact hx.2.1
      · rw [u2_ne (by decide)]
        exact hx.2.2.1
      · rw [u2_ne (by decide), hx.2.2.2.1 j hj, hn.1 95 (by decide), u2_ne (by decide)]
      · by_cases e : j = 19
        · rw [e, u2e, e19, h19, w32_id (by omega) (by omega)]
          omega
        · rw [u2j e, hx.2.2.2.2 j hj, hn.2 j (fun z => hj (by revert z; simp; omega)), u2j e]
    have hM1 : ∀ I1, NX (u2 I 91 19 (8 - (d : Int))) I1 → MX f n home I1 ∧ I1 91 10 = (st : Int) ∧ I1 91 19 = 8 - (d : Int) := fun I1 hn => ⟨(hM.x (frK.r.u (S := [91, 95]) (by decide)) (u2j (by decide)) (u2j (by decide))).n hn, by rw [hn.2 10 (by decide), u2j (by decide)]; exact h10, by rw [hn.2 19 (by decide), u2e]⟩
    have fm : ∀ (I1 I2 : MI) (e : Int × Nat), NX (u2 I 91 19 (8 - (d : Int))) I1 → FM I1 I2 e → FM I I2 e := fun I1 I2 e hn hF => FM.dep (I1 := I) (v := 8 - (d : Int)) ((hn.x (st := st) (by rw [u2j (by decide)]; exact h10)).f hF)
    refine ⟨fun q1 => ⟨fun q2 => ?_, fun q2 => ?_⟩, fun q1 => ?_⟩
    · rw [if_neg q1, if_neg q2] at kF kS
      exact s216_c (by omega) hM hR hV h10 hB (fun e I2 he hF => cIN_r fun _ => kF e I2 he hF) (fun s r I2 he hx hr hv hl => cIN_r fun _ => kS s r I2 he hx hr hv hl)
    · have q3 := Decidable.of_not_not q2
      rw [if_neg q1, if_pos q3] at kF kS
      have hvt := (hV.tk (by omega)).2
      refine opn (by omega) _ (fun I1 hn hr => ⟨fun z => absurd z (by decide), fun _ => ?_⟩)
      obtain ⟨m1, m2, m3⟩ := hM1 I1 hn
      refine s214 (d := d) (by omega) (s215 (by omega) (ih (h - 1 - 1 - 1) (by omega) (by omega))) _ _ _ ts.tail st _ m1 hr hvt m2 (by omega) m3 (fun e I2 he hF => ⟨fun _ => cIN_r fun _ => kF e I2 (bnd_l he) (fm I1 I2 e hn hF), fun z => absurd rfl z⟩) (fun s r I2 he hx hr2 hv2 hl2 => ⟨fun z => absurd z (by decide), fun _ => ?_⟩)
      have ho2 := hv2.c.2.1
      have hln2 := hv2.ln
      refine TriM_intro (h - 1 - 1) (by omega) (by decide) (Nat.le_of_ble_eq_true rfl) (Nat.le_refl _) (Nat.le_refl _) (x208 (by omega) ?_)
      rw [hr2.1, tm_141 ho2.1]
      refine ⟨fun q4 => nxW (by omega) (hx.m m1) hr2 (by omega) fun I3 hn3 hr3 => cIN_r fun _ => ⟨fun _ => cIN_r fun _ => kS s r.tail _ ?_ (dep I1 I3 s hn ?_) (hr3.k (fun j j1 j2 => u2j (by omega))) (hv2.tk (by omega)).2 (by omega), fun z => absurd (by decide) z⟩, fun q4 => cIN_r fun _ => ⟨fun z => absurd rfl z, fun _ => cIN_r fun _ => kF _ _ ?_ (fm I1 _ _ hn (hx.f (FM.bad hr2)))⟩⟩
      · rw [bnd_r he, if_pos q4]
      · have := hx.t (hn3.x hx.2.1)
        rw [List.append_nil] at this
        exact this
      · rw [bnd_r he, if_neg q4]
        rfl
    · have q3 := Decidable.of_not_not q1
      rw [if_pos q3] at kF kS
      have hvt := (hV.tk (by omega)).2
      refine opn (by omega) _ (fun I1 hn hr => ⟨fun z => absurd z (by decide), fun _ => ?_⟩)
      obtain ⟨m1, m2, m3⟩ := hM1 I1 hn
      refine ih (h - 1) (by omega) (by omega) _ _ _ ts.tail st _ m1 hr hvt m2 (by omega) m3 (fun e I2 he hF => ⟨fun z => absurd rfl z, fun _ => cIN_r fun _ => kF e I2 (bnd_l he) (fm I1 I2 e hn hF)⟩) (fun s r I2 he hx hr2 hv2 hl2 => ⟨fun _ => ?_, fun z => absurd (by decide) z⟩)
      have hd2 := dep I1 I2 s hn hx
      refine s209r (st := st + s.length) (by omega) hd2.2.1 (by omega) (hr2.k (fun j j1 j2 => u2j (by omega))) fun I3 hx3 hr3 => cIN_r fun _ => kS (s ++ [(20, 0)]) r I3 (bnd_r he) (hd2.t hx3) hr3 hv2 ?_
      simp only [List.length_append, List.length_cons, List.length_nil]
      omega
end PARSM
