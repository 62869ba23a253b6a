set_option maxRecDepth 100000 in
theorem x83 {G : Ctx} {h : Nat} {Q : MP} {I : Nat → Nat → Int} {J : Nat → Nat → BitVec 64} {b : B3} {x y : Int} (hh : 2 ≤ h) (H : (0 ≤ x ∧ x < (120 : Int)) ∧ ((((I 74 x.toNat) < 120) → ((0 ≤ (I 74 x.toNat) ∧ (I 74 x.toNat) < (120 : Int)) ∧ ((0 ≤ x ∧ x < (120 : Int)) ∧ ((0 ≤ y ∧ y < (120 : Int)) ∧ ((0 ≤ x ∧ x < (120 : Int)) ∧ ((0 ≤ y ∧ y < (I 7 0) ∧ (I 7 0) ≤ 120 ∧ 0 ≤ (0 : Int) ∧ (0 : Int) < 6) ∧ ((0 ≤ x ∧ x < (120 : Int)) ∧ ((0 ≤ x ∧ x < (120 : Int)) ∧ ((0 ≤ y ∧ y < (I 7 0) ∧ (I 7 0) ≤ 120 ∧ 0 ≤ (2 : Int) ∧ (2 : Int) < 6) ∧ ((0 ≤ x ∧ x < (120 : Int)) ∧ (Q none (u2 (u2 (u2 (u2 I 78 ((I 74 x.toNat).toNat) y) 74 x.toNat (w32 ((I 74 x.toNat) + 1))) 73 y.toNat x) 76 x.toNat (iOr (I 76 x.toNat) (iShl 1 (I 8 ((y * 6 + (0 : Int)).toNat)))), u2 J 77 x.toNat ((J 77 x.toNat) ||| (lShl (1#64) (I 8 ((y * 6 + (2 : Int)).toNat)))), PP b)))))))))))) ∧ (¬ ((I 74 x.toNat) < 120) → (Q none (I, J, PP b))))) : Tri G h 83 119 119 0 [some (vr 72), some (vi x), some (vi y)] [] (I, J, PP b) Q := wp_at ck83 [] 400 (And.intro H.1 (And.intro (fun q1149 => And.intro (H.2.1 q1149).1 (And.intro ((H.2.1 q1149).2).1 (And.intro (((H.2.1 q1149).2).2).1 (And.intro ((((H.2.1 q1149).2).2).2).1 (sx29 (by omega) (((((H.2.1 q1149).2).2).2).2).1 (And.intro ((((((H.2.1 q1149).2).2).2).2).2).1 (And.intro (((((((H.2.1 q1149).2).2).2).2).2).2).1 (sx29 (by omega) ((((((((H.2.1 q1149).2).2).2).2).2).2).2).1 (((((((((H.2.1 q1149).2).2).2).2).2).2).2).2))))))))) (fun q1150 => H.2.2 q1150)))
theorem x83_m {G : Ctx} {h : Nat} {Q : MP} {I : Nat → Nat → Int} {J : Nat → Nat → BitVec 64} {b : B3} {x y : Int} (hh : 3 ≤ h) (H : ∀ h, 2 ≤ h → Tri G h 83 119 119 0 [some (vr 72), some (vi x), some (vi y)] [] (I, J, PP b) Q) : TriM G h 83 119 119 [vr 72, vi x, vi y] (I, J, PP b) Q := TriM_intro (h - 1) (by omega) (by decide) (Nat.le_of_ble_eq_true rfl) (Nat.le_refl _) (Nat.le_refl _) (H (h - 1) (by omega))
set_option maxRecDepth 100000 in
theorem x82 {G : Ctx} {h : Nat} {Q : MP} {I : Nat → Nat → Int} {J : Nat → Nat → BitVec 64} {b : B3} {x : Int} (hh : 3 ≤ h) (H : (((I 72 0) < 120) → ((0 ≤ (I 72 0) ∧ (I 72 0) < (120 : Int)) ∧ ((0 ≤ (I 72 0) ∧ (I 72 0) < (120 : Int)) ∧ ((0 ≤ (I 72 0) ∧ (I 72 0) < (120 : Int)) ∧ ((0 ≤ (I 72 0) ∧ (I 72 0) < (120 : Int)) ∧ (TriM G h 83 119 119 [vr 72, vi (I 72 0), vi x] (u2 (u2 (u2 (u2 I 75 ((I 72 0).toNat) x) 74 ((I 72 0).toNat) 0) 76 ((I 72 0).toNat) 0) 72 0 (w32 ((I 72 0) + 1)), u2 J 77 ((I 72 0).toNat) (0#64), PP b) (cVN fun I1 J1 b1 => (Tri G h 82 119 119 61 [some (vr 72), some (vi x), some (vi (I 72 0)), some (vi 0)] [] (I1, J1, PP b1) Q)))))))) ∧ (¬ ((I 72 0) < 120) → (Q none (I, J, PP b)))) : Tri G h 82 119 119 0 [some (vr 72), some (vi x)] [] (I, J, PP b) Q := wp_at ck82 [(61, [true, true, true, true]), (82, [true, true, true, true, true])] 400 (And.intro (fun q1151 => And.intro (H.1 q1151).1 (And.intro ((H.1 q1151).2).1 (And.intro (((H.1 q1151).2).2).1 (And.intro ((((H.1 q1151).2).2).2).1 (cVN_go (((((H.1 q1151).2).2).2).2) (fun I1 J1 b1 q1153 => q1153)))))) (fun q1152 => H.2 q1152))
set_option maxRecDepth 100000 in
theorem x82_61 {G : Ctx} {h : Nat} {Q : MP} {I : Nat → Nat → Int} {J : Nat → Nat → BitVec 64} {b : B3} {l1 l2 l3 : Int} (hh : 0 ≤ h) (H : (0 ≤ l2 ∧ l2 < (120 : Int)) ∧ ((((I 74 l2.toNat) ≤ l3) → (Q none (I, J, PP b))) ∧ (¬ ((I 74 l2.toNat) ≤ l3) → (((120 ≤ l3) → (Q none (I, J, PP b))) ∧ (¬ (120 ≤ l3) → (Tri G h 82 119 119 82 [some (vr 72), some (vi l1), some (vi l2), some (vi l3), some (vi (w32 (l1 + 1)))] [] (I, J, PP b) Q)))))) : Tri G h 82 119 119 61 [some (vr 72), some (vi l1), some (vi l2), some (vi l3)] [] (I, J, PP b) Q := wp_at ck82 [(61, [true, true, true, true]), (82, [true, true, true, true, true])] 400 H
set_option maxRecDepth 100000 in
theorem x82_82 {G : Ctx} {h : Nat} {Q : MP} {I : Nat → Nat → Int} {J : Nat → Nat → BitVec 64} {b : B3} {l1 l2 l3 l4 : Int} (hh : 5 ≤ h) (H : (((I 7 0) ≤ l4) → (Tri G h 82 119 119 61 [some (vr 72), some (vi l1), some (vi l2), some (vi (w32 (l3 + 1)))] [] (I, J, PP b) Q)) ∧ (¬ ((I 7 0) ≤ l4) → ((0 ≤ l4 ∧ l4 < (120 : Int)) ∧ (((¬ (I 73 l4.toNat) = (-1)) → (Tri G h 82 119 119 82 [some (vr 72), some (vi l1), some (vi l2), some (vi l3), some (vi (w32 (l4 + 1)))] [] (I, J, PP b) Q)) ∧ (¬ (¬ (I 73 l4.toNat) = (-1)) → ((rBook 0 92 I ∧ 0 ≤ l4 ∧ l4 < I 7 0) ∧ (((knB I l4.toNat = true) → ((0 ≤ l3 ∧ l3 < (120 : Int)) ∧ (TriM G h 58 119 119 [vr 67, vi 0, vi (I 78 l3.toNat), vi l4] (I, J, PP b) (cIN fun r1 I1 J1 b1 => (((r1 = 0) → (Tri G h 82 119 119 82 [some (vr 72), some (vi l1), some (vi l2), some (vi l3), some (vi (w32 (l4 + 1)))] [] (I1, J1, PP b1) Q)) ∧ (¬ (r1 = 0) → (TriM G h 83 119 119 [vr 72, vi l2, vi l4] (I1, J1, PP b1) (cVN fun I2 J2 b2 => (Tri G h 82 119 119 82 [some (vr 72), some (vi l1), some (vi l2), some (vi l3), some (vi (w32 (l4 + 1)))] [] (I2, J2, PP b2) Q))))))))) ∧ (¬ (knB I l4.toNat = true) → (Tri G h 82 119 119 82 [some (vr 72), some (vi l1), some (vi l2), some (vi l3), some (vi (w32 (l4 + 1)))] [] (I, J, PP b) Q))))))))) : Tri G h 82 119 119 82 [some (vr 72), some (vi l1), some (vi l2), some (vi l3), some (vi l4)] [] (I, J, PP b) Q := wp_at ck82 [(61, [true, true, true, true]), (82, [true, true, true, true, true])] 400 (And.intro (fun q1154 => H.1 q1154) (fun q1155 => And.intro (H.2 q1155).1 (And.intro (fun q1156 => ((H.2 q1155).2).1 q1156) (fun q1157 => sb27 (by omega) (((H.2 q1155).2).2 q1157).1 (fun q1158 => And.intro (fun z => absurd z (show ¬ ((1 : Int) = (0 : Int)) by decide)) (fun _ => And.intro (((((H.2 q1155).2).2 q1157).2).1 q1158).1 (cIN_go ((((((H.2 q1155).2).2 q1157).2).1 q1158).2) (fun r1 I1 J1 b1 q1160 => And.intro (fun q1161 => q1160.1 q1161) (fun q1162 => cVN_go (q1160.2 q1162) (fun I2 J2 b2 q1163 => q1163)))))) (fun q1159 => And.intro (fun _ => ((((H.2 q1155).2).2 q1157).2).2 q1159) (fun z => absurd (show (0 : Int) = (0 : Int) by decide) z))))))
theorem x82_m {G : Ctx} {h : Nat} {Q : MP} {I : Nat → Nat → Int} {J : Nat → Nat → BitVec 64} {b : B3} {x : Int} (hh : 6 ≤ h) (H : ∀ h, 5 ≤ h → Tri G h 82 119 119 0 [some (vr 72), some (vi x)] [] (I, J, PP b) Q) : TriM G h 82 119 119 [vr 72, vi x] (I, J, PP b) Q := TriM_intro (h - 1) (by omega) (by decide) (Nat.le_of_ble_eq_true rfl) (Nat.le_refl _) (Nat.le_refl _) (H (h - 1) (by omega))
set_option maxRecDepth 100000 in
theorem x81 {G : Ctx} {h : Nat} {Q : MP} {I : Nat → Nat → Int} {J : Nat → Nat → BitVec 64} {b : B3} (hh : 1 ≤ h) (H : ((¬ (I 72 3) = 0) → (Tri G h 81 119 119 33 [some (vr 72), some (vi 0)] [] (u1 (u2 (u2 (u2 I 72 3 0) 72 10 (-1)) 72 0 0) 73 (fun j => if j < 120 then (-1) else I 73 j), J, PP b) Q)) ∧ (¬ (¬ (I 72 3) = 0) → (Q none (I, J, PP b)))) : Tri G h 81 119 119 0 [some (vr 72)] [] (I, J, PP b) Q := wp_at ck81 [(33, [true, true])] 400 (And.intro (fun q1164 => And.intro (show (0 : Int) = 0 ∨ (0 : Int) = 1 by decide) (sx0_r73 (by omega)  (H.1 q1164))) (fun q1165 => H.2 q1165))
set_option maxRecDepth 100000 in
theorem x81_33 {G : Ctx} {h : Nat} {Q : MP} {I : Nat → Nat → Int} {J : Nat → Nat → BitVec 64} {b : B3} {l1 : Int} (hh : 6 ≤ h) (H : (((I 7 0) ≤ l1) → (Q none (I, J, PP b))) ∧ (¬ ((I 7 0) ≤ l1) → ((0 ≤ l1 ∧ l1 < (120 : Int)) ∧ (((¬ (I 73 l1.toNat) = (-1)) → (Tri G h 81 119 119 33 [some (vr 72), some (vi (w32 (l1 + 1)))] [] (I, J, PP b) Q)) ∧ (¬ (¬ (I 73 l1.toNat) = (-1)) → ((rBook 0 92 I ∧ 0 ≤ l1 ∧ l1 < I 7 0) ∧ (((knB I l1.toNat = true) → (TriM G h 82 119 119 [vr 72, vi l1] (I, J, PP b) (cVN fun I1 J1 b1 => (Tri G h 81 119 119 33 [some (vr 72), some (vi (w32 (l1 + 1)))] [] (I1, J1, PP b1) Q)))) ∧ (¬ (knB I l1.toNat = true) → (Tri G h 81 119 119 33 [some (vr 72), some (vi (w32 (l1 + 1)))] [] (I, J, PP b) Q))))))))) : Tri G h 81 119 119 33 [some (vr 72), some (vi l1)] [] (I, J, PP b) Q := wp_at ck81 [(33, [true, true])] 400 (And.intro (fun q1166 => H.1 q1166) (fun q1167 => And.intro (H.2 q1167).1 (And.intro (fun q1168 => ((H.2 q1167).2).1 q1168) (fun q1169 => sb27 (by omega) (((H.2 q1167).2).2 q1169).1 (fun q1170 => And.intro (fun z => absurd z (show ¬ ((1 : Int) = (0 : Int)) by decide)) (fun _ => cVN_go (((((H.2 q1167).2).2 q1169).2).1 q1170) (fun I1 J1 b1 q1172 => q1172))) (fun q1171 => And.intro (fun _ => ((((H.2 q1167).2).2 q1169).2).2 q1171) (fun z => absurd (show (0 : Int) = (0 : Int) by decide) z))))))
theorem x81_m {G : Ctx} {h : Nat} {Q : MP} {I : Nat → Nat → Int} {J : Nat → Nat → BitVec 64} {b : B3} (hh : 7 ≤ h) (H : ∀ h, 6 ≤ h → Tri G h 81 119 119 0 [some (vr 72)] [] (I, J, PP b) Q) : TriM G h 81 119 119 [vr 72] (I, J, PP b) Q := TriM_intro (h - 1) (by omega) (by decide) (Nat.le_of_ble_eq_true rfl) (Nat.le_refl _) (Nat.le_refl _) (H (h - 1) (by omega))
set_option maxRecDepth 100000 in
theorem x231 {G : Ctx} {h : Nat} {Q : MP} {I : Nat → Nat → Int} {J : Nat → Nat → BitVec 64} {b : B3} (hh : 0 ≤ h) (H : Tri G h 231 119 119 7 [some (vr 91), some (vi 0)] [] (u2 I 91 26 0, J, PP b) Q) : Tri G h 231 119 119 0 [some (vr 91)] [] (I, J, PP b) Q := wp_at ck231 [(7, [true, true]), (32, [true, true]), (94, [true, true, true, true]), (102, [true, true, true, true, true])] 400 H
set_option maxRecDepth 100000 in
theorem x231_7 {G : Ctx} {h : Nat} {Q : MP} {I : Nat → Nat → Int} {J : Nat → Nat → BitVec 64} {b : B3} {l1 : Int} (hh : 0 ≤ h) (H : (((I 92 4) ≤ l1) → (Tri G h 231 119 119 32 [some (vr 91), some (vi 0)] [] (I, J, PP b) Q)) ∧ (¬ ((I 92 4) ≤ l1) → ((0 ≤ l1 ∧ l1 < (120 : Int)) ∧ (Tri G h 231 119 119 7 [some (vr 91), some (vi (w32 (l1 + 1)))] [] (u2 I 101 l1.toNat (-1), J, PP b) Q)))) : Tri G h 231 119 119 7 [some (vr 91), some (vi l1)] [] (I, J, PP b) Q := wp_at ck231 [(7, [true, true]), (32, [true, true]), (94, [true, true, true, true]), (102, [true, true, true, true, true])] 400 (And.intro (show (0 : Int) ≤ 4 ∧ (4 : Int) < ((5120 : Nat) : Int) by decide) H)
set_option maxRecDepth 100000 in
theorem x231_32 {G : Ctx} {h : Nat} {Q : MP} {I : Nat → Nat → Int} {J : Nat → Nat → BitVec 64} {b : B3} {l1 : Int} (hh : 2 ≤ h) (H : (((I 92 4) ≤ l1) → (Q none (I, J, PP b))) ∧ (¬ ((I 92 4) ≤ l1) → ((0 ≤ l1 ∧ l1 < (120 : Int)) ∧ (((¬ (I 101 l1.toNat) = (-1)) → (Tri G h 231 119 119 32 [some (vr 91), some (vi (w32 (l1 + 1)))] [] (I, J, PP b) Q)) ∧ (¬ (¬ (I 101 l1.toNat) = (-1)) → ((rBook 0 92 I ∧ 0 ≤ l1 ∧ l1 < I 7 0) ∧ (((knB I l1.toNat = true) → ((0 ≤ l1 ∧ l1 < (120 : Int)) ∧ ((0 ≤ (I 91 26) ∧ (I 91 26) < (120 : Int)) ∧ (Tri G h 231 119 119 94 [some (vr 91), some (vi l1), some (vi 1), some (vi 0)] [] (u2 (u2 (u2 I 101 l1.toNat (I 91 26)) 102 ((I 91 26).toNat) l1) 103 0 l1, J, PP b) Q)))) ∧ (¬ (knB I l1.toNat = true) → (Tri G h 231 119 119 32 [some (vr 91), some (vi (w32 (l1 + 1)))] [] (I, J, PP b) Q))))))))) : Tri G h 231 119 119 32 [some (vr 91), some (vi l1)] [] (I, J, PP b) Q := wp_at ck231 [(7, [true, true]), (32, [true, true]), (94, [true, true, true, true]), (102, [true, true, true, true, true])] 400 (And.intro (show (0 : Int) ≤ 4 ∧ (4 : Int) < ((5120 : Nat) : Int) by decide) (And.intro (fun q1173 => H.1 q1173) (fun q1174 => And.intro (H.2 q1174).1 (And.intro (fun q1175 => ((H.2 q1174).2).1 q1175) (fun q1176 => sb225 (by omega) (((H.2 q1174).2).2 q1176).1 (fun q1177 => And.intro (fun _ => And.intro (((((H.2 q1174).2).2 q1176).2).1 q1177).1 (And.intro ((((((H.2 q1174).2).2 q1176).2).1 q1177).2).1 (And.intro (show (0 : Int) ≤ 0 ∧ (0 : Int) < ((120 : Nat) : Int) by decide) (((((((H.2 q1174).2).2 q1176).2).1 q1177).2).2)))) (fun z => absurd (show ¬ (1 : Int) = (0 : Int) by decide) z)) (fun q1178 => And.intro (fun z => absurd z (show ¬ (¬ (0 : Int) = (0 : Int)) by decide)) (fun _ => ((((H.2 q1174).2).2 q1176).2).2 q1178)))))))
set_option maxRecDepth 100000 in
theorem x231_94 {G : Ctx} {h : Nat} {Q : MP} {I : Nat → Nat → Int} {J : Nat → Nat → BitVec 64} {b : B3} {l1 l2 l3 : Int} (hh : 0 ≤ h) (H : ((l2 ≤ l3) → (Tri G h 231 119 119 32 [some (vr 91), some (vi (w32 (l1 + 1)))] [] (u2 I 91 26 (w32 ((I 91 26) + 1)), J, PP b) Q)) ∧ (¬ (l2 ≤ l3) → (Tri G h 231 119 119 102 [some (vr 91), some (vi l1), some (vi l2), some (vi l3), some (vi 0)] [] (I, J, PP b) Q))) : Tri G h 231 119 119 94 [some (vr 91), some (vi l1), some (vi l2), some (vi l3)] [] (I, J, PP b) Q := wp_at ck231 [(7, [true, true]), (32, [true, true]), (94, [true, true, true, true]), (102, [true, true, true, true, true])] 400 H
set_option maxRecDepth 100000 in
theorem x231_102 {G : Ctx} {h : Nat} {Q : MP} {I : Nat → Nat → Int} {J : Nat → Nat → BitVec 64} {b : B3} {l1 l2 l3 l4 : Int} (hh : 4 ≤ h) (H : (((I 92 4) ≤ l4) → (Tri G h 231 119 119 94 [some (vr 91), some (vi l1), some (vi l2), some (vi (w32 (l3 + 1)))] [] (I, J, PP b) Q)) ∧ (¬ ((I 92 4) ≤ l4) → ((0 ≤ l4 ∧ l4 < (120 : Int)) ∧ (((¬ (I 101 l4.toNat) = (-1)) → (Tri G h 231 119 119 102 [some (vr 91), some (vi l1), some (vi l2), some (vi l3), some (vi (w32 (l4 + 1)))] [] (I, J, PP b) Q)) ∧ (¬ (¬ (I 101 l4.toNat) = (-1)) → ((rBook 0 92 I ∧ 0 ≤ l4 ∧ l4 < I 7 0) ∧ (((knB I l4.toNat = true) → ((0 ≤ l3 ∧ l3 < (120 : Int)) ∧ (TriM G h 227 119 119 [vr 91, vi 0, vi (I 103 l3.toNat), vi l4] (I, J, PP b) (cIN fun r1 I1 J1 b1 => (((¬ r1 = 0) → ((0 ≤ l4 ∧ l4 < (120 : Int)) ∧ ((0 ≤ l2 ∧ l2 < (120 : Int)) ∧ (Tri G h 231 119 119 102 [some (vr 91), some (vi l1), some (vi (w32 (l2 + 1))), some (vi l3), some (vi (w32 (l4 + 1)))] [] (u2 (u2 I1 101 l4.toNat (I1 91 26)) 103 l2.toNat l4, J1, PP b1) Q)))) ∧ (¬ (¬ r1 = 0) → (Tri G h 231 119 119 102 [some (vr 91), some (vi l1), some (vi l2), some (vi l3), some (vi (w32 (l4 + 1)))] [] (I1, J1, PP b1) Q))))))) ∧ (¬ (knB I l4.toNat = true) → (Tri G h 231 119 119 102 [some (vr 91), some (vi l1), some (vi l2), some (vi l3), some (vi (w32 (l4 + 1)))] [] (I, J, PP b) Q))))))))) : Tri G h 231 119 119 102 [some (vr 91), some (vi l1), some (vi l2), some (vi l3), some (vi l4)] [] (I, J, PP b) Q := wp_at ck231 [(7, [true, true]), (32, [true, true]), (94, [true, true, true, true]), (102, [true, true, true, true, true])] 400 (And.intro (show (0 : Int) ≤ 4 ∧ (4 : Int) < ((5120 : Nat) : Int) by decide) (And.intro (fun q1179 => H.1 q1179) (fun q1180 => And.intro (H.2 q1180).1 (And.intro (fun q1181 => ((H.2 q1180).2).1 q1181) (fun q1182 => sb225 (by omega) (((H.2 q1180).2).2 q1182).1 (fun q1183 => And.intro (fun z => absurd z (show ¬ ((1 : Int) = (0 : Int)) by decide)) (fun _ => And.intro (((((H.2 q1180).2).2 q1182).2).1 q1183).1 (cIN_go ((((((H.2 q1180).2).2 q1182).2).1 q1183).2) (fun r1 I1 J1 b1 q1185 => q1185)))) (fun q1184 => And.intro (fun _ => ((((H.2 q1180).2).2 q1182).2).2 q1184) (fun z => absurd (show (0 : Int) = (0 : Int) by decide) z)))))))
theorem x231_m {G : Ctx} {h : Nat} {Q : MP} {I : Nat → Nat → Int} {J : Nat → Nat → BitVec 64} {b : B3} (hh : 5 ≤ h) (H : ∀ h, 4 ≤ h → Tri G h 231 119 119 0 [some (vr 91)] [] (I, J, PP b) Q) : TriM G h 231 119 119 [vr 91] (I, J, PP b) Q := TriM_intro (h - 1) (by omega) (by decide) (Nat.le_of_ble_eq_true rfl) (Nat.le_refl _) (Nat.le_refl _) (H (h - 1) (by omega))
/-! persons: pure -/
theorem cntE_up {f g : Nat → Bool} {o : Nat} (hf : f o = false) (hg : ∀ i, i ≠ o → g i = f i) : ∀ n, cntE g n = cntE f n + (if o < n ∧ g o = true then 1 else 0)
  | 0 => by simp [cntE]
  | n + 1 => by
    have ih := cntE_up hf hg n
    unfold cntE
    rw [ih]
    by_cases e : n = o
    · subst e
      rw [hf, if_neg (fun q => absurd q.1 (by omega))]
      cases hgn : g n with
      | true => simp
      | false => simp
    · rw [hg n e]
      by_cases h1 : o < n
      · have h2 : o < n + 1 := by omega
        simp only [h1, h2, true_and]
        omega
      · have h2 : ¬ o < n + 1 := by omega
        rw [if_neg (c := o < n ∧ g o = true) (fun q => h1 q.1), if_neg (c := o < n + 1 ∧ g o = true) (fun q => h2 q.1)]
        omega
theorem cntE_c {f g : Nat → Bool} (h : ∀ i, g i = f i) (n : Nat) : cntE g n = cntE f n := by
  rw [show g = f from funext h]
theorem up1_e {α : Type} {f : Nat → α} {k : Nat} {x : α} : up1 f k x k = x := if_pos rfl
theorem up1_n {α : Type} {f : Nat → α} {k j : Nat} {x : α} (h : j ≠ k) : up1 f k x j = f j := if_neg h
/-- one more entry in a class -/
theorem cnt_join {cls : Nat → Int} {e : Nat} {p q : Int} {g : Nat → Bool} {told : Nat} (he : e < told) (hc : cls e ≠ q) : cntE (fun i => decide (up1 cls e p i = q) && g i) told = cntE (fun i => decide (cls i = q) && g i) told + (if p = q ∧ g e = true then 1 else 0) := by
  rw [cntE_up (f := fun i => decide (cls i = q) && g i) (o := e) (by simp [hc]) (fun i hi => by simp only [up1_n hi])]
  simp only [up1_e]
  by_cases hpq : p = q
  · simp [he, hpq]
  · simp [hpq]
theorem cnt_one {cls : Nat → Int} {q : Int} {told : Nat} : cntE (fun i => decide (cls i = q)) told = cntE (fun i => decide (cls i = q) && (fun _ => true) i) told := cntE_c (fun i => by simp) told
/-- a queue: its entries are the class's -/
def PQ (told first : Nat) (kn : Nat → Bool) (p : Int) (s : (Nat → Int) × List Nat) : Prop := (∀ q ∈ s.2, q < told ∧ s.1 q = p) ∧ (∀ o, told ≤ o → s.1 o = -1) ∧ cntE (fun e => decide (s.1 e = p)) told = s.2.length ∧ (∀ o, -1 ≤ s.1 o ∧ s.1 o ≤ p) ∧ ∀ o, o < first → s.1 o ≠ -1 ∨ kn o = false
theorem PQ.step {told first : Nat} {kn : Nat → Bool} {p : Int} {s : (Nat → Int) × List Nat} {o : Nat} (h : PQ told first kn p s) (hp : 0 ≤ p) (ho : o < told) (hc : s.1 o = -1) : PQ told first kn p (up1 s.1 o p, s.2 ++ [o]) := by
  obtain ⟨h1, h2, h3, h4, h5⟩ := h
  refine ⟨fun q hq => ?_, fun i hi => ?_, ?_, fun i => ?_, fun i hi => ?_⟩
  · rcases List.mem_append.1 hq with hq | hq
    · have := h1 q hq
      refine ⟨this.1, ?_⟩
      by_cases e : q = o
      · subst e
        exact up1_e
      · show up1 s.1 o p q = p
        rw [up1_n e]
        exact this.2
    · have : q = o := by simpa using hq
      subst this
      exact ⟨ho, up1_e⟩
  · show up1 s.1 o p i = -1
    rw [up1_n (by omega)]
    exact h2 i hi
  · rw [cnt_one] at h3 ⊢
    show cntE (fun i => decide (up1 s.1 o p i = p) && (fun _ => true) i) told = _
    rw [cnt_join ho (by omega), h3, if_pos ⟨rfl, rfl⟩]
    simp
  · show -1 ≤ up1 s.1 o p i ∧ up1 s.1 o p i ≤ p
    by_cases e : i = o
    · subst e
      rw [up1_e]
      omega
    · rw [up1_n e]
      exact h4 i
  · show up1 s.1 o p i ≠ -1 ∨ _
    by_cases e : i = o
    · subst e
      rw [up1_e]
      exact Or.inl (by omega)
    · rw [up1_n e]
      exact h5 i hi
theorem PQ.room {told first : Nat} {kn : Nat → Bool} {p : Int} {s : (Nat → Int) × List Nat} {o : Nat} (h : PQ told first kn p s) (hp : 0 ≤ p) (ho : o < told) (hc : s.1 o = -1) : s.2.length < told := by
  have h1 := (h.step hp ho hc).2.2.1
  have h2 := (cntE_b (fun e => decide (up1 s.1 o p e = p)) told).2
  have : cntE (fun e => decide (up1 s.1 o p e = p)) told = ((s.2 ++ [o]).length : Nat) := h1
  rw [List.length_append] at this
  simp at this
  omega
theorem PQ.len {told first : Nat} {kn : Nat → Bool} {p : Int} {s : (Nat → Int) × List Nat} (h : PQ told first kn p s) : s.2.length ≤ told := by
  have h2 := (cntE_b (fun e => decide (s.1 e = p)) told).2
  rw [h.2.2.1] at h2
  omega
/-- below the first nothing joins -/
theorem bIn_skip {al : Nat → Nat → Bool} {kn : Nat → Bool} {p : Int} {q : Nat} {s : (Nat → Int) × List Nat} : ∀ (c m o : Nat), (∀ i, o ≤ i → i < o + c → s.1 i ≠ -1 ∨ kn i = false) → bIn al kn p q (c + m) o s = bIn al kn p q m (o + c) s
  | 0, m, o, _ => by rw [Nat.zero_add, Nat.add_zero]
  | c + 1, m, o, h => by
    have ho := h o (Nat.le_refl _) (by omega)
    rw [show c + 1 + m = (c + m) + 1 by omega]
    show bIn al kn p q (c + m) (o + 1) (if s.1 o = -1 ∧ kn o = true ∧ al q o = true then (up1 s.1 o p, s.2 ++ [o]) else s) = _
    rw [if_neg]
    · rw [bIn_skip c m (o + 1) (fun i h1 h2 => h i (by omega) (by omega)), show o + 1 + c = o + (c + 1) by omega]
    · intro z
      rcases ho with ho | ho
      · exact ho z.1
      · rw [z.2.1] at ho
        exact absurd ho (by decide)
/-! the class's rows of persons -/
def PR (I : MI) (J : MJ) (told : Nat) (cls : Nat → Int) (L : List Nat) : Prop := I 72 0 = L.length ∧ (∀ e : Nat, e < 120 → I 73 e = cls e) ∧ ∀ p x : Nat, L[p]? = some x → I 75 p = x ∧ I 74 p = cntE (fun e => decide (cls e = p)) told ∧ I 76 p = srt I cls told p + 1 ∧ ∀ s : Nat, s < 64 → (J 77 p).getLsbD s = inHs I cls told p s
theorem PR.k {S T : List Nat} {I I' : MI} {J J' : MJ} {told : Nat} {cls : Nat → Int} {L : List Nat} (h : PR I J told cls L) (hf : frK S I I') (hS : ∀ k ∈ [8, 72, 73, 74, 75, 76], k ∉ S) (hj : frJ T J J') (hT : 77 ∉ T) : PR I' J' told cls L := by
  unfold PR
  rw [srt_c (hf 8 (hS 8 (by decide))), inHs_c (hf 8 (hS 8 (by decide))), hf 72 (hS 72 (by decide)), hf 73 (hS 73 (by decide)), hf 74 (hS 74 (by decide)), hf 75 (hS 75 (by decide)), hf 76 (hS 76 (by decide)), hj 77 hT]
  exact h
theorem msk {m f : Int} {A B A' B' : Int} (hA : 0 ≤ A) (hB : 0 ≤ B) (hf : f = 0 ∨ f = 1) (hm : m = (if 0 < A then 1 else 0) + (if 0 < B then 2 else 0)) (hA' : A' = A + if f = 0 then 1 else 0) (hB' : B' = B + if f = 1 then 1 else 0) : iOr m (iShl 1 f) = (if 0 < A' then 1 else 0) + (if 0 < B' then 2 else 0) := by
  have o0 : iOr 0 (iShl 1 0) = 1 ∧ iOr 1 (iShl 1 0) = 1 ∧ iOr 2 (iShl 1 0) = 3 ∧ iOr 3 (iShl 1 0) = 3 := by decide
  have o1 : iOr 0 (iShl 1 1) = 2 ∧ iOr 1 (iShl 1 1) = 3 ∧ iOr 2 (iShl 1 1) = 2 ∧ iOr 3 (iShl 1 1) = 3 := by decide
  subst hm hA' hB'
  rcases hf with rfl | rfl
  · by_cases h1 : 0 < A
    · by_cases h2 : 0 < B
      · rw [if_pos h1, if_pos h2, if_pos (by simp; omega), if_pos (by simp; omega)]
        exact o0.2.2.2
      · rw [if_pos h1, if_neg h2, if_pos (by simp; omega), if_neg (by simp; omega)]
        exact o0.2.1
    · by_cases h2 : 0 < B
      · rw [if_neg h1, if_pos h2, if_pos (by simp; omega), if_pos (by simp; omega)]
        exact o0.2.2.1
      · rw [if_neg h1, if_neg h2, if_pos (by simp; omega), if_neg (by simp; omega)]
        exact o0.1
  · by_cases h1 : 0 < A
    · by_cases h2 : 0 < B
      · rw [if_pos h1, if_pos h2, if_pos (by simp; omega), if_pos (by simp; omega)]
        exact o1.2.2.2
      · rw [if_pos h1, if_neg h2, if_pos (by simp; omega), if_pos (by simp; omega)]
        exact o1.2.1
    · by_cases h2 : 0 < B
      · rw [if_neg h1, if_pos h2, if_neg (by simp; omega), if_pos (by simp; omega)]
        exact o1.2.2.1
      · rw [if_neg h1, if_neg h2, if_neg (by simp; omega), if_pos (by simp; omega)]
        exact o1.1
theorem srt_u (I : MI) (cls : Nat → Int) (told : Nat) (p : Int) : srt I cls told p + 1 = (if 0 < cntE (fun e => decide (cls e = p) && decide (fact I e 0 = 0)) told then 1 else 0) + (if 0 < cntE (fun e => decide (cls e = p) && decide (fact I e 0 = 1)) told then 2 else 0) := by
  unfold srt
  omega
theorem PR.join {I I' : MI} {J J' : MJ} {told : Nat} {cls : Nat → Int} {L : List Nat} {p e : Nat} (h : PR I J told cls L) (hp : p < L.length) (he : e < told) (ht : told ≤ 120) (hc : cls e = -1) (f0 : fact I e 0 = 0 ∨ fact I e 0 = 1) (f2 : 0 ≤ fact I e 2 ∧ fact I e 2 < 60) (e8 : I' 8 = I 8) (e72 : I' 72 = I 72) (e75 : I' 75 = I 75) (e73 : ∀ j, I' 73 j = if j = e then (p : Int) else I 73 j) (e74 : ∀ j, I' 74 j = if j = p then I 74 p + 1 else I 74 j) (e76 : ∀ j, I' 76 j = if j = p then iOr (I 76 p) (iShl 1 (fact I e 0)) else I 76 j) (j77 : ∀ j, J' 77 j = if j = p then J 77 p ||| lShl (1#64) (fact I e 2) else J 77 j) : PR I' J' told (up1 cls e p) L := by
  obtain ⟨h1, h2, h3⟩ := h
  refine ⟨by rw [e72]; exact h1, fun j hj => ?_, fun q x hq => ?_⟩
  · rw [e73]
    unfold up1
    split
    · rfl
    · exact h2 j hj
  · obtain ⟨g1, g2, g3, g4⟩ := h3 q x hq
    rw [srt_c e8, inHs_c e8, e75, e74, e76, j77]
    have hcq : cls e ≠ (q : Int) := by omega
    have c1 : cntE (fun i => decide (up1 cls e p i = (q : Int))) told = cntE (fun i => decide (cls i = (q : Int))) told + (if (p : Int) = q then 1 else 0) := by
      rw [cnt_one, cnt_one, cnt_join he hcq]
      simp
    have cg := fun (g : Nat → Bool) => cnt_join (p := (p : Int)) (g := g) he hcq
    by_cases hpq : q = p
    · subst hpq
      rw [if_pos rfl] at c1
      rw [if_pos rfl, if_pos rfl, if_pos rfl, c1]
      refine ⟨g1, by rw [g2], ?_, fun s hs => ?_⟩
      · rw [srt_u]
        rw [srt_u] at g3
        have a1 := (cntE_b (fun i => decide (cls i = (q : Int)) && decide (fact I i 0 = 0)) told).1
        have a2 := (cntE_b (fun i => decide (cls i = (q : Int)) && decide (fact I i 0 = 1)) told).1
        refine msk a1 a2 f0 g3 ?_ ?_
        · rw [cg (fun i => decide (fact I i 0 = 0))]
          simp
        · rw [cg (fun i => decide (fact I i 0 = 1))]
          simp
      · obtain ⟨w, hw⟩ : ∃ w : Nat, fact I e 2 = w := ⟨(fact I e 2).toNat, by omega⟩
        rw [BitVec.getLsbD_or, g4 s hs, shl1_bit hw (by omega)]
        unfold inHs
        rw [cg (fun i => decide (fact I i 2 = (s : Int)))]
        have a1 := (cntE_b (fun i => decide (cls i = (q : Int)) && decide (fact I i 2 = (s : Int))) told).1
        by_cases hsw : s = w
        · rw [if_pos ⟨rfl, by rw [hw, hsw]; simp⟩, decide_eq_true hsw, Bool.or_true, decide_eq_true (by omega)]
        · rw [if_neg (fun z => by have := z.2; rw [hw] at this; simp at this; omega), decide_eq_false hsw, Bool.or_false, Int.add_zero]
    · have hpq2 : ¬ (p : Int) = q := by omega
      rw [if_neg hpq2, Int.add_zero] at c1
      rw [if_neg hpq, if_neg hpq, if_neg hpq, c1]
      have cg' : ∀ g : Nat → Bool, cntE (fun i => decide (up1 cls e p i = (q : Int)) && g i) told = cntE (fun i => decide (cls i = (q : Int)) && g i) told := by
        intro g
        rw [cg g, if_neg (fun z => hpq2 z.1), Int.add_zero]
      refine ⟨g1, g2, ?_, fun s hs => ?_⟩
      · rw [g3, srt_u, srt_u, cg' (fun i => decide (fact I i 0 = 0)), cg' (fun i => decide (fact I i 0 = 1))]
      · rw [g4 s hs]
        unfold inHs
        rw [cg' (fun i => decide (fact I i 2 = (s : Int)))]

