set_option maxRecDepth 100000 in
theorem x151 {G : Ctx} {h : Nat} {Q : MP} {I : Nat → Nat → Int} {J : Nat → Nat → BitVec 64} {b : B3} {x y : Int} (hh : 7 ≤ h) (H : ((0 ≤ x ∧ x < (I 7 0)) → (((0 ≤ y) → (((6 ≤ y) → (((y = 6 → ((0 ≤ x ∧ x < (I 7 0) ∧ (I 7 0) ≤ 120) ∧ (Q (some (vi (I 11 x.toNat))) (I, J, PP b)))) ∧ (y = 7 → ((rBook 0 92 I ∧ 0 ≤ x ∧ x < I 7 0) ∧ (((knB I x.toNat = true) → (Q (some (vi 1)) (I, J, PP b))) ∧ (¬ (knB I x.toNat = true) → (Q (some (vi 0)) (I, J, PP b)))))) ∧ (y = 8 → (TriM G h 81 119 119 [vr 72] (I, J, PP b) (cVN fun I1 J1 b1 => (((0 ≤ x ∧ x < (120 : Int)) → ((0 ≤ x ∧ x < (120 : Int)) ∧ (Q (some (vi (I1 73 x.toNat))) (I1, J1, PP b1)))) ∧ (¬ (0 ≤ x ∧ x < (120 : Int)) → (Q (some (vi (-1))) (I1, J1, PP b1))))))) ∧ True) ∧ ((y < 6 ∨ 8 < y) → ((0 ≤ x ∧ x < (I 7 0) ∧ (I 7 0) ≤ 120) ∧ (((0 ≤ (w32 (y - 10)) ∧ (w32 (y - 10)) < (I 11 x.toNat)) → ((0 ≤ x ∧ x < (I 7 0) ∧ (I 7 0) ≤ 120 ∧ 0 ≤ (w32 (y - 10)) ∧ (w32 (y - 10)) < 8) ∧ (Q (some (vi (I 12 ((x * 8 + (w32 (y - 10))).toNat)))) (I, J, PP b)))) ∧ (¬ (0 ≤ (w32 (y - 10)) ∧ (w32 (y - 10)) < (I 11 x.toNat)) → (Q (some (vi (-1))) (I, J, PP b)))))))) ∧ (¬ (6 ≤ y) → ((0 ≤ x ∧ x < (I 7 0) ∧ (I 7 0) ≤ 120 ∧ 0 ≤ y ∧ y < 6) ∧ (Q (some (vi (I 8 ((x * 6 + y).toNat)))) (I, J, PP b)))))) ∧ (¬ (0 ≤ y) → (Q (some (vi (-1))) (I, J, PP b))))) ∧ (¬ (0 ≤ x ∧ x < (I 7 0)) → (Q (some (vi (-1))) (I, J, PP b)))) : Tri G h 151 119 119 0 [some (vr 0), some (vi x), some (vi y)] [] (I, J, PP b) Q := wp_at ck151 [] 400 (sx172 (by omega)  (fun q1186 => And.intro (fun z => absurd z (show ¬ ((1 : Int) = (0 : Int)) by decide)) (fun _ => And.intro (fun q1188 => And.intro (fun q1190 => And.intro (And.intro (fun q1192 => sx30 (by omega) (((((H.1 q1186).1 q1188).1 q1190).1).1 q1192).1 ((((((H.1 q1186).1 q1188).1 q1190).1).1 q1192).2)) (And.intro (fun q1193 => sb27 (by omega) ((((((H.1 q1186).1 q1188).1 q1190).1).2).1 q1193).1 (fun q1194 => And.intro (fun z => absurd z (show ¬ ((1 : Int) = (0 : Int)) by decide)) (fun _ => (((((((H.1 q1186).1 q1188).1 q1190).1).2).1 q1193).2).1 q1194)) (fun q1195 => And.intro (fun _ => (((((((H.1 q1186).1 q1188).1 q1190).1).2).1 q1193).2).2 q1195) (fun z => absurd (show (0 : Int) = (0 : Int) by decide) z))) (And.intro (fun q1196 => cVN_go (((((((H.1 q1186).1 q1188).1 q1190).1).2).2).1 q1196) (fun I1 J1 b1 q1197 => x84_m (by omega) (fun h hh => x84 hh (And.intro (fun q1198 => And.intro (q1197.1 q1198).1 (cI_r ((q1197.1 q1198).2))) (fun q1199 => cI_r (q1197.2 q1199)))))) trivial))) (fun q1200 => sx30 (by omega) ((((H.1 q1186).1 q1188).1 q1190).2 q1200).1 (sx172 (by omega)  (fun q1201 => And.intro (fun z => absurd z (show ¬ ((1 : Int) = (0 : Int)) by decide)) (fun _ => sx31 (by omega) ((((((H.1 q1186).1 q1188).1 q1190).2 q1200).2).1 q1201).1 (((((((H.1 q1186).1 q1188).1 q1190).2 q1200).2).1 q1201).2))) (fun q1202 => And.intro (fun _ => (((((H.1 q1186).1 q1188).1 q1190).2 q1200).2).2 q1202) (fun z => absurd (show (0 : Int) = (0 : Int) by decide) z))))) (fun q1191 => sx29 (by omega) (((H.1 q1186).1 q1188).2 q1191).1 ((((H.1 q1186).1 q1188).2 q1191).2))) (fun q1189 => (H.1 q1186).2 q1189))) (fun q1187 => And.intro (fun _ => H.2 q1187) (fun z => absurd (show (0 : Int) = (0 : Int) by decide) z)))
theorem x151_m {G : Ctx} {h : Nat} {Q : MP} {I : Nat → Nat → Int} {J : Nat → Nat → BitVec 64} {b : B3} {x y : Int} (hh : 8 ≤ h) (H : ∀ h, 7 ≤ h → Tri G h 151 119 119 0 [some (vr 0), some (vi x), some (vi y)] [] (I, J, PP b) Q) : TriM G h 151 119 119 [vr 0, vi x, vi y] (I, J, PP b) Q := TriM_intro (h - 1) (by omega) (by decide) (Nat.le_of_ble_eq_true rfl) (Nat.le_refl _) (Nat.le_refl _) (H (h - 1) (by omega))
set_option maxRecDepth 100000 in
theorem x234 {G : Ctx} {h : Nat} {Q : MP} {I : Nat → Nat → Int} {J : Nat → Nat → BitVec 64} {b : B3} {x y : Int} (hh : 5 ≤ h) (H : (0 ≤ (I 92 4) ∧ (I 92 4) < 1000) ∧ (((0 ≤ x ∧ x < (I 92 4)) → ((((0 : Int) ≤ y ∧ y ≤ (5 : Int)) → ((0 ≤ x ∧ x < 120 ∧ 0 ≤ y ∧ y < 17) ∧ (Q (some (vi (I 92 ((450 + 17 * x + y).toNat)))) (I, J, PP b)))) ∧ (¬ ((0 : Int) ≤ y ∧ y ≤ (5 : Int)) → (((¬ y = 6) → (((¬ y = 7) → (((¬ y = 8) → ((0 ≤ x ∧ x < 120 ∧ 0 ≤ (8 : Int) ∧ (8 : Int) < 17) ∧ ((((10 : Int) ≤ y ∧ y ≤ (w32 (9 + (I 92 ((450 + 17 * x + (8 : Int)).toNat))))) → ((0 ≤ x ∧ x < 120 ∧ 0 ≤ (w32 ((w32 (9 + y)) - 10)) ∧ (w32 ((w32 (9 + y)) - 10)) < 17) ∧ (Q (some (vi (I 92 ((450 + 17 * x + (w32 ((w32 (9 + y)) - 10))).toNat)))) (I, J, PP b)))) ∧ (¬ ((10 : Int) ≤ y ∧ y ≤ (w32 (9 + (I 92 ((450 + 17 * x + (8 : Int)).toNat))))) → (Q (some (vi (-1))) (I, J, PP b)))))) ∧ (¬ (¬ y = 8) → (TriM G h 231 119 119 [vr 91] (I, J, PP b) (cVN fun I1 J1 b1 => ((0 ≤ x ∧ x < (120 : Int)) ∧ (Q (some (vi (I1 101 x.toNat))) (I1, J1, PP b1)))))))) ∧ (¬ (¬ y = 7) → ((rBook 0 92 I ∧ 0 ≤ x ∧ x < I 7 0) ∧ (((knB I x.toNat = true) → (Q (some (vi 1)) (I, J, PP b))) ∧ (¬ (knB I x.toNat = true) → (Q (some (vi 0)) (I, J, PP b)))))))) ∧ (¬ (¬ y = 6) → ((0 ≤ x ∧ x < 120 ∧ 0 ≤ (8 : Int) ∧ (8 : Int) < 17) ∧ (Q (some (vi (I 92 ((450 + 17 * x + (8 : Int)).toNat)))) (I, J, PP b)))))))) ∧ (¬ (0 ≤ x ∧ x < (I 92 4)) → (Q (some (vi (-1))) (I, J, PP b))))) : Tri G h 234 119 119 0 [some (vr 91), some (vi x), some (vi y)] [] (I, J, PP b) Q := wp_at ck234 [] 400 (sx187 (by omega) H.1 (fun q1203 => And.intro (fun _ => sx181 (by omega)  (fun q1205 => And.intro (fun z => absurd z (show ¬ ((1 : Int) = (0 : Int)) by decide)) (fun _ => sx188 (by omega) ((H.2.1 q1203).1 q1205).1 (((H.2.1 q1203).1 q1205).2))) (fun q1206 => And.intro (fun _ => And.intro (fun q1207 => And.intro (fun q1209 => And.intro (fun q1211 => sx188 (by omega) (((((H.2.1 q1203).2 q1206).1 q1207).1 q1209).1 q1211).1 (sx181 (by omega)  (fun q1213 => And.intro (fun z => absurd z (show ¬ ((1 : Int) = (0 : Int)) by decide)) (fun _ => sx188 (by omega) (((((((H.2.1 q1203).2 q1206).1 q1207).1 q1209).1 q1211).2).1 q1213).1 ((((((((H.2.1 q1203).2 q1206).1 q1207).1 q1209).1 q1211).2).1 q1213).2))) (fun q1214 => And.intro (fun _ => ((((((H.2.1 q1203).2 q1206).1 q1207).1 q1209).1 q1211).2).2 q1214) (fun z => absurd (show (0 : Int) = (0 : Int) by decide) z)))) (fun q1212 => cVN_go (((((H.2.1 q1203).2 q1206).1 q1207).1 q1209).2 q1212) (fun I1 J1 b1 q1215 => q1215))) (fun q1210 => sb225 (by omega) ((((H.2.1 q1203).2 q1206).1 q1207).2 q1210).1 (fun q1216 => And.intro (fun z => absurd z (show ¬ ((1 : Int) = (0 : Int)) by decide)) (fun _ => (((((H.2.1 q1203).2 q1206).1 q1207).2 q1210).2).1 q1216)) (fun q1217 => And.intro (fun _ => (((((H.2.1 q1203).2 q1206).1 q1207).2 q1210).2).2 q1217) (fun z => absurd (show (0 : Int) = (0 : Int) by decide) z)))) (fun q1208 => sx188 (by omega) (((H.2.1 q1203).2 q1206).2 q1208).1 ((((H.2.1 q1203).2 q1206).2 q1208).2))) (fun z => absurd (show (0 : Int) = (0 : Int) by decide) z))) (fun z => absurd (show ¬ (1 : Int) = (0 : Int) by decide) z)) (fun q1204 => And.intro (fun z => absurd z (show ¬ (¬ (0 : Int) = (0 : Int)) by decide)) (fun _ => H.2.2 q1204)))
theorem x234_m {G : Ctx} {h : Nat} {Q : MP} {I : Nat → Nat → Int} {J : Nat → Nat → BitVec 64} {b : B3} {x y : Int} (hh : 6 ≤ h) (H : ∀ h, 5 ≤ h → Tri G h 234 119 119 0 [some (vr 91), some (vi x), some (vi y)] [] (I, J, PP b) Q) : TriM G h 234 119 119 [vr 91, vi x, vi y] (I, J, PP b) Q := TriM_intro (h - 1) (by omega) (by decide) (Nat.le_of_ble_eq_true rfl) (Nat.le_refl _) (Nat.le_refl _) (H (h - 1) (by omega))
set_option maxRecDepth 100000 in
theorem x88 {G : Ctx} {h : Nat} {Q : MP} {I : Nat → Nat → Int} {J : Nat → Nat → BitVec 64} {b : B3} {x : Int} (hh : 1 ≤ h) (H : ((0 ≤ x ∧ x < (I 72 0)) → ((0 ≤ x ∧ x < (120 : Int)) ∧ (TriM G h 17 119 119 [vl (J 77 x.toNat)] (I, J, PP b) (cIN fun r1 I1 J1 b1 => (Q (some (vi r1)) (I1, J1, PP b1)))))) ∧ (¬ (0 ≤ x ∧ x < (I 72 0)) → (Q (some (vi (-1))) (I, J, PP b)))) : Tri G h 88 119 119 0 [some (vr 72), some (vi x)] [] (I, J, PP b) Q := wp_at ck88 [] 400 (sx172 (by omega)  (fun q1218 => And.intro (fun z => absurd z (show ¬ ((1 : Int) = (0 : Int)) by decide)) (fun _ => And.intro (H.1 q1218).1 (cIN_go ((H.1 q1218).2) (fun r1 I1 J1 b1 q1220 => q1220)))) (fun q1219 => And.intro (fun _ => H.2 q1219) (fun z => absurd (show (0 : Int) = (0 : Int) by decide) z)))
theorem x88_m {G : Ctx} {h : Nat} {Q : MP} {I : Nat → Nat → Int} {J : Nat → Nat → BitVec 64} {b : B3} {x : Int} (hh : 2 ≤ h) (H : ∀ h, 1 ≤ h → Tri G h 88 119 119 0 [some (vr 72), some (vi x)] [] (I, J, PP b) Q) : TriM G h 88 119 119 [vr 72, vi x] (I, J, PP b) Q := TriM_intro (h - 1) (by omega) (by decide) (Nat.le_of_ble_eq_true rfl) (Nat.le_refl _) (Nat.le_refl _) (H (h - 1) (by omega))
set_option maxRecDepth 100000 in
theorem x232 {G : Ctx} {h : Nat} {Q : MP} {I : Nat → Nat → Int} {J : Nat → Nat → BitVec 64} {b : B3} {x : Int} (hh : 0 ≤ h) (H : Tri G h 232 119 119 4 [some (vr 91), some (vi x), some (vi (-1)), some (vi 0)] [] (I, J, PP b) Q) : Tri G h 232 119 119 0 [some (vr 91), some (vi x)] [] (I, J, PP b) Q := wp_at ck232 [(4, [true, true, true, true])] 400 H
set_option maxRecDepth 100000 in
theorem x232_4 {G : Ctx} {h : Nat} {Q : MP} {I : Nat → Nat → Int} {J : Nat → Nat → BitVec 64} {b : B3} {l1 l2 l3 : Int} (hh : 1 ≤ h) (H : (((I 92 4) ≤ l3) → (Q (some (vi l2)) (I, J, PP b))) ∧ (¬ ((I 92 4) ≤ l3) → ((0 ≤ l3 ∧ l3 < (120 : Int)) ∧ (((¬ (I 101 l3.toNat) = l1) → (Tri G h 232 119 119 4 [some (vr 91), some (vi l1), some (vi l2), some (vi (w32 (l3 + 1)))] [] (I, J, PP b) Q)) ∧ (¬ (¬ (I 101 l3.toNat) = l1) → (((l2 = (-1)) → ((0 ≤ l3 ∧ l3 < 120 ∧ 0 ≤ (0 : Int) ∧ (0 : Int) < 17) ∧ (Tri G h 232 119 119 4 [some (vr 91), some (vi l1), some (vi (I 92 ((450 + 17 * l3 + (0 : Int)).toNat))), some (vi (w32 (l3 + 1)))] [] (I, J, PP b) Q))) ∧ (¬ (l2 = (-1)) → ((0 ≤ l3 ∧ l3 < 120 ∧ 0 ≤ (0 : Int) ∧ (0 : Int) < 17) ∧ (((¬ l2 = (I 92 ((450 + 17 * l3 + (0 : Int)).toNat))) → (Tri G h 232 119 119 4 [some (vr 91), some (vi l1), some (vi 2), some (vi (w32 (l3 + 1)))] [] (I, J, PP b) Q)) ∧ (¬ (¬ l2 = (I 92 ((450 + 17 * l3 + (0 : Int)).toNat))) → ((0 ≤ l3 ∧ l3 < 120 ∧ 0 ≤ (0 : Int) ∧ (0 : Int) < 17) ∧ (Tri G h 232 119 119 4 [some (vr 91), some (vi l1), some (vi (I 92 ((450 + 17 * l3 + (0 : Int)).toNat))), some (vi (w32 (l3 + 1)))] [] (I, J, PP b) Q)))))))))))) : Tri G h 232 119 119 4 [some (vr 91), some (vi l1), some (vi l2), some (vi l3)] [] (I, J, PP b) Q := wp_at ck232 [(4, [true, true, true, true])] 400 (And.intro (show (0 : Int) ≤ 4 ∧ (4 : Int) < ((5120 : Nat) : Int) by decide) (And.intro (fun q1221 => H.1 q1221) (fun q1222 => And.intro (H.2 q1222).1 (And.intro (fun q1223 => ((H.2 q1222).2).1 q1223) (fun q1224 => And.intro (fun q1225 => sx188 (by omega) ((((H.2 q1222).2).2 q1224).1 q1225).1 (((((H.2 q1222).2).2 q1224).1 q1225).2)) (fun q1226 => sx188 (by omega) ((((H.2 q1222).2).2 q1224).2 q1226).1 (And.intro (fun q1227 => (((((H.2 q1222).2).2 q1224).2 q1226).2).1 q1227) (fun q1228 => sx188 (by omega) ((((((H.2 q1222).2).2 q1224).2 q1226).2).2 q1228).1 (((((((H.2 q1222).2).2 q1224).2 q1226).2).2 q1228).2)))))))))
theorem x232_m {G : Ctx} {h : Nat} {Q : MP} {I : Nat → Nat → Int} {J : Nat → Nat → BitVec 64} {b : B3} {x : Int} (hh : 2 ≤ h) (H : ∀ h, 1 ≤ h → Tri G h 232 119 119 0 [some (vr 91), some (vi x)] [] (I, J, PP b) Q) : TriM G h 232 119 119 [vr 91, vi x] (I, J, PP b) Q := TriM_intro (h - 1) (by omega) (by decide) (Nat.le_of_ble_eq_true rfl) (Nat.le_refl _) (Nat.le_refl _) (H (h - 1) (by omega))
set_option maxRecDepth 100000 in
theorem x233 {G : Ctx} {h : Nat} {Q : MP} {I : Nat → Nat → Int} {J : Nat → Nat → BitVec 64} {b : B3} {x : Int} (hh : 0 ≤ h) (H : Tri G h 233 119 119 4 [some (vr 91), some (vi x), some (vi 0), some (vi 0)] [] (I, J, PP b) Q) : Tri G h 233 119 119 0 [some (vr 91), some (vi x)] [] (I, J, PP b) Q := wp_at ck233 [(4, [true, true, true, true]), (20, [true, true, true, true, true, true])] 400 H
set_option maxRecDepth 100000 in
theorem x233_4 {G : Ctx} {h : Nat} {Q : MP} {I : Nat → Nat → Int} {J : Nat → Nat → BitVec 64} {b : B3} {l1 l2 l3 : Int} (hh : 0 ≤ h) (H : (((I 92 3) ≤ l3) → (Q (some (vi l2)) (I, J, PP b))) ∧ (¬ ((I 92 3) ≤ l3) → (Tri G h 233 119 119 20 [some (vr 91), some (vi l1), some (vi l2), some (vi l3), some (vi 0), some (vi 0)] [] (I, J, PP b) Q))) : Tri G h 233 119 119 4 [some (vr 91), some (vi l1), some (vi l2), some (vi l3)] [] (I, J, PP b) Q := wp_at ck233 [(4, [true, true, true, true]), (20, [true, true, true, true, true, true])] 400 (And.intro (show (0 : Int) ≤ 3 ∧ (3 : Int) < ((5120 : Nat) : Int) by decide) H)
set_option maxRecDepth 100000 in
theorem x233_20 {G : Ctx} {h : Nat} {Q : MP} {I : Nat → Nat → Int} {J : Nat → Nat → BitVec 64} {b : B3} {l1 l2 l3 l4 l5 : Int} (hh : 1 ≤ h) (H : (((I 92 4) ≤ l5) → (((l4 = 0) → (Tri G h 233 119 119 4 [some (vr 91), some (vi l1), some (vi (w32 (l2 + 0))), some (vi (w32 (l3 + 1)))] [] (I, J, PP b) Q)) ∧ (¬ (l4 = 0) → (Tri G h 233 119 119 4 [some (vr 91), some (vi l1), some (vi (w32 (l2 + 1))), some (vi (w32 (l3 + 1)))] [] (I, J, PP b) Q)))) ∧ (¬ ((I 92 4) ≤ l5) → (((¬ l4 = 0) → (((l4 = 0) → (Tri G h 233 119 119 4 [some (vr 91), some (vi l1), some (vi (w32 (l2 + 0))), some (vi (w32 (l3 + 1)))] [] (I, J, PP b) Q)) ∧ (¬ (l4 = 0) → (Tri G h 233 119 119 4 [some (vr 91), some (vi l1), some (vi (w32 (l2 + 1))), some (vi (w32 (l3 + 1)))] [] (I, J, PP b) Q)))) ∧ (¬ (¬ l4 = 0) → ((0 ≤ l5 ∧ l5 < (120 : Int)) ∧ (((¬ (I 101 l5.toNat) = l1) → (Tri G h 233 119 119 20 [some (vr 91), some (vi l1), some (vi l2), some (vi l3), some (vi 0), some (vi (w32 (l5 + 1)))] [] (I, J, PP b) Q)) ∧ (¬ (¬ (I 101 l5.toNat) = l1) → ((0 ≤ l5 ∧ l5 < 120 ∧ 0 ≤ (2 : Int) ∧ (2 : Int) < 17) ∧ (((¬ (I 92 ((450 + 17 * l5 + (2 : Int)).toNat)) = l3) → (Tri G h 233 119 119 20 [some (vr 91), some (vi l1), some (vi l2), some (vi l3), some (vi 0), some (vi (w32 (l5 + 1)))] [] (I, J, PP b) Q)) ∧ (¬ (¬ (I 92 ((450 + 17 * l5 + (2 : Int)).toNat)) = l3) → (Tri G h 233 119 119 20 [some (vr 91), some (vi l1), some (vi l2), some (vi l3), some (vi 1), some (vi (w32 (l5 + 1)))] [] (I, J, PP b) Q))))))))))) : Tri G h 233 119 119 20 [some (vr 91), some (vi l1), some (vi l2), some (vi l3), some (vi l4), some (vi l5)] [] (I, J, PP b) Q := wp_at ck233 [(4, [true, true, true, true]), (20, [true, true, true, true, true, true])] 400 (And.intro (show (0 : Int) ≤ 4 ∧ (4 : Int) < ((5120 : Nat) : Int) by decide) (And.intro (fun q1229 => H.1 q1229) (fun q1230 => And.intro (fun q1231 => (H.2 q1230).1 q1231) (fun q1232 => And.intro ((H.2 q1230).2 q1232).1 (And.intro (fun q1233 => (((H.2 q1230).2 q1232).2).1 q1233) (fun q1234 => sx188 (by omega) ((((H.2 q1230).2 q1232).2).2 q1234).1 (((((H.2 q1230).2 q1232).2).2 q1234).2)))))))
theorem x233_m {G : Ctx} {h : Nat} {Q : MP} {I : Nat → Nat → Int} {J : Nat → Nat → BitVec 64} {b : B3} {x : Int} (hh : 2 ≤ h) (H : ∀ h, 1 ≤ h → Tri G h 233 119 119 0 [some (vr 91), some (vi x)] [] (I, J, PP b) Q) : TriM G h 233 119 119 [vr 91, vi x] (I, J, PP b) Q := TriM_intro (h - 1) (by omega) (by decide) (Nat.le_of_ble_eq_true rfl) (Nat.le_refl _) (Nat.le_refl _) (H (h - 1) (by omega))
set_option maxRecDepth 100000 in
theorem x154 {G : Ctx} {h : Nat} {Q : MP} {I : Nat → Nat → Int} {J : Nat → Nat → BitVec 64} {b : B3} {x y : Int} (hh : 7 ≤ h) (H : TriM G h 81 119 119 [vr 72] (I, J, PP b) (cVN fun I1 J1 b1 => (((y = 0 → (((0 ≤ x ∧ x < (I1 72 0)) → ((0 ≤ x ∧ x < (120 : Int)) ∧ (Q (some (vi (I1 74 x.toNat))) (I1, J1, PP b1)))) ∧ (¬ (0 ≤ x ∧ x < (I1 72 0)) → (Q (some (vi (-1))) (I1, J1, PP b1))))) ∧ (y = 1 → (((0 ≤ x ∧ x < (I1 72 0)) → ((0 ≤ x ∧ x < (120 : Int)) ∧ (Q (some (vi (I1 75 x.toNat))) (I1, J1, PP b1)))) ∧ (¬ (0 ≤ x ∧ x < (I1 72 0)) → (Q (some (vi (-1))) (I1, J1, PP b1))))) ∧ (y = 2 → (((0 ≤ x ∧ x < (I1 72 0)) → ((0 ≤ x ∧ x < (120 : Int)) ∧ (Q (some (vi (w32 ((I1 76 x.toNat) - 1)))) (I1, J1, PP b1)))) ∧ (¬ (0 ≤ x ∧ x < (I1 72 0)) → (Q (some (vi (-1))) (I1, J1, PP b1))))) ∧ (y = 3 → (TriM G h 88 119 119 [vr 72, vi x] (I1, J1, PP b1) (cIN fun r2 I2 J2 b2 => (Q (some (vi r2)) (I2, J2, PP b2))))) ∧ True) ∧ ((y < 0 ∨ 3 < y) → (Q (some (vi (-1))) (I1, J1, PP b1)))))) : Tri G h 154 119 119 0 [some (vr 0), some (vi x), some (vi y)] [] (I, J, PP b) Q := wp_at ck154 [] 400 (cVN_go H (fun I1 J1 b1 q1235 => And.intro (And.intro (fun q1236 => x85_m (by omega) (fun h hh => x85 hh (And.intro (fun q1237 => And.intro ((q1235.1.1 q1236).1 q1237).1 (cI_r (((q1235.1.1 q1236).1 q1237).2))) (fun q1238 => cI_r ((q1235.1.1 q1236).2 q1238))))) (And.intro (fun q1239 => x86_m (by omega) (fun h hh => x86 hh (And.intro (fun q1240 => And.intro ((q1235.1.2.1 q1239).1 q1240).1 (cI_r (((q1235.1.2.1 q1239).1 q1240).2))) (fun q1241 => cI_r ((q1235.1.2.1 q1239).2 q1241))))) (And.intro (fun q1242 => x87_m (by omega) (fun h hh => x87 hh (And.intro (fun q1243 => And.intro ((q1235.1.2.2.1 q1242).1 q1243).1 (cI_r (((q1235.1.2.2.1 q1242).1 q1243).2))) (fun q1244 => cI_r ((q1235.1.2.2.1 q1242).2 q1244))))) (And.intro (fun q1245 => cIN_go (q1235.1.2.2.2.1 q1245) (fun r2 I2 J2 b2 q1246 => q1246)) trivial)))) (fun q1247 => q1235.2 q1247)))
theorem x154_m {G : Ctx} {h : Nat} {Q : MP} {I : Nat → Nat → Int} {J : Nat → Nat → BitVec 64} {b : B3} {x y : Int} (hh : 8 ≤ h) (H : ∀ h, 7 ≤ h → Tri G h 154 119 119 0 [some (vr 0), some (vi x), some (vi y)] [] (I, J, PP b) Q) : TriM G h 154 119 119 [vr 0, vi x, vi y] (I, J, PP b) Q := TriM_intro (h - 1) (by omega) (by decide) (Nat.le_of_ble_eq_true rfl) (Nat.le_refl _) (Nat.le_refl _) (H (h - 1) (by omega))
set_option maxRecDepth 100000 in
theorem x235 {G : Ctx} {h : Nat} {Q : MP} {I : Nat → Nat → Int} {J : Nat → Nat → BitVec 64} {b : B3} {x y : Int} (hh : 5 ≤ h) (H : TriM G h 231 119 119 [vr 91] (I, J, PP b) (cVN fun I1 J1 b1 => ((((0 : Int) ≤ x ∧ x ≤ (w32 ((I1 91 26) - 1))) → ((((0 : Int) ≤ y ∧ y ≤ (3 : Int)) → (((¬ y = 1) → (((¬ y = 2) → (((¬ y = 3) → (Tri G h 235 119 119 68 [some (vr 91), some (vi x), none, some (vi 0), some (vi 0)] [] (I1, J1, PP b1) Q)) ∧ (¬ (¬ y = 3) → (TriM G h 233 119 119 [vr 91, vi x] (I1, J1, PP b1) (cIN fun r2 I2 J2 b2 => (Q (some (vi r2)) (I2, J2, PP b2))))))) ∧ (¬ (¬ y = 2) → (TriM G h 232 119 119 [vr 91, vi x] (I1, J1, PP b1) (cIN fun r3 I3 J3 b3 => (Q (some (vi r3)) (I3, J3, PP b3))))))) ∧ (¬ (¬ y = 1) → ((0 ≤ x ∧ x < (120 : Int)) ∧ (Q (some (vi (I1 102 x.toNat))) (I1, J1, PP b1)))))) ∧ (¬ ((0 : Int) ≤ y ∧ y ≤ (3 : Int)) → (Q (some (vi (-1))) (I1, J1, PP b1))))) ∧ (¬ ((0 : Int) ≤ x ∧ x ≤ (w32 ((I1 91 26) - 1))) → (Q (some (vi (-1))) (I1, J1, PP b1)))))) : Tri G h 235 119 119 0 [some (vr 91), some (vi x), some (vi y)] [] (I, J, PP b) Q := wp_at ck235 [(68, [true, true, false, true, true])] 400 (cVN_go H (fun I1 J1 b1 q1248 => sx181 (by omega)  (fun q1249 => And.intro (fun z => absurd z (show ¬ ((1 : Int) = (0 : Int)) by decide)) (fun _ => sx181 (by omega)  (fun q1251 => And.intro (fun _ => And.intro (fun q1253 => And.intro (fun q1255 => And.intro (fun q1257 => ((((q1248.1 q1249).1 q1251).1 q1253).1 q1255).1 q1257) (fun q1258 => cIN_go (((((q1248.1 q1249).1 q1251).1 q1253).1 q1255).2 q1258) (fun r2 I2 J2 b2 q1259 => q1259))) (fun q1256 => cIN_go ((((q1248.1 q1249).1 q1251).1 q1253).2 q1256) (fun r3 I3 J3 b3 q1260 => q1260))) (fun q1254 => ((q1248.1 q1249).1 q1251).2 q1254)) (fun z => absurd (show ¬ (1 : Int) = (0 : Int) by decide) z)) (fun q1252 => And.intro (fun z => absurd z (show ¬ (¬ (0 : Int) = (0 : Int)) by decide)) (fun _ => (q1248.1 q1249).2 q1252)))) (fun q1250 => And.intro (fun _ => q1248.2 q1250) (fun z => absurd (show (0 : Int) = (0 : Int) by decide) z))))
set_option maxRecDepth 100000 in
theorem x235_68 {G : Ctx} {h : Nat} {Q : MP} {I : Nat → Nat → Int} {J : Nat → Nat → BitVec 64} {b : B3} {l1 l3 l4 : Int} (hh : 0 ≤ h) (H : (((I 92 4) ≤ l4) → (Q (some (vi l3)) (I, J, PP b))) ∧ (¬ ((I 92 4) ≤ l4) → ((0 ≤ l4 ∧ l4 < (120 : Int)) ∧ (((¬ (I 101 l4.toNat) = l1) → (Tri G h 235 119 119 68 [some (vr 91), some (vi l1), none, some (vi (w32 (l3 + 0))), some (vi (w32 (l4 + 1)))] [] (I, J, PP b) Q)) ∧ (¬ (¬ (I 101 l4.toNat) = l1) → (Tri G h 235 119 119 68 [some (vr 91), some (vi l1), none, some (vi (w32 (l3 + 1))), some (vi (w32 (l4 + 1)))] [] (I, J, PP b) Q)))))) : Tri G h 235 119 119 68 [some (vr 91), some (vi l1), none, some (vi l3), some (vi l4)] [] (I, J, PP b) Q := wp_at ck235 [(68, [true, true, false, true, true])] 400 (And.intro (show (0 : Int) ≤ 4 ∧ (4 : Int) < ((5120 : Nat) : Int) by decide) H)
theorem x235_m {G : Ctx} {h : Nat} {Q : MP} {I : Nat → Nat → Int} {J : Nat → Nat → BitVec 64} {b : B3} {x y : Int} (hh : 6 ≤ h) (H : ∀ h, 5 ≤ h → Tri G h 235 119 119 0 [some (vr 91), some (vi x), some (vi y)] [] (I, J, PP b) Q) : TriM G h 235 119 119 [vr 91, vi x, vi y] (I, J, PP b) Q := TriM_intro (h - 1) (by omega) (by decide) (Nat.le_of_ble_eq_true rfl) (Nat.le_refl _) (Nat.le_refl _) (H (h - 1) (by omega))
def INVp (p0 p1 p2 : List Lin) (c : Nat) (I : MI) (J : MJ) : Prop := INVx p0 p1 p2 c I J ∧ likI p0 p1 I J ∧ perI p0 p1 I J
theorem INVp.i {p0 p1 p2 : List Lin} {c : Nat} {I : MI} {J : MJ} (h : INVp p0 p1 p2 c I J) : INV c I J := h.1.i h.2.1 h.2.2
theorem INV.p {c : Nat} {I : MI} {J : MJ} (h : INV c I J) : ∃ p0 p1 p2, INVp p0 p1 p2 c I J := h.x
theorem INVp.k {S : List Nat} {p0 p1 p2 : List Lin} {c : Nat} {I I' : MI} {J : MJ} (h : INVp p0 p1 p2 c I J) (hf : frK S I I') (hS : ∀ k ∈ S, k ∈ SCR) : INVp p0 p1 p2 c I' J := by
  have hf2 : frK SCR I I' := hf.mo hS
  exact ⟨h.1.k (hf2.mo (by decide)) (fun j _ => by rw [hf2 91 (by decide)]) rfl, h.2.1.k hf2 (by decide) rfl rfl, h.2.2.k hf2 (by decide) rfl⟩
section PERSON
variable {G : Ctx} {h n : Nat} {I : MI} {J : MJ} {b : B3} {x y z u v e : Int} {a : BitVec 64}
theorem r81 {K : MI → MJ → B3 → Prop} {p0 p1 p2 : List Lin} {c : Nat} (hh : 7 ≤ h) (hI : INVp p0 p1 p2 c I J) (k : ∀ I2 J2, INVp p0 p1 p2 c I2 J2 → I2 72 3 = 0 → frK PCS I I2 → K I2 J2 b) : TriM G h 81 119 119 [vr 72] (I, J, PP b) (cVN K) := by
  obtain ⟨hX, hl, hp⟩ := hI
  exact s81 hh hX.1.1 hX.1.2.1 hX.2.1.1 hl hp fun I2 J2 hf hj hl2 hp2 h3 => k I2 J2 ⟨hX.k (hf.mo (by decide)) (fun j _ => by rw [hf 91 (by decide)]) (hj 109 (by decide)), hl2, hp2⟩ h3 hf
theorem r231 {K : MI → MJ → B3 → Prop} {p0 p1 p2 : List Lin} {c : Nat} (hh : 5 ≤ h) (hI : INVp p0 p1 p2 c I J) (k : ∀ I2, INVp p0 p1 p2 c I2 J → RP p0 I2 → PRS (I2 7 0).toNat (prs p0 I2) → frK RCS I I2 → K I2 J b) : TriM G h 231 119 119 [vr 91] (I, J, PP b) (cVN K) := by
  obtain ⟨hX, hl, hp⟩ := hI
  exact s231 hh hX.1.1 hX.1.2.1 hX.2.1.1 fun I2 hf h91 hR hP => k I2 ⟨hX.k (hf.mo (by decide)) (fun j hj => h91 j (by revert hj; simp; omega)) rfl, hl.k hf (by decide) rfl rfl, hp.k hf (by decide) rfl⟩ hR (by rw [hf 7 (by decide), prs_k p0 hf (by decide)]; exact hP) hf
theorem pub_of (hI : INV n I J) (hn : n < 64) (hh : 40 ≤ h) (hy : inR y) : PairI G h 151 234 [vi x, vi y] (n + 1) I J b := by
  have hI2 := hI.suc hn
  obtain ⟨p0, p1, p2, hp⟩ := hI2.p
  have hB := hp.1.1.2.1
  have b1 := hB.1
  simp only [Nat.reduceAdd] at b1
  unfold inR at hy
  have fin : ∀ v : Int, cIN (fun y I2 J2 _ => v = y ∧ INV (n + 1) I2 J2) (some (vi v)) (I, J, PP b) := fun v => cIN_r fun _ => ⟨rfl, hI2⟩
  have no : ¬ ((0 ≤ x ∧ x < I 7 0) ∧ 0 ≤ y) → cIN (fun x_1 I1 J1 b1 => TriM G h 234 119 119 [vr 91, vi x, vi y] (I1, J1, PP b1) (cIN fun y I2 J2 _ => x_1 = y ∧ INV (n + 1) I2 J2)) (some (vi (-1))) (I, J, PP b) := by
    intro hx
    refine cIN_r fun _ => x234_m (by omega) fun h2 hh2 => x234 (by omega) ?_
    rw [b1.2.2]
    refine ⟨by omega, fun q1 => ⟨fun q2 => absurd ⟨q1, q2.1⟩ hx, fun q2 => ⟨fun q3 => ⟨fun q4 => ⟨fun q5 => ⟨by omega, fun q6 => absurd ⟨q1, by omega⟩ hx, fun _ => fin _⟩, fun q5 => absurd ⟨q1, by omega⟩ hx⟩, fun q4 => absurd ⟨q1, by omega⟩ hx⟩, fun q3 => absurd ⟨q1, by omega⟩ hx⟩⟩, fun _ => fin _⟩
  refine x151_m (by omega) (fun h2 hh2 => x151 (by omega) ⟨fun q1 => ⟨fun q2 => ?_, fun q2 => no (by omega)⟩, fun q1 => no (by omega)⟩)
  obtain ⟨e, rfl⟩ : ∃ e : Nat, x = e := ⟨x.toNat, by omega⟩
  have ef := ent_f hB q1.2
  obtain ⟨-, -, -, -, e8, f8⟩ := hB.2.2.2 e (by omega) (by simp only [Nat.reduceAdd]; exact q1.2)
  simp only [Nat.reduceAdd] at e8 f8
  have ref : ∀ v : Int, ((0 ≤ y ∧ y ≤ 5) → I 92 (450 + 17 * (e : Int) + y).toNat = v) → (y = 6 → I 11 e = v) → (y = 7 → v = if knB I e = true then 1 else 0) → y ≠ 8 → (10 ≤ y → y ≤ 9 + I 11 e → I 92 (450 + 17 * (e : Int) + (y - 1)).toNat = v) → ((y = 9 ∨ 9 + I 11 e < y) → v = -1) → TriM G h 234 119 119 [vr 91, vi (e : Int), vi y] (I, J, PP b) (cIN fun y I2 J2 _ => v = y ∧ INV (n + 1) I2 J2) := by
    intro v v1 v2 v3 v4 v5 v6
    refine x234_m (by omega) fun h2 hh2 => x234 (by omega) ?_
    rw [toN] at e8
    rw [b1.2.2, toN, e8.1, w32_id (x := 9 + I 11 e) (by omega) (by omega)]
    refine ⟨by omega, fun _ => ⟨fun q3 => ⟨by omega, ?_⟩, fun q3 => ⟨fun q4 => ⟨fun q5 => ⟨fun q6 => ⟨by omega, fun q7 => ?_, fun q7 => ?_⟩, fun q6 => absurd (Decidable.of_not_not q6) v4⟩, fun q5 => ⟨⟨hB, by omega, by omega⟩, fun q6 => ?_, fun q6 => ?_⟩⟩, fun q4 => ⟨by omega, ?_⟩⟩⟩, fun q => absurd q1 q⟩
    · rw [v1 q3]
      exact fin v
    · rw [w32_id (x := 9 + y) (by omega) (by omega), w32_id (x := 9 + y - 10) (by omega) (by omega), show 9 + y - 10 = y - 1 by omega, v5 q7.1 q7.2]
      exact ⟨by omega, fin v⟩
    · rw [v6 (by omega)]
      exact fin (-1)
    · rw [v3 (Decidable.of_not_not q5), if_pos q6]
      exact fin 1
    · rw [v3 (Decidable.of_not_not q5), if_neg q6]
      exact fin 0
    · rw [v2 (Decidable.of_not_not q4)]
      exact fin v
  rw [toN] at e8 f8
  refine ⟨fun q3 => ⟨⟨fun q4 => ⟨by omega, cIN_r fun _ => ref _ (by omega) (fun _ => by rw [toN]) (by omega) (by omega) (by omega) (by omega)⟩, fun q4 => ⟨⟨hB, by omega, by omega⟩, fun q5 => cIN_r fun _ => ref _ (by omega) (by omega) (fun _ => ?_) (by omega) (by omega) (by omega), fun q5 => cIN_r fun _ => ref _ (by omega) (by omega) (fun _ => ?_) (by omega) (by omega) (by omega)⟩, fun q4 => r81 (by omega) hp fun I2 J2 hp2 h3 hf2 => ?_, trivial⟩, fun q4 => ⟨by omega, fun q5 => ⟨?_, cIN_r fun _ => ref _ (by omega) (by omega) (by omega) (by omega) (fun _ _ => ?_) (fun q6 => ?_)⟩, fun q5 => cIN_r fun _ => ref _ (by omega) (by omega) (by omega) (by omega) (fun h1 h2 => ?_) (fun q6 => rfl)⟩⟩, fun q3 => ⟨by omega, cIN_r fun _ => ref _ (fun q => ?_) (by omega) (by omega) (by omega) (by omega) (by omega)⟩⟩
  · rw [toN] at q5
    rw [if_pos q5]
  · rw [toN] at q5
    rw [if_neg q5]
  · have hb2 := hp2.1.1.2.1.1
    simp only [Nat.reduceAdd] at hb2
    have e7 := hf2 7 (by decide)
    refine ⟨fun _ => ⟨by omega, cIN_r fun _ => x234_m (by omega) fun h4 hh4 => x234 (by omega) ?_⟩, fun q => by omega⟩
    rw [hf2 92 (by decide), b1.2.2, q4]
    refine ⟨by omega, fun _ => ⟨fun q => by omega, fun _ => ⟨fun _ => ⟨fun _ => ⟨fun q => absurd rfl q, fun _ => r231 (by omega) hp2 fun I3 hp3 hR hP hf3 => ⟨by omega, cIN_r fun _ => ⟨?_, hp3.i⟩⟩⟩, fun q => by omega⟩, fun q => by omega⟩⟩, fun q => absurd q1 q⟩
    have h2 := (hp2.2.2.2 h3).2.1 e (by omega)
    rw [toN, h2, if_pos (by rw [e7]; exact q1.2), hR.2.1 e (by rw [hf3 7 (by decide), e7]; exact q1.2), prs_k p0 hf3 (by decide)]
  · rw [toN] at q5
    omega
  · rw [toN] at q5
    rw [w32_id (by omega) (by omega)] at q5 ⊢
    have := (f8 (y - 10) (by omega) (by omega)).1
    rw [show 450 + 17 * (e : Int) + 9 + (y - 10) = 450 + 17 * (e : Int) + (y - 1) by omega] at this
    exact this
  · rw [toN, w32_id (by omega) (by omega)] at q5
    omega
  · rw [toN, w32_id (by omega) (by omega)] at q5
    omega
  · have h6 : y = 0 ∨ y = 1 ∨ y = 2 ∨ y = 3 ∨ y = 4 ∨ y = 5 := by omega
    rcases h6 with rfl | rfl | rfl | rfl | rfl | rfl
    · exact ef.1.1
    · exact ef.1.2.1
    · exact ef.1.2.2.1
    · exact ef.1.2.2.2.1
    · exact ef.1.2.2.2.2.1
    · exact ef.1.2.2.2.2.2
/-! what a person is -/
theorem cntE_x {f : Nat → Bool} {n : Nat} : ∀ d, (∀ i, n ≤ i → i < n + d → f i = false) → cntE f (n + d) = cntE f n
  | 0, _ => rfl
  | d + 1, h => by
    show cntE f (n + d) + (if f (n + d) = true then 1 else 0) = _
    rw [cntE_x d (fun i h1 h2 => h i h1 (by omega)), h (n + d) (by omega) (by omega)]
    simp
theorem srt_s (I : MI) (cls : Nat → Int) (e : Nat) (p : Int) : srt I cls (e + 1) p + 1 = (if 0 < cntE (fun i => decide (cls i = p) && decide (fact I i 0 = 0)) e + (if cls e = p ∧ fact I e 0 = 0 then 1 else 0) then 1 else 0) + (if 0 < cntE (fun i => decide (cls i = p) && decide (fact I i 0 = 1)) e + (if cls e = p ∧ fact I e 0 = 1 then 1 else 0) then 2 else 0) := by
  rw [srt_u]
  have e1 : ∀ g : Nat → Bool, cntE g (e + 1) = cntE g e + (if g e = true then 1 else 0) := fun _ => rfl
  rw [e1, e1]
  simp only [Bool.and_eq_true, decide_eq_true_eq]
theorem bAll_len {al : Nat → Nat → Bool} {kn : Nat → Bool} {told : Nat} : ∀ (m e : Nat) (s : (Nat → Int) × List Nat), (bAll al kn told m e s).2.length ≤ s.2.length + m
  | 0, _, _ => Nat.le_refl _
  | m + 1, e, s => by
    by_cases hc : s.1 e = -1 ∧ kn e = true
    · rw [bAll_y hc]
      have := bAll_len (al := al) (kn := kn) (told := told) m (e + 1) ((bQu al kn told s.2.length (told + 1) 0 (up1 s.1 e s.2.length, [e])).1, s.2 ++ [e])
      simp only [List.length_append, List.length_cons, List.length_nil] at this
      omega
    · rw [bAll_n hc]
      have := bAll_len (al := al) (kn := kn) (told := told) m (e + 1) s
      omega
theorem prs_len (p0 : List Lin) (I : MI) : (prs p0 I).2.length ≤ (I 7 0).toNat := by
  have := bAll_len (al := alN p0 I) (kn := knB I) (told := (I 7 0).toNat) (I 7 0).toNat 0 (fun _ => -1, [])
  unfold prs persF
  simp only [List.length_nil] at this
  omega
theorem s232_l {Q : MP} {cls : Nat → Int} {told : Nat} (hh : 1 ≤ h) (hB : rBook 0 92 I) (hto : I 7 0 = told) (hc : ∀ e : Nat, e < told → I 101 e = cls e) (k : Q (some (vi (srt I cls told x))) (I, J, PP b)) : ∀ (m e : Nat), e + m = told → Tri G h 232 119 119 4 [some (vr 91), some (vi x), some (vi (srt I cls e x)), some (vi (e : Int))] [] (I, J, PP b) Q := by
  have b1 := hB.1
  simp only [Nat.reduceAdd] at b1
  intro m
  induction m with
  | zero =>
    intro e he
    obtain rfl : e = told := by omega
    refine x232_4 hh ?_
    rw [b1.2.2]
    exact ⟨fun _ => k, fun q => by omega⟩
  | succ m ih =>
    intro e he
    have ef := ent_f hB (e := e) (by omega)
    have h1 := ih (e + 1) (by omega)
    have su := srt_u I cls e x
    have ss := srt_s I cls e x
    have p1 := (cntE_b (fun i => decide (cls i = x) && decide (fact I i 0 = 0)) e).1
    have p2 := (cntE_b (fun i => decide (cls i = x) && decide (fact I i 0 = 1)) e).1
    generalize cntE (fun i => decide (cls i = x) && decide (fact I i 0 = 0)) e = A at su ss p1
    generalize cntE (fun i => decide (cls i = x) && decide (fact I i 0 = 1)) e = B at su ss p2
    refine x232_4 hh ?_
    rw [b1.2.2, toN, hc e (by omega), ef.1.1, w32_id (by omega) (by omega)]
    have go : ∀ v, v = srt I cls (e + 1) x → Tri G h 232 119 119 4 [some (vr 91), some (vi x), some (vi v), some (vi ((e : Int) + 1))] [] (I, J, PP b) Q := fun v hv => by rw [hv]; exact h1
    have hf01 : fact I e 0 = 0 ∨ fact I e 0 = 1 := by omega
    refine ⟨fun q => by omega, fun _ => ⟨by omega, fun q1 => go _ ?_, fun q1 => ⟨fun q2 => ⟨by omega, go _ ?_⟩, fun q2 => ⟨by omega, fun q3 => go _ ?_, fun q3 => ⟨by omega, go _ ?_⟩⟩⟩⟩⟩
    · rw [if_neg (c := cls e = x ∧ fact I e 0 = 0) (fun z => q1 z.1), if_neg (c := cls e = x ∧ fact I e 0 = 1) (fun z => q1 z.1), Int.add_zero, Int.add_zero] at ss
      omega
    all_goals
      have q4 := Decidable.of_not_not q1
      rcases hf01 with f | f
      · rw [if_pos (c := cls e = x ∧ fact I e 0 = 0) ⟨q4, f⟩, if_neg (c := cls e = x ∧ fact I e 0 = 1) (fun z => by omega)] at ss
        (repeat' split at su) <;> (repeat' split at ss) <;> omega
      · rw [if_neg (c := cls e = x ∧ fact I e 0 = 0) (fun z => by omega), if_pos (c := cls e = x ∧ fact I e 0 = 1) ⟨q4, f⟩] at ss
        (repeat' split at su) <;> (repeat' split at ss) <;> omega
theorem s232 {K : Int → MI → MJ → B3 → Prop} {cls : Nat → Int} {told : Nat} (hh : 2 ≤ h) (hB : rBook 0 92 I) (hto : I 7 0 = told) (hc : ∀ e : Nat, e < told → I 101 e = cls e) (k : K (srt I cls told x) I J b) : TriM G h 232 119 119 [vr 91, vi x] (I, J, PP b) (cIN K) := x232_m hh (fun h hh => x232 (Nat.zero_le _) (s232_l (by omega) hB hto hc (cIN_r fun _ => k) told 0 (by omega)))
theorem inHs_s (I : MI) (cls : Nat → Int) (e : Nat) (p : Int) (x : Nat) : inHs I cls (e + 1) p x = (inHs I cls e p x || (decide (cls e = p) && decide (fact I e 2 = x))) := by
  unfold inHs
  have p1 := (cntE_b (fun i => decide (cls i = p) && decide (fact I i 2 = x)) e).1
  show decide (0 < cntE (fun i => decide (cls i = p) && decide (fact I i 2 = x)) e + (if (decide (cls e = p) && decide (fact I e 2 = x)) = true then 1 else 0)) = _
  cases hq : (decide (cls e = p) && decide (fact I e 2 = x)) with
  | true => rw [if_pos rfl, Bool.or_true, decide_eq_true (by omega)]
  | false => rw [if_neg (by decide), Int.add_zero, Bool.or_false]
theorem s233_i {Q : MP} {cls : Nat → Int} {told w : Nat} (hh : 1 ≤ h) (hB : rBook 0 92 I) (hto : I 7 0 = told) (hw : w < 60) (hl2 : 0 ≤ z ∧ z < 1000) (hc : ∀ e : Nat, e < told → I 101 e = cls e) (k : ∀ v, v = z + (if inHs I cls told x w = true then 1 else 0) → Tri G h 233 119 119 4 [some (vr 91), some (vi x), some (vi v), some (vi ((w : Int) + 1))] [] (I, J, PP b) Q) : ∀ (m e : Nat) (l : Int), e + m = told → l = (if inHs I cls e x w = true then 1 else 0) → Tri G h 233 119 119 20 [some (vr 91), some (vi x), some (vi z), some (vi (w : Int)), some (vi l), some (vi (e : Int))] [] (I, J, PP b) Q := by
  have b1 := hB.1
  simp only [Nat.reduceAdd] at b1
  have mono : ∀ d e, inHs I cls e x w = true → inHs I cls (e + d) x w = true := by
    intro d
    induction d with
    | zero => intro e h; exact h
    | succ d ih =>
      intro e h
      show inHs I cls (e + d + 1) x w = true
      rw [inHs_s, ih e h]
      rfl
  intro m
  induction m with
  | zero =>
    intro e l he hl
    obtain rfl : e = told := by omega
    refine x233_20 hh ?_
    rw [b1.2.2, w32_id (x := z + 0) (by omega) (by omega), w32_id (x := z + 1) (by omega) (by omega), w32_id (x := (w : Int) + 1) (by omega) (by omega)]
    refine ⟨fun _ => ⟨fun q => k _ ?_, fun q => k _ ?_⟩, fun q => by omega⟩
    · omega
    · cases hi : inHs I cls e x w with
      | true => rfl
      | false => rw [hi] at hl; exact absurd hl q
  | succ m ih =>
    intro e l he hl
    have ef := ent_f hB (e := e) (by omega)
    refine x233_20 hh ?_
    rw [b1.2.2, toN, hc e (by omega), ef.1.2.2.1, w32_id (x := z + 0) (by omega) (by omega), w32_id (x := z + 1) (by omega) (by omega), w32_id (x := (w : Int) + 1) (by omega) (by omega), w32_id (x := (e : Int) + 1) (by omega) (by omega)]
    have hs := inHs_s I cls e x w
    cases hi : inHs I cls e x w with
    | true =>
      rw [hi] at hl
      have ht := mono (m + 1) e hi
      rw [he] at ht
      refine ⟨fun q => by omega, fun _ => ⟨fun q1 => ⟨fun q2 => absurd q2 q1, fun _ => k _ (by rw [ht]; rfl)⟩, fun q1 => ?_⟩⟩
      rw [hl] at q1
      exact absurd (by decide) q1
    | false =>
      rw [hi] at hl
      rw [hi, Bool.false_or] at hs
      refine ⟨fun q => by omega, fun _ => ⟨fun q1 => absurd hl q1, fun _ => ⟨by omega, fun q2 => ih (e + 1) 0 (by omega) ?_, fun q2 => ⟨by omega, fun q3 => ih (e + 1) 0 (by omega) ?_, fun q3 => ih (e + 1) 1 (by omega) ?_⟩⟩⟩⟩
      · rw [hs, decide_eq_false q2]
        rfl
      · rw [hs, decide_eq_false q3, Bool.and_false]
        rfl
      · rw [hs, decide_eq_true (Decidable.of_not_not q2), decide_eq_true (Decidable.of_not_not q3)]
        rfl
theorem s233_l {Q : MP} {cls : Nat → Int} {told H : Nat} (hh : 1 ≤ h) (hT : rTown 0 92 I) (hB : rBook 0 92 I) (hto : I 7 0 = told) (hH : I 2 0 = H) (hc : ∀ e : Nat, e < told → I 101 e = cls e) (k : Q (some (vi (cntE (inHs I cls told x) H))) (I, J, PP b)) : ∀ (m w : Nat) (l : Int), w + m = H → l = cntE (inHs I cls told x) w → Tri G h 233 119 119 4 [some (vr 91), some (vi x), some (vi l), some (vi (w : Int))] [] (I, J, PP b) Q := by
  have t1 := hT.1
  simp only [Nat.reduceAdd] at t1
  intro m
  induction m with
  | zero =>
    intro w l hw hl
    obtain rfl : w = H := by omega
    refine x233_4 (Nat.zero_le _) ?_
    rw [t1.2.2, hl]
    exact ⟨fun _ => k, fun q => by omega⟩
  | succ m ih =>
    intro w l hw hl
    have hb := cntE_b (inHs I cls told x) w
    refine x233_4 (Nat.zero_le _) ?_
    rw [t1.2.2]
    refine ⟨fun q => by omega, fun _ => s233_i hh hB hto (by omega) (by omega) hc (fun v hv => ?_) told 0 0 (by omega) rfl⟩
    exact ih (w + 1) v (by omega) (by rw [hv, hl]; rfl)
theorem s233 {K : Int → MI → MJ → B3 → Prop} {cls : Nat → Int} {told H : Nat} (hh : 2 ≤ h) (hT : rTown 0 92 I) (hB : rBook 0 92 I) (hto : I 7 0 = told) (hH : I 2 0 = H) (hc : ∀ e : Nat, e < told → I 101 e = cls e) (k : K (cntE (inHs I cls told x) H) I J b) : TriM G h 233 119 119 [vr 91, vi x] (I, J, PP b) (cIN K) := x233_m hh (fun h hh => x233 (Nat.zero_le _) (s233_l (by omega) hT hB hto hH hc (cIN_r fun _ => k) H 0 0 (by omega) rfl))
/-- the houses of a person, as bits -/
theorem hs_pc {cls : Nat → Int} {told H p : Nat} {m : BitVec 64} (hT : rTown 0 92 I) (hB : rBook 0 92 I) (hto : I 7 0 = told) (hH : I 2 0 = H) (hm : ∀ s : Nat, s < 64 → m.getLsbD s = inHs I cls told p s) : pcL m = cntE (inHs I cls told p) H := by
  have t1 := hT.1
  simp only [Nat.reduceAdd] at t1
  unfold pcL
  rw [← cntE_ct (fun i => m.getLsbD i) 64]
  have e1 : ∀ n, n ≤ 64 → cntE (fun i => m.getLsbD i) n = cntE (inHs I cls told p) n := by
    intro n
    induction n with
    | zero => intro _; rfl
    | succ n ih =>
      intro hn
      unfold cntE
      rw [ih (by omega), hm n (by omega)]
  rw [e1 64 (by omega), show 64 = H + (64 - H) by omega]
  refine cntE_x _ fun i h1 h2 => ?_
  unfold inHs
  rw [show cntE (fun e => decide (cls e = (p : Int)) && decide (fact I e 2 = (i : Int))) told = 0 from ?_]
  · rfl
  · have : ∀ n, n ≤ told → cntE (fun e => decide (cls e = (p : Int)) && decide (fact I e 2 = (i : Int))) n = 0 := by
      intro n
      induction n with
      | zero => intro _; rfl
      | succ n ih =>
        intro hn
        have ef := ent_f hB (e := n) (by omega)
        show cntE (fun e => decide (cls e = (p : Int)) && decide (fact I e 2 = (i : Int))) n + (if (decide (cls n = (p : Int)) && decide (fact I n 2 = (i : Int))) = true then 1 else 0) = 0
        rw [ih (by omega), decide_eq_false (show ¬ fact I n 2 = (i : Int) by omega), Bool.and_false]
        rfl
    exact this told (Nat.le_refl _)
theorem s88 {K : Int → MI → MJ → B3 → Prop} (hh : 2 ≤ h) (k1 : 0 ≤ x ∧ x < I 72 0 → K (pcL (J 77 x.toNat)) I J b) (k0 : ¬ (0 ≤ x ∧ x < I 72 0) → K (-1) I J b) (h0 : I 72 0 ≤ 120) : TriM G h 88 119 119 [vr 72, vi x] (I, J, PP b) (cIN K) := x88_m hh (fun h hh => x88 (by omega) ⟨fun q => ⟨by omega, s17 (by omega) (cIN_r fun _ => k1 q)⟩, fun q => cIN_r fun _ => k0 q⟩)
theorem s235_l {Q : MP} {cls : Nat → Int} {told : Nat} (hB : rBook 0 92 I) (hto : I 7 0 = told) (hc : ∀ e : Nat, e < told → I 101 e = cls e) (k : Q (some (vi (cntE (fun e => decide (cls e = x)) told))) (I, J, PP b)) : ∀ (m e : Nat) (l : Int), e + m = told → l = cntE (fun e => decide (cls e = x)) e → Tri G h 235 119 119 68 [some (vr 91), some (vi x), none, some (vi l), some (vi (e : Int))] [] (I, J, PP b) Q := by
  have b1 := hB.1
  simp only [Nat.reduceAdd] at b1
  intro m
  induction m with
  | zero =>
    intro e l he hl
    obtain rfl : e = told := by omega
    refine x235_68 (Nat.zero_le _) ?_
    rw [b1.2.2, hl]
    exact ⟨fun _ => k, fun q => by omega⟩
  | succ m ih =>
    intro e l he hl
    have hb := cntE_b (fun e => decide (cls e = x)) e
    refine x235_68 (Nat.zero_le _) ?_
    rw [b1.2.2, toN, hc e (by omega), w32_id (x := l + 0) (by omega) (by omega), w32_id (x := l + 1) (by omega) (by omega), w32_id (by omega) (by omega)]
    refine ⟨fun q => by omega, fun _ => ⟨by omega, fun q => ih (e + 1) _ (by omega) ?_, fun q => ih (e + 1) _ (by omega) ?_⟩⟩
    · rw [hl, cntE_n (by simpa using q)]
      omega
    · rw [hl, cntE_s (by simpa using q)]
theorem pub_person (hI : INV n I J) (hn : n < 64) (hh : 40 ≤ h) : PairI G h 154 235 [vi x, vi y] (n + 1) I J b := by
  obtain ⟨p0, p1, p2, hp⟩ := (hI.suc hn).p
  refine x154_m (by omega) (fun h2 hh2 => x154 (by omega) (r81 (by omega) hp fun I2 J2 hp2 h3 hf2 => ?_))
  have hT2 := hp2.1.1.1
  have hB2 := hp2.1.1.2.1
  have b1 := hB2.1
  simp only [Nat.reduceAdd] at b1
  have t1 := hT2.1
  simp only [Nat.reduceAdd] at t1
  obtain ⟨told, hto⟩ : ∃ t : Nat, I2 7 0 = t := ⟨(I2 7 0).toNat, by omega⟩
  obtain ⟨H, hH⟩ : ∃ t : Nat, I2 2 0 = t := ⟨(I2 2 0).toNat, by omega⟩
  obtain ⟨c0, c1, c2, -⟩ := hp2.2.2.2 h3
  rw [hto, toN] at c2
  have key : ∀ v : Int, (PRS told (prs p0 I2) → (0 ≤ x ∧ x < I2 72 0) → 0 ≤ y → y ≤ 3 → (y = 0 → v = cntE (fun e => decide ((prs p0 I2).1 e = x)) told) ∧ (y = 1 → ∃ q : Nat, (prs p0 I2).2[x.toNat]? = some q ∧ v = q) ∧ (y = 2 → v = srt I2 (prs p0 I2).1 told x) ∧ (y = 3 → v = cntE (inHs I2 (prs p0 I2).1 told x) H)) → (¬ ((0 ≤ x ∧ x < I2 72 0) ∧ 0 ≤ y ∧ y ≤ 3) → v = -1) → cIN (fun x_1 I1 J1 b1 => TriM G h 235 119 119 [vr 91, vi x, vi y] (I1, J1, PP b1) (cIN fun y I2 J2 _ => x_1 = y ∧ INV (n + 1) I2 J2)) (some (vi v)) (I2, J2, PP b) := by
    intro v hv hv2
    refine cIN_r fun _ => x235_m (by omega) fun h4 hh4 => x235 (by omega) (r231 (by omega) hp2 fun I3 hp3 hR hP hf3 => ?_)
    have e7 : I3 7 0 = told := by rw [hf3 7 (by decide)]; exact hto
    have e2 : I3 2 0 = H := by rw [hf3 2 (by decide)]; exact hH
    have e8 := hf3 8 (by decide)
    have ep : prs p0 I3 = prs p0 I2 := prs_k p0 hf3 (by decide)
    obtain ⟨r1, r2, r3⟩ := hR
    rw [ep] at r1 r2 r3
    have r2' : ∀ e : Nat, e < told → I3 101 e = (prs p0 I2).1 e := fun e he => r2 e (by rw [e7]; omega)
    rw [ep, e7, toN] at hP
    have hPl := hP.1
    have fin : cIN (fun y I2 J2 _ => v = y ∧ INV (n + 1) I2 J2) (some (vi v)) (I3, J2, PP b) := cIN_r fun _ => ⟨rfl, hp3.i⟩
    have hv := hv hP
    rw [r1, w32_id (by omega) (by omega)]
    refine ⟨fun q1 => ⟨fun q2 => ?_, fun q2 => ?_⟩, fun q1 => ?_⟩
    · have hv := hv (by omega) q2.1 q2.2
      refine ⟨fun q3 => ⟨fun q4 => ⟨fun q5 => ?_, fun q5 => ?_⟩, fun q4 => ?_⟩, fun q3 => ?_⟩
      · refine s235_l hp3.1.1.2.1 e7 r2' ?_ told 0 0 (by omega) rfl
        rw [← hv.1 (by omega)]
        exact fin
      · refine s233 (by omega) hp3.1.1.1 hp3.1.1.2.1 e7 e2 r2' ?_
        rw [inHs_c e8, ← hv.2.2.2 (by omega)]
        exact fin
      · refine s232 (by omega) hp3.1.1.2.1 e7 r2' ?_
        rw [srt_c e8, ← hv.2.2.1 (by omega)]
        exact fin
      · obtain ⟨q, hq1, hq2⟩ := hv.2.1 (by omega)
        rw [r3 _ q hq1, ← hq2]
        exact ⟨by omega, fin⟩
    · rw [hv2 (by omega)] at fin ⊢
      exact fin
    · rw [hv2 (by omega)] at fin ⊢
      exact fin
  have row : PRS told (prs p0 I2) → (0 ≤ x ∧ x < I2 72 0) → ∃ (p q : Nat), x = p ∧ (prs p0 I2).2[p]? = some q := by
    intro hP hx
    obtain ⟨p, rfl⟩ : ∃ p : Nat, x = p := ⟨x.toNat, by omega⟩
    have : p < (prs p0 I2).2.length := by omega
    exact ⟨p, (prs p0 I2).2[p], rfl, List.getElem?_eq_getElem this⟩
  have hle : I2 72 0 ≤ 120 := by
    have := prs_len p0 I2
    omega
  refine ⟨⟨fun q1 => ⟨fun q2 => ⟨by omega, key _ (fun hP hx _ _ => ?_) (fun z => by omega)⟩, fun q2 => key _ (fun hP hx _ _ => absurd hx q2) (fun _ => rfl)⟩, fun q1 => ⟨fun q2 => ⟨by omega, key _ (fun hP hx _ _ => ?_) (fun z => by omega)⟩, fun q2 => key _ (fun hP hx _ _ => absurd hx q2) (fun _ => rfl)⟩, fun q1 => ⟨fun q2 => ⟨by omega, key _ (fun hP hx _ _ => ?_) (fun z => by omega)⟩, fun q2 => key _ (fun hP hx _ _ => absurd hx q2) (fun _ => rfl)⟩, fun q1 => s88 (by omega) (fun q2 => key _ (fun hP hx _ _ => ?_) (fun z => by omega)) (fun q2 => key _ (fun hP hx _ _ => absurd hx q2) (fun _ => rfl)) hle, trivial⟩, fun q1 => key _ (fun _ _ _ _ => by omega) (fun _ => rfl)⟩
  all_goals
    obtain ⟨p, q, rfl, hq⟩ := row hP hx
    obtain ⟨d1, d2, d3, d4⟩ := c2 p q hq
    rw [toN]
  · exact ⟨fun _ => d2, fun q => by omega, fun q => by omega, fun q => by omega⟩
  · exact ⟨fun q => by omega, fun _ => ⟨q, hq, d1⟩, fun q => by omega, fun q => by omega⟩
  · rw [d3, show srt I2 (prs p0 I2).1 told p + 1 - 1 = srt I2 (prs p0 I2).1 told p by omega]
    refine ⟨fun q => by omega, fun q => by omega, fun _ => w32_id ?_ ?_, fun q => by omega⟩
    · have := srt_u I2 (prs p0 I2).1 told p
      (repeat' split at this) <;> omega
    · have := srt_u I2 (prs p0 I2).1 told p
      (repeat' split at this) <;> omega
  · exact ⟨fun q => by omega, fun q => by omega, fun q => by omega, fun _ => hs_pc hT2 hB2 hto hH d4⟩
end PERSON
