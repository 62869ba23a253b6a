/-! what the tables and the heap hold at the start -/
def NL : List Cond := flatC (Jvm.Cond.and given_1 narrow_1)
def tmS (i : Nat) : Term := .string (RC (stO.getD i 0)) (stI.getD i 0)
def valS (i : Nat) : Term := .field (tmS i) "java/lang/String" "value" "[B"
set_option maxRecDepth 1000000 in
theorem nl_ex : ∀ i, i < 22 → Cond.exactly (tmS i) "java/lang/String" ∈ NL := by
  have h : ∀ w ∈ (List.range 22).map (fun i => Cond.exactly (tmS i) "java/lang/String"), w ∈ NL := mem_ps [9, 66, 133, 149, 160, 170, 182, 195, 210, 229, 247, 265, 284, 304, 325, 348, 371, 395, 420, 445, 474, 504] (by decide +kernel)
  exact fun i hi => h _ (List.mem_map.mpr ⟨i, List.mem_range.mpr hi, rfl⟩)
set_option maxRecDepth 1000000 in
theorem nl_co : ∀ i, i < 22 → Cond.eq (.field (tmS i) "java/lang/String" "coder" "B") (.int 0) ∈ NL := by
  have h : ∀ w ∈ (List.range 22).map (fun i => Cond.eq (.field (tmS i) "java/lang/String" "coder" "B") (.int 0)), w ∈ NL := mem_ps [10, 67, 134, 150, 161, 171, 183, 196, 211, 230, 248, 266, 285, 305, 326, 349, 372, 396, 421, 446, 475, 505] (by decide +kernel)
  exact fun i hi => h _ (List.mem_map.mpr ⟨i, List.mem_range.mpr hi, rfl⟩)
set_option maxRecDepth 1000000 in
theorem nl_ar : ∀ i, i < 22 → Cond.arrayOf (valS i) .byte ∈ NL := by
  have h : ∀ w ∈ (List.range 22).map (fun i => Cond.arrayOf (valS i) .byte), w ∈ NL := mem_ps [11, 68, 135, 151, 162, 172, 184, 197, 212, 231, 249, 267, 286, 306, 327, 350, 373, 397, 422, 447, 476, 506] (by decide +kernel)
  exact fun i hi => h _ (List.mem_map.mpr ⟨i, List.mem_range.mpr hi, rfl⟩)
set_option maxRecDepth 1000000 in
theorem nl_le : ∀ i, i < 22 → Cond.eq (.length (valS i)) (.int (Int32.ofNat (stN.getD i 0))) ∈ NL := by
  have h : ∀ w ∈ (List.range 22).map (fun i => Cond.eq (.length (valS i)) (.int (Int32.ofNat (stN.getD i 0)))), w ∈ NL := mem_ps [12, 69, 136, 152, 163, 173, 185, 198, 213, 232, 250, 268, 287, 307, 328, 351, 374, 398, 423, 448, 477, 507] (by decide +kernel)
  exact fun i hi => h _ (List.mem_map.mpr ⟨i, List.mem_range.mpr hi, rfl⟩)
set_option maxRecDepth 1000000 in
theorem nl_sr : ∀ i, i < 22 → Cond.stringRef (RC (stO.getD i 0)) (stI.getD i 0) (stX.getD i "") ∈ lw_tbl := by
  have h : ∀ w ∈ (List.range 22).map (fun i => Cond.stringRef (RC (stO.getD i 0)) (stI.getD i 0) (stX.getD i "")), w ∈ lw_tbl := mem_ps [578, 579, 652, 1490, 1497, 1498, 1499, 1504, 1505, 1506, 1507, 1508, 1509, 1510, 1511, 1516, 1517, 1518, 1519, 1520, 1521, 1522] (by decide +kernel)
  exact fun i hi => h _ (List.mem_map.mpr ⟨i, List.mem_range.mpr hi, rfl⟩)
set_option maxRecDepth 1000000 in
theorem nl_el : ∀ i, i < 22 → ∀ j, j < stN.getD i 0 → Cond.eq (.elem (valS i) (.int (Int32.ofNat j))) (.int ((stB.getD i []).getD j 0)) ∈ NL := by
  have h : ∀ w ∈ (List.range 22).flatMap (fun i => (List.range (stN.getD i 0)).map (fun j => Cond.eq (.elem (valS i) (.int (Int32.ofNat j))) (.int ((stB.getD i []).getD j 0)))), w ∈ NL := mem_ps [13, 14, 15, 16, 17, 18, 19, 20, 21, 22, 23, 24, 25, 26, 27, 28, 29, 30, 31, 32, 33, 34, 35, 36, 37, 38, 39, 40, 41, 42, 43, 44, 45, 46, 47, 48, 49, 50, 51, 52, 53, 54, 55, 56, 57, 58, 59, 60, 61, 62, 63, 64, 65, 70, 71, 72, 73, 74, 75, 76, 77, 78, 79, 80, 81, 82, 83, 84, 85, 86, 87, 88, 89, 90, 91, 92, 93, 94, 95, 96, 97, 98, 99, 100, 101, 102, 103, 104, 105, 106, 107, 108, 109, 110, 111, 112, 113, 114, 115, 116, 117, 118, 119, 120, 121, 122, 123, 124, 125, 126, 127, 128, 129, 130, 131, 137, 138, 139, 140, 141, 142, 143, 144, 145, 146, 153, 154, 155, 156, 164, 165, 174, 175, 176, 186, 187, 188, 199, 200, 201, 202, 214, 215, 216, 217, 218, 219, 220, 233, 234, 235, 236, 237, 251, 252, 253, 254, 269, 270, 271, 272, 288, 289, 290, 291, 308, 309, 310, 311, 329, 330, 331, 332, 333, 352, 353, 354, 355, 375, 376, 377, 378, 399, 400, 401, 402, 424, 425, 426, 449, 450, 451, 452, 453, 454, 478, 479, 480, 481, 482, 483, 508, 509, 510, 511] (by decide +kernel)
  exact fun i hi j hj => h _ (List.mem_flatMap.mpr ⟨i, List.mem_range.mpr hi, List.mem_map.mpr ⟨j, List.mem_range.mpr hj, rfl⟩⟩)
set_option maxRecDepth 1000000 in
theorem nl_ne0 : ∀ i, i < 22 → ∀ d, d < 21 - i → Cond.not (Cond.eq (tmS i) (tmS (i + 1 + d))) ∈ NL := by
  have h : ∀ w ∈ (List.range 22).flatMap (fun i => (List.range (21 - i)).map (fun d => Cond.not (Cond.eq (tmS i) (tmS (i + 1 + d))))), w ∈ NL := mem_ps [132, 147, 157, 166, 177, 189, 203, 221, 238, 255, 273, 292, 312, 334, 356, 379, 403, 427, 455, 484, 512, 148, 158, 167, 178, 190, 204, 222, 239, 256, 274, 293, 313, 335, 357, 380, 404, 428, 456, 485, 513, 159, 168, 179, 191, 205, 223, 240, 257, 275, 294, 314, 336, 358, 381, 405, 429, 457, 486, 514, 169, 180, 192, 206, 224, 241, 258, 276, 295, 315, 337, 359, 382, 406, 430, 458, 487, 515, 181, 193, 207, 225, 242, 259, 277, 296, 316, 338, 360, 383, 407, 431, 459, 488, 516, 194, 208, 226, 243, 260, 278, 297, 317, 339, 361, 384, 408, 432, 460, 489, 517, 209, 227, 244, 261, 279, 298, 318, 340, 362, 385, 409, 433, 461, 490, 518, 228, 245, 262, 280, 299, 319, 341, 363, 386, 410, 434, 462, 491, 519, 246, 263, 281, 300, 320, 342, 364, 387, 411, 435, 463, 492, 520, 264, 282, 301, 321, 343, 365, 388, 412, 436, 464, 493, 521, 283, 302, 322, 344, 366, 389, 413, 437, 465, 494, 522, 303, 323, 345, 367, 390, 414, 438, 466, 495, 523, 324, 346, 368, 391, 415, 439, 467, 496, 524, 347, 369, 392, 416, 440, 468, 497, 525, 370, 393, 417, 441, 469, 498, 526, 394, 418, 442, 470, 499, 527, 419, 443, 471, 500, 528, 444, 472, 501, 529, 473, 502, 530, 503, 531, 532] (by decide +kernel)
  exact fun i hi d hd => h _ (List.mem_flatMap.mpr ⟨i, List.mem_range.mpr hi, List.mem_map.mpr ⟨d, List.mem_range.mpr hd, rfl⟩⟩)
theorem nl_ne {i j : Nat} (hj : j < 22) (h : i < j) : Cond.not (Cond.eq (tmS i) (tmS j)) ∈ NL := by
  have h1 := nl_ne0 i (by omega) (j - i - 1) (by omega)
  rw [show i + 1 + (j - i - 1) = j by omega] at h1
  exact h1
set_option maxRecDepth 1000000 in
theorem nl_z : ∀ w ∈ [Cond.eq (.static "java/lang/String" "COMPACT_STRINGS" "Z") (.int 1), Cond.isRef (.static "jdk/internal/util/Preconditions" "SIOOBE_FORMATTER" "Ljava/util/function/BiFunction;")], w ∈ NL := mem_ps [4, 5] (by decide +kernel)
set_option maxRecDepth 1000000 in
theorem lz_ok : ∀ w ∈ [Cond.laysStatic "java/lang/String" "COMPACT_STRINGS" "Z", Cond.laysStatic "jdk/internal/util/Preconditions" "SIOOBE_FORMATTER" "Ljava/util/function/BiFunction;"], w ∈ lw_tbl := mem_ps [613, 629] (by decide +kernel)
theorem st_cls {s : State} {args : Array Value} (hts : ∀ w ∈ lw_good, w.before args s = true) : ∃ (dC : Nat → ClassId) (dI : Nat → Nat → Nat), ∀ (k : Nat) (q : vw_C), vwCl[k]? = some q → u_Kn s q.1 q.2.1 q.2.2 (dC k) (dI k) := by
  obtain ⟨c0, i0, k0⟩ := u_known (C := RX0) (T := TX0) (N := 8) (n := cN 0) hts inX0 (hts _ (n_inst 0 (by decide)))
  obtain ⟨c1, i1, k1⟩ := u_known (C := RX1) (T := TX1) (N := 3) (n := cN 1) hts inX1 (hts _ (n_inst 1 (by decide)))
  obtain ⟨c2, i2, k2⟩ := u_known (C := RX2) (T := TX2) (N := 6) (n := cN 2) hts inX2 (hts _ (n_inst 2 (by decide)))
  obtain ⟨c3, i3, k3⟩ := u_known (C := RX3) (T := TX3) (N := 5) (n := cN 3) hts inX3 (hts _ (n_inst 3 (by decide)))
  obtain ⟨c4, i4, k4⟩ := u_known (C := RX4) (T := TX4) (N := 10) (n := cN 4) hts inX4 (hts _ (n_inst 4 (by decide)))
  obtain ⟨c5, i5, k5⟩ := u_known (C := RX5) (T := TX5) (N := 14) (n := cN 5) hts inX5 (hts _ (n_inst 5 (by decide)))
  obtain ⟨c6, i6, k6⟩ := u_known (C := RX6) (T := TX6) (N := 3) (n := cN 6) hts inX6 (hts _ (n_inst 6 (by decide)))
  obtain ⟨c7, i7, k7⟩ := u_known (C := RX7) (T := TX7) (N := 5) (n := cN 7) hts inX7 (hts _ (n_inst 7 (by decide)))
  obtain ⟨c8, i8, k8⟩ := u_known (C := RX8) (T := TX8) (N := 4) (n := cN 8) hts inX8 (hts _ (n_inst 8 (by decide)))
  obtain ⟨c9, i9, k9⟩ := u_known (C := RX9) (T := TX9) (N := 7) (n := cN 9) hts inX9 (hts _ (n_inst 9 (by decide)))
  obtain ⟨c10, i10, k10⟩ := u_known (C := RX10) (T := TX10) (N := 9) (n := cN 10) hts inX10 (hts _ (n_inst 10 (by decide)))
  obtain ⟨c11, i11, k11⟩ := u_known (C := RX11) (T := TX11) (N := 13) (n := cN 11) hts inX11 (hts _ (n_inst 11 (by decide)))
  obtain ⟨c12, i12, k12⟩ := u_known (C := RX12) (T := TX12) (N := 43) (n := cN 12) hts inX12 (hts _ (n_inst 12 (by decide)))
  refine ⟨fun k => [c0, c1, c2, c3, c4, c5, c6, c7, c8, c9, c10, c11, c12].getD k c0, fun k => [i0, i1, i2, i3, i4, i5, i6, i7, i8, i9, i10, i11, i12].getD k i0, ?_⟩
  intro k q hq
  match k, hq with
  | 0, hq => cases hq; exact k0
  | 1, hq => cases hq; exact k1
  | 2, hq => cases hq; exact k2
  | 3, hq => cases hq; exact k3
  | 4, hq => cases hq; exact k4
  | 5, hq => cases hq; exact k5
  | 6, hq => cases hq; exact k6
  | 7, hq => cases hq; exact k7
  | 8, hq => cases hq; exact k8
  | 9, hq => cases hq; exact k9
  | 10, hq => cases hq; exact k10
  | 11, hq => cases hq; exact k11
  | 12, hq => cases hq; exact k12
  | k + 13, hq => simp [vwCl] at hq
theorem st_arr {s : State} {args : Array Value} (hts : ∀ w ∈ lw_good, w.before args s = true) : ∃ a : Nat → ClassId, ∀ (k : Nat) (q : ClassId × FieldType), ([(a 0, .int), (a 1, .long), (a 2, .byte), (a 3, .boolean)] : List (ClassId × FieldType))[k]? = some q → ArrOfT s q.1 q.2 ∧ va_RA s q.1 q.2 := by
  obtain ⟨c0, k0, m0, f0, g0, h0⟩ := Cond.arrayClass_spec (hts _ (ar_ok .int (by decide)))
  obtain ⟨c1, k1, m1, f1, g1, h1⟩ := Cond.arrayClass_spec (hts _ (ar_ok .long (by decide)))
  obtain ⟨c2, k2, m2, f2, g2, h2⟩ := Cond.arrayClass_spec (hts _ (ar_ok .byte (by decide)))
  obtain ⟨c3, k3, m3, f3, g3, h3⟩ := Cond.arrayClass_spec (hts _ (ar_ok .boolean (by decide)))
  refine ⟨fun k => [c0, c1, c2, c3].getD k c0, ?_⟩
  intro k q hq
  match k, hq with
  | 0, hq => cases hq; exact ⟨fun n z => ⟨fun k h => (by cases h), k0, g0, m0, h0⟩, f0⟩
  | 1, hq => cases hq; exact ⟨fun n z => ⟨fun k h => (by cases h), k1, g1, m1, h1⟩, f1⟩
  | 2, hq => cases hq; exact ⟨fun n z => ⟨fun k h => (by cases h), k2, g2, m2, h2⟩, f2⟩
  | 3, hq => cases hq; exact ⟨fun n z => ⟨fun k h => (by cases h), k3, g3, m3, h3⟩, f3⟩
  | k + 4, hq => simp at hq
theorem st_str {s : State} {args : Array Value} {A : Nat → Prop} (hs : ∀ w ∈ NL, w.before args s = true) (hA : ∀ a : Nat, a < s.heap.size → ¬ A a) : ∃ adK adV : Nat → Nat, vk_S 22 stN stB adK adV A s s.heap ∧ ∀ i : Nat, i < 22 → (tmS i).eval args s none [] s = some (.ref (adK i)) := by
  refine vk_Sof (tm := tmS) (by decide) (fun i hi => hs _ (nl_ex i hi)) (fun i hi => hs _ (nl_co i hi)) (fun i hi => hs _ (nl_ar i hi)) (fun i hi => hs _ (nl_le i hi)) (fun i hi j hj => hs _ (nl_el i hi j hj)) (fun i j hi hj ne => ?_) hA
  by_cases h : i < j
  · exact Or.inl (hs _ (nl_ne hj h))
  · exact Or.inr (hs _ (nl_ne hi (by omega)))
theorem st_fmt {s : State} {args : Array Value} {A : Nat → Prop} (hs : ∀ w ∈ NL, w.before args s = true) (ht : ∀ w ∈ lw_tbl, w.before args s = true) (hA : ∀ a : Nat, a < s.heap.size → ¬ A a) : ∃ v : Value, (v = .null ∨ ∃ t, v = .ref t) ∧ va_Z "jdk/internal/util/Preconditions" "SIOOBE_FORMATTER" "Ljava/util/function/BiFunction;" v A s s.heap := by
  rcases va_Zqof (ht _ (lz_ok _ (List.mem_cons_of_mem _ List.mem_cons_self))) (ht _ (good_in (a_init 17 (by decide)))) (hs _ (nl_z _ (List.mem_cons_of_mem _ List.mem_cons_self))) hA with h | ⟨t, h⟩
  · exact ⟨.null, Or.inl rfl, h⟩
  · exact ⟨.ref t, Or.inr ⟨t, rfl⟩, h⟩
theorem st_cmp {s : State} {args : Array Value} {A : Nat → Prop} (hs : ∀ w ∈ NL, w.before args s = true) (ht : ∀ w ∈ lw_tbl, w.before args s = true) (hA : ∀ a : Nat, a < s.heap.size → ¬ A a) : va_Z "java/lang/String" "COMPACT_STRINGS" "Z" (.int 1) A s s.heap :=
  va_Zof (ht _ (lz_ok _ List.mem_cons_self)) (ht _ (good_in (a_init 15 (by decide)))) (va_eqi (hs _ (nl_z _ List.mem_cons_self))) hA
