theorem iRem_pos {a d : Int} (ha : 0 ≤ a) (h2 : a < 2147483648) (hd : 0 < d) (hd2 : d < 2147483648) : iRem a d = a % d := by
  unfold iRem
  rw [Int32.toInt_sub, Int32.toInt_mul, Int32.toInt_div, toI (by unfold inR; omega), toI (by unfold inR; omega), Int.tdiv_eq_ediv_of_nonneg ha]
  have h3 : 0 ≤ a / d := Int.ediv_nonneg ha (by omega)
  have h4 : a / d ≤ a := Int.ediv_le_self d ha
  have h5 : a / d * d ≤ a := Int.ediv_mul_le a (by omega)
  have h6 : 0 ≤ a / d * d := Int.mul_nonneg h3 (by omega)
  have e1 : (a / d).bmod (2 ^ 32) = a / d := Int.bmod_eq_of_le (by omega) (by omega)
  rw [e1]
  have e2 : (a / d * d).bmod (2 ^ 32) = a / d * d := Int.bmod_eq_of_le (by omega) (by omega)
  rw [e2]
  have e3 : (a - a / d * d).bmod (2 ^ 32) = a - a / d * d := Int.bmod_eq_of_le (by omega) (by omega)
  rw [e3, Int.emod_def, Int.mul_comm]
/-- a byte of a number, on both sides -/
theorem byt (v : Int) {s : Int} {k : Nat} (hk : k = 0 ∨ k = 8 ∨ k = 16 ∨ k = 24) (hs : s = k) : (0 ≤ iAnd (iShr v s) 255 ∧ iAnd (iShr v s) 255 < 256) ∧ w8 (w8 (iUsh v s)) = if iAnd (iShr v s) 255 < 128 then iAnd (iShr v s) 255 else iAnd (iShr v s) 255 - 256 := by
  obtain ⟨a, ha⟩ : ∃ a, Int32.ofInt v = a := ⟨_, rfl⟩
  have hT := a.toBitVec.isLt
  have hS : a.toInt = (a.toBitVec.toNat : Int).bmod (2 ^ 32) := BitVec.toInt_eq_toNat_bmod _
  have e1 : (a >>> (Int32.ofInt s &&& 31)).toInt = a.toInt >>> k := pk_shr a _ k (by subst hs; rcases hk with rfl | rfl | rfl | rfl <;> decide)
  obtain ⟨yy, hyy⟩ : ∃ yy, a >>> (Int32.ofInt s &&& 31) = yy := ⟨_, rfl⟩
  rw [hyy] at e1
  have hY : yy.toInt = (yy.toBitVec.toNat : Int).bmod (2 ^ 32) := BitVec.toInt_eq_toNat_bmod _
  have hY2 := yy.toBitVec.isLt
  have e2 : yy &&& Int32.ofInt 255 = nI (yy.toBitVec.toNat % 2 ^ 8) := pk_and yy 8 (by decide)
  have e3 := pk_ushr a (Int32.ofInt s) k (by subst hs; rcases hk with rfl | rfl | rfl | rfl <;> decide)
  obtain ⟨U, hU⟩ : ∃ U, (a.toUInt32 >>> ((Int32.ofInt s).toUInt32 &&& Int32.toUInt32 31)).toInt32 = U := ⟨_, rfl⟩
  rw [hU] at e3
  have hU1 : U.toInt = (U.toBitVec.toNat : Int).bmod (2 ^ 32) := BitVec.toInt_eq_toNat_bmod _
  have hA : iAnd (iShr v s) 255 = ((yy.toBitVec.toNat % 256 : Nat) : Int) := by
    unfold iAnd iShr
    rw [ha, hyy, Int32.ofInt_toInt, e2]
    exact Int32.toInt_ofNat_of_lt (by omega)
  have hW : w8 (w8 (iUsh v s)) = (U.toBitVec.toNat : Int).bmod 256 := by
    unfold w8 iUsh
    rw [ha, hU, Int32.ofInt_toInt, Int32.toInt_toInt8, Int32.toInt_toInt8, hU1, Int32.toInt_ofInt]
    rw [Int.bmod_bmod_of_dvd (by decide), Int.bmod_bmod, Int.bmod_bmod_of_dvd (by decide)]
  rw [hA, hW, e3]
  rw [Int.shiftRight_eq_div_pow] at e1
  rw [Int.bmod_def] at hS hY ⊢
  rcases hk with rfl | rfl | rfl | rfl
  · omega
  · omega
  · omega
  · omega
def fdC (I : MI) (T : Nat) (g : Nat → Int) (n : Nat) : MI := u2 (u1 I 61 (fun j => if T ≤ j ∧ j < T + n then g (j - T) else I 61 j)) 0 4 ((T : Int) + n)
def fdM (I : MI) (T : Nat) (g : Nat → Int) (n : Nat) : MI := u2 (u1 I 96 (fun j => if T ≤ j ∧ j < T + n then g (j - T) else I 96 j)) 91 11 ((T : Int) + n)
theorem fd_0 {I : MI} {T c k f : Nat} {g : Nat → Int} (h : I k f = T) : u2 (u1 I c (fun j => if T ≤ j ∧ j < T + 0 then g (j - T) else I c j)) k f ((T : Int) + (0 : Nat)) = I := by
  have e : (fun j => if T ≤ j ∧ j < T + 0 then g (j - T) else I c j) = I c := by funext j; rw [if_neg (by omega)]
  rw [e, u1_same]
  funext a i
  by_cases ha : a = k ∧ i = f
  · obtain ⟨rfl, rfl⟩ := ha
    rw [u2e, h]; rfl
  · unfold u2
    rw [if_neg ha]
theorem fd_s {I : MI} {T c k f n : Nat} {g : Nat → Int} (hck : c ≠ k) : u2 (u2 (u2 (u1 I c (fun j => if T ≤ j ∧ j < T + n then g (j - T) else I c j)) k f ((T : Int) + n)) c (T + n) (g n)) k f ((T : Int) + n + 1) = u2 (u1 I c (fun j => if T ≤ j ∧ j < T + (n + 1) then g (j - T) else I c j)) k f ((T : Int) + (n + 1 : Nat)) := by
  funext a i
  by_cases hk : a = k
  · subst hk
    by_cases hi : i = f
    · subst hi
      rw [u2e, u2e]; omega
    · rw [u2j hi, u2j hi, u2n (fun q => hck q.symm), u2j hi, u1n (fun q => hck q.symm), u1n (fun q => hck q.symm)]
  · rw [u2n hk, u2n hk]
    by_cases hc : a = c
    · subst hc
      rw [u1e]
      by_cases hi : i = T + n
      · subst hi
        rw [u2e, if_pos (by omega), show T + n - T = n by omega]
      · rw [u2j hi, u2n hk, u1e]
        by_cases h2 : T ≤ i ∧ i < T + n
        · rw [if_pos h2, if_pos (by omega)]
        · rw [if_neg h2, if_neg (by omega)]
    · rw [u2n hc, u2n hk, u1n hc, u1n hc]
section PUBG
variable {G : Ctx} {h n : Nat} {I : MI} {J : MJ} {b : B3} {x y z u v : Int}
theorem s143_l {K : MI → MJ → B3 → Prop} {T : Nat} {g : Nat → Int} (hT : T + n + 4 ≤ 400) (hg : ∀ r : Nat, r < 4 → g (n + r) = w8 (w8 (iUsh v (24 - 8 * (r : Int))))) (k : K (fdC I T g (n + 4)) J b) : ∀ (m r : Nat), r + m = 4 → Tri G h 143 119 119 3 [some (vr 0), some (vi v), some (vi (24 - 8 * (r : Int)))] [] (fdC I T g (n + r), J, PP b) (cVN K) := by
  intro m
  induction m with
  | zero =>
    intro r hr
    obtain rfl : r = 4 := by omega
    exact x143_3 (Nat.zero_le _) ⟨fun q => cVN_r k, fun q => by omega⟩
  | succ m ih =>
    intro r hr
    have e4 : fdC I T g (n + r) 0 4 = (T : Int) + (n + r : Nat) := u2e
    refine x143_3 (Nat.zero_le _) ⟨fun q => by omega, fun q => ⟨fun q2 => by omega, fun q2 => ⟨by omega, ?_⟩⟩⟩
    rw [e4, ← hg r (by omega), w32_id (by omega) (by omega), w32_id (by omega) (by omega), show ((T : Int) + (n + r : Nat)).toNat = T + (n + r) by omega]
    have e5 := fd_s (I := I) (T := T) (c := 61) (k := 0) (f := 4) (n := n + r) (g := g) (by decide)
    unfold fdC
    rw [e5, show 24 - 8 * (r : Int) + -8 = 24 - 8 * ((r + 1 : Nat) : Int) by omega]
    exact ih (r + 1) (by omega)
theorem s143 {K : MI → MJ → B3 → Prop} {T : Nat} {g : Nat → Int} (hh : 1 ≤ h) (hT : T + n + 4 ≤ 400) (hg : ∀ r : Nat, r < 4 → g (n + r) = w8 (w8 (iUsh v (24 - 8 * (r : Int))))) (k : K (fdC I T g (n + 4)) J b) : TriM G h 143 119 119 [vr 0, vi v] (fdC I T g n, J, PP b) (cVN K) :=
  x143_m hh (fun h hh => x143 hh (s143_l hT hg k 4 0 rfl))
def sel5 (x y z u v : Int) (k : Nat) : Int := if k < 4 then x else if k < 8 then y else if k < 12 then z else if k < 16 then u else v
theorem s197_l {K : Int → MI → MJ → B3 → Prop} {T : Nat} {g : Nat → Int} (hT : T + 20 ≤ 400) (hg : ∀ k : Nat, k < 20 → g k = iAnd (iShr (sel5 x y z u v k) (24 - 8 * ((k % 4 : Nat) : Int))) 255) (k : K ((T : Int) + 20) (fdM I T g 20) J b) : ∀ (m i : Nat), i + m = 20 → Tri G h 197 119 119 18 [some (vr 91), some (vi x), some (vi y), some (vi z), some (vi u), some (vi v), some (vi (i : Int))] [] (fdM I T g i, J, PP b) (cIN K) := by
  intro m
  induction m with
  | zero =>
    intro i hi
    obtain rfl : i = 20 := by omega
    exact x197_18 (Nat.zero_le _) ⟨fun q => cIN_r fun _ => k, fun q => by omega⟩
  | succ m ih =>
    intro i hi
    have e4 : fdM I T g i 91 11 = (T : Int) + (i : Nat) := u2e
    have er : w32 (24 - w32 (8 * iRem (i : Int) 4)) = 24 - 8 * ((i % 4 : Nat) : Int) := by
      rw [iRem_pos (by omega) (by omega) (by omega) (by omega), w32_id (x := 8 * ((i : Int) % 4)) (by omega) (by omega), w32_id (by omega) (by omega)]
      omega
    have e5 := fd_s (I := I) (T := T) (c := 96) (k := 91) (f := 11) (n := i) (g := g) (by decide)
    have fin : ∀ w, w = sel5 x y z u v i → Tri G h 197 119 119 18 [some (vr 91), some (vi x), some (vi y), some (vi z), some (vi u), some (vi v), some (vi (w32 ((i : Int) + 1)))] [] (u2 (u2 (fdM I T g i) 96 ((fdM I T g i 91 11).toNat) (iAnd (iShr w (w32 (24 - (w32 (8 * (iRem i 4)))))) 255)) 91 11 (w32 ((fdM I T g i 91 11) + 1)), J, PP b) (cIN K) := by
      intro w hw
      rw [e4, er, hw, ← hg i (by omega), w32_id (by omega) (by omega), w32_id (by omega) (by omega), show ((T : Int) + (i : Nat)).toNat = T + i by omega]
      unfold fdM
      rw [e5]
      exact ih (i + 1) (by omega)
    refine x197_18 (Nat.zero_le _) ⟨fun q => by omega, fun q => ⟨fun q1 => ⟨fun q2 => ⟨fun q3 => ⟨fun q4 => ⟨by omega, fin v ?_⟩, fun q4 => ⟨by omega, fin u ?_⟩⟩, fun q3 => ⟨by omega, fin z ?_⟩⟩, fun q2 => ⟨by omega, fin y ?_⟩⟩, fun q1 => ⟨by omega, fin x ?_⟩⟩⟩
    all_goals unfold sel5
    · rw [if_neg (by omega), if_neg (by omega), if_neg (by omega), if_neg (by omega)]
    · rw [if_neg (by omega), if_neg (by omega), if_neg (by omega), if_pos (by omega)]
    · rw [if_neg (by omega), if_neg (by omega), if_pos (by omega)]
    · rw [if_neg (by omega), if_pos (by omega)]
    · rw [if_pos (by omega)]
theorem pub_feed (hI : INV n I J) (hn : n < 64) (hh : 40 ≤ h) : PairI G h 142 197 [vi x, vi y, vi z, vi u, vi v] (n + 1) I J b := by
  have hI2 := hI.suc hn
  have htp0 : rTape I := by
    obtain ⟨p0, p1, p2, -, -, -, -, htp, -⟩ := hI
    exact htp
  obtain ⟨⟨c1, c2, c3⟩, c4⟩ := htp0
  refine x142_m (by omega) (fun h2 hh2 => x142 hh2 ⟨fun q => ?_, fun q => ?_⟩)
  · rw [w32_id (by omega) (by omega)] at q
    obtain ⟨T, hT⟩ : ∃ T : Nat, I 0 4 = T := ⟨(I 0 4).toNat, by omega⟩
    obtain ⟨gM, hgM⟩ : ∃ gM : Nat → Int, gM = fun k => iAnd (iShr (sel5 x y z u v k) (24 - 8 * ((k % 4 : Nat) : Int))) 255 := ⟨_, rfl⟩
    obtain ⟨gC, hgC⟩ : ∃ gC : Nat → Int, gC = fun k => w8 (w8 (iUsh (sel5 x y z u v k) (24 - 8 * ((k % 4 : Nat) : Int)))) := ⟨_, rfl⟩
    have hg : ∀ (w : Int) (m : Nat), m % 4 = 0 → (∀ r, r < 4 → sel5 x y z u v (m + r) = w) → ∀ r : Nat, r < 4 → gC (m + r) = w8 (w8 (iUsh w (24 - 8 * (r : Int)))) := by
      intro w m hm hw r hr
      rw [hgC]
      show w8 (w8 (iUsh (sel5 x y z u v (m + r)) (24 - 8 * (((m + r) % 4 : Nat) : Int)))) = _
      rw [hw r hr, show (m + r) % 4 = r by omega]
    have rel : ∀ k, (0 ≤ gM k ∧ gM k < 256) ∧ gC k = if gM k < 128 then gM k else gM k - 256 := by
      intro k
      rw [hgM, hgC]
      exact byt _ (k := 24 - 8 * (k % 4)) (by omega) (by omega)
    have fin : cIN (fun x_1 I1 J1 b1 => TriM G h 197 119 119 [vr 91, vi x, vi y, vi z, vi u, vi v] (I1, J1, PP b1) (cIN fun y I2 J2 _ => x_1 = y ∧ INV (n + 1) I2 J2)) (some (vi (fdC I T gC 20 0 4))) (fdC I T gC 20, J, PP b) := by
      have e4 : fdC I T gC 20 0 4 = (T : Int) + 20 := u2e
      rw [e4]
      have e91 : fdC I T gC 20 91 11 = T := by
        unfold fdC
        simp (disch := decide) only [u2n, u1n]
        omega
      refine cIN_r fun _ => x197_m (by omega) (fun h2 hh2 => x197 hh2 ⟨fun q2 => ?_, fun q2 => absurd (show w32 (fdC I T gC 20 91 11 + 20) ≤ 400 by rw [e91, w32_id (by omega) (by omega)]; omega) q2⟩)
      have hl := s197_l (G := G) (h := h2) (I := fdC I T gC 20) (J := J) (b := b) (T := T) (g := gM) (x := x) (y := y) (z := z) (u := u) (v := v) (K := fun w I2 J2 _ => (T : Int) + 20 = w ∧ INV (n + 1) I2 J2) (by omega) (fun k hk => by rw [hgM]) ⟨rfl, ?_⟩ 20 0 rfl
      · rw [show fdM (fdC I T gC 20) T gM 0 = fdC I T gC 20 from fd_0 e91] at hl
        exact hl
      obtain ⟨p0, p1, p2, ⟨a1, a2, a3, a4, a5⟩, ⟨t0, t1, t2⟩, hl, hp, htp, hf, ⟨k1, k2, k3⟩, hc, hcc⟩ := hI.suc hn
      have ht : rTape (fdM (fdC I T gC 20) T gM 20) := by
        unfold rTape fdM fdC
        simp (disch := omega) only [Nat.reduceAdd, u2n, u2j, u2e, u1n, u1e, and_true, true_and]
        refine ⟨by omega, fun i i1 i2 => ?_⟩
        have hr := rel (i.toNat - T)
        by_cases hi : T ≤ i.toNat
        · rw [if_pos (by omega), if_pos (by omega)]
          exact ⟨hr.1.1, hr.1.2, hr.2⟩
        · rw [if_neg (by omega), if_neg (by omega)]
          exact c4 i i1 (by omega)
      unfold fdM fdC at ht ⊢
      refine ⟨p0, p1, p2, ⟨a1.fr ?_ ?_ ?_ ?_ ?_ ?_, a2.fr ?_ ?_ ?_ ?_ ?_ ?_ ?_ ?_, a3.fr ?_ ?_ ?_ ?_ ?_, a4.fr ?_ ?_ ?_ ?_ ?_ ?_, ?_⟩, ⟨t0.fr ?_ ?_ ?_, t1.fr ?_ ?_ ?_, t2.fr ?_ ?_ ?_⟩, hl.fr ?_ ?_ ?_ ?_ ?_ ?_ ?_ ?_ ?_, hp.fr ?_ ?_ ?_ ?_ ?_ ?_ ?_ ?_ ?_ ?_ ?_ ?_ ?_ ?_ ?_, ht, ?_, ⟨?_, ?_, fun q => (k3 ?_).fr ?_ ?_⟩, hc, ?_⟩
      all_goals first
        | (simp (disch := decide) only [u2_ne, u1_ne]; done)
        | (intro j hj; simp (disch := omega) only [u2n, u2j, u1n]; done)
        | (simp (disch := omega) only [u2n, u2j, u2e, u1n]; first | done | omega | assumption | exact Int.le_refl _)
        | (intro k hk; simp (disch := omega) only [u2_ne, u1_ne]; done)
        | (simp (disch := omega) only [u2n, u2j, u2e] at q; exact q)
        | rfl
    have e0 : fdC I T gC 0 = I := fd_0 hT
    rw [← e0]
    refine s143 (by omega) (by omega) (hg x 0 rfl fun r hr => ?_) (s143 (by omega) (by omega) (hg y 4 rfl fun r hr => ?_) (s143 (by omega) (by omega) (hg z 8 rfl fun r hr => ?_) (s143 (by omega) (by omega) (hg u 12 rfl fun r hr => ?_) (s143 (by omega) (by omega) (hg v 16 rfl fun r hr => ?_) fin))))
    all_goals unfold sel5
    · rw [if_pos (by omega)]
    · rw [if_neg (by omega), if_pos (by omega)]
    · rw [if_neg (by omega), if_neg (by omega), if_pos (by omega)]
    · rw [if_neg (by omega), if_neg (by omega), if_neg (by omega), if_pos (by omega)]
    · rw [if_neg (by omega), if_neg (by omega), if_neg (by omega), if_neg (by omega)]
  · exact cIN_r fun _ => x197_m (by omega) (fun h2 hh2 => x197 hh2 ⟨fun q2 => absurd (show w32 (I 0 4 + 20) ≤ 400 by rw [← c3]; exact q2) q, fun q2 => cIN_r fun _ => ⟨rfl, hI2⟩⟩)
end PUBG
