set_option maxRecDepth 100000 in
theorem x17 {G : Ctx} {h : Nat} {Q : MP} {I : Nat → Nat → Int} {J : Nat → Nat → BitVec 64} {b : B3} {a : BitVec 64} (hh : 0 ≤ h) (H : Q (some (vi (iAnd (l2i ((((((((a - ((lUsh a 1) &&& (BitVec.ofInt 64 6148914691236517205))) &&& (BitVec.ofInt 64 3689348814741910323)) + ((lUsh (a - ((lUsh a 1) &&& (BitVec.ofInt 64 6148914691236517205))) 2) &&& (BitVec.ofInt 64 3689348814741910323))) + (lUsh (((a - ((lUsh a 1) &&& (BitVec.ofInt 64 6148914691236517205))) &&& (BitVec.ofInt 64 3689348814741910323)) + ((lUsh (a - ((lUsh a 1) &&& (BitVec.ofInt 64 6148914691236517205))) 2) &&& (BitVec.ofInt 64 3689348814741910323))) 4)) &&& (BitVec.ofInt 64 1085102592571150095)) + (lUsh (((((a - ((lUsh a 1) &&& (BitVec.ofInt 64 6148914691236517205))) &&& (BitVec.ofInt 64 3689348814741910323)) + ((lUsh (a - ((lUsh a 1) &&& (BitVec.ofInt 64 6148914691236517205))) 2) &&& (BitVec.ofInt 64 3689348814741910323))) + (lUsh (((a - ((lUsh a 1) &&& (BitVec.ofInt 64 6148914691236517205))) &&& (BitVec.ofInt 64 3689348814741910323)) + ((lUsh (a - ((lUsh a 1) &&& (BitVec.ofInt 64 6148914691236517205))) 2) &&& (BitVec.ofInt 64 3689348814741910323))) 4)) &&& (BitVec.ofInt 64 1085102592571150095)) 8)) + (lUsh ((((((a - ((lUsh a 1) &&& (BitVec.ofInt 64 6148914691236517205))) &&& (BitVec.ofInt 64 3689348814741910323)) + ((lUsh (a - ((lUsh a 1) &&& (BitVec.ofInt 64 6148914691236517205))) 2) &&& (BitVec.ofInt 64 3689348814741910323))) + (lUsh (((a - ((lUsh a 1) &&& (BitVec.ofInt 64 6148914691236517205))) &&& (BitVec.ofInt 64 3689348814741910323)) + ((lUsh (a - ((lUsh a 1) &&& (BitVec.ofInt 64 6148914691236517205))) 2) &&& (BitVec.ofInt 64 3689348814741910323))) 4)) &&& (BitVec.ofInt 64 1085102592571150095)) + (lUsh (((((a - ((lUsh a 1) &&& (BitVec.ofInt 64 6148914691236517205))) &&& (BitVec.ofInt 64 3689348814741910323)) + ((lUsh (a - ((lUsh a 1) &&& (BitVec.ofInt 64 6148914691236517205))) 2) &&& (BitVec.ofInt 64 3689348814741910323))) + (lUsh (((a - ((lUsh a 1) &&& (BitVec.ofInt 64 6148914691236517205))) &&& (BitVec.ofInt 64 3689348814741910323)) + ((lUsh (a - ((lUsh a 1) &&& (BitVec.ofInt 64 6148914691236517205))) 2) &&& (BitVec.ofInt 64 3689348814741910323))) 4)) &&& (BitVec.ofInt 64 1085102592571150095)) 8)) 16)) + (lUsh (((((((a - ((lUsh a 1) &&& (BitVec.ofInt 64 6148914691236517205))) &&& (BitVec.ofInt 64 3689348814741910323)) + ((lUsh (a - ((lUsh a 1) &&& (BitVec.ofInt 64 6148914691236517205))) 2) &&& (BitVec.ofInt 64 3689348814741910323))) + (lUsh (((a - ((lUsh a 1) &&& (BitVec.ofInt 64 6148914691236517205))) &&& (BitVec.ofInt 64 3689348814741910323)) + ((lUsh (a - ((lUsh a 1) &&& (BitVec.ofInt 64 6148914691236517205))) 2) &&& (BitVec.ofInt 64 3689348814741910323))) 4)) &&& (BitVec.ofInt 64 1085102592571150095)) + (lUsh (((((a - ((lUsh a 1) &&& (BitVec.ofInt 64 6148914691236517205))) &&& (BitVec.ofInt 64 3689348814741910323)) + ((lUsh (a - ((lUsh a 1) &&& (BitVec.ofInt 64 6148914691236517205))) 2) &&& (BitVec.ofInt 64 3689348814741910323))) + (lUsh (((a - ((lUsh a 1) &&& (BitVec.ofInt 64 6148914691236517205))) &&& (BitVec.ofInt 64 3689348814741910323)) + ((lUsh (a - ((lUsh a 1) &&& (BitVec.ofInt 64 6148914691236517205))) 2) &&& (BitVec.ofInt 64 3689348814741910323))) 4)) &&& (BitVec.ofInt 64 1085102592571150095)) 8)) + (lUsh ((((((a - ((lUsh a 1) &&& (BitVec.ofInt 64 6148914691236517205))) &&& (BitVec.ofInt 64 3689348814741910323)) + ((lUsh (a - ((lUsh a 1) &&& (BitVec.ofInt 64 6148914691236517205))) 2) &&& (BitVec.ofInt 64 3689348814741910323))) + (lUsh (((a - ((lUsh a 1) &&& (BitVec.ofInt 64 6148914691236517205))) &&& (BitVec.ofInt 64 3689348814741910323)) + ((lUsh (a - ((lUsh a 1) &&& (BitVec.ofInt 64 6148914691236517205))) 2) &&& (BitVec.ofInt 64 3689348814741910323))) 4)) &&& (BitVec.ofInt 64 1085102592571150095)) + (lUsh (((((a - ((lUsh a 1) &&& (BitVec.ofInt 64 6148914691236517205))) &&& (BitVec.ofInt 64 3689348814741910323)) + ((lUsh (a - ((lUsh a 1) &&& (BitVec.ofInt 64 6148914691236517205))) 2) &&& (BitVec.ofInt 64 3689348814741910323))) + (lUsh (((a - ((lUsh a 1) &&& (BitVec.ofInt 64 6148914691236517205))) &&& (BitVec.ofInt 64 3689348814741910323)) + ((lUsh (a - ((lUsh a 1) &&& (BitVec.ofInt 64 6148914691236517205))) 2) &&& (BitVec.ofInt 64 3689348814741910323))) 4)) &&& (BitVec.ofInt 64 1085102592571150095)) 8)) 16)) 32))) 127))) (I, J, PP b)) : Tri G h 17 119 119 0 [some (vl a), none] [] (I, J, PP b) Q := wp_at ck17 [] 400 H
theorem x17_m {G : Ctx} {h : Nat} {Q : MP} {I : Nat → Nat → Int} {J : Nat → Nat → BitVec 64} {b : B3} {a : BitVec 64} (hh : 1 ≤ h) (H : ∀ h, 0 ≤ h → Tri G h 17 119 119 0 [some (vl a), none] [] (I, J, PP b) Q) : TriM G h 17 119 119 [vl a] (I, J, PP b) Q := TriM_intro (h - 1) (by omega) (by decide) (Nat.le_of_ble_eq_true rfl) (Nat.le_refl _) (Nat.le_refl _) (H (h - 1) (by omega))
set_option maxRecDepth 100000 in
theorem x20 {G : Ctx} {h : Nat} {Q : MP} {I : Nat → Nat → Int} {J : Nat → Nat → BitVec 64} {b : B3} {x : Int} (hh : 0 ≤ h) (H : ((0 < (iAnd (iXor x (-1)) (w32 (x - 1)))) → ((((iAnd (iXor x (-1)) (w32 (x - 1))) ≤ 65536) → ((((iAnd (iXor x (-1)) (w32 (x - 1))) ≤ 256) → ((((iAnd (iXor x (-1)) (w32 (x - 1))) ≤ 16) → ((((iAnd (iXor x (-1)) (w32 (x - 1))) ≤ 4) → (Q (some (vi (w32 (1 + (iUsh (iAnd (iXor x (-1)) (w32 (x - 1))) 1))))) (I, J, PP b))) ∧ (¬ ((iAnd (iXor x (-1)) (w32 (x - 1))) ≤ 4) → (Q (some (vi (w32 ((w32 (1 + 2)) + (iUsh (iUsh (iAnd (iXor x (-1)) (w32 (x - 1))) 2) 1))))) (I, J, PP b))))) ∧ (¬ ((iAnd (iXor x (-1)) (w32 (x - 1))) ≤ 16) → ((((iUsh (iAnd (iXor x (-1)) (w32 (x - 1))) 4) ≤ 4) → (Q (some (vi (w32 ((w32 (1 + 4)) + (iUsh (iUsh (iAnd (iXor x (-1)) (w32 (x - 1))) 4) 1))))) (I, J, PP b))) ∧ (¬ ((iUsh (iAnd (iXor x (-1)) (w32 (x - 1))) 4) ≤ 4) → (Q (some (vi (w32 ((w32 (w32 (1 + 4) + 2)) + (iUsh (iUsh (iUsh (iAnd (iXor x (-1)) (w32 (x - 1))) 4) 2) 1))))) (I, J, PP b))))))) ∧ (¬ ((iAnd (iXor x (-1)) (w32 (x - 1))) ≤ 256) → ((((iUsh (iAnd (iXor x (-1)) (w32 (x - 1))) 8) ≤ 16) → ((((iUsh (iAnd (iXor x (-1)) (w32 (x - 1))) 8) ≤ 4) → (Q (some (vi (w32 ((w32 (1 + 8)) + (iUsh (iUsh (iAnd (iXor x (-1)) (w32 (x - 1))) 8) 1))))) (I, J, PP b))) ∧ (¬ ((iUsh (iAnd (iXor x (-1)) (w32 (x - 1))) 8) ≤ 4) → (Q (some (vi (w32 ((w32 (w32 (1 + 8) + 2)) + (iUsh (iUsh (iUsh (iAnd (iXor x (-1)) (w32 (x - 1))) 8) 2) 1))))) (I, J, PP b))))) ∧ (¬ ((iUsh (iAnd (iXor x (-1)) (w32 (x - 1))) 8) ≤ 16) → ((((iUsh (iUsh (iAnd (iXor x (-1)) (w32 (x - 1))) 8) 4) ≤ 4) → (Q (some (vi (w32 ((w32 (w32 (1 + 8) + 4)) + (iUsh (iUsh (iUsh (iAnd (iXor x (-1)) (w32 (x - 1))) 8) 4) 1))))) (I, J, PP b))) ∧ (¬ ((iUsh (iUsh (iAnd (iXor x (-1)) (w32 (x - 1))) 8) 4) ≤ 4) → (Q (some (vi (w32 ((w32 (w32 (w32 (1 + 8) + 4) + 2)) + (iUsh (iUsh (iUsh (iUsh (iAnd (iXor x (-1)) (w32 (x - 1))) 8) 4) 2) 1))))) (I, J, PP b))))))))) ∧ (¬ ((iAnd (iXor x (-1)) (w32 (x - 1))) ≤ 65536) → ((((iUsh (iAnd (iXor x (-1)) (w32 (x - 1))) 16) ≤ 256) → ((((iUsh (iAnd (iXor x (-1)) (w32 (x - 1))) 16) ≤ 16) → ((((iUsh (iAnd (iXor x (-1)) (w32 (x - 1))) 16) ≤ 4) → (Q (some (vi (w32 ((w32 (1 + 16)) + (iUsh (iUsh (iAnd (iXor x (-1)) (w32 (x - 1))) 16) 1))))) (I, J, PP b))) ∧ (¬ ((iUsh (iAnd (iXor x (-1)) (w32 (x - 1))) 16) ≤ 4) → (Q (some (vi (w32 ((w32 (w32 (1 + 16) + 2)) + (iUsh (iUsh (iUsh (iAnd (iXor x (-1)) (w32 (x - 1))) 16) 2) 1))))) (I, J, PP b))))) ∧ (¬ ((iUsh (iAnd (iXor x (-1)) (w32 (x - 1))) 16) ≤ 16) → ((((iUsh (iUsh (iAnd (iXor x (-1)) (w32 (x - 1))) 16) 4) ≤ 4) → (Q (some (vi (w32 ((w32 (w32 (1 + 16) + 4)) + (iUsh (iUsh (iUsh (iAnd (iXor x (-1)) (w32 (x - 1))) 16) 4) 1))))) (I, J, PP b))) ∧ (¬ ((iUsh (iUsh (iAnd (iXor x (-1)) (w32 (x - 1))) 16) 4) ≤ 4) → (Q (some (vi (w32 ((w32 (w32 (w32 (1 + 16) + 4) + 2)) + (iUsh (iUsh (iUsh (iUsh (iAnd (iXor x (-1)) (w32 (x - 1))) 16) 4) 2) 1))))) (I, J, PP b))))))) ∧ (¬ ((iUsh (iAnd (iXor x (-1)) (w32 (x - 1))) 16) ≤ 256) → ((((iUsh (iUsh (iAnd (iXor x (-1)) (w32 (x - 1))) 16) 8) ≤ 16) → ((((iUsh (iUsh (iAnd (iXor x (-1)) (w32 (x - 1))) 16) 8) ≤ 4) → (Q (some (vi (w32 ((w32 (w32 (1 + 16) + 8)) + (iUsh (iUsh (iUsh (iAnd (iXor x (-1)) (w32 (x - 1))) 16) 8) 1))))) (I, J, PP b))) ∧ (¬ ((iUsh (iUsh (iAnd (iXor x (-1)) (w32 (x - 1))) 16) 8) ≤ 4) → (Q (some (vi (w32 ((w32 (w32 (w32 (1 + 16) + 8) + 2)) + (iUsh (iUsh (iUsh (iUsh (iAnd (iXor x (-1)) (w32 (x - 1))) 16) 8) 2) 1))))) (I, J, PP b))))) ∧ (¬ ((iUsh (iUsh (iAnd (iXor x (-1)) (w32 (x - 1))) 16) 8) ≤ 16) → ((((iUsh (iUsh (iUsh (iAnd (iXor x (-1)) (w32 (x - 1))) 16) 8) 4) ≤ 4) → (Q (some (vi (w32 ((w32 (w32 (w32 (1 + 16) + 8) + 4)) + (iUsh (iUsh (iUsh (iUsh (iAnd (iXor x (-1)) (w32 (x - 1))) 16) 8) 4) 1))))) (I, J, PP b))) ∧ (¬ ((iUsh (iUsh (iUsh (iAnd (iXor x (-1)) (w32 (x - 1))) 16) 8) 4) ≤ 4) → (Q (some (vi (w32 ((w32 (w32 (w32 (w32 (1 + 16) + 8) + 4) + 2)) + (iUsh (iUsh (iUsh (iUsh (iUsh (iAnd (iXor x (-1)) (w32 (x - 1))) 16) 8) 4) 2) 1))))) (I, J, PP b))))))))))) ∧ (¬ (0 < (iAnd (iXor x (-1)) (w32 (x - 1)))) → (Q (some (vi (iAnd (iAnd (iXor x (-1)) (w32 (x - 1))) 32))) (I, J, PP b)))) : Tri G h 20 119 119 0 [some (vi x)] [] (I, J, PP b) Q := wp_at ck20 [] 400 H
theorem x20_m {G : Ctx} {h : Nat} {Q : MP} {I : Nat → Nat → Int} {J : Nat → Nat → BitVec 64} {b : B3} {x : Int} (hh : 1 ≤ h) (H : ∀ h, 0 ≤ h → Tri G h 20 119 119 0 [some (vi x)] [] (I, J, PP b) Q) : TriM G h 20 119 119 [vi x] (I, J, PP b) Q := TriM_intro (h - 1) (by omega) (by decide) (Nat.le_of_ble_eq_true rfl) (Nat.le_refl _) (Nat.le_refl _) (H (h - 1) (by omega))
set_option maxRecDepth 100000 in
theorem x18 {G : Ctx} {h : Nat} {Q : MP} {I : Nat → Nat → Int} {J : Nat → Nat → BitVec 64} {b : B3} {x y : Int} (hh : 0 ≤ h) (H : y ≠ 0 ∧ (((0 ≤ (iXor x y)) → (Q (some (vi (iRem x y))) (I, J, PP b))) ∧ (¬ (0 ≤ (iXor x y)) → ((((iRem x y) = 0) → (Q (some (vi (iRem x y))) (I, J, PP b))) ∧ (¬ ((iRem x y) = 0) → (Q (some (vi (w32 ((iRem x y) + y)))) (I, J, PP b))))))) : Tri G h 18 119 119 0 [some (vi x), some (vi y)] [] (I, J, PP b) Q := wp_at ck18 [] 400 H
theorem x18_m {G : Ctx} {h : Nat} {Q : MP} {I : Nat → Nat → Int} {J : Nat → Nat → BitVec 64} {b : B3} {x y : Int} (hh : 1 ≤ h) (H : ∀ h, 0 ≤ h → Tri G h 18 119 119 0 [some (vi x), some (vi y)] [] (I, J, PP b) Q) : TriM G h 18 119 119 [vi x, vi y] (I, J, PP b) Q := TriM_intro (h - 1) (by omega) (by decide) (Nat.le_of_ble_eq_true rfl) (Nat.le_refl _) (Nat.le_refl _) (H (h - 1) (by omega))
set_option maxRecDepth 100000 in
theorem x19 {G : Ctx} {h : Nat} {Q : MP} {I : Nat → Nat → Int} {J : Nat → Nat → BitVec 64} {b : B3} {a : BitVec 64} (hh : 1 ≤ h) (H : ((¬ (l2i a) = 0) → (TriM G h 20 119 119 [vi (l2i a)] (I, J, PP b) (cIN fun r1 I1 J1 b1 => (Q (some (vi r1)) (I1, J1, PP b1))))) ∧ (¬ (¬ (l2i a) = 0) → (TriM G h 20 119 119 [vi (l2i (lUsh a 32))] (I, J, PP b) (cIN fun r2 I2 J2 b2 => (Q (some (vi (w32 (32 + r2)))) (I2, J2, PP b2)))))) : Tri G h 19 119 119 0 [some (vl a), none] [] (I, J, PP b) Q := wp_at ck19 [] 400 (And.intro (fun q443 => cIN_go (H.1 q443) (fun r1 I1 J1 b1 q445 => q445)) (fun q444 => cIN_go (H.2 q444) (fun r2 I2 J2 b2 q446 => q446)))
theorem x19_m {G : Ctx} {h : Nat} {Q : MP} {I : Nat → Nat → Int} {J : Nat → Nat → BitVec 64} {b : B3} {a : BitVec 64} (hh : 2 ≤ h) (H : ∀ h, 1 ≤ h → Tri G h 19 119 119 0 [some (vl a), none] [] (I, J, PP b) Q) : TriM G h 19 119 119 [vl a] (I, J, PP b) Q := TriM_intro (h - 1) (by omega) (by decide) (Nat.le_of_ble_eq_true rfl) (Nat.le_refl _) (Nat.le_refl _) (H (h - 1) (by omega))
/-! bits -/
theorem ofI_nI (k : Nat) : Int32.ofInt (k : Int) = nI k := Int32.ofInt_eq_ofNat
theorem lUsh_eq (a : BitVec 64) {s : Int} {k : Nat} (hs : s = k) (hk : k < 64) : lUsh a s = a >>> k := by
  subst hs
  unfold lUsh
  have e : Int64.ofBitVec a = lN a.toNat := wb_inj (by rw [wb_tb, Int64.toBitVec_ofBitVec]; simp)
  rw [ofI_nI, e, wb_shr a.isLt hk, wb_tb]
  apply BitVec.eq_of_toNat_eq
  rw [BitVec.toNat_ofNat, BitVec.toNat_ushiftRight, Nat.shiftRight_eq_div_pow, Nat.mod_eq_of_lt (Nat.lt_of_le_of_lt (Nat.div_le_self _ _) a.isLt)]
theorem lShl_eq (a : BitVec 64) {s : Int} {k : Nat} (hs : s = k) (hk : k < 64) : lShl a s = a <<< k := by
  subst hs
  unfold lShl
  have e : Int64.ofBitVec a = lN a.toNat := wb_inj (by rw [wb_tb, Int64.toBitVec_ofBitVec]; simp)
  rw [ofI_nI, e, wb_shl _ hk, wb_tb]
  apply BitVec.eq_of_toNat_eq
  rw [BitVec.toNat_ofNat, BitVec.toNat_shiftLeft, Nat.shiftLeft_eq]
theorem shl1_bit {s : Int} {k : Nat} (hs : s = k) (hk : k < 64) (j : Nat) : (lShl (1#64) s).getLsbD j = decide (j = k) := by
  rw [lShl_eq _ hs hk, BitVec.getLsbD_shiftLeft, BitVec.getLsbD_one]
  by_cases h : j = k
  · subst h
    simp [hk]
  · simp only [h, decide_false]
    by_cases h2 : j < k
    · simp [h2]
    · have : ¬ j - k = 0 := by omega
      simp [this]
def rep (m : Nat) : Nat → Nat
  | 0 => 0
  | c + 1 => 256 * rep m c + m
def bsum (g : Nat → Nat) : Nat → Nat → Nat
  | 0, _ => 0
  | c + 1, n => 256 * bsum g c (n / 256) + g (n % 256)
theorem andsp {x y u v : Nat} (hy : y < 256) (hv : v < 256) : (256 * x + y) &&& (256 * u + v) = 256 * (x &&& u) + (y &&& v) := by
  have hyv : y &&& v < 256 := Nat.and_lt_two_pow (n := 8) _ hv
  apply Nat.eq_of_testBit_eq
  intro i
  rw [Nat.testBit_and, show 256 = 2 ^ 8 from rfl, Nat.testBit_two_pow_mul_add _ hy, Nat.testBit_two_pow_mul_add _ hv, Nat.testBit_two_pow_mul_add _ hyv]
  split <;> rw [Nat.testBit_and]
theorem bs_and {g : Nat → Nat} {m : Nat} (hm : m < 256) (hg : ∀ b, b < 256 → g b < 256) : ∀ c n, bsum g c n &&& rep m c = bsum (fun b => g b &&& m) c n
  | 0, _ => by simp [bsum, rep]
  | c + 1, n => by
    show (256 * bsum g c (n / 256) + g (n % 256)) &&& (256 * rep m c + m) = _
    rw [andsp (hg _ (by omega)) hm, bs_and hm hg c]
    rfl
theorem bs_add {f g : Nat → Nat} : ∀ c n, bsum f c n + bsum g c n = bsum (fun b => f b + g b) c n
  | 0, _ => rfl
  | c + 1, n => by
    have := bs_add (f := f) (g := g) c (n / 256)
    simp only [bsum]
    omega
theorem bs_sub {f g : Nat → Nat} (h : ∀ b, b < 256 → g b ≤ f b) : ∀ c n, bsum g c n ≤ bsum f c n ∧ bsum f c n - bsum g c n = bsum (fun b => f b - g b) c n
  | 0, _ => ⟨Nat.le_refl _, rfl⟩
  | c + 1, n => by
    have := bs_sub h c (n / 256)
    have h2 := h (n % 256) (by omega)
    simp only [bsum]
    omega
theorem bs_id : ∀ c n, n < 256 ^ c → bsum (fun b => b) c n = n
  | 0, n, h => by simp at h; subst h; rfl
  | c + 1, n, h => by
    have := bs_id c (n / 256) (by rw [Nat.pow_succ] at h; omega)
    simp only [bsum]
    omega
theorem bs_cg {f g : Nat → Nat} (h : ∀ b, b < 256 → f b = g b) : ∀ c n, bsum f c n = bsum g c n
  | 0, _ => rfl
  | c + 1, n => by
    simp only [bsum]
    rw [bs_cg h c, h _ (by omega)]
theorem and55 : ∀ t, t < 2 → ∀ u, u < 128 → (128 * t + u) &&& 85 = u &&& 85 := by decide +kernel
theorem and33 : ∀ t, t < 4 → ∀ u, u < 64 → (64 * t + u) &&& 51 = u &&& 51 := by decide +kernel
theorem bs_h1 {g : Nat → Nat} (hg : ∀ b, b < 256 → g b < 256) : ∀ c n, (bsum g c n / 2) &&& rep 85 c = bsum (fun b => (g b / 2) &&& 85) c n
  | 0, _ => by simp [bsum, rep]
  | c + 1, n => by
    have h := hg (n % 256) (by omega)
    show ((256 * bsum g c (n / 256) + g (n % 256)) / 2) &&& (256 * rep 85 c + 85) = 256 * bsum (fun b => (g b / 2) &&& 85) c (n / 256) + ((g (n % 256) / 2) &&& 85)
    rw [show (256 * bsum g c (n / 256) + g (n % 256)) / 2 = 256 * (bsum g c (n / 256) / 2) + (128 * (bsum g c (n / 256) % 2) + g (n % 256) / 2) by omega, andsp (by omega) (by omega), bs_h1 hg c, and55 _ (by omega) _ (by omega)]
theorem bs_h2 {g : Nat → Nat} (hg : ∀ b, b < 256 → g b < 256) : ∀ c n, (bsum g c n / 4) &&& rep 51 c = bsum (fun b => (g b / 4) &&& 51) c n
  | 0, _ => by simp [bsum, rep]
  | c + 1, n => by
    have h := hg (n % 256) (by omega)
    show ((256 * bsum g c (n / 256) + g (n % 256)) / 4) &&& (256 * rep 51 c + 51) = 256 * bsum (fun b => (g b / 4) &&& 51) c (n / 256) + ((g (n % 256) / 4) &&& 51)
    rw [show (256 * bsum g c (n / 256) + g (n % 256)) / 4 = 256 * (bsum g c (n / 256) / 4) + (64 * (bsum g c (n / 256) % 4) + g (n % 256) / 4) by omega, andsp (by omega) (by omega), bs_h2 hg c, and33 _ (by omega) _ (by omega)]
theorem bs_h4 {g : Nat → Nat} (hg : ∀ b, b < 256 → g b ≤ 68 ∧ g b % 16 ≤ 4) : ∀ c n, (bsum g c n) % 16 ≤ 4 ∧ ((bsum g c n + bsum g c n / 16) &&& rep 15 c) = bsum (fun b => (g b + g b / 16) &&& 15) c n
  | 0, _ => ⟨Nat.zero_le _, by simp [bsum, rep]⟩
  | c + 1, n => by
    have h := hg (n % 256) (by omega)
    have ih := bs_h4 hg c (n / 256)
    refine ⟨by simp only [bsum]; omega, ?_⟩
    show ((256 * bsum g c (n / 256) + g (n % 256)) + (256 * bsum g c (n / 256) + g (n % 256)) / 16) &&& (256 * rep 15 c + 15) = 256 * bsum (fun b => (g b + g b / 16) &&& 15) c (n / 256) + ((g (n % 256) + g (n % 256) / 16) &&& 15)
    rw [show (256 * bsum g c (n / 256) + g (n % 256)) + (256 * bsum g c (n / 256) + g (n % 256)) / 16 = 256 * (bsum g c (n / 256) + bsum g c (n / 256) / 16) + (16 * (bsum g c (n / 256) % 16) + (g (n % 256) + g (n % 256) / 16)) by omega, andsp (by omega) (by omega), ih.2]
    congr 1
    rw [show 15 = 2 ^ 4 - 1 from rfl, Nat.and_two_pow_sub_one_eq_mod, Nat.and_two_pow_sub_one_eq_mod]
    omega
def pg1 (b : Nat) : Nat := b - ((b / 2) &&& 85)
def pg2 (b : Nat) : Nat := (pg1 b &&& 51) + ((pg1 b / 4) &&& 51)
def pg3 (b : Nat) : Nat := (pg2 b + pg2 b / 16) &&& 15
theorem pg_1 : ∀ b, b < 256 → pg1 b < 256 ∧ ((b / 2) &&& 85) ≤ b := by decide +kernel
theorem pg_2 : ∀ b, b < 256 → pg2 b ≤ 68 ∧ pg2 b % 16 ≤ 4 := by decide +kernel
theorem pg_3 : ∀ b, b < 256 → pg3 b = fb_ct (fun i => b.testBit i) 8 ∧ pg3 b ≤ 8 := by decide +kernel
theorem pop3 {n : Nat} (h : n < 256 ^ 8) : ((n / 2) &&& rep 85 8) ≤ n ∧ ((((n - ((n / 2) &&& rep 85 8)) &&& rep 51 8) + (((n - ((n / 2) &&& rep 85 8)) / 4) &&& rep 51 8)) + (((n - ((n / 2) &&& rep 85 8)) &&& rep 51 8) + (((n - ((n / 2) &&& rep 85 8)) / 4) &&& rep 51 8)) / 16) &&& rep 15 8 = bsum pg3 8 n ∧ ((n - ((n / 2) &&& rep 85 8)) &&& rep 51 8) + (((n - ((n / 2) &&& rep 85 8)) / 4) &&& rep 51 8) = bsum pg2 8 n := by
  have e0 := bs_id 8 n h
  have e1 := bs_h1 (g := fun b => b) (fun b hb => hb) 8 n
  rw [e0] at e1
  have e2 := bs_sub (f := fun b => b) (g := fun b => (b / 2) &&& 85) (fun b hb => (pg_1 b hb).2) 8 n
  rw [e0] at e2
  have e3 : n - ((n / 2) &&& rep 85 8) = bsum pg1 8 n := by rw [e1, e2.2]; rfl
  have e4 := bs_and (g := pg1) (m := 51) (by omega) (fun b hb => (pg_1 b hb).1) 8 n
  have e5 := bs_h2 (g := pg1) (fun b hb => (pg_1 b hb).1) 8 n
  have e6 := bs_add (f := fun b => pg1 b &&& 51) (g := fun b => (pg1 b / 4) &&& 51) 8 n
  have e7 := (bs_h4 (g := pg2) pg_2 8 n).2
  have e8 : (bsum pg1 8 n &&& rep 51 8) + ((bsum pg1 8 n / 4) &&& rep 51 8) = bsum pg2 8 n := by rw [e4, e5, e6]; rfl
  refine ⟨by rw [e1]; exact e2.1, ?_, ?_⟩
  · rw [e3, e8, e7]; rfl
  · rw [e3, e8]
def bs1 (g : Nat → Nat) : Nat → Nat → Nat
  | 0, _ => 0
  | c + 1, n => g (n % 256) + bs1 g c (n / 256)
theorem ct_bs : ∀ c n, fb_ct (fun i => n.testBit i) (8 * c) = bs1 pg3 c n
  | 0, _ => rfl
  | c + 1, n => by
    rw [show 8 * (c + 1) = 8 + 8 * c by omega, fb_ct_split]
    show _ = pg3 (n % 256) + bs1 pg3 c (n / 256)
    rw [(pg_3 _ (by omega)).1, ← ct_bs c (n / 256)]
    congr 1
    · apply fb_ct_cong
      intro k hk
      rw [show 256 = 2 ^ 8 from rfl, Nat.testBit_mod_two_pow, decide_eq_true hk, Bool.true_and]
    · apply fb_ct_cong
      intro k hk
      rw [show 256 = 2 ^ 8 from rfl, Nat.testBit_div_two_pow, Nat.add_comm]
theorem pop4 {c0 c1 c2 c3 c4 c5 c6 c7 A1 A2 A3 A4 A5 A6 A7 s : Nat} (h0 : c0 ≤ 8) (h1 : c1 ≤ 8) (h2 : c2 ≤ 8) (h3 : c3 ≤ 8) (h4 : c4 ≤ 8) (h5 : c5 ≤ 8) (h6 : c6 ≤ 8) (h7 : c7 ≤ 8) (e7 : A7 = c7) (e6 : A6 = 256 * A7 + c6) (e5 : A5 = 256 * A6 + c5) (e4 : A4 = 256 * A5 + c4) (e3 : A3 = 256 * A4 + c3) (e2 : A2 = 256 * A3 + c2) (e1 : A1 = 256 * A2 + c1) (hs : s = 256 * A1 + c0) : s + s / 256 < 18446744073709551616 ∧ (s + s / 256) + (s + s / 256) / 65536 < 18446744073709551616 ∧ ((s + s / 256) + (s + s / 256) / 65536) + ((s + s / 256) + (s + s / 256) / 65536) / 4294967296 < 18446744073709551616 ∧ (((s + s / 256) + (s + s / 256) / 65536) + ((s + s / 256) + (s + s / 256) / 65536) / 4294967296) % 128 = c0 + c1 + c2 + c3 + c4 + c5 + c6 + c7 := by
  have b7 : A7 ≤ 8 := by omega
  have b6 : A6 ≤ 2056 := by omega
  have b5 : A5 ≤ 526344 := by omega
  have b4 : A4 ≤ 134744072 := by omega
  have b3 : A3 ≤ 34494482440 := by omega
  have b2 : A2 ≤ 8830587504648 := by omega
  have b1 : A1 ≤ 2260630401189896 := by omega
  have d1 : s / 256 = A1 := by omega
  rw [d1]
  have d2 : (s + A1) / 65536 = A2 + A3 := by omega
  rw [d2]
  have d4 : (s + A1 + (A2 + A3)) / 4294967296 = A4 + A5 + A6 + A7 := by
    have f1 : s + A1 + (A2 + A3) = 256 * (A1 + A2 + A3 + A4) + (c0 + c1 + c2 + c3) := by omega
    have f2 : A1 + A2 + A3 + A4 = 256 * (A2 + A3 + A4 + A5) + (c1 + c2 + c3 + c4) := by omega
    have f3 : A2 + A3 + A4 + A5 = 256 * (A3 + A4 + A5 + A6) + (c2 + c3 + c4 + c5) := by omega
    have f4 : A3 + A4 + A5 + A6 = 256 * (A4 + A5 + A6 + A7) + (c3 + c4 + c5 + c6) := by omega
    clear hs e1 e2 e3 e4 e5 e6 e7 b1 b2 b3 b4 b5 b6 b7 d1 d2
    omega
  rw [d4]
  refine ⟨by omega, by omega, by omega, ?_⟩
  have g1 : s + A1 + (A2 + A3) + (A4 + A5 + A6 + A7) = 256 * (A1 + A2 + A3 + A4 + A5 + A6 + A7) + (c0 + c1 + c2 + c3 + c4 + c5 + c6 + c7) := by omega
  rw [g1]
  clear hs e1 e2 e3 e4 e5 e6 e7 b1 b2 b3 b4 b5 b6 b7 d1 d2 d4 g1
  omega
theorem bs_lt {g : Nat → Nat} (hg : ∀ b, b < 256 → g b < 256) : ∀ c n, bsum g c n < 256 ^ c
  | 0, _ => by simp [bsum]
  | c + 1, n => by
    have := bs_lt hg c (n / 256)
    have h := hg (n % 256) (by omega)
    rw [Nat.pow_succ]
    simp only [bsum]
    omega
def bc1 (a : BitVec 64) : BitVec 64 := a - ((lUsh a 1) &&& (BitVec.ofInt 64 6148914691236517205))
def bc2 (a : BitVec 64) : BitVec 64 := (a &&& (BitVec.ofInt 64 3689348814741910323)) + ((lUsh a 2) &&& (BitVec.ofInt 64 3689348814741910323))
def bc3 (a : BitVec 64) : BitVec 64 := (a + (lUsh a 4)) &&& (BitVec.ofInt 64 1085102592571150095)
def bc4 (a : BitVec 64) : BitVec 64 := a + (lUsh a 8)
def bc5 (a : BitVec 64) : BitVec 64 := a + (lUsh a 16)
def bc6 (a : BitVec 64) : BitVec 64 := a + (lUsh a 32)
theorem ush_nat (a : BitVec 64) (s : Int) (k : Nat) (hs : s = k) (hk : k < 64) : (lUsh a s).toNat = a.toNat / 2 ^ k := by
  rw [lUsh_eq a hs hk, BitVec.toNat_ushiftRight, Nat.shiftRight_eq_div_pow]
theorem add_nat {a c : BitVec 64} (h : a.toNat + c.toNat < 18446744073709551616) : (a + c).toNat = a.toNat + c.toNat := by
  rw [BitVec.toNat_add, Nat.mod_eq_of_lt h]
def pcL (a : BitVec 64) : Int := fb_ct (fun i => a.getLsbD i) 64
theorem bitN (a : BitVec 64) : iAnd (l2i (bc6 (bc5 (bc4 (bc3 (bc2 (bc1 a))))))) 127 = pcL a := by
  have hn : a.toNat < 256 ^ 8 := a.isLt
  obtain ⟨q1, q2, q3⟩ := pop3 hn
  have h1 : (bc1 a).toNat = a.toNat - ((a.toNat / 2) &&& rep 85 8) := by
    have e : ((lUsh a 1) &&& (BitVec.ofInt 64 6148914691236517205)).toNat = (a.toNat / 2) &&& rep 85 8 := by
      rw [BitVec.toNat_and, ush_nat a 1 1 rfl (by decide)]
      rfl
    unfold bc1
    rw [BitVec.toNat_sub_of_le (by rw [BitVec.le_def, e]; exact q1), e]
  have h2 : (bc2 (bc1 a)).toNat = bsum pg2 8 a.toNat := by
    have e1 : ((bc1 a) &&& (BitVec.ofInt 64 3689348814741910323)).toNat = (a.toNat - ((a.toNat / 2) &&& rep 85 8)) &&& rep 51 8 := by
      rw [BitVec.toNat_and, h1]
      rfl
    have e2 : ((lUsh (bc1 a) 2) &&& (BitVec.ofInt 64 3689348814741910323)).toNat = ((a.toNat - ((a.toNat / 2) &&& rep 85 8)) / 4) &&& rep 51 8 := by
      rw [BitVec.toNat_and, ush_nat _ 2 2 rfl (by decide), h1]
      rfl
    have hb := bs_lt (g := pg2) (fun b hb => by have := pg_2 b hb; omega) 8 a.toNat
    unfold bc2
    rw [add_nat (by rw [e1, e2, q3]; exact hb), e1, e2, q3]
  have h3 : (bc3 (bc2 (bc1 a))).toNat = bsum pg3 8 a.toNat := by
    have hb := bs_lt (g := fun b => pg2 b + pg2 b) (fun b hb => by have := pg_2 b hb; show pg2 b + pg2 b < 256; omega) 8 a.toNat
    rw [← bs_add] at hb
    have e2 : (lUsh (bc2 (bc1 a)) 4).toNat = bsum pg2 8 a.toNat / 16 := by
      rw [ush_nat _ 4 4 rfl (by decide), h2]
    unfold bc3
    rw [BitVec.toNat_and, add_nat (by rw [e2, h2]; have : (256 : Nat) ^ 8 = 18446744073709551616 := rfl; omega), e2, h2]
    rw [q3] at q2
    exact q2
  have hc : ∀ b, pg3 (b % 256) ≤ 8 := fun b => (pg_3 _ (by omega)).2
  have p4 := pop4 (s := bsum pg3 8 a.toNat) (hc a.toNat) (hc (a.toNat / 256)) (hc (a.toNat / 256 / 256)) (hc (a.toNat / 256 / 256 / 256)) (hc (a.toNat / 256 / 256 / 256 / 256)) (hc (a.toNat / 256 / 256 / 256 / 256 / 256)) (hc (a.toNat / 256 / 256 / 256 / 256 / 256 / 256)) (hc (a.toNat / 256 / 256 / 256 / 256 / 256 / 256 / 256)) rfl rfl rfl rfl rfl rfl rfl (show bsum pg3 8 a.toNat = _ by simp only [bsum, Nat.mul_zero, Nat.zero_add])
  have h4 : (bc4 (bc3 (bc2 (bc1 a)))).toNat = bsum pg3 8 a.toNat + bsum pg3 8 a.toNat / 256 := by
    have e2 : (lUsh (bc3 (bc2 (bc1 a))) 8).toNat = bsum pg3 8 a.toNat / 256 := by
      rw [ush_nat _ 8 8 rfl (by decide), h3]
    unfold bc4
    rw [add_nat (by rw [e2, h3]; exact p4.1), e2, h3]
  have h5 : (bc5 (bc4 (bc3 (bc2 (bc1 a))))).toNat = (bsum pg3 8 a.toNat + bsum pg3 8 a.toNat / 256) + (bsum pg3 8 a.toNat + bsum pg3 8 a.toNat / 256) / 65536 := by
    have e2 : (lUsh (bc4 (bc3 (bc2 (bc1 a)))) 16).toNat = (bsum pg3 8 a.toNat + bsum pg3 8 a.toNat / 256) / 65536 := by
      rw [ush_nat _ 16 16 rfl (by decide), h4]
    unfold bc5
    rw [add_nat (by rw [e2, h4]; exact p4.2.1), e2, h4]
  have h6 : (bc6 (bc5 (bc4 (bc3 (bc2 (bc1 a)))))).toNat % 128 = bs1 pg3 8 a.toNat := by
    have e2 : (lUsh (bc5 (bc4 (bc3 (bc2 (bc1 a))))) 32).toNat = ((bsum pg3 8 a.toNat + bsum pg3 8 a.toNat / 256) + (bsum pg3 8 a.toNat + bsum pg3 8 a.toNat / 256) / 65536) / 4294967296 := by
      rw [ush_nat _ 32 32 rfl (by decide), h5]
    unfold bc6
    rw [add_nat (by rw [e2, h5]; exact p4.2.2.1), e2, h5, p4.2.2.2]
    simp only [bs1]
    omega
  generalize hy : bc6 (bc5 (bc4 (bc3 (bc2 (bc1 a))))) = yy at h6 ⊢
  unfold iAnd l2i pcL
  rw [Int32.ofInt_toInt]
  have e9 := pk_and (Int64.ofBitVec yy).toInt32 (m := Int32.ofInt 127) 7 (by decide)
  rw [e9, Int64.toBitVec_toInt32, BitVec.signExtend_eq_setWidth_of_le _ (by decide), BitVec.toNat_setWidth, Int64.toBitVec_ofBitVec]
  rw [show yy.toNat % 2 ^ 32 % 2 ^ 7 = yy.toNat % 128 by omega, h6, ← ct_bs]
  have hle := fb_ct_le (fun i => a.toNat.testBit i) (8 * 8)
  rw [show nI (fb_ct (fun i => a.toNat.testBit i) (8 * 8)) = Int32.ofNat _ from rfl, Int32.toInt_ofNat_of_lt (by omega)]
  rfl
section BITS
variable {G : Ctx} {h n : Nat} {I : MI} {J : MJ} {b : B3} {x y z : Int} {a : BitVec 64}
theorem s17 {K : Int → MI → MJ → B3 → Prop} (hh : 1 ≤ h) (k : K (pcL a) I J b) : TriM G h 17 119 119 [vl a] (I, J, PP b) (cIN K) := by
  refine x17_m hh (fun h hh => x17 hh (cIN_r fun _ => ?_))
  show K (iAnd (l2i (bc6 (bc5 (bc4 (bc3 (bc2 (bc1 a))))))) 127) I J b
  rw [bitN]
  exact k
/-! the lowest bit -/
def nt3 (n i : Int) : Int := if i ≤ 4 then w32 (n + iUsh i 1) else w32 (w32 (n + 2) + iUsh (iUsh i 2) 1)
def nt2 (n i : Int) : Int := if i ≤ 16 then nt3 n i else nt3 (w32 (n + 4)) (iUsh i 4)
def nt1 (n i : Int) : Int := if i ≤ 256 then nt2 n i else nt2 (w32 (n + 8)) (iUsh i 8)
def nt0 (i : Int) : Int := if i ≤ 65536 then nt1 1 i else nt1 (w32 (1 + 16)) (iUsh i 16)
def ntz (i : Int) : Int := if 0 < i then nt0 i else iAnd i 32
theorem ntz_v : ∀ k : Nat, k < 32 → ntz ((2 ^ k - 1 : Nat) : Int) = k := by decide +kernel
theorem s20r {Q : MP} (hh : 0 ≤ h) (k : Q (some (vi (ntz (iAnd (iXor x (-1)) (w32 (x - 1)))))) (I, J, PP b)) : Tri G h 20 119 119 0 [some (vi x)] [] (I, J, PP b) Q := by
  refine x20 hh ?_
  generalize iAnd (iXor x (-1)) (w32 (x - 1)) = i at k ⊢
  unfold ntz nt0 nt1 nt2 nt3 at k
  repeat' (first | apply And.intro | intro _)
  all_goals (simp only [*, if_true, if_false] at k; exact k)
theorem low_ex : ∀ (m n : Nat), n ≤ m → 0 < n → ∃ k q, n = 2 ^ k * (2 * q + 1)
  | 0, n, h1, h2 => by omega
  | m + 1, n, h1, h2 => by
    by_cases h : n % 2 = 1
    · exact ⟨0, n / 2, by omega⟩
    · obtain ⟨k, q, e⟩ := low_ex m (n / 2) (by omega) (by omega)
      refine ⟨k + 1, q, ?_⟩
      rw [Nat.pow_succ, show 2 ^ k * 2 * (2 * q + 1) = 2 * (2 ^ k * (2 * q + 1)) by rw [Nat.mul_comm (2 ^ k) 2, Nat.mul_assoc], ← e]
      omega
theorem low_bit {k q n : Nat} (h : n = 2 ^ k * (2 * q + 1)) (j : Nat) : n.testBit j = (decide (k ≤ j) && (decide (j = k) || q.testBit (j - k - 1))) ∧ (n - 1).testBit j = (decide (j < k) || (decide (k < j) && q.testBit (j - k - 1))) := by
  have hp : 0 < 2 ^ k := Nat.pow_pos (by decide)
  have e1 : n - 1 = 2 ^ k * (2 * q) + (2 ^ k - 1) := by
    rw [h, Nat.mul_add, Nat.mul_one]
    omega
  have hq : ∀ i, 0 < i → (2 * q + 1).testBit i = q.testBit (i - 1) ∧ (2 * q).testBit i = q.testBit (i - 1) := by
    intro i hi
    obtain ⟨i, rfl⟩ : ∃ t, i = t + 1 := ⟨i - 1, by omega⟩
    rw [Nat.testBit_succ, Nat.testBit_succ, show (2 * q + 1) / 2 = q by omega, show 2 * q / 2 = q by omega]
    exact ⟨rfl, rfl⟩
  refine ⟨?_, ?_⟩
  · rw [h, Nat.testBit_two_pow_mul]
    by_cases h1 : k ≤ j
    · rw [decide_eq_true h1]
      by_cases h2 : j = k
      · subst h2
        simp [Nat.testBit_zero]
      · rw [(hq (j - k) (by omega)).1]
        simp [h2]
    · simp [h1]
  · rw [e1, Nat.testBit_two_pow_mul_add _ (by omega)]
    by_cases h1 : j < k
    · rw [if_pos h1, Nat.testBit_two_pow_sub_one]
      simp [h1]
    · rw [if_neg h1]
      by_cases h2 : j = k
      · subst h2
        simp [Nat.testBit_zero]
      · rw [(hq (j - k) (by omega)).2]
        have h3 : k < j := by omega
        simp [h1, h3]
theorem low32 {zz : Int32} {k q : Nat} (h : zz.toBitVec.toNat = 2 ^ k * (2 * q + 1)) (hk : k < 32) : (zz ^^^ (-1)) &&& (zz - 1) = nI (2 ^ k - 1) := by
  have hp : 0 < 2 ^ k := Nat.pow_pos (by decide)
  have h1 : 1 ≤ zz.toBitVec.toNat := by
    rw [h]
    exact Nat.mul_pos hp (by omega)
  apply Int32.toBitVec_inj.1
  rw [Int32.toBitVec_and, Int32.toBitVec_xor, Int32.toBitVec_sub]
  show (zz.toBitVec ^^^ BitVec.allOnes 32) &&& (zz.toBitVec - 1#32) = BitVec.ofNat 32 (2 ^ k - 1)
  apply BitVec.eq_of_getLsbD_eq
  intro j hj
  have e2 : (zz.toBitVec - 1#32).toNat = zz.toBitVec.toNat - 1 := BitVec.toNat_sub_of_le (by rw [BitVec.le_def]; exact h1)
  have e3 := low_bit h j
  rw [BitVec.getLsbD_and, BitVec.xor_allOnes, BitVec.getLsbD_not, ← BitVec.testBit_toNat, ← BitVec.testBit_toNat, e2, e3.1, e3.2, BitVec.getLsbD_ofNat, Nat.testBit_two_pow_sub_one, decide_eq_true hj]
  by_cases c1 : j < k
  · have c2 : ¬ k ≤ j := by omega
    simp [c1, c2]
  · by_cases c2 : j = k
    · subst c2
      simp
    · have c3 : k < j := by omega
      have c4 : k ≤ j := by omega
      simp [c1, c2, c3, c4]
theorem s20 {K : Int → MI → MJ → B3 → Prop} {k q : Nat} (hh : 1 ≤ h) (hx : (Int32.ofInt x).toBitVec.toNat = 2 ^ k * (2 * q + 1)) (hk : k < 32) (kk : K k I J b) : TriM G h 20 119 119 [vi x] (I, J, PP b) (cIN K) := by
  refine x20_m hh (fun h hh => s20r hh (cIN_r fun _ => ?_))
  have e : iAnd (iXor x (-1)) (w32 (x - 1)) = ((2 ^ k - 1 : Nat) : Int) := by
    have hp : 2 ^ k ≤ 2 ^ 31 := Nat.pow_le_pow_right (by decide) (by omega)
    unfold iAnd iXor
    rw [Int32.ofInt_toInt, ofI_w32, Int32.ofInt_sub]
    rw [show Int32.ofInt (-1) = -1 from rfl, show Int32.ofInt 1 = 1 from rfl, low32 hx hk, show nI (2 ^ k - 1) = Int32.ofNat _ from rfl, Int32.toInt_ofNat_of_lt (by omega)]
  rw [e, ntz_v k hk]
  exact kk
/-- the lowest bit of a long -/
def lowB (a : BitVec 64) (k : Nat) : Prop := k < 64 ∧ a.getLsbD k = true ∧ ∀ j, j < k → a.getLsbD j = false
theorem lowB_of {k q : Nat} (h : a.toNat = 2 ^ k * (2 * q + 1)) : lowB a k := by
  have hk : k < 64 := by
    apply Classical.byContradiction
    intro hk
    have h1 : 2 ^ 64 ≤ 2 ^ k := Nat.pow_le_pow_right (by decide) (by omega)
    have h2 : 2 ^ k * 1 ≤ 2 ^ k * (2 * q + 1) := Nat.mul_le_mul_left _ (by omega)
    have h3 := a.isLt
    omega
  refine ⟨hk, ?_, fun j hj => ?_⟩
  · rw [← BitVec.testBit_toNat, (low_bit h k).1]
    simp
  · rw [← BitVec.testBit_toNat, (low_bit h j).1]
    have : ¬ k ≤ j := by omega
    simp [this]
theorem low_cl {k : Nat} (h : lowB a k) (j : Nat) : (a &&& (a - 1#64)).getLsbD j = (a.getLsbD j && decide (j ≠ k)) := by
  have hpos : 1 ≤ a.toNat := by
    apply Classical.byContradiction
    intro hc
    have e : a = 0#64 := BitVec.eq_of_toNat_eq (by rw [BitVec.toNat_ofNat]; omega)
    have := h.2.1
    rw [e] at this
    simp at this
  obtain ⟨k2, q, e⟩ := low_ex a.toNat a.toNat (Nat.le_refl _) hpos
  have hl := lowB_of e
  have hkk : k2 = k := by
    rcases Nat.lt_trichotomy k2 k with q1 | q1 | q1
    · have := h.2.2 k2 q1
      rw [hl.2.1] at this
      exact absurd this (by decide)
    · exact q1
    · have := hl.2.2 k q1
      rw [h.2.1] at this
      exact absurd this (by decide)
  subst hkk
  have e2 : (a - 1#64).toNat = a.toNat - 1 := BitVec.toNat_sub_of_le (by rw [BitVec.le_def]; exact hpos)
  have e3 := low_bit e j
  rw [BitVec.getLsbD_and, ← BitVec.testBit_toNat, ← BitVec.testBit_toNat, e2, e3.1, e3.2]
  by_cases c1 : j < k2
  · have c2 : ¬ k2 ≤ j := by omega
    simp [c2]
  · by_cases c2 : j = k2
    · subst c2
      simp
    · have c3 : k2 < j := by omega
      have c4 : k2 ≤ j := by omega
      simp [c1, c2, c3, c4]
theorem low_neg {k : Nat} (h : lowB a k) (j : Nat) : (a &&& (-a)).getLsbD j = decide (j = k) := by
  have hpos : 1 ≤ a.toNat := by
    apply Classical.byContradiction
    intro hc
    have e : a = 0#64 := BitVec.eq_of_toNat_eq (by rw [BitVec.toNat_ofNat]; omega)
    have := h.2.1
    rw [e] at this
    simp at this
  have e0 : -a = ~~~ (a - 1#64) := by
    apply BitVec.eq_of_toNat_eq
    have e2 : (a - 1#64).toNat = a.toNat - 1 := BitVec.toNat_sub_of_le (by rw [BitVec.le_def]; exact hpos)
    rw [BitVec.toNat_neg, BitVec.toNat_not, e2]
    have := a.isLt
    omega
  have e1 := low_cl h j
  rw [BitVec.getLsbD_and] at e1
  by_cases hj : j < 64
  · rw [e0, BitVec.getLsbD_and, BitVec.getLsbD_not, decide_eq_true hj, Bool.true_and]
    cases ha : a.getLsbD j with
    | true =>
      rw [ha] at e1
      simp only [Bool.true_and] at e1 ⊢
      rw [e1]
      by_cases c : j = k <;> simp [c]
    | false =>
      by_cases c : j = k
      · rw [c, h.2.1] at ha
        exact absurd ha (by decide)
      · simp [c]
  · rw [BitVec.getLsbD_of_ge _ _ (by omega)]
    have : j ≠ k := by have := h.1; omega
    simp [this]
theorem low_any (h : a ≠ 0#64) : ∃ k q, a.toNat = 2 ^ k * (2 * q + 1) := by
  refine low_ex a.toNat a.toNat (Nat.le_refl _) ?_
  apply Classical.byContradiction
  intro hc
  exact h (BitVec.eq_of_toNat_eq (by rw [BitVec.toNat_ofNat]; omega))
theorem l2i_nat (a : BitVec 64) : (Int32.ofInt (l2i a)).toBitVec.toNat = a.toNat % 2 ^ 32 := by
  unfold l2i
  rw [Int32.ofInt_toInt, Int64.toBitVec_toInt32, BitVec.signExtend_eq_setWidth_of_le _ (by decide), BitVec.toNat_setWidth, Int64.toBitVec_ofBitVec]
theorem s19 {K : Int → MI → MJ → B3 → Prop} (hh : 2 ≤ h) (ha : a ≠ 0#64) (kk : ∀ k, lowB a k → K k I J b) : TriM G h 19 119 119 [vl a] (I, J, PP b) (cIN K) := by
  obtain ⟨k, q, e⟩ := low_any ha
  have hl := lowB_of e
  have h64 := hl.1
  have kk := kk k hl
  have hin : ∀ z : Int32, z.toBitVec.toNat = 0 → z.toInt = 0 := by
    intro z hz
    have : z = 0 := Int32.toBitVec_inj.1 (BitVec.eq_of_toNat_eq hz)
    rw [this]; rfl
  refine x19_m hh (fun h hh => x19 hh ⟨fun q1 => ?_, fun q1 => ?_⟩)
  · have hk : k < 32 := by
      apply Classical.byContradiction
      intro hk
      apply q1
      have e1 := l2i_nat a
      rw [e, show k = 32 + (k - 32) by omega, Nat.pow_add, Nat.mul_assoc, Nat.mul_mod_right] at e1
      have e2 := hin _ e1
      rw [toI (by unfold l2i; exact inR_to _)] at e2
      exact e2
    refine s20 (by omega) (k := k) (q := q % 2 ^ (31 - k)) ?_ hk (cIN_r fun _ => kk)
    rw [l2i_nat, e]
    have hp : (2 : Nat) ^ 32 = 2 ^ k * (2 * 2 ^ (31 - k)) := by
      rw [← Nat.pow_succ', ← Nat.pow_add]
      congr 1
      omega
    rw [hp, Nat.mul_mod_mul_left]
    congr 1
    have := Nat.mod_lt q (Nat.pow_pos (n := 31 - k) (show 0 < 2 by decide))
    have h2 := Nat.div_add_mod q (2 ^ (31 - k))
    have h3 : (2 * q + 1) = (2 * (q % 2 ^ (31 - k)) + 1) + (2 * 2 ^ (31 - k)) * (q / 2 ^ (31 - k)) := by
      rw [Nat.mul_assoc]
      omega
    rw [h3, Nat.add_mul_mod_self_left, Nat.mod_eq_of_lt (by omega)]
  · have hk : 32 ≤ k := by
      apply Classical.byContradiction
      intro hk
      apply q1
      intro hc
      have e1 := l2i_nat a
      rw [hc, show Int32.ofInt 0 = 0 from rfl] at e1
      have e2 : a.toNat % 2 ^ 32 = 0 := e1.symm
      have hb := hl.2.1
      rw [← BitVec.testBit_toNat] at hb
      have e3 := Nat.testBit_mod_two_pow a.toNat 32 k
      rw [e2, hb, decide_eq_true (by omega)] at e3
      simp at e3
    refine s20 (by omega) (k := k - 32) (q := q) ?_ (by omega) (cIN_r fun _ => ?_)
    · rw [l2i_nat, ush_nat _ 32 32 rfl (by decide), e]
      have hp : 2 ^ k = 2 ^ 32 * 2 ^ (k - 32) := by
        rw [← Nat.pow_add]
        congr 1
        omega
      rw [hp, Nat.mul_assoc, Nat.mul_div_cancel_left _ (by decide), Nat.mod_eq_of_lt]
      have := a.isLt
      rw [e, hp, Nat.mul_assoc] at this
      omega
    · rw [w32_id (by omega) (by omega), show (32 : Int) + ((k - 32 : Nat) : Int) = k by omega]
      exact kk
theorem xor10 : ∀ k : Nat, k < 120 → 0 ≤ iXor (k : Int) 10 := by decide +kernel
theorem s18 {K : Int → MI → MJ → B3 → Prop} (hh : 1 ≤ h) (hx : 0 ≤ x ∧ x < 120) (kk : K (x % 10) I J b) : TriM G h 18 119 119 [vi x, vi 10] (I, J, PP b) (cIN K) := by
  have e : iRem x 10 = x % 10 := iRem_pos hx.1 (by omega) (by omega) (by omega)
  refine x18_m hh (fun h hh => x18 hh ⟨by omega, fun q => ?_, fun q => ?_⟩)
  · rw [e]; exact cIN_r fun _ => kk
  · exfalso
    apply q
    have := xor10 x.toNat (by omega)
    rw [show ((x.toNat : Nat) : Int) = x by omega] at this
    exact this
end BITS
