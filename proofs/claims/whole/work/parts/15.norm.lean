/-! after construction: which cell a field of references holds; three pairs of rows change places -/
abbrev B3 : Type := Bool × Bool × Bool
def ppT : List (List Nat) := [[1, 31, 1000, 61, 1000, 1000, 1000, 62, 67, 72, 82, 85, 90], [1000, 2, 7, 13, 16, 19, 22, 25, 30], [1000, 1000, 1000, 3, 4, 5, 6], [], [], [], [], [1000, 1000, 1000, 8, 9, 10, 11, 12], [], [], [], [], [], [1000, 14, 1000, 15], [], [], [1000, 17, 1000, 18], [], [], [1000, 20, 1000, 21], [], [], [1000, 23, 24], [], [], [1000, 1000, 26, 27, 28, 29], [], [], [], [], [], [1000, 32, 37, 43, 46, 49, 52, 55, 60], [1000, 1000, 1000, 33, 34, 35, 36], [], [], [], [], [1000, 1000, 1000, 38, 39, 40, 41, 42], [], [], [], [], [], [1000, 44, 1000, 45], [], [], [1000, 47, 1000, 48], [], [], [1000, 50, 1000, 51], [], [], [1000, 53, 54], [], [], [1000, 1000, 56, 57, 58, 59], [], [], [], [], [], [], [1000, 1000, 1000, 1000, 63, 64, 65, 66, 1000, 1000], [], [], [], [], [1, 68, 69, 70, 71], [], [], [], [], [1000, 1, 67, 1000, 73, 74, 75, 76, 77, 78, 1000, 79, 80, 81], [], [], [], [], [], [], [], [], [], [1, 83, 84], [], [], [900, 901, 88, 89, 1000], [], [], [], [], [], [92, 93, 1000, 94, 95, 96, 97, 98, 1000, 1000, 1000, 1000, 1000, 1000, 1000, 1000, 1000, 1000, 1000, 1000, 1000, 99, 100, 101, 102, 103, 1000, 104, 105, 106, 107, 108, 109, 110, 111, 1000, 902, 903, 114, 115, 904, 905, 118], [], [], [], [], [], [], [], [], [], [], [], [], [], [], [], [], [], [], [], [], [], [], [], [], [], [], []]
def pswap (b : B3) (v : Nat) : Nat := match Nat.blt v 900 with
  | true => v
  | false => match v with
    | 900 => (match b.1 with
      | true => 86
      | false => 87)
    | 901 => (match b.1 with
      | true => 87
      | false => 86)
    | 902 => (match b.2.1 with
      | true => 112
      | false => 113)
    | 903 => (match b.2.1 with
      | true => 113
      | false => 112)
    | 904 => (match b.2.2 with
      | true => 116
      | false => 117)
    | 905 => (match b.2.2 with
      | true => 117
      | false => 116)
    | v => v
def PP (b : B3) (k j : Nat) : Nat := pswap b ((ppT.getD k []).getD j 1000)
def cIN (K : Int → (Nat → Nat → Int) → (Nat → Nat → BitVec 64) → B3 → Prop) : MP := fun r σ => ∃ x I J b, r = some (vi x) ∧ σ = (I, J, PP b) ∧ (inR x → K x I J b)
def cJN (K : BitVec 64 → (Nat → Nat → Int) → (Nat → Nat → BitVec 64) → B3 → Prop) : MP := fun r σ => ∃ x I J b, r = some (vl x) ∧ σ = (I, J, PP b) ∧ K x I J b
def cVN (K : (Nat → Nat → Int) → (Nat → Nat → BitVec 64) → B3 → Prop) : MP := fun r σ => ∃ I J b, r = none ∧ σ = (I, J, PP b) ∧ K I J b
section NORM
variable {G : Ctx} {h mi n nf : Nat} {av : List MV} {σ : MS}
theorem cIN_go {K : Int → (Nat → Nat → Int) → (Nat → Nat → BitVec 64) → B3 → Prop} {K' : Int → MS → Prop} (H : TriM G h mi n nf av σ (cIN K)) (k : ∀ x I J b, K x I J b → K' x (I, J, PP b)) : TriM G h mi n nf av σ (cI' K') := H.mono (fun r σ' q hv => by
  obtain ⟨x, I, J, b, rfl, rfl, q⟩ := q
  exact ⟨x, rfl, fun hx => k x I J b (q hx)⟩)
theorem cJN_go {K : BitVec 64 → (Nat → Nat → Int) → (Nat → Nat → BitVec 64) → B3 → Prop} {K' : BitVec 64 → MS → Prop} (H : TriM G h mi n nf av σ (cJN K)) (k : ∀ x I J b, K x I J b → K' x (I, J, PP b)) : TriM G h mi n nf av σ (cJ' K') := H.mono (fun r σ' q hv => by
  obtain ⟨x, I, J, b, rfl, rfl, q⟩ := q
  exact ⟨x, rfl, k x I J b q⟩)
theorem cVN_go {K : (Nat → Nat → Int) → (Nat → Nat → BitVec 64) → B3 → Prop} {K' : MS → Prop} (H : TriM G h mi n nf av σ (cVN K)) (k : ∀ I J b, K I J b → K' (I, J, PP b)) : TriM G h mi n nf av σ (cV' K') := H.mono (fun r σ' q hv => by
  obtain ⟨I, J, b, rfl, rfl, q⟩ := q
  exact ⟨rfl, k I J b q⟩)
theorem cIN_r {K : Int → (Nat → Nat → Int) → (Nat → Nat → BitVec 64) → B3 → Prop} {x : Int} {I : Nat → Nat → Int} {J : Nat → Nat → BitVec 64} {b : B3} (k : inR x → K x I J b) : cIN K (some (vi x)) (I, J, PP b) := ⟨x, I, J, b, rfl, rfl, k⟩
theorem cJN_r {K : BitVec 64 → (Nat → Nat → Int) → (Nat → Nat → BitVec 64) → B3 → Prop} {x : BitVec 64} {I : Nat → Nat → Int} {J : Nat → Nat → BitVec 64} {b : B3} (k : K x I J b) : cJN K (some (vl x)) (I, J, PP b) := ⟨x, I, J, b, rfl, rfl, k⟩
theorem cVN_r {K : (Nat → Nat → Int) → (Nat → Nat → BitVec 64) → B3 → Prop} {I : Nat → Nat → Int} {J : Nat → Nat → BitVec 64} {b : B3} (k : K I J b) : cVN K none (I, J, PP b) := ⟨I, J, b, rfl, rfl, k⟩
theorem cI_r {K : Int → MS → Prop} {x : Int} {σ : MS} (k : K x σ) : cI' K (some (vi x)) σ := ⟨x, rfl, fun _ => k⟩
theorem cJ_r {K : BitVec 64 → MS → Prop} {x : BitVec 64} {σ : MS} (k : K x σ) : cJ' K (some (vl x)) σ := ⟨x, rfl, k⟩
theorem cV_r {K : MS → Prop} {σ : MS} (k : K σ) : cV' K none σ := ⟨rfl, k⟩
end NORM
