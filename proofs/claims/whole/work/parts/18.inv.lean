/-! WHAT TIES THE TWO SIDES: the class's cells (a world at o + 1 .. o + 29; o = 0 is now, o = 30 the kept one) and the reference's row w (92 now, 93 kept) -/
abbrev MI : Type := Nat → Nat → Int
abbrev MJ : Type := Nat → Nat → BitVec 64
def rTown (o w : Nat) (I : MI) : Prop :=
  (0 ≤ I (o + 2) 0 ∧ I (o + 2) 0 ≤ 60 ∧ I w 3 = I (o + 2) 0) ∧ (0 ≤ I (o + 2) 1 ∧ I (o + 2) 1 < 100 ∧ I w 1 = I (o + 2) 1) ∧ (0 ≤ I (o + 2) 2 ∧ I (o + 2) 2 < 100 ∧ I w 2 = I (o + 2) 2) ∧
  (∀ e : Int, 0 ≤ e → e < I (o + 2) 0 → (I w (220 + 3 * e).toNat = I (o + 3) e.toNat ∧ I w (220 + 3 * e + 1).toNat = I (o + 4) e.toNat ∧ I w (220 + 3 * e + 2).toNat = I (o + 5) e.toNat) ∧ (0 ≤ I (o + 3) e.toNat ∧ I (o + 3) e.toNat < 12) ∧ (0 ≤ I (o + 4) e.toNat ∧ I (o + 4) e.toNat < 1000) ∧ 0 ≤ I (o + 5) e.toNat ∧ I (o + 5) e.toNat < 10) ∧
  (∀ x y : Int, 0 ≤ x → x < 12 → 0 ≤ y → y < 12 → x ≠ y → I w (70 + 12 * x + y).toNat = I (o + 6) (x * 12 + y).toNat ∧ I (o + 6) (y * 12 + x).toNat = I (o + 6) (x * 12 + y).toNat ∧ 0 ≤ I (o + 6) (x * 12 + y).toNat ∧ I (o + 6) (x * 12 + y).toNat < 1000)
/-- an entry of the book: facts in range, when told, when void, its name -/
def rEnt (o w : Nat) (I : MI) (e : Int) : Prop :=
  (I w (450 + 17 * e).toNat = I (o + 8) (e * 6).toNat ∧ I w (450 + 17 * e + 1).toNat = I (o + 8) (e * 6 + 1).toNat ∧ I w (450 + 17 * e + 2).toNat = I (o + 8) (e * 6 + 2).toNat ∧ I w (450 + 17 * e + 3).toNat = I (o + 8) (e * 6 + 3).toNat ∧ I w (450 + 17 * e + 4).toNat = I (o + 8) (e * 6 + 4).toNat ∧ I w (450 + 17 * e + 5).toNat = I (o + 8) (e * 6 + 5).toNat) ∧
  ((0 ≤ I (o + 8) (e * 6).toNat ∧ I (o + 8) (e * 6).toNat < 2) ∧ (0 ≤ I (o + 8) (e * 6 + 1).toNat ∧ I (o + 8) (e * 6 + 1).toNat < 11) ∧ (0 ≤ I (o + 8) (e * 6 + 2).toNat ∧ I (o + 8) (e * 6 + 2).toNat < I (o + 2) 0) ∧ (0 ≤ I (o + 8) (e * 6 + 3).toNat ∧ I (o + 8) (e * 6 + 3).toNat < 100) ∧ (0 ≤ I (o + 8) (e * 6 + 4).toNat ∧ I (o + 8) (e * 6 + 4).toNat < 1440) ∧ (0 ≤ I (o + 8) (e * 6 + 5).toNat ∧ I (o + 8) (e * 6 + 5).toNat < 120)) ∧
  (I w (450 + 17 * e + 6).toNat = I (o + 9) e.toNat ∧ 1 ≤ I (o + 9) e.toNat ∧ I (o + 9) e.toNat ≤ I (o + 7) 1) ∧
  ((I w (450 + 17 * e + 7).toNat = 0 ∧ I (o + 10) e.toNat = -1) ∨ (I w (450 + 17 * e + 7).toNat = I (o + 10) e.toNat ∧ 1 ≤ I (o + 10) e.toNat ∧ I (o + 10) e.toNat ≤ I (o + 7) 1)) ∧
  (I w (450 + 17 * e + 8).toNat = I (o + 11) e.toNat ∧ 1 ≤ I (o + 11) e.toNat ∧ I (o + 11) e.toNat ≤ 8) ∧
  (∀ k : Int, 0 ≤ k → k < I (o + 11) e.toNat → I w (450 + 17 * e + 9 + k).toNat = I (o + 12) (e * 8 + k).toNat ∧ 0 ≤ I (o + 12) (e * 8 + k).toNat ∧ I (o + 12) (e * 8 + k).toNat < 26)
def rBook (o w : Nat) (I : MI) : Prop :=
  (0 ≤ I (o + 7) 0 ∧ I (o + 7) 0 ≤ 120 ∧ I w 4 = I (o + 7) 0) ∧ (0 ≤ I (o + 7) 1 ∧ I (o + 7) 1 ≤ 1000 ∧ I w 5 = I (o + 7) 1) ∧ (-1 ≤ I (o + 7) 2 ∧ I (o + 7) 2 ≤ I (o + 7) 1 ∧ I w 6 = I (o + 7) 2) ∧
  ∀ e : Int, 0 ≤ e → e < I (o + 7) 0 → rEnt o w I e
def rRound (o w : Nat) (I : MI) : Prop :=
  (0 ≤ I (o + 22) 0 ∧ I (o + 22) 0 ≤ 24 ∧ I w 7 = I (o + 22) 0) ∧
  ∀ i : Int, 0 ≤ i → i < I (o + 22) 0 → (I w (400 + 2 * i).toNat = I (o + 23) i.toNat ∧ 0 ≤ I (o + 23) i.toNat ∧ I (o + 23) i.toNat < I (o + 2) 0) ∧ I w (400 + 2 * i + 1).toNat = I (o + 24) i.toNat ∧ 0 ≤ I (o + 24) i.toNat ∧ I (o + 24) i.toNat < 1440
def rLast (o w : Nat) (I : MI) : Prop :=
  (1 ≤ I (o + 25) 0 ∧ I (o + 25) 0 ≤ 4 ∧ I w 8 = I (o + 25) 0) ∧ (1 ≤ I (o + 25) 1 ∧ I (o + 25) 1 ≤ 6 ∧ I w 9 = I (o + 25) 1) ∧
  (∀ i : Int, 0 ≤ i → i < 5 → I w (10 + i).toNat = I (o + 26) i.toNat ∧ -1 ≤ I (o + 26) i.toNat ∧ I (o + 26) i.toNat < 12) ∧
  (∀ i : Int, 0 ≤ i → i < 6 → I w (15 + i).toNat = I (o + 27) i.toNat ∧ 0 ≤ I (o + 27) i.toNat ∧ I (o + 27) i.toNat < 10) ∧
  (∀ i d : Int, 0 ≤ i → i < 5 → 0 ≤ d → d < 4 → I w (21 + 4 * i + d).toNat = I (o + 28) (i * 4 + d).toNat ∧ (I (o + 28) (i * 4 + d).toNat = 0 ∨ I (o + 28) (i * 4 + d).toNat = 1)) ∧
  (∀ i d : Int, 0 ≤ i → i < 6 → 0 ≤ d → d < 4 → I w (41 + 4 * i + d).toNat = I (o + 29) (i * 4 + d).toNat ∧ -1 ≤ I (o + 29) (i * 4 + d).toNat ∧ I (o + 29) (i * 4 + d).toNat < 5)
/-! texts: a line is how it begins and steps (kind, number), as the reference has them; the class's words of a step -/
abbrev Stp1 : Type := Int × Int
abbrev Lin : Type := Int × List Stp1
def enc (q : Stp1) : List Int :=
  if q.1 = 0 then [q.2] else if q.1 < 8 then [10000 + (q.1 - 1)] else if q.1 < 13 then [10000 + (q.1 - 8)] else if q.1 = 13 then [20043] else if q.1 = 14 then [20045] else if q.1 = 15 then [20042] else if q.1 = 16 then [q.2, 20047] else if q.1 = 17 then [20060] else if q.1 = 18 then [20061] else if q.1 = 19 then [20062] else if q.1 = 20 then [20005] else if q.1 = 21 then [20004] else [20003]
def encs (l : List Stp1) : List Int := l.flatMap enc
def encL (q : Lin) : List Int := encs q.2 ++ [30000 + (if q.1 = 2 then 1 else 0)]
def encP (p : List Lin) : List Int := p.flatMap encL
/-- the kinds on the stack: true a condition, false a number; none if it can't be -/
def tyS (q : Stp1) (s : List Bool) : Option (List Bool) :=
  if q.1 < 13 then some (false :: s) else if q.1 = 16 then (match s with
    | false :: r => some (false :: r)
    | _ => none) else if q.1 < 16 then (match s with
    | false :: false :: r => some (false :: r)
    | _ => none) else if q.1 < 20 then (match s with
    | false :: false :: r => some (true :: r)
    | _ => none) else if q.1 = 20 then (match s with
    | true :: r => some (true :: r)
    | _ => none) else (match s with
    | true :: true :: r => some (true :: r)
    | _ => none)
def tyR : List Stp1 → List Bool → Option (List Bool)
  | [], s => some s
  | q :: r, s => match tyS q s with
    | some s' => if s'.length < 31 then tyR r s' else none
    | none => none
/-- a step as a text of this kind (like or home) may have it -/
def okStp (home : Bool) (q : Stp1) : Prop := (q.1 = 0 ∧ 0 ≤ q.2 ∧ q.2 < 10000) ∨ (home = false ∧ 1 ≤ q.1 ∧ q.1 < 8) ∨ (home = true ∧ 8 ≤ q.1 ∧ q.1 < 13) ∨ (13 ≤ q.1 ∧ q.1 < 23 ∧ q.1 ≠ 16) ∨ (q.1 = 16 ∧ 1 ≤ q.2 ∧ q.2 < 10000)
def okLin (home : Bool) (q : Lin) : Prop := (∀ s ∈ q.2, okStp home s) ∧ tyR q.2 [] = some [true] ∧ (if home = true then q.1 = 1 ∨ q.1 = 2 else q.1 = 0)
def hasAt (f : Nat → Int) (off : Nat) (l : List Int) : Prop := ∀ i x, l[i]? = some x → f (off + i) = x
def stepsOf (p : List Lin) : List Stp1 := p.flatMap (fun q => q.2)
def flat2 (l : List Stp1) : List Int := l.flatMap (fun q => [q.1, q.2])
/-- the steps as the reference lays them: the number of a step that has none may be anything -/
def hasSt (f : Nat → Int) (off : Nat) (l : List Stp1) : Prop := ∀ i q, l[i]? = some q → f (off + 2 * i) = q.1 ∧ ((q.1 = 0 ∨ q.1 = 16) → f (off + 2 * i + 1) = q.2)
def rTxt (t w k : Nat) (I : MI) (home : Bool) (p : List Lin) : Prop :=
  (I t 0 = p.length ∧ p.length ≤ 16) ∧ (I t 2 = (encP p).length ∧ (encP p).length ≤ 400) ∧ hasAt (I (t + 1)) 0 (encP p) ∧ I w (2500 + k) = p.length ∧
  (∀ i q, p[i]? = some q → I w (2610 + 16 * k + i) = q.1 ∧ I w (2510 + 16 * k + i) = (stepsOf (p.take i)).length ∧ I w (2560 + 16 * k + i) = (stepsOf (p.take (i + 1))).length) ∧
  hasSt (I w) (2660 + 820 * k) (stepsOf p) ∧ (stepsOf p).length ≤ 400 ∧ ∀ q ∈ p, okLin home q
def rText (o w : Nat) (I : MI) : Prop := ∃ p0 p1 p2, rTxt (o + 13) w 0 I false p0 ∧ rTxt (o + 16) w 1 I false p1 ∧ rTxt (o + 19) w 2 I true p2
def RW (o w : Nat) (I : MI) : Prop := rTown o w I ∧ rBook o w I ∧ rRound o w I ∧ rLast o w I ∧ rText o w I ∧ I w 0 = I (o + 1) 0
/-! how the parts stay when other cells change -/
theorem rTown.fr {o w : Nat} {I I' : MI} (h : rTown o w I) (h2 : I' (o + 2) = I (o + 2)) (h3 : I' (o + 3) = I (o + 3)) (h4 : I' (o + 4) = I (o + 4)) (h5 : I' (o + 5) = I (o + 5)) (h6 : I' (o + 6) = I (o + 6)) (hw : ∀ j, (1 ≤ j ∧ j < 4) ∨ (70 ≤ j ∧ j < 214) ∨ (220 ≤ j ∧ j < 400) → I' w j = I w j) : rTown o w I' := by
  obtain ⟨a1, a2, a3, a4, a5⟩ := h
  unfold rTown
  rw [h2, h3, h4, h5, h6, hw 3 (by omega), hw 1 (by omega), hw 2 (by omega)]
  refine ⟨a1, a2, a3, fun e e1 e2 => ?_, fun x y x1 x2 y1 y2 n => ?_⟩
  · rw [hw _ (by omega), hw _ (by omega), hw _ (by omega)]
    exact a4 e e1 e2
  · rw [hw _ (by omega)]
    exact a5 x y x1 x2 y1 y2 n
theorem rEnt.fr {o w : Nat} {I I' : MI} {e : Int} (h : rEnt o w I e) (e1 : 0 ≤ e) (e2 : e < 120) (h2 : I (o + 2) 0 ≤ I' (o + 2) 0) (h7 : I (o + 7) 1 ≤ I' (o + 7) 1) (h8 : ∀ j, I' (o + 8) (e * 6 + j).toNat = I (o + 8) (e * 6 + j).toNat ∨ ¬ (0 ≤ j ∧ j < 6)) (h9 : I' (o + 9) e.toNat = I (o + 9) e.toNat) (h10 : I' (o + 10) e.toNat = I (o + 10) e.toNat) (h11 : I' (o + 11) e.toNat = I (o + 11) e.toNat) (h12 : ∀ j, I' (o + 12) (e * 8 + j).toNat = I (o + 12) (e * 8 + j).toNat ∨ ¬ (0 ≤ j ∧ j < 8)) (hw : ∀ j, 0 ≤ j ∧ j < 17 → I' w (450 + 17 * e + j).toNat = I w (450 + 17 * e + j).toNat) : rEnt o w I' e := by
  obtain ⟨a1, a2, a3, a4, a5, a6⟩ := h
  have k0 := (h8 0).resolve_right (by omega)
  have k1 := (h8 1).resolve_right (by omega)
  have k2 := (h8 2).resolve_right (by omega)
  have k3 := (h8 3).resolve_right (by omega)
  have k4 := (h8 4).resolve_right (by omega)
  have k5 := (h8 5).resolve_right (by omega)
  have w0 := hw 0 (by omega)
  rw [Int.add_zero] at k0 w0
  unfold rEnt
  rw [k0, k1, k2, k3, k4, k5, w0, hw 1 (by omega), hw 2 (by omega), hw 3 (by omega), hw 4 (by omega), hw 5 (by omega), hw 6 (by omega), hw 7 (by omega), hw 8 (by omega), h9, h10, h11]
  refine ⟨a1, ⟨a2.1, a2.2.1, ⟨a2.2.2.1.1, by omega⟩, a2.2.2.2⟩, ⟨a3.1, a3.2.1, by omega⟩, ?_, a5, fun k q1 q2 => ?_⟩
  · rcases a4 with a4 | a4
    · exact Or.inl a4
    · exact Or.inr ⟨a4.1, a4.2.1, by omega⟩
  · have := (h12 k).resolve_right (by omega)
    have hk := hw (9 + k) (by omega)
    rw [show 450 + 17 * e + (9 + k) = 450 + 17 * e + 9 + k by omega] at hk
    rw [this, hk]
    exact a6 k q1 q2
theorem rBook.fr {o w : Nat} {I I' : MI} (h : rBook o w I) (h2 : I (o + 2) 0 ≤ I' (o + 2) 0) (h7 : I' (o + 7) = I (o + 7)) (h8 : I' (o + 8) = I (o + 8)) (h9 : I' (o + 9) = I (o + 9)) (h10 : I' (o + 10) = I (o + 10)) (h11 : I' (o + 11) = I (o + 11)) (h12 : I' (o + 12) = I (o + 12)) (hw : ∀ j, (4 ≤ j ∧ j < 7) ∨ (450 ≤ j ∧ j < 2490) → I' w j = I w j) : rBook o w I' := by
  obtain ⟨a1, a2, a3, a4⟩ := h
  unfold rBook
  rw [h7, hw 4 (by omega), hw 5 (by omega), hw 6 (by omega)]
  refine ⟨a1, a2, a3, fun e e1 e2 => (a4 e e1 e2).fr e1 (by omega) h2 (by rw [h7]; exact Int.le_refl _) (fun j => Or.inl (by rw [h8])) (by rw [h9]) (by rw [h10]) (by rw [h11]) (fun j => Or.inl (by rw [h12])) (fun j hj => hw _ (by omega))⟩
theorem rRound.fr {o w : Nat} {I I' : MI} (h : rRound o w I) (h2 : I (o + 2) 0 ≤ I' (o + 2) 0) (h22 : I' (o + 22) = I (o + 22)) (h23 : I' (o + 23) = I (o + 23)) (h24 : I' (o + 24) = I (o + 24)) (hw : ∀ j, j = 7 ∨ (400 ≤ j ∧ j < 450) → I' w j = I w j) : rRound o w I' := by
  obtain ⟨a1, a2⟩ := h
  unfold rRound
  rw [h22, h23, h24, hw 7 (by omega)]
  refine ⟨a1, fun i i1 i2 => ?_⟩
  rw [hw _ (by omega), hw _ (by omega)]
  obtain ⟨b1, b2⟩ := a2 i i1 i2
  exact ⟨⟨b1.1, b1.2.1, by omega⟩, b2⟩
theorem rLast.fr {o w : Nat} {I I' : MI} (h : rLast o w I) (h25 : I' (o + 25) = I (o + 25)) (h26 : I' (o + 26) = I (o + 26)) (h27 : I' (o + 27) = I (o + 27)) (h28 : I' (o + 28) = I (o + 28)) (h29 : I' (o + 29) = I (o + 29)) (hw : ∀ j, 8 ≤ j ∧ j < 70 → I' w j = I w j) : rLast o w I' := by
  obtain ⟨a1, a2, a3, a4, a5, a6⟩ := h
  unfold rLast
  rw [h25, h26, h27, h28, h29, hw 8 (by omega), hw 9 (by omega)]
  refine ⟨a1, a2, fun i i1 i2 => ?_, fun i i1 i2 => ?_, fun i d i1 i2 d1 d2 => ?_, fun i d i1 i2 d1 d2 => ?_⟩
  · rw [hw _ (by omega)]; exact a3 i i1 i2
  · rw [hw _ (by omega)]; exact a4 i i1 i2
  · rw [hw _ (by omega)]; exact a5 i d i1 i2 d1 d2
  · rw [hw _ (by omega)]; exact a6 i d i1 i2 d1 d2
theorem rTxt.fr {t w k : Nat} {I I' : MI} {home : Bool} {p : List Lin} (h : rTxt t w k I home p) (ht : I' t = I t) (ht1 : I' (t + 1) = I (t + 1)) (hw : ∀ j, 2500 ≤ j → I' w j = I w j) : rTxt t w k I' home p := by
  obtain ⟨a1, a2, a3, a4, a5, a6, a7, a8⟩ := h
  unfold rTxt
  rw [ht, ht1, hw _ (by omega)]
  refine ⟨a1, a2, a3, a4, fun i q hq => ?_, fun i q hq => ?_, a7, a8⟩
  · rw [hw _ (by omega), hw _ (by omega), hw _ (by omega)]; exact a5 i q hq
  · rw [hw _ (by omega), hw _ (by omega)]; exact a6 i q hq
theorem rText.fr {o w : Nat} {I I' : MI} (h : rText o w I) (h1 : I' (o + 13) = I (o + 13)) (h2 : I' (o + 14) = I (o + 14)) (h3 : I' (o + 16) = I (o + 16)) (h4 : I' (o + 17) = I (o + 17)) (h5 : I' (o + 19) = I (o + 19)) (h6 : I' (o + 20) = I (o + 20)) (hw : ∀ j, 2500 ≤ j → I' w j = I w j) : rText o w I' := by
  obtain ⟨p0, p1, p2, a0, a1, a2⟩ := h
  exact ⟨p0, p1, p2, a0.fr h1 h2 hw, a1.fr h3 h4 hw, a2.fr h5 h6 hw⟩
