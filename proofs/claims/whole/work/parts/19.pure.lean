/-! PURE WORDS for what both sides compute -/
def up1 {α : Type} (f : Nat → α) (k : Nat) (x : α) : Nat → α := fun j => if j = k then x else f j
/-! steps of a line over a stack -/
def binS (s y x : Int) : Int :=
  if s = 13 then w32 (y + x) else if s = 14 then w32 (y - x) else if s = 15 then w32 (y * x) else if s = 17 then (if y < x then 1 else 0) else if s = 18 then (if y = x then 1 else 0) else if s = 19 then (if x < y then 1 else 0) else if s = 21 then iAnd y x else iOr y x
def stpS (vals : Int → Int) (q : Stp1) (s : List Int) : List Int :=
  if q.1 = 0 then q.2 :: s else if q.1 < 13 then vals q.1 :: s else match s with
    | [] => []
    | x :: r => if q.1 = 16 then iDiv x q.2 :: r else if q.1 = 20 then w32 (1 - x) :: r else match r with
      | [] => []
      | y :: r2 => binS q.1 y x :: r2
def runS (vals : Int → Int) : List Stp1 → List Int → List Int
  | [], s => s
  | q :: r, s => runS vals r (stpS vals q s)
def soL (vals : Int → Int) (q : Lin) : Bool := decide (runS vals q.2 [] = [1])
def firstL (vals : Int → Int) (p : List Lin) : Option Lin := p.find? (soL vals)
/-! names: the fewest changes -/
def levN (prev : Nat → Int) (i : Nat) (c : Int) (y : Nat → Int) : Nat → Int
  | 0 => (i : Int) + 1
  | j + 1 => min (prev j + (if c = y j then 0 else 1)) (1 + min (prev (j + 1)) (levN prev i c y j))
def levR (x y : Nat → Int) : Nat → Nat → Int
  | 0 => fun j => (j : Int)
  | i + 1 => levN (levR x y i) i (x i) y
/-! the class's world now, read -/
def nHs (I : MI) : Int := I 2 0
def fact (I : MI) (e f : Int) : Int := I 8 (e * 6 + f).toNat
def nam (I : MI) (e : Int) (k : Nat) : Int := I 12 (e * 8 + k).toNat
def atT (I : MI) : Int := if I 7 2 = -1 then I 7 1 else I 7 2
def knw (I : MI) (e : Int) : Prop := I 9 e.toNat ≤ atT I ∧ (I 10 e.toNat = -1 ∨ atT I < I 10 e.toNat)
def knB (I : MI) (e : Nat) : Bool := decide (I 9 e ≤ atT I) && (decide (I 10 e = -1) || decide (atT I < I 10 e))
def wayF (I : MI) (x y : Int) : Int := if I 3 x.toNat = I 3 y.toNat then dist (I 4 x.toNat) (I 4 y.toNat) else I 4 x.toNat + I 4 y.toNat + I 6 (I 3 x.toNat * 12 + I 3 y.toNat).toNat
def minF (I : MI) (x y : Int) : Int := wayF I x y * I 2 1 / 100 + I 2 2
def likeV (I : MI) (a b : Int) (s : Int) : Int :=
  if s = 1 then levR (nam I a) (nam I b) (I 11 a.toNat).toNat (I 11 b.toNat).toNat else if s = 2 then (if nam I a 0 = nam I b 0 then 1 else 0) else if s = 3 then dist (fact I a 5) (fact I b 5) else if s = 4 then wayF I (fact I a 2) (fact I b 2) else if s = 5 then dist (fact I a 3) (fact I b 3) else if s = 6 then (if fact I a 0 = fact I b 0 ∧ fact I a 1 = fact I b 1 then 1 else 0) else (if fact I a 2 = fact I b 2 then 1 else 0)
def homeV (I : MI) (x d mn : Int) (s : Int) : Int :=
  if s = 8 then iDiv mn 60 else if s = 9 then d else if s = 10 then I 3 x.toNat else if s = 11 then I 4 x.toNat else I 5 x.toNat
/-- two entries are alike by a text's lines -/
def alikB (p : List Lin) (I : MI) (a b : Int) : Bool := (firstL (likeV I a b) p).isSome
def homeB (p : List Lin) (I : MI) (x d mn : Int) : Bool := match firstL (homeV I x d mn) p with
  | some q => decide (q.1 = 1)
  | none => true
/-! persons: classes gathered from the least entry on -/
def bIn (al : Nat → Nat → Bool) (kn : Nat → Bool) (p : Int) (q : Nat) : Nat → Nat → (Nat → Int) × List Nat → (Nat → Int) × List Nat
  | 0, _, s => s
  | m + 1, o, s => bIn al kn p q m (o + 1) (if s.1 o = -1 ∧ kn o = true ∧ al q o = true then (up1 s.1 o p, s.2 ++ [o]) else s)
def bQu (al : Nat → Nat → Bool) (kn : Nat → Bool) (told : Nat) (p : Int) : Nat → Nat → (Nat → Int) × List Nat → (Nat → Int) × List Nat
  | 0, _, s => s
  | f + 1, i, s => match s.2[i]? with
    | none => s
    | some q => bQu al kn told p f (i + 1) (bIn al kn p q told 0 s)
def bAll (al : Nat → Nat → Bool) (kn : Nat → Bool) (told : Nat) : Nat → Nat → (Nat → Int) × List Nat → (Nat → Int) × List Nat
  | 0, _, s => s
  | m + 1, e, s => bAll al kn told m (e + 1) (if s.1 e = -1 ∧ kn e = true then ((bQu al kn told s.2.length (told + 1) 0 (up1 s.1 e s.2.length, [e])).1, s.2 ++ [e]) else s)
def persF (al : Nat → Nat → Bool) (kn : Nat → Bool) (told : Nat) : (Nat → Int) × List Nat := bAll al kn told told 0 (fun _ => -1, [])
def alN (p : List Lin) (I : MI) (a b : Nat) : Bool := alikB p I a b
/-- the persons of the world now: each entry's person, each person's least entry -/
def prs (p0 : List Lin) (I : MI) : (Nat → Int) × List Nat := persF (alN p0 I) (knB I) (I 7 0).toNat
/-- how many entries of a kind below n -/
def cntE (f : Nat → Bool) : Nat → Int
  | 0 => 0
  | n + 1 => cntE f n + (if f n = true then 1 else 0)
/-- what a person is: 0 open, 1 secret, 2 both -/
def srt (I : MI) (cls : Nat → Int) (told : Nat) (p : Int) : Int :=
  (if 0 < cntE (fun e => decide (cls e = p) && decide (fact I e 0 = 0)) told then 1 else 0) + (if 0 < cntE (fun e => decide (cls e = p) && decide (fact I e 0 = 1)) told then 2 else 0) - 1
/-- does a person have an entry in a house -/
def inHs (I : MI) (cls : Nat → Int) (told : Nat) (p : Int) (x : Nat) : Bool := decide (0 < cntE (fun e => decide (cls e = p) && decide (fact I e 2 = x)) told)
/-! couples -/
def feas (E : Nat → Nat → Bool) (A : List Nat) : Prop := ∃ f : Nat → Nat, (∀ p ∈ A, E p (f p) = true) ∧ ∀ p ∈ A, ∀ q ∈ A, f p = f q → p = q
noncomputable def grd (E : Nat → Nat → Bool) : List Nat → List Nat → List Nat
  | [], A => A
  | p :: r, A => @ite _ (feas E (p :: A)) (Classical.propDecidable _) (grd E r (p :: A)) (grd E r A)
/-- may an open person and a secret one be one -/
def mayE (p1 : List Lin) (I : MI) (cls : Nat → Int) (told : Nat) (p q : Nat) : Bool := decide (∃ a, a < told ∧ cls a = p ∧ ∃ b, b < told ∧ cls b = q ∧ srt I cls told p = 0 ∧ srt I cls told q = 1 ∧ alN p1 I a b = true)
noncomputable def coup (p0 p1 : List Lin) (I : MI) : Int := (grd (mayE p1 I (prs p0 I).1 (I 7 0).toNat) ((List.range (prs p0 I).2.length).filter (fun p => decide (srt I (prs p0 I).1 (I 7 0).toNat p = 0))) []).length
/-! what the class remembers -/
def bitJ (J : MJ) (k : Nat) (i : Nat) : Bool := (J k (i / 64)).getLsbD (i % 64)
def pairI (k a b : Nat) : Nat := k * 7140 + a * (a - 1) / 2 + b
def likI (p0 p1 : List Lin) (I : MI) (J : MJ) : Prop := ∀ k a b : Nat, k < 2 → b < a → a < 120 → (bitJ J 70 (pairI k a b) = true → (a : Int) < I 7 0 ∧ bitJ J 71 (pairI k a b) = (if k = 0 then alN p0 I a b else alN p1 I a b)) ∧ (bitJ J 70 (pairI k a b) = false → bitJ J 71 (pairI k a b) = false)
def perI (p0 p1 : List Lin) (I : MI) (J : MJ) : Prop := (I 72 3 = 0 ∨ I 72 3 = 1) ∧ (I 72 3 = 0 →
  I 72 0 = (prs p0 I).2.length ∧ (∀ e : Nat, e < 120 → I 73 e = if (e : Int) < I 7 0 then (prs p0 I).1 e else -1) ∧
  (∀ p x : Nat, (prs p0 I).2[p]? = some x → I 75 p = x ∧ I 74 p = cntE (fun e => decide ((prs p0 I).1 e = p)) (I 7 0).toNat ∧ I 76 p = srt I (prs p0 I).1 (I 7 0).toNat p + 1 ∧ ∀ s : Nat, s < 64 → (J 77 p).getLsbD s = inHs I (prs p0 I).1 (I 7 0).toNat p s) ∧
  (I 72 10 = -1 ∨ I 72 10 = coup p0 p1 I))
/-! the tape, the faults, the table of choices -/
def rTape (I : MI) : Prop := (0 ≤ I 0 4 ∧ I 0 4 ≤ 400 ∧ I 91 11 = I 0 4) ∧ ∀ i : Int, 0 ≤ i → i < I 0 4 → 0 ≤ I 96 i.toNat ∧ I 96 i.toNat < 256 ∧ I 61 i.toNat = if I 96 i.toNat < 128 then I 96 i.toNat else I 96 i.toNat - 256
def binom : Nat → Nat → Nat
  | _, 0 => 1
  | 0, _ + 1 => 0
  | n + 1, k + 1 => binom n k + binom n (k + 1)
def choI (J : MJ) : Prop := J 109 0 = 1#64 → ∀ n k : Nat, n < 61 → k ≤ n → J 109 (61 * n + k) = BitVec.ofNat 64 (binom n k)
/-- ALL that holds between the calls; c: how many calls there were -/
def INV (c : Nat) (I : MI) (J : MJ) : Prop := ∃ p0 p1 p2, (rTown 0 92 I ∧ rBook 0 92 I ∧ rRound 0 92 I ∧ rLast 0 92 I ∧ I 92 0 = I 1 0) ∧ (rTxt 13 92 0 I false p0 ∧ rTxt 16 92 1 I false p1 ∧ rTxt 19 92 2 I true p2) ∧ likI p0 p1 I J ∧ perI p0 p1 I J ∧ rTape I ∧ (I 91 18 = I 0 5 ∧ I 91 20 = I 0 6) ∧ ((I 0 2 = 0 ∨ I 0 2 = 1) ∧ I 91 2 = I 0 2 ∧ (I 0 2 = 1 → RW 30 93 I)) ∧ choI J ∧ (I 7 1 ≤ c ∧ (I 0 2 = 1 → I 37 1 ≤ c) ∧ c ≤ 64)
