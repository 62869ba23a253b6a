/-! THE PARSER, pure: a fault and its place, or steps and what is left -/
abbrev Res : Type := Sum (Int × Nat) (List Stp1 × List Tok)
def badP (k : Int) (ts : List Tok) : Res := Sum.inl (k, (hdT ts).2.1)
def unP (home : Bool) (ts : List Tok) : Res := if (hdT ts).1 = 20 then Sum.inr ([(0, (hdT ts).2.2)], ts.tail) else if 6 ≤ (hdT ts).1 ∧ (hdT ts).1 < 20 then Sum.inr ([(if home = true then (hdT ts).1 + 2 else (hdT ts).1 - 5, 0)], ts.tail) else badP 1 ts
/-- first one, then what comes of its steps and what is left -/
def bnd (x : Res) (k : List Stp1 → List Tok → Res) : Res := match x with
  | Sum.inl e => Sum.inl e
  | Sum.inr q => k q.1 q.2
/-- steps ahead of a result's -/
def pre (s : List Stp1) (x : Res) : Res := bnd x (fun s' r => Sum.inr (s ++ s', r))
def prL (home : Bool) : Nat → List Tok → Res
  | 0, ts => Sum.inr ([], ts)
  | g + 1, ts => if (hdT ts).1 = 42 then bnd (unP home ts.tail) (fun s r => pre (s ++ [(15, 0)]) (prL home g r)) else if (hdT ts).1 = 47 then (if (hdT ts.tail).1 ≠ 20 then badP 1 ts.tail else if (hdT ts.tail).2.2 = 0 then badP 2 ts.tail else pre [(16, (hdT ts.tail).2.2)] (prL home g ts.tail.tail)) else Sum.inr ([], ts)
def prP (home : Bool) (ts : List Tok) : Res := bnd (unP home ts) (fun s r => pre s (prL home 401 r))
def suL (home : Bool) : Nat → List Tok → Res
  | 0, ts => Sum.inr ([], ts)
  | g + 1, ts => if (hdT ts).1 = 43 ∨ (hdT ts).1 = 45 then bnd (prP home ts.tail) (fun s r => pre (s ++ [(if (hdT ts).1 = 43 then 13 else 14, 0)]) (suL home g r)) else Sum.inr ([], ts)
def suP (home : Bool) (ts : List Tok) : Res := bnd (prP home ts) (fun s r => pre s (suL home 401 r))
def cmP (home : Bool) (ts : List Tok) : Res := bnd (suP home ts) (fun s r => if (hdT r).1 = 60 ∨ (hdT r).1 = 61 ∨ (hdT r).1 = 62 then bnd (suP home r.tail) (fun s2 r2 => Sum.inr (s ++ (s2 ++ [((hdT r).1 - 43, 0)]), r2)) else badP 1 r)
def anL (one : List Tok → Res) : Nat → List Tok → Res
  | 0, ts => Sum.inr ([], ts)
  | g + 1, ts => if (hdT ts).1 = 4 then bnd (one ts.tail) (fun s r => pre (s ++ [(21, 0)]) (anL one g r)) else Sum.inr ([], ts)
def evP (one : List Tok → Res) (ts : List Tok) : Res := bnd (one ts) (fun s r => pre s (anL one 401 r))
def orL (one : List Tok → Res) : Nat → List Tok → Res
  | 0, ts => Sum.inr ([], ts)
  | g + 1, ts => if (hdT ts).1 = 3 then bnd (evP one ts.tail) (fun s r => pre (s ++ [(22, 0)]) (orL one g r)) else Sum.inr ([], ts)
def anyP (one : List Tok → Res) (ts : List Tok) : Res := bnd (evP one ts) (fun s r => pre s (orL one 401 r))
def onP (home : Bool) : Nat → List Tok → Res
  | 0, ts => if (hdT ts).1 = 5 ∨ (hdT ts).1 = 40 then badP 3 ts else cmP home ts
  | d + 1, ts => if (hdT ts).1 = 5 then bnd (onP home d ts.tail) (fun s r => Sum.inr (s ++ [(20, 0)], r)) else if (hdT ts).1 = 40 then bnd (anyP (onP home d) ts.tail) (fun s r => if (hdT r).1 = 41 then Sum.inr (s, r.tail) else badP 1 r) else cmP home ts
/-- the steps of a line whose beginning is ts's first one -/
def lnP (home : Bool) (ts : List Tok) : Res := if (hdT ts.tail).1 = 2 then bnd (anyP (onP home 8) ts.tail.tail) (fun s r => if (hdT r).1 = 59 then Sum.inr (s, r.tail) else badP 1 r) else badP 1 ts.tail
def bgK (home : Bool) (k : Int) : Int := if home = true then k + 1 else 0
def txP (home : Bool) : Nat → List Tok → Sum (Int × Nat) (List Lin)
  | 0, ts => if (hdT ts).1 = 21 then Sum.inr [] else if (hdT ts).1 < 2 then Sum.inl (3, (hdT ts).2.1) else Sum.inl (1, (hdT ts).2.1)
  | m + 1, ts => if (hdT ts).1 = 21 then Sum.inr [] else if (hdT ts).1 < 2 then (match lnP home ts with
    | Sum.inl e => Sum.inl e
    | Sum.inr q => (match txP home m q.2 with
      | Sum.inl e => Sum.inl e
      | Sum.inr p => Sum.inr ((bgK home (hdT ts).1, q.1) :: p))) else Sum.inl (1, (hdT ts).2.1)
theorem nlr {α β : Type} {a : α} {b : β} {P : Prop} (h : (Sum.inl a : Sum α β) = Sum.inr b) : P := by cases h
theorem bnd_l {x : Res} {k : List Stp1 → List Tok → Res} {e : Int × Nat} (h : x = Sum.inl e) : bnd x k = Sum.inl e := by rw [h]; rfl
theorem bnd_r {x : Res} {k : List Stp1 → List Tok → Res} {s : List Stp1} {r : List Tok} (h : x = Sum.inr (s, r)) : bnd x k = k s r := by rw [h]; rfl
theorem bnd_inr {x : Res} {k : List Stp1 → List Tok → Res} {q : List Stp1 × List Tok} (h : bnd x k = Sum.inr q) : ∃ s r, x = Sum.inr (s, r) ∧ k s r = Sum.inr q := by
  cases x with
  | inl e => exact nlr h
  | inr p => exact ⟨p.1, p.2, rfl, h⟩
theorem bnd_inl {x : Res} {k : List Stp1 → List Tok → Res} {e : Int × Nat} (h : bnd x k = Sum.inl e) : x = Sum.inl e ∨ ∃ s r, x = Sum.inr (s, r) ∧ k s r = Sum.inl e := by
  cases x with
  | inl e' => exact Or.inl h
  | inr p => exact Or.inr ⟨p.1, p.2, rfl, h⟩
theorem pre_inr {s : List Stp1} {x : Res} {q : List Stp1 × List Tok} (h : pre s x = Sum.inr q) : ∃ s', x = Sum.inr (s', q.2) ∧ q.1 = s ++ s' := by
  obtain ⟨s', r, h1, h2⟩ := bnd_inr h
  have h3 := Sum.inr.inj h2
  rw [← h3]
  exact ⟨s', h1, rfl⟩
/-! types of steps, joined -/
theorem tyR_a : ∀ (s s' : List Stp1) (st : List Bool), tyR (s ++ s') st = match tyR s st with
    | some st' => tyR s' st'
    | none => none
  | [], s', st => rfl
  | q :: s, s', st => by
    show (match tyS q st with
      | some s'' => if s''.length < 31 then tyR (s ++ s') s'' else none
      | none => none) = match (match tyS q st with
      | some s'' => if s''.length < 31 then tyR s s'' else none
      | none => none) with
      | some st' => tyR s' st'
      | none => none
    cases tyS q st with
    | none => rfl
    | some s'' =>
      show (if s''.length < 31 then tyR (s ++ s') s'' else none) = match (if s''.length < 31 then tyR s s'' else none) with
        | some st' => tyR s' st'
        | none => none
      by_cases h : s''.length < 31
      · rw [if_pos h, if_pos h]
        exact tyR_a s s' s''
      · rw [if_neg h, if_neg h]
theorem tyR_j {s s' : List Stp1} {st st1 st2 : List Bool} (h1 : tyR s st = some st1) (h2 : tyR s' st1 = some st2) : tyR (s ++ s') st = some st2 := by
  rw [tyR_a, h1]
  exact h2
theorem tyR_1 {q : Stp1} {st st' : List Bool} (h : tyS q st = some st') (hl : st'.length < 31) : tyR [q] st = some st' := by
  show (match tyS q st with
    | some s'' => if s''.length < 31 then tyR [] s'' else none
    | none => none) = some st'
  rw [h]
  show (if st'.length < 31 then some st' else none) = some st'
  rw [if_pos hl]
theorem encs_a (s s' : List Stp1) : encs (s ++ s') = encs s ++ encs s' := by
  unfold encs
  rw [List.flatMap_append]
theorem encs_1 (q : Stp1) : encs [q] = enc q := by
  unfold encs
  simp
/-- what a good result is: tokens taken, words and steps no more than these, kinds of steps, what is left -/
def gR (home : Bool) (need : Nat) (a b : List Bool) (ts : List Tok) (x : Res) : Prop := ∀ s r, x = Sum.inr (s, r) → (∃ c, ts = c ++ r ∧ (encs s).length ≤ c.length ∧ s.length ≤ c.length) ∧ VT home r ∧ (∀ q ∈ s, okStp home q) ∧ ∀ st : List Bool, st.length + need ≤ 30 → tyR s (a ++ st) = some (b ++ st)
theorem gR.nil {home : Bool} {need : Nat} {a : List Bool} {ts : List Tok} (h : VT home ts) : gR home need a a ts (Sum.inr ([], ts)) := by
  intro s r hx
  have := Sum.inr.inj hx
  have h1 := congrArg Prod.fst this
  have h2 := congrArg Prod.snd this
  dsimp only at h1 h2
  rw [← h1, ← h2]
  exact ⟨⟨[], rfl, Nat.le_refl _, Nat.le_refl _⟩, h, fun q hq => by simp at hq, fun st _ => rfl⟩
theorem gR.bad {home : Bool} {need : Nat} {a b : List Bool} {ts ts' : List Tok} {k : Int} : gR home need a b ts (badP k ts') := fun s r hx => nlr hx
/-- more room -/
theorem gR.up {home : Bool} {need need' : Nat} {a b : List Bool} {ts : List Tok} {x : Res} (h : gR home need a b ts x) (hn : need ≤ need') : gR home need' a b ts x := by
  intro s r hx
  obtain ⟨h1, h2, h3, h4⟩ := h s r hx
  exact ⟨h1, h2, h3, fun st hs => h4 st (by omega)⟩
/-- a token ahead, of which a step follows behind: c t .. s .. q -/
theorem gR.then {home : Bool} {n1 n2 : Nat} {a b d : List Bool} {ts : List Tok} {x : Res} {k : List Stp1 → List Tok → Res} (h1 : gR home n1 a b ts x) (h2 : ∀ s r, x = Sum.inr (s, r) → VT home r → ∃ s2 x2, k s r = pre s2 x2 ∧ s2 = s ∧ gR home n2 b d r x2) (hn : n1 ≤ n2) : gR home n2 a d ts (bnd x k) := by
  intro s r hx
  obtain ⟨s1, r1, e1, e2⟩ := bnd_inr hx
  obtain ⟨⟨c1, g1, g2, g3⟩, g4, g5, g6⟩ := h1 s1 r1 e1
  obtain ⟨s2, x2, f1, f2, f3⟩ := h2 s1 r1 e1 g4
  rw [f1, f2] at e2
  obtain ⟨s3, e3, e4⟩ := pre_inr e2
  obtain ⟨⟨c2, i1, i2, i3⟩, i4, i5, i6⟩ := f3 s3 r e3
  dsimp only at e4
  subst e4
  refine ⟨⟨c1 ++ c2, by rw [g1, i1, List.append_assoc], ?_, ?_⟩, i4, fun q hq => ?_, fun st hs => tyR_j (g6 st (by omega)) (i6 st hs)⟩
  · rw [encs_a, List.length_append, List.length_append]
    omega
  · rw [List.length_append, List.length_append]
    omega
  · rcases List.mem_append.1 hq with h | h
    · exact g5 q h
    · exact i5 q h
theorem VT.tk {home : Bool} {ts : List Tok} (h : VT home ts) (hk : (hdT ts).1 ≠ 21) : ts = [hdT ts] ++ ts.tail ∧ VT home ts.tail := ⟨h.c.1, h.c.2.2 hk⟩
/-- an operator's token, an operand, the operator's step, the rest -/
theorem gR.op {home : Bool} {n1 n2 : Nat} {a b d : List Bool} {ts : List Tok} {x : Res} {q : Stp1} {y : List Tok → Res} (hv : VT home ts) (hk : (hdT ts).1 ≠ 21) (h1 : VT home ts.tail → gR home n1 a b ts.tail x) (hq : okStp home q) (he : (enc q).length = 1) (ht : ∀ st : List Bool, st.length + n2 ≤ 30 → tyR [q] (b ++ st) = some (a ++ st)) (h2 : ∀ r, VT home r → gR home n2 a d r (y r)) (hn : n1 ≤ n2) : gR home n2 a d ts (bnd x (fun s r => pre (s ++ [q]) (y r))) := by
  intro s r hx
  obtain ⟨hc, hvt⟩ := hv.tk hk
  obtain ⟨s1, r1, e1, e2⟩ := bnd_inr hx
  obtain ⟨⟨c1, g1, g2, g3⟩, g4, g5, g6⟩ := h1 hvt s1 r1 e1
  obtain ⟨s3, e3, e4⟩ := pre_inr e2
  obtain ⟨⟨c2, i1, i2, i3⟩, i4, i5, i6⟩ := h2 r1 g4 s3 r e3
  dsimp only at e4
  subst e4
  refine ⟨⟨[hdT ts] ++ (c1 ++ c2), ?_, ?_, ?_⟩, i4, fun q' hq' => ?_, fun st hs => tyR_j (tyR_j (g6 st (by omega)) (ht st hs)) (i6 st hs)⟩
  · rw [List.append_assoc, List.append_assoc, ← i1, ← g1]
    exact hc
  · rw [encs_a, encs_a, encs_1]
    simp only [List.length_append, List.length_cons, List.length_nil]
    omega
  · simp only [List.length_append, List.length_cons, List.length_nil]
    omega
  · rcases List.mem_append.1 hq' with h | h
    · rcases List.mem_append.1 h with h | h
      · exact g5 q' h
      · rw [List.mem_singleton.1 h]
        exact hq
    · exact i5 q' h
theorem un_g {home : Bool} {ts : List Tok} (hv : VT home ts) : gR home 1 [] [false] ts (unP home ts) := by
  unfold unP
  obtain ⟨hc, ho, -⟩ := hv.c
  split
  · next hk =>
    intro s r hx
    have := Sum.inr.inj hx
    have h1 := congrArg Prod.fst this
    have h2 := congrArg Prod.snd this
    dsimp only at h1 h2
    obtain ⟨hc2, hvt⟩ := hv.tk (by omega)
    rw [← h1, ← h2]
    refine ⟨⟨[hdT ts], hc2, Nat.le_refl _, Nat.le_refl _⟩, hvt, fun q hq => ?_, fun st hs => tyR_1 rfl ?_⟩
    · rw [List.mem_singleton.1 hq]
      exact Or.inl ⟨rfl, ho.2 hk⟩
    · show (false :: st).length < 31
      rw [List.length_cons]
      omega
  · split
    · next hk0 hk =>
      intro s r hx
      have := Sum.inr.inj hx
      have h1 := congrArg Prod.fst this
      have h2 := congrArg Prod.snd this
      dsimp only at h1 h2
      obtain ⟨hc2, hvt⟩ := hv.tk (by omega)
      have ho1 := ho.1
      unfold okK at ho1
      have hkk : ∀ K : Int, K = (if home = true then (hdT ts).1 + 2 else (hdT ts).1 - 5) → okStp home (K, 0) ∧ K ≠ 0 ∧ K < 13 := by
        intro K hK
        unfold okStp
        cases home with
        | true =>
          rw [if_pos rfl] at hK
          simp only [reduceCtorEq, false_and, false_or, or_false, true_and] at ho1
          exact ⟨Or.inr (Or.inr (Or.inl ⟨rfl, by dsimp only; omega, by dsimp only; omega⟩)), by omega, by omega⟩
        | false =>
          rw [if_neg (by decide)] at hK
          simp only [reduceCtorEq, false_and, false_or, or_false, true_and] at ho1
          exact ⟨Or.inr (Or.inl ⟨rfl, by dsimp only; omega, by dsimp only; omega⟩), by omega, by omega⟩
      rw [← h1, ← h2]
      generalize hK : (if home = true then (hdT ts).1 + 2 else (hdT ts).1 - 5) = K at hkk ⊢
      obtain ⟨k1, k2, k3⟩ := hkk K rfl
      refine ⟨⟨[hdT ts], hc2, ?_, Nat.le_refl _⟩, hvt, fun q hq => ?_, fun st hs => tyR_1 (show tyS (K, 0) st = some (false :: st) from ?_) ?_⟩
      · rw [encs_1]
        unfold enc
        dsimp only
        rw [if_neg k2]
        split <;> first | exact Nat.le_refl _ | (rw [if_pos k3]; exact Nat.le_refl _)
      · rw [List.mem_singleton.1 hq]
        exact k1
      · unfold tyS
        rw [if_pos k3]
      · show (false :: st).length < 31
        rw [List.length_cons]
        omega
    · exact gR.bad
theorem prL_g {home : Bool} : ∀ (g : Nat) (ts : List Tok), VT home ts → gR home 2 [false] [false] ts (prL home g ts)
  | 0, ts, hv => gR.nil hv
  | g + 1, ts, hv => by
    show gR home 2 [false] [false] ts (if (hdT ts).1 = 42 then _ else if (hdT ts).1 = 47 then _ else _)
    split
    · next hk =>
      refine gR.op (b := [false, false]) (n1 := 2) (y := fun r => prL home g r) hv (by omega) (fun hv2 => ?_) (Or.inr (Or.inr (Or.inr (Or.inl ⟨by decide, by decide, by decide⟩)))) rfl (fun st hs => tyR_1 rfl ?_) (fun r hr => ?_) (Nat.le_refl _)
      · intro s r hx
        obtain ⟨g1, g2, g3, g4⟩ := un_g hv2 s r hx
        exact ⟨g1, g2, g3, fun st hs => g4 (false :: st) (by rw [List.length_cons]; omega)⟩
      · show (false :: st).length < 31
        rw [List.length_cons]
        omega
      · exact prL_g g r hr
    · split
      · next hk0 hk =>
        split
        · exact gR.bad
        · split
          · exact gR.bad
          · next hk2 hk3 =>
            have hk4 := Decidable.of_not_not hk2
            obtain ⟨hc, hvt⟩ := hv.tk (by omega)
            obtain ⟨hc2, hvt2⟩ := hvt.tk (by omega)
            have ho := hvt.c.2.1.2 hk4
            intro s r hx
            obtain ⟨s3, e3, e4⟩ := pre_inr hx
            obtain ⟨⟨c2, i1, i2, i3⟩, i4, i5, i6⟩ := prL_g g ts.tail.tail hvt2 s3 r e3
            dsimp only at e4
            subst e4
            refine ⟨⟨[hdT ts] ++ ([hdT ts.tail] ++ c2), ?_, ?_, ?_⟩, i4, fun q' hq' => ?_, fun st hs => tyR_j (tyR_1 (show tyS (16, (hdT ts.tail).2.2) ([false] ++ st) = some (false :: st) from rfl) ?_) (i6 st hs)⟩
            · rw [List.append_assoc, List.append_assoc, ← i1, ← hc2]
              exact hc
            · rw [encs_a, encs_1]
              show ([(hdT ts.tail).2.2, 20047] ++ encs s3).length ≤ _
              simp only [List.length_append, List.length_cons, List.length_nil]
              omega
            · simp only [List.length_append, List.length_cons, List.length_nil]
              omega
            · rcases List.mem_append.1 hq' with h | h
              · rw [List.mem_singleton.1 h]
                exact Or.inr (Or.inr (Or.inr (Or.inr ⟨rfl, by dsimp only; omega, by dsimp only; omega⟩)))
              · exact i5 q' h
            · rw [List.length_cons]
              omega
      · exact gR.nil hv
theorem prP_g {home : Bool} {ts : List Tok} (hv : VT home ts) : gR home 2 [] [false] ts (prP home ts) := gR.then (un_g hv) (fun s r _ hr => ⟨s, prL home 401 r, rfl, rfl, prL_g 401 r hr⟩) (by omega)
theorem suL_g {home : Bool} : ∀ (g : Nat) (ts : List Tok), VT home ts → gR home 3 [false] [false] ts (suL home g ts)
  | 0, ts, hv => gR.nil hv
  | g + 1, ts, hv => by
    show gR home 3 [false] [false] ts (if (hdT ts).1 = 43 ∨ (hdT ts).1 = 45 then _ else _)
    split
    · next hk =>
      generalize hq : (if (hdT ts).1 = 43 then (13 : Int) else 14) = q
      have hq2 : q = 13 ∨ q = 14 := by
        split at hq <;> omega
      refine gR.op (b := [false, false]) (n1 := 3) (y := fun r => suL home g r) hv (by omega) (fun hv2 => ?_) (Or.inr (Or.inr (Or.inr (Or.inl ⟨by dsimp only; omega, by dsimp only; omega, by dsimp only; omega⟩)))) ?_ (fun st hs => tyR_1 (show tyS (q, 0) (false :: false :: st) = some (false :: st) from ?_) ?_) (fun r hr => ?_) (Nat.le_refl _)
      · intro s r hx
        obtain ⟨g1, g2, g3, g4⟩ := prP_g hv2 s r hx
        exact ⟨g1, g2, g3, fun st hs => g4 (false :: st) (by rw [List.length_cons]; omega)⟩
      · rcases hq2 with rfl | rfl <;> rfl
      · rcases hq2 with rfl | rfl <;> rfl
      · show (false :: st).length < 31
        rw [List.length_cons]
        omega
      · exact suL_g g r hr
    · exact gR.nil hv
theorem suP_g {home : Bool} {ts : List Tok} (hv : VT home ts) : gR home 3 [] [false] ts (suP home ts) := gR.then ((prP_g hv).up (by omega)) (fun s r _ hr => ⟨s, suL home 401 r, rfl, rfl, suL_g 401 r hr⟩) (Nat.le_refl _)
theorem cmP_g {home : Bool} {ts : List Tok} (hv : VT home ts) : gR home 4 [] [true] ts (cmP home ts) := by
  intro s r hx
  obtain ⟨s1, r1, e1, e2⟩ := bnd_inr hx
  obtain ⟨⟨c1, g1, g2, g3⟩, g4, g5, g6⟩ := suP_g hv s1 r1 e1
  split at e2
  · next hk =>
    obtain ⟨hc, hvt⟩ := g4.tk (by omega)
    obtain ⟨s2, r2, e3, e4⟩ := bnd_inr e2
    obtain ⟨⟨c2, i1, i2, i3⟩, i4, i5, i6⟩ := suP_g hvt s2 r2 e3
    have := Sum.inr.inj e4
    have h1 := congrArg Prod.fst this
    have h2 := congrArg Prod.snd this
    dsimp only at h1 h2
    rw [← h1, ← h2]
    generalize hq : (hdT r1).1 - 43 = q
    have hq2 : q = 17 ∨ q = 18 ∨ q = 19 := by omega
    refine ⟨⟨c1 ++ ([hdT r1] ++ c2), ?_, ?_, ?_⟩, i4, fun q' hq' => ?_, fun st hs => tyR_j (g6 st (by omega)) (tyR_j (i6 (false :: st) (by rw [List.length_cons]; omega)) (tyR_1 (st' := true :: st) ?_ (by rw [List.length_cons]; omega)))⟩
    · rw [g1, List.append_assoc, List.append_assoc, ← i1]
      exact congrArg _ hc
    · rw [encs_a, encs_a, encs_1]
      have he : (enc (q, 0)).length = 1 := by rcases hq2 with rfl | rfl | rfl <;> rfl
      simp only [List.length_append, List.length_cons, List.length_nil]
      omega
    · simp only [List.length_append, List.length_cons, List.length_nil]
      omega
    · rcases List.mem_append.1 hq' with h | h
      · exact g5 q' h
      · rcases List.mem_append.1 h with h | h
        · exact i5 q' h
        · rw [List.mem_singleton.1 h]
          exact Or.inr (Or.inr (Or.inr (Or.inl ⟨by dsimp only; omega, by dsimp only; omega, by dsimp only; omega⟩)))
    · rcases hq2 with rfl | rfl | rfl <;> rfl
  · exact nlr e2
theorem anL_g {home : Bool} {N : Nat} {one : List Tok → Res} (h1 : ∀ ts, VT home ts → gR home N [] [true] ts (one ts)) : ∀ (g : Nat) (ts : List Tok), VT home ts → gR home (N + 1) [true] [true] ts (anL one g ts)
  | 0, ts, hv => gR.nil hv
  | g + 1, ts, hv => by
    show gR home (N + 1) [true] [true] ts (if (hdT ts).1 = 4 then _ else _)
    split
    · next hk =>
      refine gR.op (b := [true, true]) (n1 := N + 1) (y := fun r => anL one g r) hv (by omega) (fun hv2 => ?_) (Or.inr (Or.inr (Or.inr (Or.inl ⟨by decide, by decide, by decide⟩)))) rfl (fun st hs => tyR_1 (st' := true :: st) rfl (by rw [List.length_cons]; omega)) (fun r hr => anL_g h1 g r hr) (Nat.le_refl _)
      intro s r hx
      obtain ⟨g1, g2, g3, g4⟩ := h1 _ hv2 s r hx
      exact ⟨g1, g2, g3, fun st hs => g4 (true :: st) (by rw [List.length_cons]; omega)⟩
    · exact gR.nil hv
theorem evP_g {home : Bool} {N : Nat} {one : List Tok → Res} (h1 : ∀ ts, VT home ts → gR home N [] [true] ts (one ts)) {ts : List Tok} (hv : VT home ts) : gR home (N + 1) [] [true] ts (evP one ts) := gR.then ((h1 ts hv).up (Nat.le_succ _)) (fun s r _ hr => ⟨s, anL one 401 r, rfl, rfl, anL_g h1 401 r hr⟩) (Nat.le_refl _)
theorem orL_g {home : Bool} {N : Nat} {one : List Tok → Res} (h1 : ∀ ts, VT home ts → gR home N [] [true] ts (one ts)) : ∀ (g : Nat) (ts : List Tok), VT home ts → gR home (N + 2) [true] [true] ts (orL one g ts)
  | 0, ts, hv => gR.nil hv
  | g + 1, ts, hv => by
    show gR home (N + 2) [true] [true] ts (if (hdT ts).1 = 3 then _ else _)
    split
    · next hk =>
      refine gR.op (b := [true, true]) (n1 := N + 2) (y := fun r => orL one g r) hv (by omega) (fun hv2 => ?_) (Or.inr (Or.inr (Or.inr (Or.inl ⟨by decide, by decide, by decide⟩)))) rfl (fun st hs => tyR_1 (st' := true :: st) rfl (by rw [List.length_cons]; omega)) (fun r hr => orL_g h1 g r hr) (Nat.le_refl _)
      intro s r hx
      obtain ⟨g1, g2, g3, g4⟩ := evP_g h1 hv2 s r hx
      exact ⟨g1, g2, g3, fun st hs => g4 (true :: st) (by rw [List.length_cons]; omega)⟩
    · exact gR.nil hv
theorem anyP_g {home : Bool} {N : Nat} {one : List Tok → Res} (h1 : ∀ ts, VT home ts → gR home N [] [true] ts (one ts)) {ts : List Tok} (hv : VT home ts) : gR home (N + 2) [] [true] ts (anyP one ts) := gR.then ((evP_g h1 hv).up (Nat.le_succ _)) (fun s r _ hr => ⟨s, orL one 401 r, rfl, rfl, orL_g h1 401 r hr⟩) (Nat.le_refl _)
theorem onP_g {home : Bool} : ∀ (d : Nat) (ts : List Tok), VT home ts → gR home (4 + 2 * d) [] [true] ts (onP home d ts)
  | 0, ts, hv => by
    show gR home 4 [] [true] ts (if (hdT ts).1 = 5 ∨ (hdT ts).1 = 40 then _ else _)
    split
    · exact gR.bad
    · exact cmP_g hv
  | d + 1, ts, hv => by
    show gR home (4 + 2 * (d + 1)) [] [true] ts (if (hdT ts).1 = 5 then _ else if (hdT ts).1 = 40 then _ else _)
    split
    · next hk =>
      obtain ⟨hc, hvt⟩ := hv.tk (by omega)
      intro s r hx
      obtain ⟨s1, r1, e1, e2⟩ := bnd_inr hx
      obtain ⟨⟨c1, g1, g2, g3⟩, g4, g5, g6⟩ := onP_g d ts.tail hvt s1 r1 e1
      have := Sum.inr.inj e2
      have h1 := congrArg Prod.fst this
      have h2 := congrArg Prod.snd this
      dsimp only at h1 h2
      rw [← h1, ← h2]
      refine ⟨⟨[hdT ts] ++ c1, ?_, ?_, ?_⟩, g4, fun q' hq' => ?_, fun st hs => tyR_j (g6 st (by omega)) (tyR_1 (st' := true :: st) rfl (by rw [List.length_cons]; omega))⟩
      · rw [List.append_assoc, ← g1]
        exact hc
      · rw [encs_a, encs_1]
        show (encs s1 ++ [20005]).length ≤ _
        simp only [List.length_append, List.length_cons, List.length_nil]
        omega
      · simp only [List.length_append, List.length_cons, List.length_nil]
        omega
      · rcases List.mem_append.1 hq' with h | h
        · exact g5 q' h
        · rw [List.mem_singleton.1 h]
          exact Or.inr (Or.inr (Or.inr (Or.inl ⟨by decide, by decide, by decide⟩)))
    · split
      · next hk0 hk =>
        obtain ⟨hc, hvt⟩ := hv.tk (by omega)
        intro s r hx
        obtain ⟨s1, r1, e1, e2⟩ := bnd_inr hx
        obtain ⟨⟨c1, g1, g2, g3⟩, g4, g5, g6⟩ := anyP_g (onP_g d) hvt s1 r1 e1
        split at e2
        · next hk2 =>
          obtain ⟨hc2, hvt2⟩ := g4.tk (by omega)
          have := Sum.inr.inj e2
          have h1 := congrArg Prod.fst this
          have h2 := congrArg Prod.snd this
          dsimp only at h1 h2
          rw [← h1, ← h2]
          refine ⟨⟨[hdT ts] ++ (c1 ++ [hdT r1]), ?_, ?_, ?_⟩, hvt2, g5, fun st hs => g6 st (by omega)⟩
          · rw [List.append_assoc, List.append_assoc, ← hc2, ← g1]
            exact hc
          · simp only [List.length_append, List.length_cons, List.length_nil]
            omega
          · simp only [List.length_append, List.length_cons, List.length_nil]
            omega
        · exact nlr e2
      · exact (cmP_g hv).up (by omega)
theorem lnP_g {home : Bool} {ts : List Tok} (hv : VT home ts) (hk : (hdT ts).1 ≠ 21) {s : List Stp1} {r : List Tok} (hx : lnP home ts = Sum.inr (s, r)) : (∃ c, ts = c ++ r ∧ (encs s).length + 3 ≤ c.length ∧ s.length + 3 ≤ c.length) ∧ VT home r ∧ (∀ q ∈ s, okStp home q) ∧ tyR s [] = some [true] := by
  unfold lnP at hx
  split at hx
  · next hk2 =>
    obtain ⟨hc, hvt⟩ := hv.tk hk
    obtain ⟨hc2, hvt2⟩ := hvt.tk (by omega)
    obtain ⟨s1, r1, e1, e2⟩ := bnd_inr hx
    obtain ⟨⟨c1, g1, g2, g3⟩, g4, g5, g6⟩ := anyP_g (onP_g 8) hvt2 s1 r1 e1
    split at e2
    · next hk3 =>
      obtain ⟨hc3, hvt3⟩ := g4.tk (by omega)
      have := Sum.inr.inj e2
      have h1 := congrArg Prod.fst this
      have h2 := congrArg Prod.snd this
      dsimp only at h1 h2
      rw [← h1, ← h2]
      refine ⟨⟨[hdT ts] ++ ([hdT ts.tail] ++ (c1 ++ [hdT r1])), ?_, ?_, ?_⟩, hvt3, g5, g6 [] (by simp)⟩
      · rw [List.append_assoc, List.append_assoc, List.append_assoc, ← hc3, ← g1, ← hc2]
        exact hc
      · simp only [List.length_append, List.length_cons, List.length_nil]
        omega
      · simp only [List.length_append, List.length_cons, List.length_nil]
        omega
    · exact nlr e2
  · exact nlr hx
theorem txP_g {home : Bool} : ∀ (m : Nat) (ts : List Tok), VT home ts → ∀ p, txP home m ts = Sum.inr p → p.length ≤ m ∧ (encP p).length + 1 ≤ ts.length ∧ (stepsOf p).length + 1 ≤ ts.length ∧ ∀ q ∈ p, okLin home q := by
  intro m
  induction m with
  | zero =>
    intro ts hv p hp
    have h : (if (hdT ts).1 = 21 then Sum.inr [] else if (hdT ts).1 < 2 then Sum.inl (3, (hdT ts).2.1) else Sum.inl (1, (hdT ts).2.1) : Sum (Int × Nat) (List Lin)) = Sum.inr p := hp
    split at h
    · rw [← Sum.inr.inj h]
      have hp1 : 0 + 1 ≤ ts.length := by rw [hv.c.1, List.length_cons]; omega
      exact ⟨Nat.le_refl _, hp1, hp1, fun q hq => by simp at hq⟩
    · split at h
      · exact nlr h
      · exact nlr h
  | succ m ih =>
    intro ts hv p hp
    have h : (if (hdT ts).1 = 21 then Sum.inr [] else if (hdT ts).1 < 2 then (match lnP home ts with
    | Sum.inl e => Sum.inl e
    | Sum.inr q => (match txP home m q.2 with
      | Sum.inl e => Sum.inl e
      | Sum.inr p => Sum.inr ((bgK home (hdT ts).1, q.1) :: p))) else Sum.inl (1, (hdT ts).2.1) : Sum (Int × Nat) (List Lin)) = Sum.inr p := hp
    split at h
    · rw [← Sum.inr.inj h]
      have hp1 : 0 + 1 ≤ ts.length := by rw [hv.c.1, List.length_cons]; omega
      exact ⟨Nat.zero_le _, hp1, hp1, fun q hq => by simp at hq⟩
    · split at h
      · next hk1 hk2 =>
        cases hl : lnP home ts with
        | inl e =>
          rw [hl] at h
          exact nlr h
        | inr q =>
          rw [hl] at h
          dsimp only at h
          cases ht : txP home m q.2 with
          | inl e =>
            rw [ht] at h
            exact nlr h
          | inr p' =>
            rw [ht] at h
            dsimp only at h
            obtain ⟨⟨c, l1, l2, l3⟩, l4, l5, l6⟩ := lnP_g hv hk1 (s := q.1) (r := q.2) hl
            obtain ⟨j1, j2, j3, j4⟩ := ih q.2 l4 p' ht
            rw [← Sum.inr.inj h]
            have hlen : ts.length = c.length + q.2.length := by rw [l1, List.length_append]
            refine ⟨by rw [List.length_cons]; omega, ?_, ?_, fun q' hq' => ?_⟩
            · show (encL (bgK home (hdT ts).1, q.1) ++ encP p').length + 1 ≤ _
              unfold encL
              simp only [List.length_append, List.length_cons, List.length_nil]
              omega
            · show (q.1 ++ stepsOf p').length + 1 ≤ _
              rw [List.length_append]
              omega
            · rcases List.mem_cons.1 hq' with rfl | hq'
              · refine ⟨l5, l6, ?_⟩
                have ho := hv.c.2.1.1
                unfold okK at ho
                unfold bgK
                dsimp only
                cases home with
                | true =>
                  simp only [reduceCtorEq, false_and, false_or, or_false, true_and] at ho
                  rw [if_pos rfl, if_pos rfl]
                  omega
                | false => rw [if_neg (by decide), if_neg (by decide)]
              · exact j4 q' hq'
      · exact nlr h

