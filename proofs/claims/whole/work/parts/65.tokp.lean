/-! TOKENS, pure: f the bytes (0 .. 255), n how many -/
def isLb (c : Int) : Bool := (decide (97 ≤ c) && decide (c ≤ 122)) || (decide (65 ≤ c) && decide (c ≤ 90))
def isDb (c : Int) : Bool := decide (48 ≤ c) && decide (c ≤ 57)
theorem isLb_iff {c : Int} : isLb c = true ↔ (97 ≤ c ∧ c ≤ 122 ∨ 65 ≤ c ∧ c ≤ 90) := by
  unfold isLb
  simp only [Bool.or_eq_true, Bool.and_eq_true, decide_eq_true_eq]
theorem isDb_iff {c : Int} : isDb c = true ↔ (48 ≤ c ∧ c ≤ 57) := by
  unfold isDb
  simp only [Bool.and_eq_true, decide_eq_true_eq]
def rnE (P : Int → Bool) (f : Nat → Int) (n : Nat) : Nat → Nat → Nat
  | 0, i => i
  | g + 1, i => if i < n ∧ P (f i) = true then rnE P f n g (i + 1) else i
def run (P : Int → Bool) (f : Nat → Int) (n i : Nat) : Nat := rnE P f n (n - i) i
theorem run_y {P : Int → Bool} {f : Nat → Int} {n i : Nat} (h : i < n) (hP : P (f i) = true) : run P f n i = run P f n (i + 1) := by
  unfold run
  rw [show n - i = (n - (i + 1)) + 1 by omega]
  show (if i < n ∧ P (f i) = true then _ else _) = _
  rw [if_pos ⟨h, hP⟩]
theorem run_n {P : Int → Bool} {f : Nat → Int} {n i : Nat} (h : ¬ (i < n ∧ P (f i) = true)) : run P f n i = i := by
  unfold run
  cases hg : n - i with
  | zero => rfl
  | succ g =>
    show (if i < n ∧ P (f i) = true then _ else _) = _
    rw [if_neg h]
theorem run_b {P : Int → Bool} {f : Nat → Int} {n : Nat} : ∀ (m i : Nat), i + m = n → i ≤ run P f n i ∧ run P f n i ≤ n ∧ ∀ j, i ≤ j → j < run P f n i → P (f j) = true := by
  intro m
  induction m with
  | zero =>
    intro i hi
    rw [run_n (by omega)]
    exact ⟨Nat.le_refl _, by omega, fun j h1 h2 => by omega⟩
  | succ m ih =>
    intro i hi
    by_cases hP : P (f i) = true
    · rw [run_y (by omega) hP]
      have := ih (i + 1) (by omega)
      refine ⟨by omega, this.2.1, fun j h1 h2 => ?_⟩
      by_cases e : j = i
      · rw [e]; exact hP
      · exact this.2.2 j (by omega) h2
    · rw [run_n (fun z => hP z.2)]
      exact ⟨Nat.le_refl _, by omega, fun j h1 h2 => by omega⟩
def tEnd (f : Nat → Int) (n i : Nat) : Nat := if isLb (f i) = true then run isLb f n (i + 1) else if isDb (f i) = true then run isDb f n (i + 1) else i + 1
theorem tEnd_b {f : Nat → Int} {n i : Nat} (h : i < n) : i < tEnd f n i ∧ tEnd f n i ≤ n := by
  unfold tEnd
  have h1 := run_b (P := isLb) (f := f) (n := n) (n - (i + 1)) (i + 1) (by omega)
  have h2 := run_b (P := isDb) (f := f) (n := n) (n - (i + 1)) (i + 1) (by omega)
  split
  · omega
  · split
    · omega
    · omega
theorem tEnd_L {f : Nat → Int} {n i : Nat} (h : i < n) (hL : isLb (f i) = true) : tEnd f n i = run isLb f n i := by
  unfold tEnd
  rw [if_pos hL, run_y h hL]
theorem tEnd_D {f : Nat → Int} {n i : Nat} (h : i < n) (hL : ¬ isLb (f i) = true) (hD : isDb (f i) = true) : tEnd f n i = run isDb f n i := by
  unfold tEnd
  rw [if_neg hL, if_pos hD, run_y h hD]
def numV (f : Nat → Int) : Nat → Nat → Int → Int
  | 0, _, a => a
  | m + 1, i, a => numV f m (i + 1) (10 * a + (f i - 48))
theorem numV_b {f : Nat → Int} : ∀ (m i : Nat) (a B : Int), (∀ j, i ≤ j → j < i + m → 48 ≤ f j ∧ f j ≤ 57) → 0 ≤ a → a < B → 0 ≤ numV f m i a ∧ numV f m i a < B * 10 ^ m
  | 0, i, a, B, _, h0, h1 => by
    show 0 ≤ a ∧ a < B * 10 ^ 0
    rw [Int.pow_zero, Int.mul_one]
    exact ⟨h0, h1⟩
  | m + 1, i, a, B, h, h0, h1 => by
    have hi := h i (Nat.le_refl _) (by omega)
    have := numV_b m (i + 1) (10 * a + (f i - 48)) (B * 10) (fun j q1 q2 => h j (by omega) (by omega)) (by omega) (by omega)
    show 0 ≤ numV f m (i + 1) (10 * a + (f i - 48)) ∧ numV f m (i + 1) (10 * a + (f i - 48)) < B * 10 ^ (m + 1)
    rw [Int.pow_succ, Int.mul_comm (10 ^ m) 10, ← Int.mul_assoc]
    exact this
/-! words -/
def wq (f : Nat → Int) (e : Nat) : Nat → List Int → Bool
  | i, [] => decide (i = e)
  | i, c :: r => decide (i < e) && (decide (f i = c) && wq f e (i + 1) r)
def kwF (f : Nat → Int) (i e : Nat) : List (List Int) → Int → Int
  | [], _ => 22
  | w :: r, j => if wq f e i w = true then j else kwF f i e r (j + 1)
abbrev likeW : List (List Int) := [[108, 105, 107, 101], [45], [119, 104, 101, 110], [111, 114], [97, 110, 100], [110, 111, 116], [108, 101, 116, 116, 101, 114, 115], [102, 105, 114, 115, 116], [97, 103, 101, 115], [110, 101, 97, 114], [100, 97, 121, 115], [98, 111, 111, 107], [104, 111, 117, 115, 101]]
abbrev homeW : List (List Int) := [[104, 111, 109, 101], [97, 119, 97, 121], [119, 104, 101, 110], [111, 114], [97, 110, 100], [110, 111, 116], [104, 111, 117, 114], [100, 97, 121], [115, 116, 114, 101, 101, 116], [110, 117, 109, 98, 101, 114], [107, 105, 110, 100]]
def kwV (f : Nat → Int) (home : Bool) (i e : Nat) : Int := kwF f i e (if home = true then homeW else likeW) 0
theorem wq_inj {f : Nat → Int} {e : Nat} : ∀ {i : Nat} {w w' : List Int}, wq f e i w = true → wq f e i w' = true → w = w'
  | i, [], [], _, _ => rfl
  | i, [], c :: r, h, h' => by
    unfold wq at h h'
    simp only [Bool.and_eq_true, decide_eq_true_eq] at h h'
    omega
  | i, c :: r, [], h, h' => by
    unfold wq at h h'
    simp only [Bool.and_eq_true, decide_eq_true_eq] at h h'
    omega
  | i, c :: r, c' :: r', h, h' => by
    unfold wq at h h'
    simp only [Bool.and_eq_true, decide_eq_true_eq] at h h'
    rw [wq_inj h.2.2 h'.2.2, ← h.2.1, ← h'.2.1]
theorem kwF_hit {f : Nat → Int} {i e : Nat} {w : List Int} (hw : wq f e i w = true) : ∀ (ws : List (List Int)) (j : Int) (k : Nat), ws[k]? = some w → w ∉ ws.take k → kwF f i e ws j = j + k
  | [], j, k, h, _ => by simp at h
  | w' :: ws, j, 0, h, _ => by
    simp only [List.getElem?_cons_zero, Option.some.injEq] at h
    unfold kwF
    rw [h, if_pos hw]
    omega
  | w' :: ws, j, k + 1, h, hn => by
    simp only [List.getElem?_cons_succ] at h
    rw [List.take_succ_cons, List.mem_cons, not_or] at hn
    unfold kwF
    rw [if_neg (fun z => hn.1 (wq_inj hw z)), kwF_hit hw ws (j + 1) k h hn.2]
    omega
theorem kwF_no {f : Nat → Int} {i e : Nat} : ∀ (ws : List (List Int)) (j : Int), (∀ w ∈ ws, ¬ wq f e i w = true) → kwF f i e ws j = 22
  | [], j, _ => rfl
  | w :: ws, j, h => by
    unfold kwF
    rw [if_neg (h w List.mem_cons_self)]
    exact kwF_no ws (j + 1) (fun w' hw' => h w' (List.mem_cons_of_mem _ hw'))
theorem kwF_r {f : Nat → Int} {i e : Nat} : ∀ (ws : List (List Int)) (j : Int), kwF f i e ws j = 22 ∨ (j ≤ kwF f i e ws j ∧ kwF f i e ws j < j + ws.length)
  | [], j => Or.inl rfl
  | w :: ws, j => by
    unfold kwF
    rw [List.length_cons]
    split
    · exact Or.inr (by omega)
    · rcases kwF_r ws (j + 1) with h | h
      · exact Or.inl h
      · exact Or.inr (by omega)
/-! kinds -/
def isSg (c : Int) : Prop := c = 59 ∨ c = 43 ∨ c = 45 ∨ c = 42 ∨ c = 47 ∨ c = 40 ∨ c = 41 ∨ c = 60 ∨ c = 61 ∨ c = 62
def kdS (c : Int) : Int := if c = 59 ∨ c = 43 ∨ c = 45 ∨ c = 42 ∨ c = 47 ∨ c = 40 ∨ c = 41 ∨ c = 60 ∨ c = 61 ∨ c = 62 then c else 22
def kdT (f : Nat → Int) (home : Bool) (i e : Nat) : Int := if isLb (f i) = true then kwV f home i e else if isDb (f i) = true then (if e ≤ i + 4 then 20 else 22) else kdS (f i)
abbrev Tok : Type := Int × Nat × Int
def tkL (f : Nat → Int) (n : Nat) (home : Bool) : Nat → Nat → List Tok
  | 0, _ => [(21, n, 0)]
  | g + 1, i => if n ≤ i then [(21, n, 0)] else if f i = 32 ∨ f i = 10 then tkL f n home g (i + 1) else (kdT f home i (tEnd f n i), i, numV f (min (tEnd f n i - i) 4) i 0) :: tkL f n home g (tEnd f n i)
def TK (f : Nat → Int) (n : Nat) (home : Bool) (i : Nat) : List Tok := tkL f n home (n - i) i
theorem tkL_g {f : Nat → Int} {n : Nat} {home : Bool} : ∀ (g g' i : Nat), n - i ≤ g → n - i ≤ g' → tkL f n home g i = tkL f n home g' i
  | 0, 0, i, _, _ => rfl
  | 0, g' + 1, i, h, _ => by
    show [(21, n, 0)] = if n ≤ i then _ else _
    rw [if_pos (by omega)]
  | g + 1, 0, i, _, h => by
    show (if n ≤ i then _ else _) = [(21, n, 0)]
    rw [if_pos (by omega)]
  | g + 1, g' + 1, i, h, h' => by
    show (if n ≤ i then _ else if f i = 32 ∨ f i = 10 then tkL f n home g (i + 1) else _ :: tkL f n home g (tEnd f n i)) = (if n ≤ i then _ else if f i = 32 ∨ f i = 10 then tkL f n home g' (i + 1) else _ :: tkL f n home g' (tEnd f n i))
    by_cases hn : n ≤ i
    · rw [if_pos hn, if_pos hn]
    · have hb := tEnd_b (f := f) (n := n) (i := i) (by omega)
      rw [if_neg hn, if_neg hn, tkL_g g g' (i + 1) (by omega) (by omega), tkL_g g g' (tEnd f n i) (by omega) (by omega)]
theorem TK_e {f : Nat → Int} {n : Nat} {home : Bool} {i : Nat} (h : n ≤ i) : TK f n home i = [(21, n, 0)] := by
  unfold TK
  rw [show n - i = 0 by omega]
  rfl
theorem TK_b {f : Nat → Int} {n : Nat} {home : Bool} {i : Nat} (h : i < n) (hb : f i = 32 ∨ f i = 10) : TK f n home i = TK f n home (i + 1) := by
  unfold TK
  rw [show n - i = (n - (i + 1)) + 1 by omega]
  show (if n ≤ i then _ else if f i = 32 ∨ f i = 10 then _ else _) = _
  rw [if_neg (by omega), if_pos hb]
theorem TK_c {f : Nat → Int} {n : Nat} {home : Bool} {i : Nat} (h : i < n) (hb : ¬ (f i = 32 ∨ f i = 10)) : TK f n home i = (kdT f home i (tEnd f n i), i, numV f (min (tEnd f n i - i) 4) i 0) :: TK f n home (tEnd f n i) := by
  have hb2 := tEnd_b (f := f) h
  unfold TK
  rw [show n - i = (n - (i + 1)) + 1 by omega]
  show (if n ≤ i then _ else if f i = 32 ∨ f i = 10 then _ else _ :: tkL f n home (n - (i + 1)) (tEnd f n i)) = _
  rw [if_neg (by omega), if_neg hb, tkL_g (n - (i + 1)) (n - tEnd f n i) (tEnd f n i) (by omega) (Nat.le_refl _)]
/-! what tokens there are -/
def okK (home : Bool) (k : Int) : Prop := k = 20 ∨ k = 21 ∨ k = 22 ∨ (k = 59 ∨ k = 43 ∨ k = 45 ∨ k = 42 ∨ k = 47 ∨ k = 40 ∨ k = 41 ∨ k = 60 ∨ k = 61 ∨ k = 62) ∨ (home = false ∧ (k = 0 ∨ (2 ≤ k ∧ k ≤ 12))) ∨ (home = true ∧ 0 ≤ k ∧ k ≤ 10)
def okT (home : Bool) (t : Tok) : Prop := okK home t.1 ∧ (t.1 = 20 → 0 ≤ t.2.2 ∧ t.2.2 < 10000)
def VT (home : Bool) : List Tok → Prop
  | [] => False
  | t :: r => okT home t ∧ (t.1 = 21 → r = []) ∧ (t.1 ≠ 21 → VT home r)
theorem kdT_ok {f : Nat → Int} {home : Bool} {i e : Nat} : okK home (kdT f home i e) ∧ kdT f home i e ≠ 21 := by
  unfold kdT
  split
  · next hL =>
    rw [isLb_iff] at hL
    unfold kwV
    cases home with
    | true =>
      rw [if_pos rfl]
      rcases kwF_r (f := f) (i := i) (e := e) homeW 0 with h | h
      · rw [h]
        exact ⟨Or.inr (Or.inr (Or.inl rfl)), by decide⟩
      · rw [show homeW.length = 11 from rfl] at h
        exact ⟨Or.inr (Or.inr (Or.inr (Or.inr (Or.inr ⟨rfl, by omega⟩)))), by omega⟩
    | false =>
      rw [if_neg (by decide)]
      have hne : kwF f i e likeW 0 ≠ 1 := by
        intro z
        unfold kwF at z
        split at z
        · omega
        · unfold kwF at z
          split at z
          · next hw =>
            unfold wq at hw
            simp only [Bool.and_eq_true, decide_eq_true_eq] at hw
            omega
          · have := kwF_r (f := f) (i := i) (e := e) likeW.tail.tail (0 + 1 + 1)
            have e2 : kwF f i e likeW.tail.tail (0 + 1 + 1) = 1 := z
            omega
      rcases kwF_r (f := f) (i := i) (e := e) likeW 0 with h | h
      · rw [h]
        exact ⟨Or.inr (Or.inr (Or.inl rfl)), by decide⟩
      · rw [show likeW.length = 13 from rfl] at h
        exact ⟨Or.inr (Or.inr (Or.inr (Or.inr (Or.inl ⟨rfl, by omega⟩)))), by omega⟩
  · split
    · split
      · exact ⟨Or.inl rfl, by decide⟩
      · exact ⟨Or.inr (Or.inr (Or.inl rfl)), by decide⟩
    · unfold kdS
      split
      · next h => exact ⟨Or.inr (Or.inr (Or.inr (Or.inl h))), by omega⟩
      · exact ⟨Or.inr (Or.inr (Or.inl rfl)), by decide⟩
theorem kdT_20 {f : Nat → Int} {home : Bool} {n i : Nat} (h : i < n) (hk : kdT f home i (tEnd f n i) = 20) : 0 ≤ numV f (min (tEnd f n i - i) 4) i 0 ∧ numV f (min (tEnd f n i - i) 4) i 0 < 10000 := by
  have hD : isDb (f i) = true ∧ ¬ isLb (f i) = true := by
    unfold kdT at hk
    split at hk
    · next hL =>
      exfalso
      unfold kwV at hk
      cases home with
      | true =>
        rw [if_pos rfl] at hk
        have := kwF_r (f := f) (i := i) (e := tEnd f n i) homeW 0
        rw [show homeW.length = 11 from rfl] at this
        omega
      | false =>
        rw [if_neg (by decide)] at hk
        have := kwF_r (f := f) (i := i) (e := tEnd f n i) likeW 0
        rw [show likeW.length = 13 from rfl] at this
        omega
    · next hL =>
      split at hk
      · next hD => exact ⟨hD, hL⟩
      · exfalso
        unfold kdS at hk
        split at hk <;> omega
  have hr := run_b (P := isDb) (f := f) (n := n) (n - i) i (by omega)
  rw [← tEnd_D h hD.2 hD.1] at hr
  have hb := numV_b (f := f) (min (tEnd f n i - i) 4) i 0 1 (fun j h1 h2 => isDb_iff.1 (hr.2.2 j h1 (by omega))) (by omega) (by omega)
  refine ⟨hb.1, Int.lt_of_lt_of_le hb.2 ?_⟩
  have h4 : min (tEnd f n i - i) 4 ≤ 4 := Nat.min_le_right _ _
  generalize min (tEnd f n i - i) 4 = m at h4
  have : m = 0 ∨ m = 1 ∨ m = 2 ∨ m = 3 ∨ m = 4 := by omega
  rcases this with rfl | rfl | rfl | rfl | rfl <;> decide
theorem TK_v {f : Nat → Int} {n : Nat} {home : Bool} : ∀ (m i : Nat), n - i ≤ m → VT home (TK f n home i) := by
  intro m
  induction m with
  | zero =>
    intro i hi
    rw [TK_e (by omega)]
    exact ⟨⟨Or.inr (Or.inl rfl), fun z => absurd (show (21 : Int) = 20 from z) (by decide)⟩, fun _ => rfl, fun z => absurd rfl z⟩
  | succ m ih =>
    intro i hi
    by_cases hn : n ≤ i
    · rw [TK_e hn]
      exact ⟨⟨Or.inr (Or.inl rfl), fun z => absurd (show (21 : Int) = 20 from z) (by decide)⟩, fun _ => rfl, fun z => absurd rfl z⟩
    · by_cases hb : f i = 32 ∨ f i = 10
      · rw [TK_b (by omega) hb]
        exact ih (i + 1) (by omega)
      · have hb2 := tEnd_b (f := f) (n := n) (i := i) (by omega)
        rw [TK_c (by omega) hb]
        exact ⟨⟨kdT_ok.1, fun hk => kdT_20 (by omega) hk⟩, fun z => absurd z kdT_ok.2, fun _ => ih _ (by omega)⟩
theorem TK_len {f : Nat → Int} {n : Nat} {home : Bool} : ∀ (m i : Nat), n - i ≤ m → (TK f n home i).length ≤ (n - i) + 1 := by
  intro m
  induction m with
  | zero =>
    intro i hi
    rw [TK_e (by omega)]
    show 1 ≤ _
    omega
  | succ m ih =>
    intro i hi
    by_cases hn : n ≤ i
    · rw [TK_e hn]
      show 1 ≤ _
      omega
    · by_cases hb : f i = 32 ∨ f i = 10
      · rw [TK_b (by omega) hb]
        have := ih (i + 1) (by omega)
        omega
      · have hb2 := tEnd_b (f := f) (n := n) (i := i) (by omega)
        rw [TK_c (by omega) hb, List.length_cons]
        have := ih (tEnd f n i) (by omega)
        omega
def hdT (ts : List Tok) : Tok := ts.headD (21, 0, 0)
theorem VT.c {home : Bool} {ts : List Tok} (h : VT home ts) : ts = hdT ts :: ts.tail ∧ okT home (hdT ts) ∧ ((hdT ts).1 ≠ 21 → VT home ts.tail) := by
  cases ts with
  | nil => exact absurd h id
  | cons t r => exact ⟨rfl, h.1, h.2.2⟩
/-! the reference's name of a kind -/
def tkM (home : Bool) (k : Int) : Int := if k = 20 then 2 else if k = 21 then 0 else if k = 22 then 1 else if 22 < k then 100 + k else if k = 2 then 3 else if k = 3 then 4 else if k = 4 then 5 else if k = 5 then 6 else if home = true then (if k = 0 then 21 else if k = 1 then 22 else 42 + k) else (if k = 0 then 20 else 35 + k)

theorem tm_143 {home : Bool} {k : Int} (h : okK home k) : tkM home k = 143 ↔ k = 43 := by
  unfold tkM
  unfold okK at h
  cases home <;> simp only [Bool.false_eq_true, if_true, if_false, false_and, or_false, true_and, false_or, reduceCtorEq] at h ⊢ <;> (repeat' split) <;> omega
theorem tm_145 {home : Bool} {k : Int} (h : okK home k) : tkM home k = 145 ↔ k = 45 := by
  unfold tkM
  unfold okK at h
  cases home <;> simp only [Bool.false_eq_true, if_true, if_false, false_and, or_false, true_and, false_or, reduceCtorEq] at h ⊢ <;> (repeat' split) <;> omega
theorem tm_142 {home : Bool} {k : Int} (h : okK home k) : tkM home k = 142 ↔ k = 42 := by
  unfold tkM
  unfold okK at h
  cases home <;> simp only [Bool.false_eq_true, if_true, if_false, false_and, or_false, true_and, false_or, reduceCtorEq] at h ⊢ <;> (repeat' split) <;> omega
theorem tm_147 {home : Bool} {k : Int} (h : okK home k) : tkM home k = 147 ↔ k = 47 := by
  unfold tkM
  unfold okK at h
  cases home <;> simp only [Bool.false_eq_true, if_true, if_false, false_and, or_false, true_and, false_or, reduceCtorEq] at h ⊢ <;> (repeat' split) <;> omega
theorem tm_140 {home : Bool} {k : Int} (h : okK home k) : tkM home k = 140 ↔ k = 40 := by
  unfold tkM
  unfold okK at h
  cases home <;> simp only [Bool.false_eq_true, if_true, if_false, false_and, or_false, true_and, false_or, reduceCtorEq] at h ⊢ <;> (repeat' split) <;> omega
theorem tm_141 {home : Bool} {k : Int} (h : okK home k) : tkM home k = 141 ↔ k = 41 := by
  unfold tkM
  unfold okK at h
  cases home <;> simp only [Bool.false_eq_true, if_true, if_false, false_and, or_false, true_and, false_or, reduceCtorEq] at h ⊢ <;> (repeat' split) <;> omega
theorem tm_159 {home : Bool} {k : Int} (h : okK home k) : tkM home k = 159 ↔ k = 59 := by
  unfold tkM
  unfold okK at h
  cases home <;> simp only [Bool.false_eq_true, if_true, if_false, false_and, or_false, true_and, false_or, reduceCtorEq] at h ⊢ <;> (repeat' split) <;> omega
theorem tm_160 {home : Bool} {k : Int} (h : okK home k) : tkM home k = 160 ↔ k = 60 := by
  unfold tkM
  unfold okK at h
  cases home <;> simp only [Bool.false_eq_true, if_true, if_false, false_and, or_false, true_and, false_or, reduceCtorEq] at h ⊢ <;> (repeat' split) <;> omega
theorem tm_161 {home : Bool} {k : Int} (h : okK home k) : tkM home k = 161 ↔ k = 61 := by
  unfold tkM
  unfold okK at h
  cases home <;> simp only [Bool.false_eq_true, if_true, if_false, false_and, or_false, true_and, false_or, reduceCtorEq] at h ⊢ <;> (repeat' split) <;> omega
theorem tm_162 {home : Bool} {k : Int} (h : okK home k) : tkM home k = 162 ↔ k = 62 := by
  unfold tkM
  unfold okK at h
  cases home <;> simp only [Bool.false_eq_true, if_true, if_false, false_and, or_false, true_and, false_or, reduceCtorEq] at h ⊢ <;> (repeat' split) <;> omega
theorem tm_2 {home : Bool} {k : Int} (h : okK home k) : tkM home k = 2 ↔ k = 20 := by
  unfold tkM
  unfold okK at h
  cases home <;> simp only [Bool.false_eq_true, if_true, if_false, false_and, or_false, true_and, false_or, reduceCtorEq] at h ⊢ <;> (repeat' split) <;> omega
theorem tm_3 {home : Bool} {k : Int} (h : okK home k) : tkM home k = 3 ↔ k = 2 := by
  unfold tkM
  unfold okK at h
  cases home <;> simp only [Bool.false_eq_true, if_true, if_false, false_and, or_false, true_and, false_or, reduceCtorEq] at h ⊢ <;> (repeat' split) <;> omega
theorem tm_4 {home : Bool} {k : Int} (h : okK home k) : tkM home k = 4 ↔ k = 3 := by
  unfold tkM
  unfold okK at h
  cases home <;> simp only [Bool.false_eq_true, if_true, if_false, false_and, or_false, true_and, false_or, reduceCtorEq] at h ⊢ <;> (repeat' split) <;> omega
theorem tm_5 {home : Bool} {k : Int} (h : okK home k) : tkM home k = 5 ↔ k = 4 := by
  unfold tkM
  unfold okK at h
  cases home <;> simp only [Bool.false_eq_true, if_true, if_false, false_and, or_false, true_and, false_or, reduceCtorEq] at h ⊢ <;> (repeat' split) <;> omega
theorem tm_6 {home : Bool} {k : Int} (h : okK home k) : tkM home k = 6 ↔ k = 5 := by
  unfold tkM
  unfold okK at h
  cases home <;> simp only [Bool.false_eq_true, if_true, if_false, false_and, or_false, true_and, false_or, reduceCtorEq] at h ⊢ <;> (repeat' split) <;> omega
theorem tm_0 {home : Bool} {k : Int} (h : okK home k) : tkM home k = 0 ↔ k = 21 := by
  unfold tkM
  unfold okK at h
  cases home <;> simp only [Bool.false_eq_true, if_true, if_false, false_and, or_false, true_and, false_or, reduceCtorEq] at h ⊢ <;> (repeat' split) <;> omega
theorem tm_nm {home : Bool} {k : Int} (h : okK home k) : ((41 ≤ tkM home k ∧ tkM home k ≤ 52) ↔ (6 ≤ k ∧ k < 20)) ∧ (6 ≤ k → k < 20 → tkM home k = if home = true then 42 + k else 35 + k) := by
  unfold tkM
  unfold okK at h
  cases home <;> simp only [Bool.false_eq_true, if_true, if_false, false_and, or_false, true_and, false_or, reduceCtorEq] at h ⊢ <;> (repeat' split) <;> omega
theorem tm_ln {home : Bool} {k : Int} (h : okK home k) : (home = false → (tkM home k = 20 ↔ k < 2) ∧ (k < 2 → k = 0)) ∧ (home = true → ((21 ≤ tkM home k ∧ tkM home k ≤ 22) ↔ k < 2) ∧ (k < 2 → tkM home k = 21 + k ∧ (k = 0 ∨ k = 1))) := by
  unfold tkM
  unfold okK at h
  cases home <;> simp only [Bool.false_eq_true, if_true, if_false, false_and, or_false, true_and, false_or, reduceCtorEq, true_implies, false_implies, and_true] at h ⊢ <;> (repeat' split) <;> omega
