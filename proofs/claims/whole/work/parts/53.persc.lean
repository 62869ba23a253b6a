abbrev PCS : List Nat := [15, 68, 69, 72, 73, 74, 75, 76, 78]
theorem knB_k {S : List Nat} {I I' : MI} (hf : frK S I I') (hS : ∀ k ∈ [7, 9, 10], k ∉ S) : knB I' = knB I := by
  funext e
  unfold knB atT
  rw [hf 7 (hS 7 (by decide)), hf 9 (hS 9 (by decide)), hf 10 (hS 10 (by decide))]
theorem bIn_n {al : Nat → Nat → Bool} {kn : Nat → Bool} {p : Int} {q m o : Nat} {s : (Nat → Int) × List Nat} (h : ¬ (s.1 o = -1 ∧ kn o = true ∧ al q o = true)) : bIn al kn p q (m + 1) o s = bIn al kn p q m (o + 1) s := by
  show bIn al kn p q m (o + 1) (if _ then _ else _) = _
  rw [if_neg h]
theorem bIn_y {al : Nat → Nat → Bool} {kn : Nat → Bool} {p : Int} {q m o : Nat} {s : (Nat → Int) × List Nat} (h : s.1 o = -1 ∧ kn o = true ∧ al q o = true) : bIn al kn p q (m + 1) o s = bIn al kn p q m (o + 1) (up1 s.1 o p, s.2 ++ [o]) := by
  show bIn al kn p q m (o + 1) (if _ then _ else _) = _
  rw [if_pos h]
theorem bQu_n {al : Nat → Nat → Bool} {kn : Nat → Bool} {told : Nat} {p : Int} {f i : Nat} {s : (Nat → Int) × List Nat} (h : s.2[i]? = none) : bQu al kn told p f i s = s := by
  cases f with
  | zero => rfl
  | succ f =>
    unfold bQu
    rw [h]
theorem bQu_s {al : Nat → Nat → Bool} {kn : Nat → Bool} {told : Nat} {p : Int} {f i q : Nat} {s : (Nat → Int) × List Nat} (h : s.2[i]? = some q) : bQu al kn told p (f + 1) i s = bQu al kn told p f (i + 1) (bIn al kn p q told 0 s) := by
  show (match s.2[i]? with | none => s | some q => bQu al kn told p f (i + 1) (bIn al kn p q told 0 s)) = _
  rw [h]
theorem bAll_n {al : Nat → Nat → Bool} {kn : Nat → Bool} {told m e : Nat} {s : (Nat → Int) × List Nat} (h : ¬ (s.1 e = -1 ∧ kn e = true)) : bAll al kn told (m + 1) e s = bAll al kn told m (e + 1) s := by
  show bAll al kn told m (e + 1) (if _ then _ else _) = _
  rw [if_neg h]
theorem bAll_y {al : Nat → Nat → Bool} {kn : Nat → Bool} {told m e : Nat} {s : (Nat → Int) × List Nat} (h : s.1 e = -1 ∧ kn e = true) : bAll al kn told (m + 1) e s = bAll al kn told m (e + 1) ((bQu al kn told s.2.length (told + 1) 0 (up1 s.1 e s.2.length, [e])).1, s.2 ++ [e]) := by
  show bAll al kn told m (e + 1) (if _ then _ else _) = _
  rw [if_pos h]
theorem cntE_z {f : Nat → Bool} (h : ∀ i, f i = false) : ∀ n, cntE f n = 0
  | 0 => rfl
  | n + 1 => by
    unfold cntE
    rw [cntE_z h n, h n]
    rfl
theorem app_some {Q : List Nat} {e i q : Nat} (h : (Q ++ [e])[i]? = some q) : (i < Q.length ∧ Q[i]? = some q) ∨ (i = Q.length ∧ q = e) := by
  by_cases hi : i < Q.length
  · rw [List.getElem?_append_left hi] at h
    exact Or.inl ⟨hi, h⟩
  · rw [List.getElem?_append_right (by omega)] at h
    have : i - Q.length = 0 := by
      cases hd : i - Q.length with
      | zero => rfl
      | succ d => rw [hd] at h; simp at h
    rw [this] at h
    simp at h
    exact Or.inr ⟨by omega, h.symm⟩
theorem PR.new {I I' : MI} {J J' : MJ} {told : Nat} {cls : Nat → Int} {L : List Nat} {e : Nat} (h : PR I J told cls L) (hc : ∀ o, cls o < L.length) (e8 : I' 8 = I 8) (e73 : I' 73 = I 73) (e72 : I' 72 0 = L.length + 1) (e75 : ∀ j, I' 75 j = if j = L.length then (e : Int) else I 75 j) (e74 : ∀ j, I' 74 j = if j = L.length then 0 else I 74 j) (e76 : ∀ j, I' 76 j = if j = L.length then 0 else I 76 j) (j77 : ∀ j, J' 77 j = if j = L.length then 0#64 else J 77 j) : PR I' J' told cls (L ++ [e]) := by
  obtain ⟨h1, h2, h3⟩ := h
  refine ⟨by rw [e72]; simp, fun j hj => by rw [e73]; exact h2 j hj, fun q x hq => ?_⟩
  rw [srt_c e8, inHs_c e8, e75, e74, e76, j77]
  rcases app_some hq with ⟨hq1, hq2⟩ | ⟨rfl, rfl⟩
  · rw [if_neg (by omega), if_neg (by omega), if_neg (by omega), if_neg (by omega)]
    exact h3 q x hq2
  · have hz : ∀ i, decide (cls i = (L.length : Int)) = false := fun i => decide_eq_false (by have := hc i; omega)
    rw [if_pos rfl, if_pos rfl, if_pos rfl, if_pos rfl]
    refine ⟨rfl, (cntE_z hz told).symm, ?_, fun s hs => ?_⟩
    · rw [srt_u, cntE_z (fun i => by rw [hz i]; rfl), cntE_z (fun i => by rw [hz i]; rfl)]
      rfl
    · unfold inHs
      rw [cntE_z (fun i => by rw [hz i]; rfl)]
      simp
section PERSC
variable {G : Ctx} {h n : Nat} {I : MI} {J : MJ} {b : B3} {a : BitVec 64}
theorem s83 {K : MI → MJ → B3 → Prop} {p e told : Nat} {cls : Nat → Int} {L Q : List Nat} (hh : 3 ≤ h) (hT : rTown 0 92 I) (hB : rBook 0 92 I) (hto : I 7 0 = told) (hP : PR I J told cls L) (hp : p < L.length) (hL : L.length ≤ 120) (he : e < told) (hc : cls e = -1) (hQ : I 74 p = Q.length) (hQ2 : Q.length < 120) (hq : ∀ i q : Nat, Q[i]? = some q → I 78 i = q) (k : ∀ I2 J2, frK [73, 74, 76, 78] I I2 → frJ [77] J J2 → PR I2 J2 told (up1 cls e p) L → (∀ i q : Nat, (Q ++ [e])[i]? = some q → I2 78 i = q) → K I2 J2 b) : TriM G h 83 119 119 [vr 72, vi (p : Int), vi (e : Int)] (I, J, PP b) (cVN K) := by
  have b1 := hB.1
  simp only [Nat.reduceAdd] at b1
  have t1 := hT.1
  simp only [Nat.reduceAdd] at t1
  have ef := ent_f hB (e := e) (by omega)
  refine x83_m hh (fun h hh => x83 (by omega) ?_)
  simp only [toN]
  rw [hQ, toN, w32_id (x := (Q.length : Int) + 1) (by omega) (by omega)]
  refine ⟨by omega, fun _ => ⟨by omega, by omega, by omega, by omega, by omega, by omega, by omega, by omega, by omega, ?_⟩, fun q => by omega⟩
  refine ⟨_, _, _, rfl, rfl, k _ _ ((((frK.r.u (by decide)).u (by decide)).u (by decide)).u (by decide)) (frJ.r.u (by decide)) (hP.join hp he (by omega) hc (by omega) (by omega) ?_ ?_ ?_ ?_ ?_ ?_ ?_) ?_⟩
  · rw [u2_ne (by decide), u2_ne (by decide), u2_ne (by decide), u2_ne (by decide)]
  · rw [u2_ne (by decide), u2_ne (by decide), u2_ne (by decide), u2_ne (by decide)]
  · rw [u2_ne (by decide), u2_ne (by decide), u2_ne (by decide), u2_ne (by decide)]
  · intro j
    rw [u2_ne (by decide), u2_at, u2_ne (by decide), u2_ne (by decide)]
  · intro j
    rw [u2_ne (by decide), u2_ne (by decide), u2_at, u2_ne (by decide), hQ]
  · intro j
    rw [u2_at, u2_ne (by decide), u2_ne (by decide), u2_ne (by decide)]
    rfl
  · intro j
    rw [u2_at]
    rfl
  · intro i q hi
    rw [u2_ne (by decide), u2_ne (by decide), u2_ne (by decide), u2_at]
    rcases app_some hi with ⟨h1, h2⟩ | ⟨rfl, rfl⟩
    · rw [if_neg (by omega)]
      exact hq i q h2
    · rw [if_pos rfl]
/-- while a person is gathered -/
def GS (p0 p1 : List Lin) (I : MI) (J : MJ) (told bnd p : Nat) (L : List Nat) (I' : MI) (J' : MJ) (s : (Nat → Int) × List Nat) : Prop := (frK PCS I I' ∧ frJ [70, 71, 77] J J' ∧ likI p0 p1 I' J') ∧ PR I' J' told s.1 L ∧ PQ told bnd (knB I) p s ∧ (∀ i q : Nat, s.2[i]? = some q → I' 78 i = q) ∧ I' 72 3 = 0 ∧ I' 72 10 = -1
theorem s82_in {Q : MP} {p0 p1 : List Lin} {told first p i q : Nat} {L : List Nat} (hh : 5 ≤ h) (hT : rTown 0 92 I) (hB : rBook 0 92 I) (ht : rTxt 13 92 0 I false p0) (hto : I 7 0 = told) (hp : p < L.length) (hL : L.length ≤ 120) (hi : i < 120) : ∀ (m o : Nat) (I' : MI) (J' : MJ) (s : (Nat → Int) × List Nat), o + m = told → GS p0 p1 I J told (first + 1) p L I' J' s → s.2[i]? = some q → (∀ I2 J2, GS p0 p1 I J told (first + 1) p L I2 J2 (bIn (alN p0 I) (knB I) p q m o s) → Tri G h 82 119 119 61 [some (vr 72), some (vi (first : Int)), some (vi (p : Int)), some (vi ((i : Int) + 1))] [] (I2, J2, PP b) Q) → Tri G h 82 119 119 82 [some (vr 72), some (vi (first : Int)), some (vi (p : Int)), some (vi (i : Int)), some (vi (o : Int))] [] (I', J', PP b) Q := by
  have b1 := hB.1
  simp only [Nat.reduceAdd] at b1
  intro m
  induction m with
  | zero =>
    intro o I' J' s ho hG hsi k
    have e7 := hG.1.1 7 (by decide)
    refine x82_82 hh ⟨fun _ => ?_, fun q9 => by rw [e7] at q9; omega⟩
    rw [w32_id (by omega) (by omega)]
    exact k I' J' hG
  | succ m ih =>
    intro o I' J' s ho hG hsi k
    obtain ⟨⟨hf, hj, hl⟩, hP, hPQ, hqu, h3, h10⟩ := id hG
    have e7 := hf 7 (by decide)
    have ek : knB I' = knB I := knB_k hf (by decide)
    have e73 := hP.2.1 o (by omega)
    have hB' := hB.k hf (by decide)
    have hT' := hT.k hf (by decide)
    have no : ¬ (s.1 o = -1 ∧ knB I o = true ∧ alN p0 I q o = true) → ∀ I2 J2, GS p0 p1 I J told (first + 1) p L I2 J2 s → Tri G h 82 119 119 82 [some (vr 72), some (vi (first : Int)), some (vi (p : Int)), some (vi (i : Int)), some (vi (w32 ((o : Int) + 1)))] [] (I2, J2, PP b) Q := by
      intro hn I2 J2 hG2
      rw [bIn_n hn] at k
      rw [w32_id (by omega) (by omega)]
      exact ih (o + 1) I2 J2 s (by omega) hG2 hsi k
    refine x82_82 hh ?_
    rw [e7, toN, e73, ek]
    refine ⟨fun q9 => by omega, fun _ => ⟨by omega, fun q1 => no (fun z => q1 z.1) I' J' hG, fun q1 => ⟨⟨hB', by omega, by omega⟩, fun q2 => ⟨by omega, ?_⟩, fun q2 => no (fun z => q2 z.2.1) I' J' hG⟩⟩⟩
    have hc : s.1 o = -1 := Decidable.of_not_not q1
    have hqm := hPQ.1 q (List.mem_of_getElem? hsi)
    have hne : q ≠ o := by
      intro z
      rw [z, hc] at hqm
      omega
    rw [toN, hqu i q hsi]
    refine s58_0 (by omega) hT' hB' (ht.k hf (by decide) (by decide) (by decide)) hl (x := q) (y := o) (by rw [e7]; omega) (by rw [e7]; omega) hne fun I2 J2 hf2 hj2 hl2 => ?_
    rw [alN_k p0 hf (by decide)]
    have hP2 : PR I2 J2 told s.1 L := hP.k hf2 (by decide) hj2 (by decide)
    have hG2 : GS p0 p1 I J told (first + 1) p L I2 J2 s := ⟨⟨hf.t (hf2.mo (by decide)), hj.t (hj2.mo (by decide)), hl2⟩, hP2, hPQ, fun i2 q2 h2 => by rw [hf2 78 (by decide)]; exact hqu i2 q2 h2, by rw [hf2 72 (by decide)]; exact h3, by rw [hf2 72 (by decide)]; exact h10⟩
    cases ha : alN p0 I q o with
    | false => exact ⟨fun _ => no (fun z => by rw [ha] at z; exact absurd z.2.2 (by decide)) I2 J2 hG2, fun q9 => absurd rfl q9⟩
    | true =>
      refine ⟨fun q9 => absurd q9 (by decide), fun _ => ?_⟩
      obtain ⟨x, hx⟩ : ∃ x, L[p]? = some x := ⟨L[p], List.getElem?_eq_getElem hp⟩
      have hcnt := (hP2.2.2 p x hx).2.1
      rw [hPQ.2.2.1] at hcnt
      have hroom := hPQ.room (by omega) (show o < told by omega) hc
      refine s83 (by omega) (hT'.k hf2 (by decide)) (hB'.k hf2 (by decide)) (by rw [hf2 7 (by decide), e7]; exact hto) hP2 hp hL (by omega) hc hcnt (by omega) hG2.2.2.2.1 fun I3 J3 hf3 hj3 hP3 hq3 => ?_
      rw [bIn_y ⟨hc, q2, ha⟩] at k
      rw [w32_id (by omega) (by omega)]
      refine ih (o + 1) I3 J3 (up1 s.1 o p, s.2 ++ [o]) (by omega) ⟨⟨hG2.1.1.t (hf3.mo (by decide)), hG2.1.2.1.t (hj3.mo (by decide)), hl2.k hf3 (by decide) (hj3 70 (by decide)) (hj3 71 (by decide))⟩, hP3, hPQ.step (by omega) (by omega) hc, hq3, by rw [hf3 72 (by decide)]; exact hG2.2.2.2.2.1, by rw [hf3 72 (by decide)]; exact hG2.2.2.2.2.2⟩ ?_ k
      show (s.2 ++ [o])[i]? = some q
      rw [List.getElem?_append_left (List.getElem?_eq_some_iff.1 hsi).1]
      exact hsi
theorem s82_qu {Q : MP} {p0 p1 : List Lin} {told first p : Nat} {L : List Nat} (hh : 5 ≤ h) (hT : rTown 0 92 I) (hB : rBook 0 92 I) (ht : rTxt 13 92 0 I false p0) (hto : I 7 0 = told) (hp : p < L.length) (hL : L.length ≤ 120) (hfi : first < told) : ∀ (f i : Nat) (I' : MI) (J' : MJ) (s : (Nat → Int) × List Nat), f + i = told + 1 → GS p0 p1 I J told (first + 1) p L I' J' s → (∀ I2 J2, GS p0 p1 I J told (first + 1) p L I2 J2 (bQu (alN p0 I) (knB I) told p f i s) → Q none (I2, J2, PP b)) → Tri G h 82 119 119 61 [some (vr 72), some (vi (first : Int)), some (vi (p : Int)), some (vi (i : Int))] [] (I', J', PP b) Q := by
  have b1 := hB.1
  simp only [Nat.reduceAdd] at b1
  obtain ⟨x, hx⟩ : ∃ x, L[p]? = some x := ⟨L[p], List.getElem?_eq_getElem hp⟩
  intro f
  induction f with
  | zero =>
    intro i I' J' s hf hG k
    have hcnt := (hG.2.1.2.2 p x hx).2.1
    rw [hG.2.2.1.2.2.1] at hcnt
    have hlen := hG.2.2.1.len
    refine x82_61 (Nat.zero_le _) ?_
    rw [toN, hcnt]
    exact ⟨by omega, fun _ => k I' J' hG, fun q => by omega⟩
  | succ f ih =>
    intro i I' J' s hf hG k
    have hcnt := (hG.2.1.2.2 p x hx).2.1
    rw [hG.2.2.1.2.2.1] at hcnt
    have hlen := hG.2.2.1.len
    refine x82_61 (Nat.zero_le _) ?_
    rw [toN, hcnt]
    by_cases hi : s.2.length ≤ i
    · have hn : s.2[i]? = none := List.getElem?_eq_none hi
      rw [bQu_n hn] at k
      exact ⟨by omega, fun _ => k I' J' hG, fun q => by omega⟩
    · obtain ⟨q, hq⟩ : ∃ q, s.2[i]? = some q := ⟨s.2[i], List.getElem?_eq_getElem (by omega)⟩
      rw [bQu_s hq, show told = (first + 1) + (told - (first + 1)) by omega, bIn_skip (first + 1) (told - (first + 1)) 0 (fun j _ h2 => hG.2.2.1.2.2.2.2 j (by omega)), ← show told = (first + 1) + (told - (first + 1)) by omega] at k
      refine ⟨by omega, fun q9 => by omega, fun _ => ⟨fun q9 => by omega, fun _ => ?_⟩⟩
      rw [w32_id (by omega) (by omega)]
      refine s82_in hh hT hB ht hto hp hL (by omega) (told - (first + 1)) (first + 1) I' J' s (by omega) hG hq fun I2 J2 hG2 => ih (i + 1) I2 J2 _ (by omega) hG2 ?_
      rw [Nat.zero_add] at k
      exact k
/-- between two persons -/
def OSt (p0 p1 : List Lin) (I : MI) (J : MJ) (told e : Nat) (I' : MI) (J' : MJ) (s : (Nat → Int) × List Nat) : Prop := (frK PCS I I' ∧ frJ [70, 71, 77] J J' ∧ likI p0 p1 I' J') ∧ PR I' J' told s.1 s.2 ∧ (s.2.length ≤ e ∧ (∀ o, told ≤ o → s.1 o = -1) ∧ (∀ o, -1 ≤ s.1 o ∧ s.1 o < s.2.length) ∧ ∀ o, o < e → s.1 o ≠ -1 ∨ knB I o = false) ∧ I' 72 3 = 0 ∧ I' 72 10 = -1
theorem s82 {K : MI → MJ → B3 → Prop} {p0 p1 : List Lin} {told e : Nat} {I' : MI} {J' : MJ} {s : (Nat → Int) × List Nat} (hh : 6 ≤ h) (hT : rTown 0 92 I) (hB : rBook 0 92 I) (ht : rTxt 13 92 0 I false p0) (hto : I 7 0 = told) (he : e < told) (hO : OSt p0 p1 I J told e I' J' s) (hc : s.1 e = -1) (k : ∀ I2 J2, OSt p0 p1 I J told (e + 1) I2 J2 ((bQu (alN p0 I) (knB I) told s.2.length (told + 1) 0 (up1 s.1 e s.2.length, [e])).1, s.2 ++ [e]) → K I2 J2 b) : TriM G h 82 119 119 [vr 72, vi (e : Int)] (I', J', PP b) (cVN K) := by
  have b1 := hB.1
  simp only [Nat.reduceAdd] at b1
  obtain ⟨⟨hf, hj, hl⟩, hP, ⟨o1, o2, o3, o4⟩, h3, h10⟩ := hO
  have hN := hP.1
  refine x82_m hh (fun h hh => x82 (by omega) ?_)
  rw [hN, toN, w32_id (by omega) (by omega)]
  refine ⟨fun _ => ⟨by omega, by omega, by omega, by omega, ?_⟩, fun q => by omega⟩
  have hf1 : frK [72, 74, 75, 76] I' (u2 (u2 (u2 (u2 I' 75 s.2.length e) 74 s.2.length 0) 76 s.2.length 0) 72 0 ((s.2.length : Int) + 1)) := (((frK.r.u (by decide)).u (by decide)).u (by decide)).u (by decide)
  have hj1 : frJ [77] J' (u2 J' 77 s.2.length (0#64)) := frJ.r.u (by decide)
  have h72 : ∀ j, j ≠ 0 → (u2 (u2 (u2 (u2 I' 75 s.2.length e) 74 s.2.length 0) 76 s.2.length 0) 72 0 ((s.2.length : Int) + 1)) 72 j = I' 72 j := fun j hj0 => by rw [u2_at, if_neg hj0, u2_ne (by decide), u2_ne (by decide), u2_ne (by decide)]
  have hP1 : PR (u2 (u2 (u2 (u2 I' 75 s.2.length e) 74 s.2.length 0) 76 s.2.length 0) 72 0 ((s.2.length : Int) + 1)) (u2 J' 77 s.2.length (0#64)) told s.1 (s.2 ++ [e]) := by
    refine hP.new (fun o => (o3 o).2) (hf1 8 (by decide)) (hf1 73 (by decide)) u2e (fun j => ?_) (fun j => ?_) (fun j => ?_) (fun j => ?_)
    · rw [u2_ne (by decide), u2_ne (by decide), u2_ne (by decide), u2_at]
    · rw [u2_ne (by decide), u2_ne (by decide), u2_at, u2_ne (by decide)]
    · rw [u2_ne (by decide), u2_at, u2_ne (by decide), u2_ne (by decide)]
    · rw [u2_at]
  have h74 : (u2 (u2 (u2 (u2 I' 75 s.2.length e) 74 s.2.length 0) 76 s.2.length 0) 72 0 ((s.2.length : Int) + 1)) 74 s.2.length = (([] : List Nat).length : Nat) := by
    rw [u2_ne (by decide), u2_ne (by decide), u2_at, if_pos rfl]
    rfl
  generalize u2 (u2 (u2 (u2 I' 75 s.2.length e) 74 s.2.length 0) 76 s.2.length 0) 72 0 ((s.2.length : Int) + 1) = I1 at hf1 hP1 h74 h72
  generalize u2 J' 77 s.2.length (0#64) = J1 at hj1 hP1
  have hlL : (s.2 ++ [e]).length = s.2.length + 1 := by simp
  have hl1 : likI p0 p1 I1 J1 := hl.k hf1 (by decide) (hj1 70 (by decide)) (hj1 71 (by decide))
  refine s83 (by omega) ((hT.k hf (by decide)).k hf1 (by decide)) ((hB.k hf (by decide)).k hf1 (by decide)) (by rw [hf1 7 (by decide), hf 7 (by decide)]; exact hto) hP1 (p := s.2.length) (by omega) (by omega) he hc h74 (by decide) (fun i q h => by simp at h) fun I2 J2 hf2 hj2 hP2 hq2 => ?_
  have hPQ0 : PQ told e (knB I) s.2.length (s.1, []) := ⟨fun q hq => by simp at hq, o2, by rw [cntE_z (fun i => decide_eq_false (by have := (o3 i).2; show ¬ s.1 i = _; omega))]; rfl, fun o => ⟨(o3 o).1, by have := (o3 o).2; show s.1 o ≤ _; omega⟩, o4⟩
  have hPQ1 := hPQ0.step (by omega) he hc
  have hPQ2 : PQ told (e + 1) (knB I) s.2.length (up1 s.1 e s.2.length, [e]) := by
    refine ⟨hPQ1.1, hPQ1.2.1, hPQ1.2.2.1, hPQ1.2.2.2.1, fun o ho => ?_⟩
    by_cases hoe : o = e
    · subst hoe
      left
      show up1 s.1 o _ o ≠ -1
      rw [up1_e]
      omega
    · exact hPQ1.2.2.2.2 o (by omega)
  refine s82_qu (I := I) (J := J) hh hT hB ht hto (p := s.2.length) (L := s.2 ++ [e]) (by omega) (by omega) he (told + 1) 0 I2 J2 (up1 s.1 e s.2.length, [e]) (by omega) ⟨⟨(hf.t (hf1.mo (by decide))).t (hf2.mo (by decide)), (hj.t (hj1.mo (by decide))).t (hj2.mo (by decide)), hl1.k hf2 (by decide) (hj2 70 (by decide)) (hj2 71 (by decide))⟩, hP2, hPQ2, hq2, by rw [hf2 72 (by decide), h72 3 (by decide)]; exact h3, by rw [hf2 72 (by decide), h72 10 (by decide)]; exact h10⟩ fun I3 J3 hG3 => ⟨_, _, _, rfl, rfl, k I3 J3 ?_⟩
  obtain ⟨a1, a2, a3, a4, a5, a6⟩ := hG3
  refine ⟨a1, a2, ⟨by rw [hlL]; omega, a3.2.1, fun o => ?_, a3.2.2.2.2⟩, a5, a6⟩
  have := a3.2.2.2.1 o
  rw [hlL]
  refine ⟨this.1, ?_⟩
  have h2 := this.2
  show (bQu (alN p0 I) (knB I) told s.2.length (told + 1) 0 (up1 s.1 e s.2.length, [e])).1 o < ((s.2.length + 1 : Nat) : Int)
  omega
theorem s81_l {Q : MP} {p0 p1 : List Lin} {told : Nat} (hh : 6 ≤ h) (hT : rTown 0 92 I) (hB : rBook 0 92 I) (ht : rTxt 13 92 0 I false p0) (hto : I 7 0 = told) : ∀ (m e : Nat) (I' : MI) (J' : MJ) (s : (Nat → Int) × List Nat), e + m = told → OSt p0 p1 I J told e I' J' s → (∀ I2 J2, OSt p0 p1 I J told told I2 J2 (bAll (alN p0 I) (knB I) told m e s) → Q none (I2, J2, PP b)) → Tri G h 81 119 119 33 [some (vr 72), some (vi (e : Int))] [] (I', J', PP b) Q := by
  have b1 := hB.1
  simp only [Nat.reduceAdd] at b1
  intro m
  induction m with
  | zero =>
    intro e I' J' s he hO k
    obtain rfl : e = told := by omega
    have e7 := hO.1.1 7 (by decide)
    exact x81_33 hh ⟨fun _ => k I' J' hO, fun q => by rw [e7] at q; omega⟩
  | succ m ih =>
    intro e I' J' s he hO k
    have hf := hO.1.1
    have e7 := hf 7 (by decide)
    have ek : knB I' = knB I := knB_k hf (by decide)
    have e73 := hO.2.1.2.1 e (by omega)
    have no : ¬ (s.1 e = -1 ∧ knB I e = true) → Tri G h 81 119 119 33 [some (vr 72), some (vi (w32 ((e : Int) + 1)))] [] (I', J', PP b) Q := by
      intro hn
      rw [bAll_n hn] at k
      rw [w32_id (by omega) (by omega)]
      obtain ⟨a1, a2, ⟨c1, c2, c3, c4⟩, a4⟩ := hO
      refine ih (e + 1) I' J' s (by omega) ⟨a1, a2, ⟨by omega, c2, c3, fun o ho => ?_⟩, a4⟩ k
      by_cases hoe : o = e
      · subst hoe
        by_cases h1 : s.1 o = -1
        · right
          cases hk : knB I o with
          | true => exact absurd ⟨h1, hk⟩ hn
          | false => rfl
        · exact Or.inl h1
      · exact c4 o (by omega)
    refine x81_33 hh ?_
    rw [e7, toN, e73, ek]
    refine ⟨fun q9 => by omega, fun _ => ⟨by omega, fun q1 => no (fun z => q1 z.1), fun q1 => ⟨⟨hB.k hf (by decide), by omega, by omega⟩, fun q2 => ?_, fun q2 => no (fun z => q2 z.2)⟩⟩⟩
    have hc : s.1 e = -1 := Decidable.of_not_not q1
    refine s82 (by omega) hT hB ht hto (by omega) hO hc fun I2 J2 hO2 => ?_
    rw [bAll_y ⟨hc, q2⟩] at k
    rw [w32_id (by omega) (by omega)]
    exact ih (e + 1) I2 J2 _ (by omega) hO2 k
theorem s81 {K : MI → MJ → B3 → Prop} {p0 p1 : List Lin} (hh : 7 ≤ h) (hT : rTown 0 92 I) (hB : rBook 0 92 I) (ht : rTxt 13 92 0 I false p0) (hl : likI p0 p1 I J) (hp : perI p0 p1 I J) (k : ∀ I2 J2, frK PCS I I2 → frJ [70, 71, 77] J J2 → likI p0 p1 I2 J2 → perI p0 p1 I2 J2 → I2 72 3 = 0 → K I2 J2 b) : TriM G h 81 119 119 [vr 72] (I, J, PP b) (cVN K) := by
  have b1 := hB.1
  simp only [Nat.reduceAdd] at b1
  obtain ⟨told, hto⟩ : ∃ t : Nat, I 7 0 = t := ⟨(I 7 0).toNat, by omega⟩
  refine x81_m hh (fun h hh => x81 (by omega) ⟨fun q => ?_, fun q => ⟨_, _, _, rfl, rfl, k I J frK.r frJ.r hl hp (Decidable.of_not_not q)⟩⟩)
  have hf1 : frK [72, 73] I (u1 (u2 (u2 (u2 I 72 3 0) 72 10 (-1)) 72 0 0) 73 (fun j => if j < 120 then (-1) else I 73 j)) := (((frK.r.u (by decide)).u (by decide)).u (by decide)).u1 (by decide)
  refine s81_l (I := I) (J := J) (by omega) hT hB ht hto told 0 _ J (fun _ => -1, []) (by omega) ⟨⟨hf1.mo (by decide), frJ.r, hl.k hf1 (by decide) rfl rfl⟩, ⟨?_, fun e he => ?_, fun p x hx => by simp at hx⟩, ⟨Nat.zero_le _, fun _ _ => rfl, fun o => ?_, fun o ho => by omega⟩, ?_, ?_⟩ fun I2 J2 hO => ⟨_, _, _, rfl, rfl, ?_⟩
  · rw [u1_ne (by decide), u2_at, if_pos rfl]
    rfl
  · rw [u1_at, if_pos he]
  · show -1 ≤ (-1 : Int) ∧ (-1 : Int) < (([] : List Nat).length : Nat)
    decide
  · rw [u1_ne (by decide), u2_at, if_neg (by decide), u2_at, if_neg (by decide), u2_at, if_pos rfl]
  · rw [u1_ne (by decide), u2_at, if_neg (by decide), u2_at, if_pos rfl]
  · obtain ⟨⟨hf, hj, hl2⟩, hP, ⟨c1, c2, c3, c4⟩, h3, h10⟩ := hO
    have hpr : prs p0 I2 = bAll (alN p0 I) (knB I) told told 0 (fun _ => -1, []) := by
      rw [prs_c p0 (hf 3 (by decide)) (hf 4 (by decide)) (hf 6 (by decide)) (hf 7 (by decide)) (hf 8 (by decide)) (hf 9 (by decide)) (hf 10 (by decide)) (hf 11 (by decide)) (hf 12 (by decide))]
      unfold prs persF
      rw [hto, toN]
    have e7 : I2 7 0 = told := by rw [hf 7 (by decide)]; exact hto
    refine k I2 J2 hf hj hl2 ⟨Or.inl h3, fun _ => ?_⟩ h3
    rw [hpr, e7, toN]
    refine ⟨hP.1, fun e he => ?_, hP.2.2, Or.inl h10⟩
    rw [hP.2.1 e he]
    split
    · rfl
    · exact c2 e (by omega)
end PERSC
