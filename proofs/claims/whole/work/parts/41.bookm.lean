section BOOKM
variable {G : Ctx} {h n : Nat} {I : MI} {J : MJ} {b : B3} {x y z u v e : Int} {a : BitVec 64}
theorem s243 {K : Int → MI → MJ → B3 → Prop} {i j : Nat} (hh : 2 ≤ h) (hB : rBook 0 92 I) (hi : (i : Int) < I 7 0) (hj : (j : Int) < I 7 0) (k1 : ordE I i < ordE I j → K 1 I J b) (k0 : ¬ ordE I i < ordE I j → K 0 I J b) : TriM G h 243 119 119 [vr 91, vi i, vi j] (I, J, PP b) (cIN K) := by
  have b1 := hB.1
  simp only [Nat.reduceAdd] at b1
  have he := ent_f hB hi
  have he2 := ent_f hB hj
  unfold ordE at k1 k0
  refine x243_m hh (fun h hh => x243 hh ?_)
  rw [he.1.2.2.2.1, he.1.2.2.2.2.1, he2.1.2.2.2.1, he2.1.2.2.2.2.1]
  have a1 := he.2
  have a2 := he2.2
  refine ⟨by omega, by omega, fun q => ⟨by omega, by omega, fun q2 => ⟨fun q3 => cIN_r fun _ => k0 (by omega), fun q3 => cIN_r fun _ => k1 (by omega)⟩, fun q2 => ⟨by omega, by omega, fun q3 => cIN_r fun _ => k0 (by omega), fun q3 => cIN_r fun _ => k1 (by omega)⟩⟩, fun q => ⟨by omega, by omega, fun q3 => cIN_r fun _ => k0 (by omega), fun q3 => cIN_r fun _ => k1 (by omega)⟩⟩
theorem ordE_k {S : List Nat} {I' : MI} (hf : frK S I I') (h8 : 8 ∉ S) : ordE I' = ordE I := by
  funext e
  unfold ordE fact
  rw [hf 8 h8]
def srtB (I : MI) (B : List Nat) : Prop := B.Pairwise (fun p q => ordE I p < ordE I q)
/-- the list with an entry put in -/
abbrev putB (B : List Nat) (t e : Nat) : List Nat := B.take t ++ e :: B.drop t
theorem putB_len {B : List Nat} {t e : Nat} (ht : t ≤ B.length) : (putB B t e).length = B.length + 1 := by
  rw [List.length_append, List.length_cons, List.length_take, List.length_drop]
  omega
theorem putB_at {B : List Nat} {t e : Nat} (ht : t ≤ B.length) {f : Nat → Int} (h1 : ∀ (s : Nat) (hs : s < B.length), s < t → f s = (B[s] : Nat)) (h2 : ∀ (s : Nat) (hs : s < B.length), t ≤ s → f (s + 1) = (B[s] : Nat)) (h3 : f t = e) : rowL f (putB B t e) := by
  intro s hs
  rw [putB_len ht] at hs
  by_cases c1 : s < t
  · rw [List.getElem_append_left (by rw [List.length_take]; omega), List.getElem_take]
    exact h1 s (by omega) c1
  · rw [List.getElem_append_right (by rw [List.length_take]; omega)]
    have el : (B.take t).length = t := by rw [List.length_take]; omega
    by_cases c2 : s = t
    · subst c2
      simp only [el, Nat.sub_self, List.getElem_cons_zero]
      exact h3
    · obtain ⟨r, hr⟩ : ∃ r, s - (B.take t).length = r + 1 := ⟨s - t - 1, by rw [el]; omega⟩
      simp only [hr, List.getElem_cons_succ, List.getElem_drop]
      have er : t + r = s - 1 := by rw [el] at hr; omega
      have := h2 (s - 1) (by omega) (by omega)
      rw [show s - 1 + 1 = s by omega] at this
      rw [this]
      simp only [er]
theorem putB_srt {B : List Nat} {t e : Nat} (ht : t ≤ B.length) (hs : srtB I B) (h1 : t = 0 ∨ ∃ hp : t - 1 < B.length, ordE I B[t - 1] < ordE I e) (h2 : ∀ (s : Nat) (hs : s < B.length), t ≤ s → ordE I e < ordE I B[s]) : srtB I (putB B t e) := by
  unfold srtB
  rw [List.pairwise_append]
  have hg := List.pairwise_iff_getElem.1 hs
  refine ⟨hs.sublist (List.take_sublist _ _), ?_, ?_⟩
  · rw [List.pairwise_cons]
    refine ⟨fun p hp => ?_, hs.sublist (List.drop_sublist _ _)⟩
    obtain ⟨s, hs1, rfl⟩ := List.mem_drop_iff_getElem.1 hp
    have := h2 (t + s) (by omega) (by omega)
    exact this
  · intro p hp q hq
    obtain ⟨s, hs1, rfl⟩ := List.mem_take_iff_getElem.1 hp
    have hst : s < t := by omega
    have hsl : s < B.length := by omega
    have hse : ordE I B[s] < ordE I e := by
      rcases h1 with h1 | ⟨hp1, h1⟩
      · omega
      · by_cases c : s = t - 1
        · subst c; exact h1
        · have := hg s (t - 1) hsl hp1 (by omega)
          omega
    rcases List.mem_cons.1 hq with rfl | hq
    · exact hse
    · obtain ⟨r, hr1, rfl⟩ := List.mem_drop_iff_getElem.1 hq
      have := h2 (t + r) (by omega) (by omega)
      omega
theorem putB_perm (B : List Nat) (t e : Nat) : (putB B t e).Perm (B ++ [e]) := by
  have h1 : (B.take t ++ e :: B.drop t).Perm (e :: (B.take t ++ B.drop t)) := List.perm_middle
  rw [List.take_append_drop] at h1
  exact h1.trans (List.perm_append_singleton e B).symm
/-- the reference's book of a counter, of the first i entries -/
def bookR (I : MI) (c k : Int) (i : Nat) (B : List Nat) : Prop := B.Perm ((List.range i).filter (byE I c k)) ∧ srtB I B
theorem bookR_lt {c k : Int} {i : Nat} {B : List Nat} (h : bookR I c k i B) {p : Nat} (hp : p ∈ B) : p < i ∧ byE I c k p = true := by
  have := h.1.mem_iff.1 hp
  rw [List.mem_filter, List.mem_range] at this
  exact this
theorem bookR_len {c k : Int} {i : Nat} {B : List Nat} (h : bookR I c k i B) : B.length ≤ i := by
  rw [h.1.length_eq]
  have := List.length_filter_le (byE I c k) (List.range i)
  rw [List.length_range] at this
  exact this
theorem s244_i {Q : MP} {i : Nat} {B : List Nat} {I0 : MI} (hh : 2 ≤ h) (hB : rBook 0 92 I0) (hi : (i : Int) < I0 7 0) (hR : bookR I0 x y i B) (k : ∀ (I2 : MI) (B2 : List Nat), frK [110] I0 I2 → bookR I0 x y i B → srtB I0 B2 → B2.Perm (B ++ [i]) → rowL (I2 110) B2 → Tri G h 244 119 119 5 [some (vr 91), some (vi x), some (vi y), some (vi ((B.length : Int) + 1)), some (vi ((i : Int) + 1))] [] (I2, J, PP b) Q) : ∀ (t : Nat) (I' : MI), t ≤ B.length → frK [110] I0 I' → (∀ (s : Nat) (hs : s < B.length), s < t → I' 110 s = (B[s] : Nat)) → (∀ (s : Nat) (hs : s < B.length), t ≤ s → I' 110 (s + 1) = (B[s] : Nat) ∧ ordE I0 i < ordE I0 B[s]) → Tri G h 244 119 119 53 [some (vr 91), some (vi x), some (vi y), some (vi B.length), some (vi i), some (vi t)] [] (I', J, PP b) Q := by
  have b1 := hB.1
  simp only [Nat.reduceAdd] at b1
  have hbl := bookR_len hR
  intro t
  induction t with
  | zero =>
    intro I' ht hf h1 h2
    refine x244_53 hh ?_
    rw [w32_id (x := (B.length : Int) + 1) (by omega) (by omega), w32_id (x := (i : Int) + 1) (by omega) (by omega)]
    refine ⟨fun _ => ⟨by omega, ?_⟩, fun q => by omega⟩
    refine k _ (putB B 0 i) (hf.u (by decide)) hR (putB_srt (Nat.zero_le _) hR.2 (Or.inl rfl) fun s hs _ => (h2 s hs (Nat.zero_le _)).2) (putB_perm B 0 i) (putB_at (Nat.zero_le _) (fun s hs c => by omega) (fun s hs c => ?_) u2e)
    show u2 I' 110 0 i 110 (s + 1) = _
    rw [u2j (by omega)]
    exact (h2 s hs c).1
  | succ t ih =>
    intro I' ht hf h1 h2
    have hp : t < B.length := by omega
    have hB' := hB.k hf (by decide)
    have e7 := hf 7 (by decide)
    have hbt := bookR_lt hR (List.getElem_mem hp)
    refine x244_53 hh ?_
    rw [w32_id (x := (B.length : Int) + 1) (by omega) (by omega), w32_id (x := (i : Int) + 1) (by omega) (by omega), w32_id (x := ((t + 1 : Nat) : Int) - 1) (by omega) (by omega), w32_id (x := ((t + 1 : Nat) : Int) + -1) (by omega) (by omega), show (((t + 1 : Nat) : Int) - 1).toNat = t by omega, h1 t hp (by omega)]
    refine ⟨fun q => by omega, fun _ => ⟨by omega, s243 (by omega) hB' (by rw [e7]; exact hi) (by rw [e7]; omega) (fun q => ⟨fun q2 => absurd q2 (by decide), fun _ => ⟨by omega, by omega, ?_⟩⟩) (fun q => ⟨fun _ => ⟨by omega, ?_⟩, fun q2 => absurd rfl q2⟩)⟩⟩
    · rw [ordE_k hf (by decide)] at q
      rw [show ((t + 1 : Nat) : Int) + -1 = t by omega, h1 t hp (by omega), toN]
      refine ih _ (by omega) (hf.u (by decide)) (fun s hs c => ?_) (fun s hs c => ?_)
      · rw [u2j (by omega)]; exact h1 s hs (by omega)
      · by_cases c2 : s = t
        · subst c2
          exact ⟨u2e, q⟩
        · rw [u2j (by omega)]; exact h2 s hs (by omega)
    · rw [ordE_k hf (by decide)] at q
      have hne : ordE I0 B[t] ≠ ordE I0 i := by
        intro he
        have := ord_inj hB (by omega) hi he
        omega
      rw [toN]
      refine k _ (putB B (t + 1) i) (hf.u (by decide)) hR (putB_srt ht hR.2 (Or.inr ⟨hp, ?_⟩) fun s hs c => (h2 s hs c).2) (putB_perm B (t + 1) i) (putB_at ht (fun s hs c => ?_) (fun s hs c => ?_) u2e)
      · show ordE I0 B[t] < ordE I0 i
        omega
      · show u2 I' 110 (t + 1) i 110 s = _
        rw [u2j (by omega)]; exact h1 s hs c
      · show u2 I' 110 (t + 1) i 110 (s + 1) = _
        rw [u2j (by omega)]; exact (h2 s hs c).1
theorem s244_l {K : Int → MI → MJ → B3 → Prop} (hh : 2 ≤ h) (hB : rBook 0 92 I) (k : ∀ (I2 : MI) (B : List Nat), frK [110] I I2 → bookR I x y (I 7 0).toNat B → rowL (I2 110) B → K B.length I2 J b) : ∀ (m i : Nat) (I' : MI) (B : List Nat), (i : Int) + m = I 7 0 → frK [110] I I' → bookR I x y i B → rowL (I' 110) B → Tri G h 244 119 119 5 [some (vr 91), some (vi x), some (vi y), some (vi B.length), some (vi i)] [] (I', J, PP b) (cIN K) := by
  have b1 := hB.1
  simp only [Nat.reduceAdd] at b1
  intro m
  induction m with
  | zero =>
    intro i I' B hi hf hR hr
    refine x244_5 hh ⟨fun q => cIN_r fun _ => k I' B hf ?_ hr, fun q => by rw [hf 92 (by decide)] at q; omega⟩
    rw [show (I 7 0).toNat = i by omega]
    exact hR
  | succ m ih =>
    intro i I' B hi hf hR hr
    have hB' := hB.k hf (by decide)
    have e7 := hf 7 (by decide)
    have e92 := hf 92 (by decide)
    have he := (ent_f hB (e := i) (by omega)).1
    have efil : (List.range (i + 1)).filter (byE I x y) = if byE I x y i = true then (List.range i).filter (byE I x y) ++ [i] else (List.range i).filter (byE I x y) := by
      rw [List.range_succ, List.filter_append]
      by_cases hb : byE I x y i = true
      · rw [if_pos hb]; simp [hb]
      · rw [if_neg hb]; simp [hb]
    have no : ¬ byE I x y i = true → Tri G h 244 119 119 5 [some (vr 91), some (vi x), some (vi y), some (vi B.length), some (vi (w32 ((i : Int) + 1)))] [] (I', J, PP b) (cIN K) := by
      intro hb
      rw [w32_id (by omega) (by omega)]
      refine ih (i + 1) I' B (by omega) hf ⟨?_, hR.2⟩ hr
      rw [efil, if_neg hb]
      exact hR.1
    rw [byE_iff] at no
    refine x244_5 hh ?_
    rw [e92, he.1, he.2.1, toN, knB_c e7 (hf 9 (by decide)) (hf 10 (by decide))]
    refine ⟨fun q => by omega, fun q => ⟨⟨hB', by omega, by rw [e7]; omega⟩, fun q2 => ⟨by omega, fun q3 => no fun z => q3 z.1, fun q3 => ⟨by omega, fun q4 => ?_, fun q4 => no fun z => q4 z.2.1⟩⟩, fun q2 => no fun z => q2 z.2.2⟩⟩
    have hb : byE I x y i = true := byE_iff.2 ⟨by omega, q4, q2⟩
    refine s244_i hh hB (by omega) hR (fun I2 B2 hf2 _ hs2 hp2 hr2 => ?_) B.length I' (Nat.le_refl _) hf (fun s hs _ => hr s hs) (fun s hs c => by omega)
    have := ih (i + 1) I2 B2 (by omega) hf2 ⟨?_, hs2⟩ hr2
    · rw [hp2.length_eq, List.length_append] at this
      exact this
    · rw [efil, if_pos hb]
      exact hp2.trans (hR.1.append_right [i])
theorem s244 {K : Int → MI → MJ → B3 → Prop} (hh : 3 ≤ h) (hB : rBook 0 92 I) (k : ∀ (I2 : MI) (B : List Nat), frK [110] I I2 → bookR I x y (I 7 0).toNat B → rowL (I2 110) B → K B.length I2 J b) : TriM G h 244 119 119 [vr 91, vi x, vi y] (I, J, PP b) (cIN K) := by
  have b1 := hB.1
  simp only [Nat.reduceAdd] at b1
  exact x244_m hh (fun h hh => x244 (Nat.zero_le _) (s244_l hh hB k (I 7 0).toNat 0 I [] (by omega) frK.r ⟨List.Perm.refl _, List.Pairwise.nil⟩ (fun t ht => by simp at ht)))
theorem cnt_cp {f P : Nat → Bool} : ∀ n, cntE (fun e => f e && P e) n = (((List.range n).filter f).countP P : Nat)
  | 0 => rfl
  | n + 1 => by
    rw [List.range_succ, List.filter_append, List.countP_append, cntE, cnt_cp n]
    cases hf : f n with
    | false => simp [hf]
    | true =>
      cases hp : P n with
      | false => simp [hf, hp]
      | true => simp [hf, hp]
theorem cnt_len {f : Nat → Bool} (n : Nat) : cntE f n = (((List.range n).filter f).length : Nat) := by
  have := cnt_cp (f := f) (P := fun _ => true) n
  rw [List.countP_true] at this
  rw [← this]
  congr 1
  funext e
  simp
theorem take_cp {P : Nat → Bool} {B : List Nat} {i : Nat} (hi : i < B.length) : (B.take (i + 1)).countP P = (B.take i).countP P + (if P B[i] = true then 1 else 0) := by
  rw [List.take_succ_eq_append_getElem hi, List.countP_append, List.countP_singleton]
theorem s245_l {K : Int → MI → MJ → B3 → Prop} {p2 : List Lin} {B : List Nat} {c : Int} {I0 : MI} (hh : 3 ≤ h) (hT : rTown 0 92 I0) (hB : rBook 0 92 I0) (ht : rTxt 19 92 2 I0 true p2) (hR : bookR I0 c 0 (I0 7 0).toNat B) (k : ∀ I2, frK [97, 98, 110] I0 I2 → K (B.countP (ghE p2 I0) : Nat) I2 J b) : ∀ (m i : Nat) (I' : MI), i + m = B.length → frK [97, 98, 110] I0 I' → rowL (I' 110) B → Tri G h 245 119 119 12 [some (vr 91), none, some (vi B.length), some (vi ((B.take i).countP (ghE p2 I0) : Nat)), some (vi i)] [] (I', J, PP b) (cIN K) := by
  have b1 := hB.1
  simp only [Nat.reduceAdd] at b1
  have hbl := bookR_len hR
  intro m
  induction m with
  | zero =>
    intro i I' hi hf hr
    refine x245_12 hh ⟨fun q => cIN_r fun _ => ?_, fun q => by omega⟩
    rw [List.take_of_length_le (by omega)]
    exact k I' hf
  | succ m ih =>
    intro i I' hi hf hr
    have hp : i < B.length := by omega
    have hbt := bookR_lt hR (List.getElem_mem hp)
    have hB' := hB.k hf (by decide)
    have hT' := hT.k hf (by decide)
    have ht' := ht.k hf (by decide) (by decide) (by decide)
    have e7 := hf 7 (by decide)
    have he := ent_f hB' (e := B[i]) (by rw [e7]; omega)
    have hc : (B.take i).countP (ghE p2 I0) ≤ i := by
      have := List.countP_le_length (p := ghE p2 I0) (l := B.take i)
      rw [List.length_take] at this
      omega
    refine x245_12 hh ?_
    rw [toN, hr i hp, he.1.2.2.1, he.1.2.2.2.1, he.1.2.2.2.2.1, w32_id (x := (i : Int) + 1) (by omega) (by omega)]
    refine ⟨fun q => by omega, fun q => ⟨by omega, by omega, by omega, by omega, by omega, by omega, s229 (by omega) hT' ht' he.2.2.2.1 fun I2 hf2 => ?_⟩⟩
    have go := ih (i + 1) I2 (by omega) (hf.t (hf2.mo (by decide))) (by rw [hf2 110 (by decide)]; exact hr)
    rw [take_cp hp] at go
    have eg : ghE p2 I0 B[i] = !homeB p2 I' (fact I' B[i] 2) (fact I' B[i] 3) (fact I' B[i] 4) := by
      rw [← ghE_k p2 hf (by decide)]
      rfl
    cases hb : homeB p2 I' (fact I' B[i] 2) (fact I' B[i] 3) (fact I' B[i] 4) with
    | true =>
      rw [hb] at eg
      rw [eg] at go
      refine ⟨fun q2 => absurd q2 (by decide), fun _ => ?_⟩
      rw [Int.add_zero, w32_id (by omega) (by omega)]
      exact go
    | false =>
      rw [hb] at eg
      rw [eg] at go
      refine ⟨fun _ => ?_, fun q2 => absurd rfl q2⟩
      rw [w32_id (by omega) (by omega)]
      exact go
theorem s245 {K : Int → MI → MJ → B3 → Prop} {p2 : List Lin} (hh : 4 ≤ h) (hT : rTown 0 92 I) (hB : rBook 0 92 I) (ht : rTxt 19 92 2 I true p2) (k : ∀ I2, frK [97, 98, 110] I I2 → K (cntE (fun e => byE I x 0 e && ghE p2 I e) (I 7 0).toNat) I2 J b) : TriM G h 245 119 119 [vr 91, vi x] (I, J, PP b) (cIN K) := by
  refine x245_m hh (fun h hh => x245 hh (s244 (by omega) hB fun I2 B hf hR hr => ?_))
  refine s245_l hh hT hB ht hR (fun I3 hf3 => ?_) B.length 0 I2 (Nat.zero_add _) (hf.mo (by decide)) hr
  have := k I3 hf3
  rw [cnt_cp, ← hR.1.countP_eq] at this
  exact this
theorem s246_l {K : Int → MI → MJ → B3 → Prop} {B : List Nat} {c d : Int} {I0 : MI} (hh : 3 ≤ h) (hT : rTown 0 92 I0) (hB : rBook 0 92 I0) (hR : bookR I0 c d (I0 7 0).toNat B) {I' : MI} (hf : frK [110] I0 I') (hr : rowL (I' 110) B) (k : K (B.countP (qkP I0 c d) : Nat) I' J b) : ∀ (m i : Nat), i + m = B.length ∨ (m = 0 ∧ B.length ≤ i) → 1 ≤ i → Tri G h 246 119 119 13 [some (vr 91), none, none, some (vi B.length), some (vi ((B.take i).countP (qkP I0 c d) : Nat)), some (vi i)] [] (I', J, PP b) (cIN K) := by
  have b1 := hB.1
  simp only [Nat.reduceAdd] at b1
  have hbl := bookR_len hR
  intro m
  induction m with
  | zero =>
    intro i hi h1
    refine x246_13 hh ⟨fun q => cIN_r fun _ => ?_, fun q => by omega⟩
    rw [List.take_of_length_le (by omega)]
    exact k
  | succ m ih =>
    intro i hi h1
    have hp : i < B.length := by omega
    have hp1 : i - 1 < B.length := by omega
    have hbt := bookR_lt hR (List.getElem_mem hp)
    have hbt1 := bookR_lt hR (List.getElem_mem hp1)
    have hB' := hB.k hf (by decide)
    have hT' := hT.k hf (by decide)
    have e7 := hf 7 (by decide)
    have he := ent_f hB' (e := B[i]) (by rw [e7]; omega)
    have he1 := ent_f hB' (e := B[i - 1]) (by rw [e7]; omega)
    have hm := (min_in hT' he1.2.2.2.1 he.2.2.2.1).2
    have hc : (B.take i).countP (qkP I0 c d) ≤ i := by
      have := List.countP_le_length (p := qkP I0 c d) (l := B.take i)
      rw [List.length_take] at this
      omega
    have go := ih (i + 1) (by omega) (by omega)
    rw [take_cp hp] at go
    have hg := List.pairwise_iff_getElem.1 hR.2
    have hja : jaP I0 c d (I0 7 0).toNat (ordE I0 B[i]) B[i - 1] := by
      refine ⟨hbt1.1, hbt1.2, hg (i - 1) i hp1 hp (by omega), fun o ho1 ho2 ho3 => ?_⟩
      have hmem : o ∈ B := hR.1.mem_iff.2 (by rw [List.mem_filter, List.mem_range]; exact ⟨ho1, ho2⟩)
      obtain ⟨s, hs, rfl⟩ := List.getElem_of_mem hmem
      rcases Nat.lt_trichotomy s (i - 1) with q | q | q
      · have := hg s (i - 1) hs hp1 q
        omega
      · subst q; exact Int.le_refl _
      · by_cases hsi : s = i
        · subst hsi; omega
        · have := hg i s hp hs (by omega)
          omega
    have eq1 : qkP I0 c d B[i] = qkE I0 B[i - 1] B[i] := by
      apply Bool.eq_iff_iff.2
      rw [qkP_iff]
      constructor
      · rintro ⟨a2, h2, h3⟩
        have e1 := hja.2.2.2 a2 h2.1 h2.2.1 h2.2.2.1
        have e2 := h2.2.2.2 B[i - 1] hja.1 hja.2.1 hja.2.2.1
        have := ord_inj hB (e := a2) (f := B[i - 1]) (by have := h2.1; omega) (by omega) (by omega)
        rw [← this]
        exact h3
      · exact fun q => ⟨_, hja, q⟩
    have eq2 : qkE I0 B[i - 1] B[i] = qkE I' B[i - 1] B[i] := by
      unfold qkE fact
      rw [minF_k hf (by decide), hf 8 (by decide)]
    rw [eq1, eq2] at go
    unfold qkE at go
    refine x246_13 hh ?_
    rw [w32_id (x := (i : Int) - 1) (by omega) (by omega), show ((i : Int) - 1).toNat = i - 1 by omega, toN, hr i hp, hr (i - 1) hp1, he.1.2.2.1, he.1.2.2.2.1, he.1.2.2.2.2.1, he1.1.2.2.1, he1.1.2.2.2.1, he1.1.2.2.2.2.1, w32_id (x := (i : Int) + 1) (by omega) (by omega), w32_id (x := fact I' B[i] 4 - fact I' B[i - 1] 4) (by omega) (by omega)]
    refine ⟨fun q => by omega, fun q => ⟨by omega, by omega, by omega, by omega, fun q2 => ?_, fun q2 => ⟨by omega, by omega, fun q3 => ⟨by omega, by omega, by omega, by omega, ⟨hT', he1.2.2.2.1, he.2.2.2.1⟩, fun q4 => ?_, fun q4 => ?_⟩, fun q3 => ?_⟩⟩⟩
    · rw [if_neg (by simp [q2])] at go
      exact go
    · rw [if_neg (by simp; intro _ _; omega)] at go
      rw [Int.add_zero, w32_id (by omega) (by omega)]
      exact go
    · rw [if_pos (by simp at q2; simp [q2, q3]; omega)] at go
      rw [w32_id (by omega) (by omega)]
      exact go
    · rw [if_neg (by simp at q3; simp [q3])] at go
      exact go
theorem s246 {K : Int → MI → MJ → B3 → Prop} (hh : 4 ≤ h) (hT : rTown 0 92 I) (hB : rBook 0 92 I) (k : ∀ I2, frK [110] I I2 → K (cntE (fun e => byE I x y e && qkP I x y e) (I 7 0).toNat) I2 J b) : TriM G h 246 119 119 [vr 91, vi x, vi y] (I, J, PP b) (cIN K) := by
  refine x246_m hh (fun h hh => x246 hh (s244 (by omega) hB fun I2 B hf hR hr => ?_))
  have k2 := k I2 hf
  rw [cnt_cp, ← hR.1.countP_eq] at k2
  have go := s246_l (G := G) (h := h) (J := J) (b := b) (K := K) hh hT hB hR hf hr k2 (B.length - 1) 1 (by omega) (by omega)
  have e1 : (B.take 1).countP (qkP I x y) = 0 := by
    cases B with
    | nil => rfl
    | cons p r =>
      show [p].countP (qkP I x y) = 0
      rw [List.countP_singleton, if_neg]
      intro hq
      obtain ⟨a, ha, -⟩ := qkP_iff.1 hq
      have hmem : a ∈ p :: r := hR.1.mem_iff.2 (by rw [List.mem_filter, List.mem_range]; exact ⟨ha.1, ha.2.1⟩)
      rcases List.mem_cons.1 hmem with q | q
      · subst q
        have := ha.2.2.1
        omega
      · have := (List.pairwise_cons.1 hR.2).1 a q
        have := ha.2.2.1
        omega
  rw [e1] at go
  exact go
end BOOKM
