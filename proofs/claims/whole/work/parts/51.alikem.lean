section ALIKEM
variable {G : Ctx} {h n : Nat} {I : MI} {J : MJ} {b : B3} {a : BitVec 64}
variable {x y : Nat}
theorem s227_l {K : Int → MI → MJ → B3 → Prop} {p : List Lin} {t kk : Nat} {vals : Int → Int} (hh : 2 ≤ h) (hk : kk < 3) (ht : rTxt t 92 kk I false p) (hv : ∀ c : Int, 1 ≤ c → c < 8 → vals c = I 98 c.toNat) (k : ∀ I2, frK [97] I I2 → K (if (firstL vals p).isSome = true then 1 else 0) I2 J b) (ht3 : t < 90) (ht4 : t ∉ [97]) (ht5 : t + 1 ∉ [97]) : ∀ (m l : Nat) (I' : MI), l + m = p.length → frK [97] I I' → firstL vals (p.drop l) = firstL vals p → Tri G h 227 119 119 191 [some (vr 91), some (vi (kk : Int)), none, none, some (vi (l : Int))] [] (I', J, PP b) (cIN K) := by
  intro m
  have a1 := ht.1
  have a4 := ht.2.2.2.1
  have e : w32 (2500 + (kk : Int)) = ((2500 + kk : Nat) : Int) := by
    rw [w32_id (by omega) (by omega)]
    omega
  induction m with
  | zero =>
    intro l I' hl hf hd
    rw [List.drop_of_length_le (by omega)] at hd
    have hk2 := k I' hf
    rw [← hd] at hk2
    refine x227_191 hh ?_
    rw [e, toN, hf 92 (by decide), a4]
    exact ⟨by omega, fun q => cIN_r fun _ => hk2, fun q => by omega⟩
  | succ m ih =>
    intro l I' hl hf hd
    obtain ⟨q, hq⟩ : ∃ q, p[l]? = some q := ⟨p[l], List.getElem?_eq_getElem (by omega)⟩
    have hfd := find_drop (vals := vals) hq
    have ht' : rTxt t 92 kk I' false p := ht.k hf ht4 ht5 (by decide)
    refine x227_191 hh ?_
    rw [e, toN, hf 92 (by decide), a4]
    refine ⟨by omega, fun q9 => by omega, fun q9 => s221 (vals := vals) (by omega) hk ht' hq (fun c hc => ?_) (fun I2 hf2 hs => ?_) (fun I2 hf2 hs => ?_)⟩
    · rw [hf 98 (by decide)]
      simp at hc
      exact hv c hc.1 hc.2
    · rw [hs, if_pos rfl] at hfd
      have hk2 := k I2 (hf.t hf2)
      rw [← hd, hfd, if_pos (by rfl)] at hk2
      exact ⟨fun q2 => absurd q2 (by decide), fun q2 => cIN_r fun _ => hk2⟩
    · rw [hs, if_neg (by decide)] at hfd
      refine ⟨fun q2 => ?_, fun q2 => absurd rfl q2⟩
      rw [w32_id (by omega) (by omega)]
      exact ih (l + 1) I2 (by omega) (hf.t hf2) (by rw [← hfd]; exact hd)
theorem s227_161 {K : Int → MI → MJ → B3 → Prop} {p : List Lin} {t kk : Nat} {I' : MI} (hh : 2 ≤ h) (hk : kk < 3) (hT : rTown 0 92 I) (hB : rBook 0 92 I) (ht : rTxt t 92 kk I false p) (hx : (x : Int) < I 7 0) (hy : (y : Int) < I 7 0) (ht3 : t < 90) (hf : frK [98, 99, 100] I I') (hg : gvn 98 1 I x y 6 I') (k : ∀ I2, frK [97, 98, 99, 100] I I2 → K (if alN p I x y = true then 1 else 0) I2 J b) : Tri G h 227 119 119 161 [some (vr 91), some (vi (kk : Int)), some (vi (x : Int)), some (vi (y : Int))] [] (I', J, PP b) (cIN K) := by
  have b1 := hB.1
  simp only [Nat.reduceAdd] at b1
  have e1 := ent_f hB hx
  have e2 := ent_f hB hy
  have go : ∀ v, v = likeV I x y 7 → Tri G h 227 119 119 188 [some (vr 91), some (vi (kk : Int))] [] (u2 I' 98 7 v, J, PP b) (cIN K) := by
    intro v hv
    have hf2 : frK [98, 99, 100] I (u2 I' 98 7 v) := hf.u (by decide)
    have hg2 : gvn 98 1 I x y 7 (u2 I' 98 7 v) := gvn_up (s := 6) hg hv
    generalize u2 I' 98 7 v = I2 at hf2 hg2
    have hn1 : t ∉ [98, 99, 100] := by simp; omega
    have hn2 : t + 1 ∉ [98, 99, 100] := by simp; omega
    refine x227_188 (Nat.zero_le _) (s227_l (vals := likeV I x y) hh hk (ht.k hf2 hn1 hn2 (by decide)) (fun c c1 c2 => ?_) (fun I3 hf3 => k I3 ((hf2.mo (by decide)).t (hf3.mo (by decide)))) ht3 (by simp; omega) (by simp; omega) p.length 0 I2 (Nat.zero_add _) frK.r rfl)
    have := hg2 (c - 1).toNat (by omega)
    rw [show (((c - 1).toNat : Nat) : Int) + 1 = c by omega, show (c - 1).toNat + 1 = c.toNat by omega] at this
    exact this.symm
  refine x227_161 (by omega) ?_
  rw [hf 92 (by decide), e1.1.2.2.1, e2.1.2.2.1]
  refine ⟨by omega, by omega, fun q => go _ ?_, fun q => go _ ?_⟩
  · exact (if_neg q).symm
  · exact (if_pos (Decidable.of_not_not q)).symm
theorem s227_55 {K : Int → MI → MJ → B3 → Prop} {p : List Lin} {t kk : Nat} {I' : MI} (hh : 2 ≤ h) (hk : kk < 3) (hT : rTown 0 92 I) (hB : rBook 0 92 I) (ht : rTxt t 92 kk I false p) (hx : (x : Int) < I 7 0) (hy : (y : Int) < I 7 0) (ht3 : t < 90) (hf : frK [98, 99, 100] I I') (hg : gvn 98 1 I x y 2 I') (k : ∀ I2, frK [97, 98, 99, 100] I I2 → K (if alN p I x y = true then 1 else 0) I2 J b) : Tri G h 227 119 119 55 [some (vr 91), some (vi (kk : Int)), some (vi (x : Int)), some (vi (y : Int))] [] (I', J, PP b) (cIN K) := by
  have b1 := hB.1
  simp only [Nat.reduceAdd] at b1
  have e1 := ent_f hB hx
  have e2 := ent_f hB hy
  refine x227_55 (by omega) ?_
  rw [hf 92 (by decide), e1.1.2.2.2.2.2, e2.1.2.2.2.2.2]
  refine ⟨by omega, by omega, by omega, ?_⟩
  have hf3 : frK [98, 99, 100] I (u2 I' 98 3 (dist (fact I x 5) (fact I y 5))) := hf.u (by decide)
  have hg3 : gvn 98 1 I x y 3 (u2 I' 98 3 (dist (fact I x 5) (fact I y 5))) := gvn_up (s := 2) hg rfl
  generalize u2 I' 98 3 (dist (fact I x 5) (fact I y 5)) = I3 at hf3 hg3
  refine x227_76 (by omega) ?_
  rw [hf3 92 (by decide), e1.1.2.2.1, e2.1.2.2.1, hf3 2 (by decide)]
  refine ⟨by omega, by omega, ⟨hT.k hf3 (by decide), by omega, by omega⟩, ?_⟩
  have ew : wayF I3 (fact I x 2) (fact I y 2) = likeV I x y 4 := by
    rw [← likeV_k hf3 (by decide)]
    show _ = wayF I3 (I3 8 _) (I3 8 _)
    rw [hf3 8 (by decide)]
    rfl
  rw [ew]
  have hf4 : frK [98, 99, 100] I (u2 I3 98 4 (likeV I x y 4)) := hf3.u (by decide)
  have hg4 : gvn 98 1 I x y 4 (u2 I3 98 4 (likeV I x y 4)) := gvn_up (s := 3) hg3 rfl
  generalize u2 I3 98 4 (likeV I x y 4) = I4 at hf4 hg4
  refine x227_98 (by omega) ?_
  rw [hf4 92 (by decide), e1.1.2.2.2.1, e2.1.2.2.2.1]
  refine ⟨by omega, by omega, by omega, ?_⟩
  have hf5 : frK [98, 99, 100] I (u2 I4 98 5 (dist (fact I x 3) (fact I y 3))) := hf4.u (by decide)
  have hg5 : gvn 98 1 I x y 5 (u2 I4 98 5 (dist (fact I x 3) (fact I y 3))) := gvn_up (s := 4) hg4 rfl
  generalize u2 I4 98 5 (dist (fact I x 3) (fact I y 3)) = I5 at hf5 hg5
  have e6 : likeV I x y 6 = if fact I x 0 = fact I y 0 ∧ fact I x 1 = fact I y 1 then 1 else 0 := rfl
  have fin : ∀ w, w = likeV I x y 6 → Tri G h 227 119 119 161 [some (vr 91), some (vi (kk : Int)), some (vi (x : Int)), some (vi (y : Int))] [] (u2 I5 98 6 w, J, PP b) (cIN K) := fun w hw => s227_161 hh hk hT hB ht hx hy ht3 (hf5.u (by decide)) (gvn_up (s := 5) hg5 hw) k
  refine x227_119 (by omega) ?_
  rw [hf5 92 (by decide), e1.1.1, e2.1.1, e1.1.2.1, e2.1.2.1]
  refine ⟨by omega, by omega, fun q => fin _ ?_, fun q => ⟨by omega, by omega, fun q2 => fin _ ?_, fun q2 => fin _ ?_⟩⟩
  · rw [e6, if_neg (fun z => q z.1)]
  · rw [e6, if_neg (fun z => q2 z.2)]
  · rw [e6, if_pos ⟨Decidable.of_not_not q, Decidable.of_not_not q2⟩]
theorem s227 {K : Int → MI → MJ → B3 → Prop} {p : List Lin} {t kk : Nat} (hh : 4 ≤ h) (hk : kk < 3) (hT : rTown 0 92 I) (hB : rBook 0 92 I) (ht : rTxt t 92 kk I false p) (hx : (x : Int) < I 7 0) (hy : (y : Int) < I 7 0) (ht3 : t < 90) (k : ∀ I2, frK [97, 98, 99, 100] I I2 → K (if alN p I x y = true then 1 else 0) I2 J b) : TriM G h 227 119 119 [vr 91, vi (kk : Int), vi (x : Int), vi (y : Int)] (I, J, PP b) (cIN K) := by
  have e : w32 (2500 + (kk : Int)) = 2500 + (kk : Int) := w32_id (by omega) (by omega)
  have e' : (2500 + (kk : Int)).toNat = 2500 + kk := by omega
  have e'' : 0 ≤ 2500 + (kk : Int) ∧ 2500 + (kk : Int) < 5120 := by omega
  have b1 := hB.1
  simp only [Nat.reduceAdd] at b1
  have a1 := ht.1
  have a4 := ht.2.2.2.1
  have nm : ∀ e : Nat, (e : Int) < I 7 0 → I 92 (450 + 17 * (e : Int) + 9).toNat = nam I e 0 := by
    intro e he
    obtain ⟨-, -, -, -, e1, f1⟩ := hB.2.2.2 e (by omega) (by simp only [Nat.reduceAdd]; exact he)
    simp only [Nat.reduceAdd] at e1 f1
    have := (f1 0 (by omega) (by omega)).1
    rw [Int.add_zero] at this
    exact this
  refine x227_m hh (fun h hh => x227 hh ?_)
  rw [e, e', a4]
  refine ⟨e'', fun q => s226 (by omega) hB (by omega) (by omega) fun I2 hf2 => ?_, fun q => cIN_r fun _ => ?_⟩
  · have hf2' : frK [98, 99, 100] I I2 := hf2.mo (by decide)
    rw [hf2 92 (by decide), nm x hx, nm y hy]
    have go : ∀ v, v = likeV I x y 2 → Tri G h 227 119 119 55 [some (vr 91), some (vi (kk : Int)), some (vi (x : Int)), some (vi (y : Int))] [] (u2 (u2 I2 98 1 (likeV I x y 1)) 98 2 v, J, PP b) (cIN K) := fun v hv => s227_55 (by omega) hk hT hB ht hx hy ht3 ((hf2'.u (by decide)).u (by decide)) (gvn_up (s := 1) (gvn_up (s := 0) (fun c hc => by omega) rfl) hv) k
    refine ⟨by omega, by omega, fun q2 => go _ ?_, fun q2 => go _ ?_⟩
    · exact (if_neg q2).symm
    · exact (if_pos (Decidable.of_not_not q2)).symm
  · have hz : p = [] := by
      apply List.eq_nil_of_length_eq_zero
      have := Decidable.of_not_not q
      omega
    have := k I frK.r
    rw [show alN p I x y = (firstL (likeV I x y) p).isSome from rfl, hz, if_neg (by simp [firstL])] at this
    exact this
end ALIKEM
/-! INV without what is remembered -/
def INVx (p0 p1 p2 : List Lin) (c : Nat) (I : MI) (J : MJ) : Prop := (rTown 0 92 I ∧ rBook 0 92 I ∧ rRound 0 92 I ∧ rLast 0 92 I ∧ I 92 0 = I 1 0) ∧ (rTxt 13 92 0 I false p0 ∧ rTxt 16 92 1 I false p1 ∧ rTxt 19 92 2 I true p2) ∧ rTape I ∧ (I 91 18 = I 0 5 ∧ I 91 20 = I 0 6) ∧ ((I 0 2 = 0 ∨ I 0 2 = 1) ∧ I 91 2 = I 0 2 ∧ (I 0 2 = 1 → RW 30 93 I)) ∧ choI J ∧ (I 7 1 ≤ c ∧ (I 0 2 = 1 → I 37 1 ≤ c) ∧ c ≤ 64)
theorem INV.x {c : Nat} {I : MI} {J : MJ} (h : INV c I J) : ∃ p0 p1 p2, INVx p0 p1 p2 c I J ∧ likI p0 p1 I J ∧ perI p0 p1 I J := by
  obtain ⟨p0, p1, p2, a, t, hl, hp, r⟩ := h
  exact ⟨p0, p1, p2, ⟨a, t, r⟩, hl, hp⟩
theorem INVx.i {p0 p1 p2 : List Lin} {c : Nat} {I : MI} {J : MJ} (h : INVx p0 p1 p2 c I J) (hl : likI p0 p1 I J) (hp : perI p0 p1 I J) : INV c I J := ⟨p0, p1, p2, h.1, h.2.1, hl, hp, h.2.2⟩
theorem INVx.k {p0 p1 p2 : List Lin} {c : Nat} {I I' : MI} {J J' : MJ} (h : INVx p0 p1 p2 c I J) (hf : frK (91 :: 72 :: 73 :: 74 :: 75 :: 76 :: SCR) I I') (h91 : ∀ j ∈ [2, 11, 18, 20], I' 91 j = I 91 j) (hj : J' 109 = J 109) : INVx p0 p1 p2 c I' J' := by
  obtain ⟨⟨a1, a2, a3, a4, a5⟩, ⟨t0, t1, t2⟩, htp, hfl, ⟨k1, k2, k3⟩, hc, hcc⟩ := h
  have e0 := hf 0 (by decide)
  have e92 := hf 92 (by decide)
  refine ⟨⟨a1.k hf (by decide), a2.k hf (by decide), a3.k hf (by decide), a4.k hf (by decide), by rw [e92, hf 1 (by decide)]; exact a5⟩, ⟨t0.k hf (by decide) (by decide) (by decide), t1.k hf (by decide) (by decide) (by decide), t2.k hf (by decide) (by decide) (by decide)⟩, htp.fr (by rw [e0]) (h91 11 (by decide)) (hf 96 (by decide)) (hf 61 (by decide)), ?_, ⟨by rw [e0]; exact k1, by rw [e0, h91 2 (by decide)]; exact k2, fun q => ?_⟩, ?_, ?_⟩
  · rw [h91 18 (by decide), h91 20 (by decide), e0]; exact hfl
  · refine (k3 (by rw [← e0]; exact q)).fr (fun k hk2 => hf k ?_) (hf 93 (by decide))
    have : ∀ k, k < 60 → 31 ≤ k → k ∉ (91 :: 72 :: 73 :: 74 :: 75 :: 76 :: SCR) := by decide
    exact this k hk2.2 hk2.1
  · unfold choI; rw [hj]; exact hc
  · rw [hf 7 (by decide), e0, hf 37 (by decide)]; exact hcc
theorem perI.k {S : List Nat} {p0 p1 : List Lin} {I I' : MI} {J J' : MJ} (h : perI p0 p1 I J) (hf : frK S I I') (hS : ∀ k ∈ [3, 4, 6, 7, 8, 9, 10, 11, 12, 72, 73, 74, 75, 76], k ∉ S) (j77 : J' 77 = J 77) : perI p0 p1 I' J' := h.fr (hf 3 (hS 3 (by decide))) (hf 4 (hS 4 (by decide))) (hf 6 (hS 6 (by decide))) (hf 7 (hS 7 (by decide))) (hf 8 (hS 8 (by decide))) (hf 9 (hS 9 (by decide))) (hf 10 (hS 10 (by decide))) (hf 11 (hS 11 (by decide))) (hf 12 (hS 12 (by decide))) (hf 72 (hS 72 (by decide))) (hf 73 (hS 73 (by decide))) (hf 74 (hS 74 (by decide))) (hf 75 (hS 75 (by decide))) (hf 76 (hS 76 (by decide))) j77
theorem likI.k {S : List Nat} {p0 p1 : List Lin} {I I' : MI} {J J' : MJ} (h : likI p0 p1 I J) (hf : frK S I I') (hS : ∀ k ∈ [3, 4, 6, 7, 8, 11, 12], k ∉ S) (j70 : J' 70 = J 70) (j71 : J' 71 = J 71) : likI p0 p1 I' J' := h.fr (hf 3 (hS 3 (by decide))) (hf 4 (hS 4 (by decide))) (hf 6 (hS 6 (by decide))) (by rw [hf 7 (hS 7 (by decide))]) (hf 8 (hS 8 (by decide))) (hf 11 (hS 11 (by decide))) (hf 12 (hS 12 (by decide))) j70 j71
section PUBALIKE
variable {G : Ctx} {h n : Nat} {I : MI} {J : MJ} {b : B3} {x y z u v e : Int} {a : BitVec 64}
theorem pub_alike (hI : INV n I J) (hn : n < 64) (hh : 40 ≤ h) : PairI G h 152 228 [vi x, vi y, vi z] (n + 1) I J b := by
  have hI2 := hI.suc hn
  obtain ⟨p0, p1, p2, hX, hl, hp⟩ := hI2.x
  have hT := hX.1.1
  have hB := hX.1.2.1
  have ht0 := hX.2.1.1
  have ht1 := hX.2.1.2.1
  have b1 := hB.1
  simp only [Nat.reduceAdd] at b1
  have no : ¬ ((0 ≤ x ∧ x < I 7 0) ∧ (0 ≤ y ∧ y < I 7 0) ∧ x ≠ y ∧ 0 ≤ z ∧ z ≤ 3) → cIN (fun x_1 I1 J1 b1 => TriM G h 228 119 119 [vr 91, vi x, vi y, vi z] (I1, J1, PP b1) (cIN fun y I2 J2 _ => x_1 = y ∧ INV (n + 1) I2 J2)) (some (vi (-1))) (I, J, PP b) := by
    intro hx
    have fin : cIN (fun y I2 J2 _ => -1 = y ∧ INV (n + 1) I2 J2) (some (vi (-1))) (I, J, PP b) := cIN_r fun _ => ⟨rfl, hI2⟩
    refine cIN_r fun _ => x228_m (by omega) fun h2 hh2 => x228 (by omega) ?_
    rw [b1.2.2]
    exact ⟨by omega, fun q1 => ⟨by omega, fun q2 => ⟨fun _ => fin, fun q3 => ⟨fun q4 => absurd ⟨q1, q2, q3, q4⟩ hx, fun _ => fin⟩⟩, fun _ => fin⟩, fun _ => fin⟩
  have al : ∀ (w kk t : Nat) (p : List Lin), kk < 2 → z = kk → t < 90 → rTxt t 92 kk I false p → ∀ (a c : Nat) (I2 : MI) (J2 : MJ), x = a → y = c → (a : Int) < I 7 0 → (c : Int) < I 7 0 → a ≠ c → frK [15, 18, 68, 69] I I2 → frJ [70, 71] J J2 → likI p0 p1 I2 J2 → t ∉ [15, 18, 68, 69] → t + 1 ∉ [15, 18, 68, 69] → ∀ v : Int, v = (if alN p I a c = true then 1 else 0) → cIN (fun x_1 I1 J1 b1 => TriM G h 228 119 119 [vr 91, vi x, vi y, vi z] (I1, J1, PP b1) (cIN fun y I2 J2 _ => x_1 = y ∧ INV (n + 1) I2 J2)) (some (vi v)) (I2, J2, PP b) := by
    intro w kk t p hk hz ht3 ht a c I2 J2 ha hc ha7 hc7 hac hf hj hl2 hn1 hn2 v hv
    subst ha hc hz
    have hT2 := hT.k hf (by decide)
    have hB2 := hB.k hf (by decide)
    have e7 := hf 7 (by decide)
    have e92 := hf 92 (by decide)
    refine cIN_r fun _ => x228_m (by omega) fun h2 hh2 => x228 (by omega) ?_
    rw [e92, b1.2.2]
    refine ⟨by omega, fun q1 => ⟨by omega, fun q2 => ⟨fun q => by omega, fun q3 => ⟨fun q4 => ⟨fun q5 => ⟨fun q6 => s227 (p := p) (t := t) (by omega) (by omega) hT2 hB2 (ht.k hf hn1 hn2 (by decide)) (by rw [e7]; exact ha7) (by rw [e7]; exact hc7) ht3 fun I3 hf3 => ?_, fun q6 => by omega⟩, fun q5 => by omega⟩, fun q4 => by omega⟩⟩, fun q => by omega⟩, fun q => by omega⟩
    rw [alN_k p hf (by decide)]
    have hI3 : INV (n + 1) I3 J2 := (hX.k (((hf.mo (by decide)).t (hf3.mo (by decide)))) (fun j _ => by rw [hf3 91 (by decide), hf 91 (by decide)]) (hj 109 (by decide))).i (hl2.k hf3 (by decide) rfl rfl) ((hp.k hf (by decide) (hj 77 (by decide))).k hf3 (by decide) rfl)
    cases hb : alN p I a c with
    | true =>
      rw [hb] at hv
      exact ⟨fun q => absurd q (by decide), fun _ => cIN_r fun _ => ⟨hv, hI3⟩⟩
    | false =>
      rw [hb] at hv
      exact ⟨fun _ => cIN_r fun _ => ⟨hv, hI3⟩, fun q => absurd rfl q⟩
  refine x152_m (by omega) (fun h2 hh2 => x152 (by omega) ⟨fun q1 => ⟨fun q2 => ⟨fun q3 => ⟨⟨fun q4 => ?_, fun q4 => ?_, fun q4 => ?_, fun q4 => ?_, trivial⟩, fun q4 => no (by omega)⟩, fun q3 => no (by omega)⟩, fun q2 => no (by omega)⟩, fun q1 => no (by omega)⟩)
  · obtain ⟨a, ha⟩ : ∃ a : Nat, x = a := ⟨x.toNat, by omega⟩
    obtain ⟨c, hc⟩ : ∃ a : Nat, y = a := ⟨y.toNat, by omega⟩
    subst q4
    have hm := s58_0 (G := G) (h := h2) (b := b) (K := fun r1 I1 J1 b1 => (r1 = 0 → cIN (fun x_1 I1 J1 b1 => TriM G h 228 119 119 [vr 91, vi x, vi y, vi 0] (I1, J1, PP b1) (cIN fun y I2 J2 _ => x_1 = y ∧ INV (n + 1) I2 J2)) (some (vi 0)) (I1, J1, PP b1)) ∧ (¬ r1 = 0 → cIN (fun x_1 I1 J1 b1 => TriM G h 228 119 119 [vr 91, vi x, vi y, vi 0] (I1, J1, PP b1) (cIN fun y I2 J2 _ => x_1 = y ∧ INV (n + 1) I2 J2)) (some (vi 1)) (I1, J1, PP b1))) (by omega) hT hB ht0 hl (x := a) (y := c) (by omega) (by omega) (by omega) (fun I2 J2 hf2 hj2 hl2 => by
      have g := al 0 0 13 p0 (by decide) rfl (by decide) ht0 a c I2 J2 ha hc (by omega) (by omega) (by omega) (hf2.mo (by decide)) hj2 hl2 (by decide) (by decide)
      cases hb : alN p0 I a c with
      | true => rw [hb] at g; exact ⟨fun q => absurd q (by decide), fun _ => g 1 rfl⟩
      | false => rw [hb] at g; exact ⟨fun _ => g 0 rfl, fun q => absurd rfl q⟩)
    rw [← ha, ← hc] at hm
    exact hm
  · obtain ⟨a, ha⟩ : ∃ a : Nat, x = a := ⟨x.toNat, by omega⟩
    obtain ⟨c, hc⟩ : ∃ a : Nat, y = a := ⟨y.toNat, by omega⟩
    subst q4
    have hm := s58_1 (G := G) (h := h2) (b := b) (K := fun r1 I1 J1 b1 => (r1 = 0 → cIN (fun x_1 I1 J1 b1 => TriM G h 228 119 119 [vr 91, vi x, vi y, vi 1] (I1, J1, PP b1) (cIN fun y I2 J2 _ => x_1 = y ∧ INV (n + 1) I2 J2)) (some (vi 0)) (I1, J1, PP b1)) ∧ (¬ r1 = 0 → cIN (fun x_1 I1 J1 b1 => TriM G h 228 119 119 [vr 91, vi x, vi y, vi 1] (I1, J1, PP b1) (cIN fun y I2 J2 _ => x_1 = y ∧ INV (n + 1) I2 J2)) (some (vi 1)) (I1, J1, PP b1))) (by omega) hT hB ht1 hl (x := a) (y := c) (by omega) (by omega) (by omega) (fun I2 J2 hf2 hj2 hl2 => by
      have g := al 0 1 16 p1 (by decide) rfl (by decide) ht1 a c I2 J2 ha hc (by omega) (by omega) (by omega) (hf2.mo (by decide)) hj2 hl2 (by decide) (by decide)
      cases hb : alN p1 I a c with
      | true => rw [hb] at g; exact ⟨fun q => absurd q (by decide), fun _ => g 1 rfl⟩
      | false => rw [hb] at g; exact ⟨fun _ => g 0 rfl, fun q => absurd rfl q⟩)
    rw [← ha, ← hc] at hm
    exact hm
  · refine s61 (by omega) hB q1 q2 fun I2 hf2 => cIN_r fun _ => x228_m (by omega) fun h3 hh3 => x228 (by omega) ?_
    rw [hf2 92 (by decide), b1.2.2]
    refine ⟨by omega, fun _ => ⟨by omega, fun _ => ⟨fun q => absurd q q3, fun _ => ⟨fun _ => ⟨fun q5 => absurd q4 q5, fun _ => s226 (by omega) (hB.k hf2 (by decide)) (by rw [hf2 7 (by decide)]; exact q1) (by rw [hf2 7 (by decide)]; exact q2) fun I3 hf3 => cIN_r fun _ => ⟨?_, ?_⟩⟩, fun q => by omega⟩⟩, fun q => absurd q2 q⟩, fun q => absurd q1 q⟩
    · rw [likeV_k hf2 (by decide)]
    · exact hI2.sc ((hf2.mo (by decide)).t (hf3.mo (by decide))) (fun _ _ => rfl)
  · refine ⟨⟨hT, hB, q1, q2⟩, cIN_r fun _ => x228_m (by omega) fun h3 hh3 => x228 (by omega) ?_⟩
    obtain ⟨a, ha⟩ : ∃ a : Nat, x = a := ⟨x.toNat, by omega⟩
    obtain ⟨c, hc⟩ : ∃ a : Nat, y = a := ⟨y.toNat, by omega⟩
    subst ha hc
    have e1 := ent_f hB q1.2
    have e2 := ent_f hB q2.2
    rw [b1.2.2, e1.1.2.2.1, e2.1.2.2.1]
    exact ⟨by omega, fun _ => ⟨by omega, fun _ => ⟨fun q => absurd q q3, fun _ => ⟨fun _ => ⟨fun q5 => ⟨fun q6 => absurd q4 q6, fun _ => ⟨by omega, by omega, ⟨hT, e1.2.2.2.1, e2.2.2.2.1⟩, cIN_r fun _ => ⟨rfl, hI2⟩⟩⟩, fun q => by omega⟩, fun q => by omega⟩⟩, fun q => absurd q2 q⟩, fun q => absurd q1 q⟩
end PUBALIKE
