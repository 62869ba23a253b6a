abbrev tens : List Nat := [10, 10, 10, 10, 10]
theorem ten_p {s : Nat} (hs : s < 5) : prd (tens.take s) = 10 ^ s ∧ tens.getD s 1 = 10 := by
  have : s = 0 ∨ s = 1 ∨ s = 2 ∨ s = 3 ∨ s = 4 := by omega
  rcases this with rfl | rfl | rfl | rfl | rfl <;> exact ⟨rfl, rfl⟩
theorem ten_pow {s : Nat} (hs : s < 5) : 1 ≤ 10 ^ s ∧ 10 ^ s ≤ 10000 := by
  have : s = 0 ∨ s = 1 ∨ s = 2 ∨ s = 3 ∨ s = 4 := by omega
  rcases this with rfl | rfl | rfl | rfl | rfl <;> decide
theorem ten_in (c : Nat) : inB tens (deC tens c) := deC_in c (by decide)
theorem ten_mv {c s k : Nat} (hc : c < 100000) (hs : s < 5) : enC tens (mvV (deC tens c) s k) = c - min ((deC tens c).getD s 0) k * 10 ^ s ∧ min ((deC tens c).getD s 0) k * 10 ^ s ≤ c := by
  have e := enC_set (bs := tens) (vs := deC tens c) (s := s) (w := (deC tens c).getD s 0 - min ((deC tens c).getD s 0) k) hs (ten_in c) (by omega)
  rw [enC_deC (bs := tens) hc, (ten_p hs).1, show (deC tens c).getD s 0 - ((deC tens c).getD s 0 - min ((deC tens c).getD s 0) k) = min ((deC tens c).getD s 0) k by omega] at e
  unfold mvV
  omega
def rmS (I : MI) (R : Nat) (S : VS) : Prop := ∀ r : Nat, r < 100000 → (I R r = 0 ∨ I R r = 1) ∧ (I R r = 1 ↔ S (deC tens r))
/-- a slot that is open, as the reference has it -/
def opM (I : MI) (d : Nat) (s : Nat) : Prop := I 26 s ≠ -1 ∧ I 28 (s * 4 + d) = 0
theorem stR_eq {I : MI} {d k : Nat} {S : VS} {hv : List Nat} (hS : ∀ v, S v → inB tens v ∧ leV v hv) (hz : ∀ s, s < 5 → I 26 s = -1 → hv.getD s 0 = 0) : stR (opM I d) k S = stR (opD I d) k S := by
  funext w
  apply propext
  constructor
  · rintro (q | ⟨v, s, q1, q2, q3, q4⟩)
    · exact Or.inl q
    · exact Or.inr ⟨v, s, q1, q2, q3.2, q4⟩
  · rintro (q | ⟨v, s, q1, q2, q3, q4⟩)
    · exact Or.inl q
    · by_cases h26 : I 26 s = -1
      · left
        have h0 : v.getD s 0 = 0 := by
          have h1 := (hS v q1).2 s q2
          have h2 := hz s q2 h26
          omega
        have : mvV v s k = v := by
          unfold mvV
          have hlen : v.length = 5 := inB_len (hS v q1).1
          apply List.ext_getElem
          · rw [List.length_set]
          · intro i h1 h2
            rw [List.getElem_set]
            split
            · next q =>
              subst q
              have : v.getD s 0 = v[s] := by rw [List.getD_eq_getElem?_getD, List.getElem?_eq_getElem h2]; rfl
              omega
            · rfl
        rw [q4, this]
        exact q1
      · exact Or.inr ⟨v, s, q1, q2, ⟨h26, q3⟩, q4⟩
theorem stR_in {op : Nat → Prop} {k : Nat} {S : VS} {hv : List Nat} (hS : ∀ v, S v → inB tens v ∧ leV v hv) : ∀ v, stR op k S v → inB tens v ∧ leV v hv := by
  rintro w (q | ⟨v, s, q1, q2, q3, rfl⟩)
  · exact hS w q
  · have h1 := hS v q1
    refine ⟨inB_set h1.1 (by omega), fun t ht => ?_⟩
    have hlen : v.length = 5 := inB_len h1.1
    rw [mvV_at (by rw [hlen]; exact q2)]
    have := h1.2 t ht
    split
    · next q => subst q; omega
    · exact this
section BESTM
variable {G : Ctx} {h n : Nat} {I : MI} {J : MJ} {b : B3} {x y z u v e : Int} {a : BitVec 64} {f1 f2 f3 : Bool}

theorem ppb_t : u2 (u2 (PP (f1, f2, true)) 91 40 117) 91 41 116 = PP (f1, f2, false) := by
  funext k j
  by_cases hk : k = 91
  · subst hk
    by_cases h41 : j = 41
    · subst h41; rw [u2e]; rfl
    · rw [u2j h41]
      by_cases h40 : j = 40
      · subst h40; rw [u2e]; rfl
      · rw [u2j h40]
        unfold PP
        by_cases hj : j < 43
        · have all : ∀ j, j < 43 → j ≠ 40 → j ≠ 41 → ∀ f1 f2 : Bool, pswap (f1, f2, true) ((ppT.getD 91 []).getD j 1000) = pswap (f1, f2, false) ((ppT.getD 91 []).getD j 1000) := by decide +kernel
          exact all j hj h40 h41 f1 f2
        · have e : (ppT.getD 91 []).getD j 1000 = 1000 := by
            rw [List.getD_eq_getElem?_getD, List.getElem?_eq_none (by show 43 ≤ j; omega)]
            rfl
          rw [e]
          rfl
  · rw [u2_ne hk, u2_ne hk]
    unfold PP
    have key : ∀ v : Nat, v ≠ 904 → v ≠ 905 → pswap (f1, f2, true) v = pswap (f1, f2, false) v := by
      intro v h1 h2
      unfold pswap
      split
      · rfl
      · split
        · rfl
        · rfl
        · rfl
        · rfl
        · exact absurd rfl h1
        · exact absurd rfl h2
        · rfl
    have hv : (ppT.getD k []).getD j 1000 ≠ 904 ∧ (ppT.getD k []).getD j 1000 ≠ 905 := by
      by_cases hk2 : k < 119
      · have all : ∀ k, k < 119 → k ≠ 91 → ∀ v ∈ ppT.getD k [], v ≠ 904 ∧ v ≠ 905 := by decide +kernel
        rw [List.getD_eq_getElem?_getD (i := j)]
        cases hg : (ppT.getD k [])[j]? with
        | none => decide
        | some v => exact all k hk2 hk v (List.mem_of_getElem? hg)
      · have e : ppT.getD k [] = [] := by
          rw [List.getD_eq_getElem?_getD, List.getElem?_eq_none (by show 119 ≤ k; omega)]
          rfl
        rw [e]
        exact ⟨by simp, by simp⟩
    exact key _ hv.1 hv.2
/-- one slot's goes -/
theorem s263t_s {Q : MP} {I0 : MI} {S A : VS} {c d t k : Nat} (hh : 1 ≤ h) (hL : rLast 0 92 I0) (hc : c < 6) (hd : d < 4) (ht : t < 5) (hk : I0 27 c = k) (hk9 : k ≤ 9) (hr : rmS I0 116 S) (hop : opM I0 d t) (g : ∀ I2, frK [117] I0 I2 → rmS I2 117 (fun w => A w ∨ ∃ v, S v ∧ inB tens v ∧ w = mvV v t k) → Tri G h 263 119 119 31 [some (vr 91), some (vi c), some (vi d), some (vi (w32 (((10 ^ t : Nat) : Int) * 10))), some (vi ((t : Int) + 1))] [] (I2, J, PP (f1, f2, true)) Q) : ∀ (m s : Nat) (I' : MI), s + m = 100000 → frK [117] I0 I' → rmS I' 117 (fun w => A w ∨ ∃ q, q < s ∧ S (deC tens q) ∧ w = mvV (deC tens q) t k) → Tri G h 263 119 119 40 [some (vr 91), some (vi c), some (vi d), some (vi (10 ^ t : Nat)), some (vi t), some (vi s)] [] (I', J, PP (f1, f2, true)) Q := by
  have h3 := hL.2.2.1 t (by omega) (by omega)
  have h4 := hL.2.2.2.1 c (by omega) (by omega)
  have h5 := hL.2.2.2.2.1 t d (by omega) (by omega) (by omega) (by omega)
  simp only [Nat.reduceAdd, toN] at h3 h4 h5
  rw [show ((t : Int) * 4 + (d : Int)).toNat = t * 4 + d by omega] at h5
  have hp := ten_pow ht
  intro m
  induction m with
  | zero =>
    intro s I' hs hf hb
    obtain rfl : s = 100000 := hs
    refine x263t_40 hh ?_
    rw [w32_id (x := (t : Int) + 1) (by omega) (by omega)]
    refine ⟨fun _ => g I' hf fun r hr2 => ?_, fun q => by omega⟩
    refine ⟨(hb r hr2).1, ?_⟩
    rw [(hb r hr2).2]
    constructor
    · rintro (q | ⟨q, q1, q2, q3⟩)
      · exact Or.inl q
      · exact Or.inr ⟨_, q2, ten_in q, q3⟩
    · rintro (q | ⟨v, q1, q2, q3⟩)
      · exact Or.inl q
      · exact Or.inr ⟨enC tens v, enC_lt q2, by rw [deC_enC q2]; exact q1, by rw [deC_enC q2]; exact q3⟩
  | succ m ih =>
    intro s I' hs hf hb
    have e92 := hf 92 (by decide)
    have eR := hf 116 (by decide)
    have hrs := hr s (by omega)
    have hdig := deC_at (bs := tens) (c := s) (s := t) ht
    rw [(ten_p ht).1, (ten_p ht).2] at hdig
    have hmv := ten_mv (k := k) (show s < 100000 by omega) ht
    have old : ¬ S (deC tens s) → Tri G h 263 119 119 40 [some (vr 91), some (vi c), some (vi d), some (vi (10 ^ t : Nat)), some (vi t), some (vi (w32 ((s : Int) + 1)))] [] (I', J, PP (f1, f2, true)) Q := by
      intro hno
      rw [w32_id (by omega) (by omega)]
      refine ih (s + 1) I' (by omega) hf fun r hr2 => ⟨(hb r hr2).1, ?_⟩
      rw [(hb r hr2).2]
      constructor
      · rintro (q | ⟨q, q1, q2⟩)
        · exact Or.inl q
        · exact Or.inr ⟨q, by omega, q2⟩
      · rintro (q | ⟨q, q1, q2, q3⟩)
        · exact Or.inl q
        · by_cases hqs : q = s
          · subst hqs; exact absurd q2 hno
          · exact Or.inr ⟨q, by omega, q2, q3⟩
    obtain ⟨P, hP⟩ : ∃ P, 10 ^ t = P := ⟨_, rfl⟩
    obtain ⟨D, hD⟩ : ∃ D, (deC tens s).getD t 0 = D := ⟨_, rfl⟩
    have hD9 : D < 10 := by rw [← hD, hdig]; omega
    have new : S (deC tens s) → ∀ w : Nat, w = min D k → Tri G h 263 119 119 40 [some (vr 91), some (vi c), some (vi d), some (vi (10 ^ t : Nat)), some (vi t), some (vi (w32 ((s : Int) + 1)))] [] (u2 I' 117 (s - w * P) 1, J, PP (f1, f2, true)) Q := by
      intro hyes w hw
      rw [hP, hD] at hmv
      rw [hw, ← hmv.1, w32_id (by omega) (by omega)]
      refine ih (s + 1) _ (by omega) (hf.u (by decide)) fun r hr2 => ?_
      have hin2 : inB tens (mvV (deC tens s) t k) := inB_set (ten_in s) (by omega)
      by_cases hrr : r = enC tens (mvV (deC tens s) t k)
      · subst hrr
        rw [u2e, deC_enC hin2]
        exact ⟨Or.inr rfl, fun _ => Or.inr ⟨s, by omega, hyes, rfl⟩, fun _ => rfl⟩
      · rw [u2j hrr]
        refine ⟨(hb r hr2).1, ?_⟩
        rw [(hb r hr2).2]
        constructor
        · rintro (q | ⟨q, q1, q2⟩)
          · exact Or.inl q
          · exact Or.inr ⟨q, by omega, q2⟩
        · rintro (q | ⟨q, q1, q2, q3⟩)
          · exact Or.inl q
          · by_cases hqs : q = s
            · subst hqs
              exfalso
              apply hrr
              rw [← q3, enC_deC (bs := tens) hr2]
            · exact Or.inr ⟨q, by omega, q2, q3⟩
    rw [hP] at hdig hp new old ⊢
    rw [hD] at hdig hmv
    rw [hP] at hmv
    have hsp : 0 ≤ (s : Int) / (P : Int) := Int.ediv_nonneg (by omega) (by omega)
    have hsp2 : (s : Int) / (P : Int) ≤ s := Int.ediv_le_self _ (by omega)
    have edig : iRem (iDiv (s : Int) (P : Int)) 10 = (D : Int) := by
      rw [iDiv_pos (by omega) (by omega) (by omega) (by omega), iRem_pos hsp (by omega) (by omega) (by omega), hdig]
      omega
    refine x263t_40 hh ?_
    rw [e92, eR, toN, edig, w32_id (x := 10 + (t : Int)) (by omega) (by omega), h3.1, w32_id (x := 4 * (t : Int)) (by omega) (by omega), w32_id (x := 21 + 4 * (t : Int)) (by omega) (by omega), w32_id (x := 21 + 4 * (t : Int) + d) (by omega) (by omega), h5.1, w32_id (x := 15 + (c : Int)) (by omega) (by omega), h4.1, hk]
    refine ⟨fun q => by omega, fun _ => ⟨by omega, fun q => absurd q hop.1, fun _ => ⟨by omega, fun q => absurd hop.2 q, fun _ => ⟨by omega, fun q => ⟨by omega, by omega, fun q2 => ⟨by omega, ?_⟩, fun q2 => ?_⟩, fun q => old fun z => ?_⟩⟩⟩⟩
    · have hyes : S (deC tens s) := hrs.2.1 (by omega)
      have hm : min D k = k := by omega
      have emul : (k : Int) * (P : Int) = ((k * P : Nat) : Int) := (Int.natCast_mul _ _).symm
      rw [hm] at hmv
      rw [emul, w32_id (x := ((k * P : Nat) : Int)) (by omega) (by omega), w32_id (x := (s : Int) - ((k * P : Nat) : Int)) (by omega) (by omega), show ((s : Int) - ((k * P : Nat) : Int)).toNat = s - k * P by omega]
      exact ⟨by omega, new hyes k hm.symm⟩
    · have hyes : S (deC tens s) := hrs.2.1 (by omega)
      have hm : min D k = D := by omega
      have emul : (D : Int) * (P : Int) = ((D * P : Nat) : Int) := (Int.natCast_mul _ _).symm
      rw [hm] at hmv
      rw [emul, w32_id (x := ((D * P : Nat) : Int)) (by omega) (by omega), w32_id (x := (s : Int) - ((D * P : Nat) : Int)) (by omega) (by omega), show ((s : Int) - ((D * P : Nat) : Int)).toNat = s - D * P by omega]
      exact ⟨by omega, new hyes D hm.symm⟩
    · have := hrs.2.2 z
      omega
theorem s263t_k {K : MI → MJ → B3 → Prop} {I0 : MI} {S : VS} {c d k : Nat} (hh : 1 ≤ h) (hL : rLast 0 92 I0) (hc : c < 6) (hd : d < 4) (hk : I0 27 c = k) (hk9 : k ≤ 9) (hr : rmS I0 116 S) (hS : ∀ v, S v → inB tens v) (g : ∀ I2, frK [117] I0 I2 → rmS I2 117 (stR (opM I0 d) k S) → K I2 J (f1, f2, false)) : ∀ (m t : Nat) (I' : MI), t + m = 5 → frK [117] I0 I' → rmS I' 117 (fun w => S w ∨ ∃ v s, S v ∧ s < t ∧ opM I0 d s ∧ w = mvV v s k) → Tri G h 263 119 119 31 [some (vr 91), some (vi c), some (vi d), some (vi (10 ^ t : Nat)), some (vi t)] [] (I', J, PP (f1, f2, true)) (cVN K) := by
  intro m
  induction m with
  | zero =>
    intro t I' ht hf hb
    obtain rfl : t = 5 := ht
    refine x263t_31 (Nat.zero_le _) ⟨fun _ => ?_, fun q => by omega⟩
    rw [ppb_t]
    exact cVN_r (g I' hf hb)
  | succ m ih =>
    intro t I' ht hf hb
    have ht5 : t < 5 := by omega
    have hp := ten_pow ht5
    have h3 := hL.2.2.1 t (by omega) (by omega)
    have h5 := hL.2.2.2.2.1 t d (by omega) (by omega) (by omega) (by omega)
    simp only [Nat.reduceAdd, toN] at h3 h5
    rw [show ((t : Int) * 4 + (d : Int)).toNat = t * 4 + d by omega] at h5
    have e10 : w32 (((10 ^ t : Nat) : Int) * 10) = ((10 ^ (t + 1) : Nat) : Int) := by
      rw [Nat.pow_succ, w32_id (by omega) (by omega)]
      omega
    refine x263t_31 (Nat.zero_le _) ⟨fun q => by omega, fun _ => ?_⟩
    by_cases hop : opM I0 d t
    · refine s263t_s (I0 := I0) (A := fun w => S w ∨ ∃ v s, S v ∧ s < t ∧ opM I0 d s ∧ w = mvV v s k) hh hL hc hd ht5 hk hk9 hr hop (fun I2 hf2 hb2 => ?_) 100000 0 I' rfl hf (fun r hr2 => ⟨(hb r hr2).1, ?_⟩)
      · rw [e10]
        refine ih (t + 1) I2 (by omega) hf2 fun r hr2 => ⟨(hb2 r hr2).1, ?_⟩
        rw [(hb2 r hr2).2]
        constructor
        · rintro ((q | ⟨v, s, q1, q2, q3⟩) | ⟨v, q1, q2, q3⟩)
          · exact Or.inl q
          · exact Or.inr ⟨v, s, q1, by omega, q3⟩
          · exact Or.inr ⟨v, t, q1, by omega, hop, q3⟩
        · rintro (q | ⟨v, s, q1, q2, q3, q4⟩)
          · exact Or.inl (Or.inl q)
          · by_cases hst : s = t
            · subst hst
              exact Or.inr ⟨v, q1, hS v q1, q4⟩
            · exact Or.inl (Or.inr ⟨v, s, q1, by omega, q3, q4⟩)
      · rw [(hb r hr2).2]
        constructor
        · exact Or.inl
        · rintro (q | ⟨q, q1, -⟩)
          · exact q
          · omega
    · have nx : Tri G h 263 119 119 31 [some (vr 91), some (vi c), some (vi d), some (vi (w32 (((10 ^ t : Nat) : Int) * 10))), some (vi (w32 ((t : Int) + 1)))] [] (I', J, PP (f1, f2, true)) (cVN K) := by
        rw [e10, w32_id (by omega) (by omega)]
        refine ih (t + 1) I' (by omega) hf fun r hr2 => ⟨(hb r hr2).1, ?_⟩
        rw [(hb r hr2).2]
        constructor
        · rintro (q | ⟨v, s, q1, q2, q3⟩)
          · exact Or.inl q
          · exact Or.inr ⟨v, s, q1, by omega, q3⟩
        · rintro (q | ⟨v, s, q1, q2, q3, q4⟩)
          · exact Or.inl q
          · by_cases hst : s = t
            · subst hst; exact absurd q3 hop
            · exact Or.inr ⟨v, s, q1, by omega, q3, q4⟩
      refine x263t_40 hh ?_
      rw [hf 92 (by decide), w32_id (x := 10 + (t : Int)) (by omega) (by omega), h3.1, w32_id (x := 4 * (t : Int)) (by omega) (by omega), w32_id (x := 21 + 4 * (t : Int)) (by omega) (by omega), w32_id (x := 21 + 4 * (t : Int) + d) (by omega) (by omega), h5.1]
      refine ⟨fun _ => nx, fun _ => ⟨by omega, fun _ => nx, fun q => ⟨by omega, fun _ => nx, fun q2 => ?_⟩⟩⟩
      exact absurd ⟨q, by omega⟩ hop
theorem s263t_c {Q : MP} {I0 : MI} {S : VS} {c d : Nat} (hr : rmS I0 116 S) (g : ∀ I2, frK [117] I0 I2 → rmS I2 117 S → Tri G h 263 119 119 31 [some (vr 91), some (vi c), some (vi d), some (vi 1), some (vi 0)] [] (I2, J, PP (f1, f2, true)) Q) : ∀ (m s : Nat) (I' : MI), s + m = 100000 → frK [117] I0 I' → (∀ r : Nat, r < s → I' 117 r = I0 116 r) → Tri G h 263 119 119 2 [some (vr 91), some (vi c), some (vi d), some (vi s)] [] (I', J, PP (f1, f2, true)) Q := by
  intro m
  induction m with
  | zero =>
    intro s I' hs hf hb
    obtain rfl : s = 100000 := hs
    refine x263t_2 (Nat.zero_le _) ⟨fun _ => g I' hf fun r hr2 => ?_, fun q => by omega⟩
    rw [hb r hr2]
    exact hr r hr2
  | succ m ih =>
    intro s I' hs hf hb
    refine x263t_2 (Nat.zero_le _) ?_
    rw [w32_id (by omega) (by omega), toN, hf 116 (by decide)]
    refine ⟨fun q => by omega, fun _ => ⟨by omega, by omega, (hr s (by omega)).1, ih (s + 1) _ (by omega) (hf.u (by decide)) (fun r hr2 => ?_)⟩⟩
    by_cases h1 : r = s
    · subst h1; exact u2e
    · rw [u2j h1]; exact hb r (by omega)
theorem s263t {K : MI → MJ → B3 → Prop} {S : VS} {c d k : Nat} (hh : 2 ≤ h) (hL : rLast 0 92 I) (hc : c < 6) (hd : d < 4) (hk : I 27 c = k) (hk9 : k ≤ 9) (hr : rmS I 116 S) (hS : ∀ v, S v → inB tens v) (g : ∀ I2, frK [117] I I2 → rmS I2 117 (stR (opM I d) k S) → K I2 J (f1, f2, false)) : TriM G h 263 119 119 [vr 91, vi c, vi d] (I, J, PP (f1, f2, true)) (cVN K) := by
  refine x263t_m hh (fun h hh => x263t (by omega) (s263t_c (I0 := I) hr (fun I2 hf2 hb2 => s263t_k (I0 := I) hh hL hc hd hk hk9 hr hS g 5 0 I2 rfl hf2 fun r hr2 => ⟨(hb2 r hr2).1, ?_⟩) 100000 0 I rfl frK.r (fun r hr2 => by omega)))
  rw [(hb2 r hr2).2]
  constructor
  · exact Or.inl
  · rintro (q | ⟨v, s, -, q2, -⟩)
    · exact q
    · omega
theorem s264t_m {K : Int → MI → MJ → B3 → Prop} {S : VS} {all : Nat} (hall : all ≤ 45) (hr : rmS I 116 S) (hS : ∀ v, S v → v.sum ≤ all) (g : ∀ w : Int, (∀ v, S v → ((all - v.sum : Nat) : Int) ≤ w) → (w = 0 ∨ ∃ v, S v ∧ w = ((all - v.sum : Nat) : Int)) → (∀ v, S v → inB tens v) → K w I J (f1, f2, true)) (hin : ∀ v, S v → inB tens v) : ∀ (m s : Nat) (w : Int), s + m = 100000 → 0 ≤ w → w ≤ 45 → (∀ r : Nat, r < s → S (deC tens r) → ((all - (deC tens r).sum : Nat) : Int) ≤ w) → (w = 0 ∨ ∃ v, S v ∧ w = ((all - v.sum : Nat) : Int)) → Tri G h 264 119 119 111 [some (vr 91), some (vi all), none, some (vi w), some (vi s)] [] (I, J, PP (f1, f2, true)) (cIN K) := by
  intro m
  induction m with
  | zero =>
    intro s w hs h0 h45 hlow hat
    obtain rfl : s = 100000 := hs
    refine x264t_111 (Nat.zero_le _) ⟨fun _ => cIN_r fun _ => g w (fun v hv => ?_) hat hin, fun q => by omega⟩
    have h1 := hin v hv
    have := hlow (enC tens v) (enC_lt h1) (by rw [deC_enC h1]; exact hv)
    rw [deC_enC h1] at this
    exact this
  | succ m ih =>
    intro s w hs h0 h45 hlow hat
    have hrs := hr s (by omega)
    have esum : (deC tens s).sum = s % 10 + (s / 10 % 10 + (s / 100 % 10 + (s / 1000 % 10 + s / 10000))) := by
      show s % 10 + (s / 10 % 10 + (s / 10 / 10 % 10 + (s / 10 / 10 / 10 % 10 + (s / 10 / 10 / 10 / 10 % 10 + 0)))) = _
      omega
    have e1 : iRem (s : Int) 10 = (s % 10 : Nat) := by rw [iRem_pos (by omega) (by omega) (by omega) (by omega)]; omega
    have e2 : iRem (iDiv (s : Int) 10) 10 = (s / 10 % 10 : Nat) := by rw [iDiv_pos (by omega) (by omega) (by omega) (by omega), iRem_pos (by omega) (by omega) (by omega) (by omega)]; omega
    have e3 : iRem (iDiv (s : Int) 100) 10 = (s / 100 % 10 : Nat) := by rw [iDiv_pos (by omega) (by omega) (by omega) (by omega), iRem_pos (by omega) (by omega) (by omega) (by omega)]; omega
    have e4 : iRem (iDiv (s : Int) 1000) 10 = (s / 1000 % 10 : Nat) := by rw [iDiv_pos (by omega) (by omega) (by omega) (by omega), iRem_pos (by omega) (by omega) (by omega) (by omega)]; omega
    have e5 : iDiv (s : Int) 10000 = (s / 10000 : Nat) := by rw [iDiv_pos (by omega) (by omega) (by omega) (by omega)]; omega
    refine x264t_111 (Nat.zero_le _) ?_
    rw [toN, e1, e2, e3, e4, e5]
    rw [w32_id (x := ((s % 10 : Nat) : Int) + ((s / 10 % 10 : Nat) : Int)) (by omega) (by omega), w32_id (x := ((s % 10 : Nat) : Int) + ((s / 10 % 10 : Nat) : Int) + ((s / 100 % 10 : Nat) : Int)) (by omega) (by omega), w32_id (x := ((s % 10 : Nat) : Int) + ((s / 10 % 10 : Nat) : Int) + ((s / 100 % 10 : Nat) : Int) + ((s / 1000 % 10 : Nat) : Int)) (by omega) (by omega), w32_id (x := ((s % 10 : Nat) : Int) + ((s / 10 % 10 : Nat) : Int) + ((s / 100 % 10 : Nat) : Int) + ((s / 1000 % 10 : Nat) : Int) + ((s / 10000 : Nat) : Int)) (by omega) (by omega), w32_id (x := (all : Int) - (((s % 10 : Nat) : Int) + ((s / 10 % 10 : Nat) : Int) + ((s / 100 % 10 : Nat) : Int) + ((s / 1000 % 10 : Nat) : Int) + ((s / 10000 : Nat) : Int))) (by omega) (by omega), w32_id (x := (s : Int) + 1) (by omega) (by omega)]
    refine ⟨fun q => by omega, fun _ => ⟨by omega, fun q => ?_, fun q => ih (s + 1) w (by omega) h0 h45 (fun r hr2 hs2 => ?_) hat⟩⟩
    · have hyes : S (deC tens s) := hrs.2.1 (by omega)
      have hle := hS _ hyes
      have ev : (all : Int) - (((s % 10 : Nat) : Int) + ((s / 10 % 10 : Nat) : Int) + ((s / 100 % 10 : Nat) : Int) + ((s / 1000 % 10 : Nat) : Int) + ((s / 10000 : Nat) : Int)) = ((all - (deC tens s).sum : Nat) : Int) := by omega
      rw [ev]
      refine ⟨fun q2 => ih (s + 1) w (by omega) h0 h45 (fun r hr2 hs2 => ?_) hat, fun q2 => ih (s + 1) _ (by omega) (by omega) (by omega) (fun r hr2 hs2 => ?_) (Or.inr ⟨_, hyes, rfl⟩)⟩
      · by_cases h1 : r = s
        · subst h1; exact q2
        · exact hlow r (by omega) hs2
      · by_cases h1 : r = s
        · subst h1; exact Int.le_refl _
        · have := hlow r (by omega) hs2
          omega
    · by_cases h1 : r = s
      · subst h1
        have := hrs.2.2 hs2
        omega
      · exact hlow r (by omega) hs2

theorem ppb_f : u2 (u2 (PP (f1, f2, false)) 91 40 116) 91 41 117 = PP (f1, f2, true) := by
  funext k j
  by_cases hk : k = 91
  · subst hk
    by_cases h41 : j = 41
    · subst h41; rw [u2e]; rfl
    · rw [u2j h41]
      by_cases h40 : j = 40
      · subst h40; rw [u2e]; rfl
      · rw [u2j h40]
        unfold PP
        by_cases hj : j < 43
        · have all : ∀ j, j < 43 → j ≠ 40 → j ≠ 41 → ∀ f1 f2 : Bool, pswap (f1, f2, false) ((ppT.getD 91 []).getD j 1000) = pswap (f1, f2, true) ((ppT.getD 91 []).getD j 1000) := by decide +kernel
          exact all j hj h40 h41 f1 f2
        · have e : (ppT.getD 91 []).getD j 1000 = 1000 := by
            rw [List.getD_eq_getElem?_getD, List.getElem?_eq_none (by show 43 ≤ j; omega)]
            rfl
          rw [e]
          rfl
  · rw [u2_ne hk, u2_ne hk]
    unfold PP
    have key : ∀ v : Nat, v ≠ 904 → v ≠ 905 → pswap (f1, f2, false) v = pswap (f1, f2, true) v := by
      intro v h1 h2
      unfold pswap
      split
      · rfl
      · split
        · rfl
        · rfl
        · rfl
        · rfl
        · exact absurd rfl h1
        · exact absurd rfl h2
        · rfl
    have hv : (ppT.getD k []).getD j 1000 ≠ 904 ∧ (ppT.getD k []).getD j 1000 ≠ 905 := by
      by_cases hk2 : k < 119
      · have all : ∀ k, k < 119 → k ≠ 91 → ∀ v ∈ ppT.getD k [], v ≠ 904 ∧ v ≠ 905 := by decide +kernel
        rw [List.getD_eq_getElem?_getD (i := j)]
        cases hg : (ppT.getD k [])[j]? with
        | none => decide
        | some v => exact all k hk2 hk v (List.mem_of_getElem? hg)
      · have e : ppT.getD k [] = [] := by
          rw [List.getD_eq_getElem?_getD, List.getElem?_eq_none (by show 119 ≤ k; omega)]
          rfl
        rw [e]
        exact ⟨by simp, by simp⟩
    exact key _ hv.1 hv.2
theorem s263f_s {Q : MP} {I0 : MI} {S A : VS} {c d t k : Nat} (hh : 1 ≤ h) (hL : rLast 0 92 I0) (hc : c < 6) (hd : d < 4) (ht : t < 5) (hk : I0 27 c = k) (hk9 : k ≤ 9) (hr : rmS I0 117 S) (hop : opM I0 d t) (g : ∀ I2, frK [116] I0 I2 → rmS I2 116 (fun w => A w ∨ ∃ v, S v ∧ inB tens v ∧ w = mvV v t k) → Tri G h 263 119 119 31 [some (vr 91), some (vi c), some (vi d), some (vi (w32 (((10 ^ t : Nat) : Int) * 10))), some (vi ((t : Int) + 1))] [] (I2, J, PP (f1, f2, false)) Q) : ∀ (m s : Nat) (I' : MI), s + m = 100000 → frK [116] I0 I' → rmS I' 116 (fun w => A w ∨ ∃ q, q < s ∧ S (deC tens q) ∧ w = mvV (deC tens q) t k) → Tri G h 263 119 119 40 [some (vr 91), some (vi c), some (vi d), some (vi (10 ^ t : Nat)), some (vi t), some (vi s)] [] (I', J, PP (f1, f2, false)) Q := by
  have h3 := hL.2.2.1 t (by omega) (by omega)
  have h4 := hL.2.2.2.1 c (by omega) (by omega)
  have h5 := hL.2.2.2.2.1 t d (by omega) (by omega) (by omega) (by omega)
  simp only [Nat.reduceAdd, toN] at h3 h4 h5
  rw [show ((t : Int) * 4 + (d : Int)).toNat = t * 4 + d by omega] at h5
  have hp := ten_pow ht
  intro m
  induction m with
  | zero =>
    intro s I' hs hf hb
    obtain rfl : s = 100000 := hs
    refine x263f_40 hh ?_
    rw [w32_id (x := (t : Int) + 1) (by omega) (by omega)]
    refine ⟨fun _ => g I' hf fun r hr2 => ?_, fun q => by omega⟩
    refine ⟨(hb r hr2).1, ?_⟩
    rw [(hb r hr2).2]
    constructor
    · rintro (q | ⟨q, q1, q2, q3⟩)
      · exact Or.inl q
      · exact Or.inr ⟨_, q2, ten_in q, q3⟩
    · rintro (q | ⟨v, q1, q2, q3⟩)
      · exact Or.inl q
      · exact Or.inr ⟨enC tens v, enC_lt q2, by rw [deC_enC q2]; exact q1, by rw [deC_enC q2]; exact q3⟩
  | succ m ih =>
    intro s I' hs hf hb
    have e92 := hf 92 (by decide)
    have eR := hf 117 (by decide)
    have hrs := hr s (by omega)
    have hdig := deC_at (bs := tens) (c := s) (s := t) ht
    rw [(ten_p ht).1, (ten_p ht).2] at hdig
    have hmv := ten_mv (k := k) (show s < 100000 by omega) ht
    have old : ¬ S (deC tens s) → Tri G h 263 119 119 40 [some (vr 91), some (vi c), some (vi d), some (vi (10 ^ t : Nat)), some (vi t), some (vi (w32 ((s : Int) + 1)))] [] (I', J, PP (f1, f2, false)) Q := by
      intro hno
      rw [w32_id (by omega) (by omega)]
      refine ih (s + 1) I' (by omega) hf fun r hr2 => ⟨(hb r hr2).1, ?_⟩
      rw [(hb r hr2).2]
      constructor
      · rintro (q | ⟨q, q1, q2⟩)
        · exact Or.inl q
        · exact Or.inr ⟨q, by omega, q2⟩
      · rintro (q | ⟨q, q1, q2, q3⟩)
        · exact Or.inl q
        · by_cases hqs : q = s
          · subst hqs; exact absurd q2 hno
          · exact Or.inr ⟨q, by omega, q2, q3⟩
    obtain ⟨P, hP⟩ : ∃ P, 10 ^ t = P := ⟨_, rfl⟩
    obtain ⟨D, hD⟩ : ∃ D, (deC tens s).getD t 0 = D := ⟨_, rfl⟩
    have hD9 : D < 10 := by rw [← hD, hdig]; omega
    have new : S (deC tens s) → ∀ w : Nat, w = min D k → Tri G h 263 119 119 40 [some (vr 91), some (vi c), some (vi d), some (vi (10 ^ t : Nat)), some (vi t), some (vi (w32 ((s : Int) + 1)))] [] (u2 I' 116 (s - w * P) 1, J, PP (f1, f2, false)) Q := by
      intro hyes w hw
      rw [hP, hD] at hmv
      rw [hw, ← hmv.1, w32_id (by omega) (by omega)]
      refine ih (s + 1) _ (by omega) (hf.u (by decide)) fun r hr2 => ?_
      have hin2 : inB tens (mvV (deC tens s) t k) := inB_set (ten_in s) (by omega)
      by_cases hrr : r = enC tens (mvV (deC tens s) t k)
      · subst hrr
        rw [u2e, deC_enC hin2]
        exact ⟨Or.inr rfl, fun _ => Or.inr ⟨s, by omega, hyes, rfl⟩, fun _ => rfl⟩
      · rw [u2j hrr]
        refine ⟨(hb r hr2).1, ?_⟩
        rw [(hb r hr2).2]
        constructor
        · rintro (q | ⟨q, q1, q2⟩)
          · exact Or.inl q
          · exact Or.inr ⟨q, by omega, q2⟩
        · rintro (q | ⟨q, q1, q2, q3⟩)
          · exact Or.inl q
          · by_cases hqs : q = s
            · subst hqs
              exfalso
              apply hrr
              rw [← q3, enC_deC (bs := tens) hr2]
            · exact Or.inr ⟨q, by omega, q2, q3⟩
    rw [hP] at hdig hp new old ⊢
    rw [hD] at hdig hmv
    rw [hP] at hmv
    have hsp : 0 ≤ (s : Int) / (P : Int) := Int.ediv_nonneg (by omega) (by omega)
    have hsp2 : (s : Int) / (P : Int) ≤ s := Int.ediv_le_self _ (by omega)
    have edig : iRem (iDiv (s : Int) (P : Int)) 10 = (D : Int) := by
      rw [iDiv_pos (by omega) (by omega) (by omega) (by omega), iRem_pos hsp (by omega) (by omega) (by omega), hdig]
      omega
    refine x263f_40 hh ?_
    rw [e92, eR, toN, edig, w32_id (x := 10 + (t : Int)) (by omega) (by omega), h3.1, w32_id (x := 4 * (t : Int)) (by omega) (by omega), w32_id (x := 21 + 4 * (t : Int)) (by omega) (by omega), w32_id (x := 21 + 4 * (t : Int) + d) (by omega) (by omega), h5.1, w32_id (x := 15 + (c : Int)) (by omega) (by omega), h4.1, hk]
    refine ⟨fun q => by omega, fun _ => ⟨by omega, fun q => absurd q hop.1, fun _ => ⟨by omega, fun q => absurd hop.2 q, fun _ => ⟨by omega, fun q => ⟨by omega, by omega, fun q2 => ⟨by omega, ?_⟩, fun q2 => ?_⟩, fun q => old fun z => ?_⟩⟩⟩⟩
    · have hyes : S (deC tens s) := hrs.2.1 (by omega)
      have hm : min D k = k := by omega
      have emul : (k : Int) * (P : Int) = ((k * P : Nat) : Int) := (Int.natCast_mul _ _).symm
      rw [hm] at hmv
      rw [emul, w32_id (x := ((k * P : Nat) : Int)) (by omega) (by omega), w32_id (x := (s : Int) - ((k * P : Nat) : Int)) (by omega) (by omega), show ((s : Int) - ((k * P : Nat) : Int)).toNat = s - k * P by omega]
      exact ⟨by omega, new hyes k hm.symm⟩
    · have hyes : S (deC tens s) := hrs.2.1 (by omega)
      have hm : min D k = D := by omega
      have emul : (D : Int) * (P : Int) = ((D * P : Nat) : Int) := (Int.natCast_mul _ _).symm
      rw [hm] at hmv
      rw [emul, w32_id (x := ((D * P : Nat) : Int)) (by omega) (by omega), w32_id (x := (s : Int) - ((D * P : Nat) : Int)) (by omega) (by omega), show ((s : Int) - ((D * P : Nat) : Int)).toNat = s - D * P by omega]
      exact ⟨by omega, new hyes D hm.symm⟩
    · have := hrs.2.2 z
      omega
theorem s263f_k {K : MI → MJ → B3 → Prop} {I0 : MI} {S : VS} {c d k : Nat} (hh : 1 ≤ h) (hL : rLast 0 92 I0) (hc : c < 6) (hd : d < 4) (hk : I0 27 c = k) (hk9 : k ≤ 9) (hr : rmS I0 117 S) (hS : ∀ v, S v → inB tens v) (g : ∀ I2, frK [116] I0 I2 → rmS I2 116 (stR (opM I0 d) k S) → K I2 J (f1, f2, true)) : ∀ (m t : Nat) (I' : MI), t + m = 5 → frK [116] I0 I' → rmS I' 116 (fun w => S w ∨ ∃ v s, S v ∧ s < t ∧ opM I0 d s ∧ w = mvV v s k) → Tri G h 263 119 119 31 [some (vr 91), some (vi c), some (vi d), some (vi (10 ^ t : Nat)), some (vi t)] [] (I', J, PP (f1, f2, false)) (cVN K) := by
  intro m
  induction m with
  | zero =>
    intro t I' ht hf hb
    obtain rfl : t = 5 := ht
    refine x263f_31 (Nat.zero_le _) ⟨fun _ => ?_, fun q => by omega⟩
    rw [ppb_f]
    exact cVN_r (g I' hf hb)
  | succ m ih =>
    intro t I' ht hf hb
    have ht5 : t < 5 := by omega
    have hp := ten_pow ht5
    have h3 := hL.2.2.1 t (by omega) (by omega)
    have h5 := hL.2.2.2.2.1 t d (by omega) (by omega) (by omega) (by omega)
    simp only [Nat.reduceAdd, toN] at h3 h5
    rw [show ((t : Int) * 4 + (d : Int)).toNat = t * 4 + d by omega] at h5
    have e10 : w32 (((10 ^ t : Nat) : Int) * 10) = ((10 ^ (t + 1) : Nat) : Int) := by
      rw [Nat.pow_succ, w32_id (by omega) (by omega)]
      omega
    refine x263f_31 (Nat.zero_le _) ⟨fun q => by omega, fun _ => ?_⟩
    by_cases hop : opM I0 d t
    · refine s263f_s (I0 := I0) (A := fun w => S w ∨ ∃ v s, S v ∧ s < t ∧ opM I0 d s ∧ w = mvV v s k) hh hL hc hd ht5 hk hk9 hr hop (fun I2 hf2 hb2 => ?_) 100000 0 I' rfl hf (fun r hr2 => ⟨(hb r hr2).1, ?_⟩)
      · rw [e10]
        refine ih (t + 1) I2 (by omega) hf2 fun r hr2 => ⟨(hb2 r hr2).1, ?_⟩
        rw [(hb2 r hr2).2]
        constructor
        · rintro ((q | ⟨v, s, q1, q2, q3⟩) | ⟨v, q1, q2, q3⟩)
          · exact Or.inl q
          · exact Or.inr ⟨v, s, q1, by omega, q3⟩
          · exact Or.inr ⟨v, t, q1, by omega, hop, q3⟩
        · rintro (q | ⟨v, s, q1, q2, q3, q4⟩)
          · exact Or.inl (Or.inl q)
          · by_cases hst : s = t
            · subst hst
              exact Or.inr ⟨v, q1, hS v q1, q4⟩
            · exact Or.inl (Or.inr ⟨v, s, q1, by omega, q3, q4⟩)
      · rw [(hb r hr2).2]
        constructor
        · exact Or.inl
        · rintro (q | ⟨q, q1, -⟩)
          · exact q
          · omega
    · have nx : Tri G h 263 119 119 31 [some (vr 91), some (vi c), some (vi d), some (vi (w32 (((10 ^ t : Nat) : Int) * 10))), some (vi (w32 ((t : Int) + 1)))] [] (I', J, PP (f1, f2, false)) (cVN K) := by
        rw [e10, w32_id (by omega) (by omega)]
        refine ih (t + 1) I' (by omega) hf fun r hr2 => ⟨(hb r hr2).1, ?_⟩
        rw [(hb r hr2).2]
        constructor
        · rintro (q | ⟨v, s, q1, q2, q3⟩)
          · exact Or.inl q
          · exact Or.inr ⟨v, s, q1, by omega, q3⟩
        · rintro (q | ⟨v, s, q1, q2, q3, q4⟩)
          · exact Or.inl q
          · by_cases hst : s = t
            · subst hst; exact absurd q3 hop
            · exact Or.inr ⟨v, s, q1, by omega, q3, q4⟩
      refine x263f_40 hh ?_
      rw [hf 92 (by decide), w32_id (x := 10 + (t : Int)) (by omega) (by omega), h3.1, w32_id (x := 4 * (t : Int)) (by omega) (by omega), w32_id (x := 21 + 4 * (t : Int)) (by omega) (by omega), w32_id (x := 21 + 4 * (t : Int) + d) (by omega) (by omega), h5.1]
      refine ⟨fun _ => nx, fun _ => ⟨by omega, fun _ => nx, fun q => ⟨by omega, fun _ => nx, fun q2 => ?_⟩⟩⟩
      exact absurd ⟨q, by omega⟩ hop
theorem s263f_c {Q : MP} {I0 : MI} {S : VS} {c d : Nat} (hr : rmS I0 117 S) (g : ∀ I2, frK [116] I0 I2 → rmS I2 116 S → Tri G h 263 119 119 31 [some (vr 91), some (vi c), some (vi d), some (vi 1), some (vi 0)] [] (I2, J, PP (f1, f2, false)) Q) : ∀ (m s : Nat) (I' : MI), s + m = 100000 → frK [116] I0 I' → (∀ r : Nat, r < s → I' 116 r = I0 117 r) → Tri G h 263 119 119 2 [some (vr 91), some (vi c), some (vi d), some (vi s)] [] (I', J, PP (f1, f2, false)) Q := by
  intro m
  induction m with
  | zero =>
    intro s I' hs hf hb
    obtain rfl : s = 100000 := hs
    refine x263f_2 (Nat.zero_le _) ⟨fun _ => g I' hf fun r hr2 => ?_, fun q => by omega⟩
    rw [hb r hr2]
    exact hr r hr2
  | succ m ih =>
    intro s I' hs hf hb
    refine x263f_2 (Nat.zero_le _) ?_
    rw [w32_id (by omega) (by omega), toN, hf 117 (by decide)]
    refine ⟨fun q => by omega, fun _ => ⟨by omega, by omega, (hr s (by omega)).1, ih (s + 1) _ (by omega) (hf.u (by decide)) (fun r hr2 => ?_)⟩⟩
    by_cases h1 : r = s
    · subst h1; exact u2e
    · rw [u2j h1]; exact hb r (by omega)
theorem s263f {K : MI → MJ → B3 → Prop} {S : VS} {c d k : Nat} (hh : 2 ≤ h) (hL : rLast 0 92 I) (hc : c < 6) (hd : d < 4) (hk : I 27 c = k) (hk9 : k ≤ 9) (hr : rmS I 117 S) (hS : ∀ v, S v → inB tens v) (g : ∀ I2, frK [116] I I2 → rmS I2 116 (stR (opM I d) k S) → K I2 J (f1, f2, true)) : TriM G h 263 119 119 [vr 91, vi c, vi d] (I, J, PP (f1, f2, false)) (cVN K) := by
  refine x263f_m hh (fun h hh => x263f (by omega) (s263f_c (I0 := I) hr (fun I2 hf2 hb2 => s263f_k (I0 := I) hh hL hc hd hk hk9 hr hS g 5 0 I2 rfl hf2 fun r hr2 => ⟨(hb2 r hr2).1, ?_⟩) 100000 0 I rfl frK.r (fun r hr2 => by omega)))
  rw [(hb2 r hr2).2]
  constructor
  · exact Or.inl
  · rintro (q | ⟨v, s, -, q2, -⟩)
    · exact q
    · omega
theorem s264f_m {K : Int → MI → MJ → B3 → Prop} {S : VS} {all : Nat} (hall : all ≤ 45) (hr : rmS I 117 S) (hS : ∀ v, S v → v.sum ≤ all) (g : ∀ w : Int, (∀ v, S v → ((all - v.sum : Nat) : Int) ≤ w) → (w = 0 ∨ ∃ v, S v ∧ w = ((all - v.sum : Nat) : Int)) → (∀ v, S v → inB tens v) → K w I J (f1, f2, false)) (hin : ∀ v, S v → inB tens v) : ∀ (m s : Nat) (w : Int), s + m = 100000 → 0 ≤ w → w ≤ 45 → (∀ r : Nat, r < s → S (deC tens r) → ((all - (deC tens r).sum : Nat) : Int) ≤ w) → (w = 0 ∨ ∃ v, S v ∧ w = ((all - v.sum : Nat) : Int)) → Tri G h 264 119 119 111 [some (vr 91), some (vi all), none, some (vi w), some (vi s)] [] (I, J, PP (f1, f2, false)) (cIN K) := by
  intro m
  induction m with
  | zero =>
    intro s w hs h0 h45 hlow hat
    obtain rfl : s = 100000 := hs
    refine x264f_111 (Nat.zero_le _) ⟨fun _ => cIN_r fun _ => g w (fun v hv => ?_) hat hin, fun q => by omega⟩
    have h1 := hin v hv
    have := hlow (enC tens v) (enC_lt h1) (by rw [deC_enC h1]; exact hv)
    rw [deC_enC h1] at this
    exact this
  | succ m ih =>
    intro s w hs h0 h45 hlow hat
    have hrs := hr s (by omega)
    have esum : (deC tens s).sum = s % 10 + (s / 10 % 10 + (s / 100 % 10 + (s / 1000 % 10 + s / 10000))) := by
      show s % 10 + (s / 10 % 10 + (s / 10 / 10 % 10 + (s / 10 / 10 / 10 % 10 + (s / 10 / 10 / 10 / 10 % 10 + 0)))) = _
      omega
    have e1 : iRem (s : Int) 10 = (s % 10 : Nat) := by rw [iRem_pos (by omega) (by omega) (by omega) (by omega)]; omega
    have e2 : iRem (iDiv (s : Int) 10) 10 = (s / 10 % 10 : Nat) := by rw [iDiv_pos (by omega) (by omega) (by omega) (by omega), iRem_pos (by omega) (by omega) (by omega) (by omega)]; omega
    have e3 : iRem (iDiv (s : Int) 100) 10 = (s / 100 % 10 : Nat) := by rw [iDiv_pos (by omega) (by omega) (by omega) (by omega), iRem_pos (by omega) (by omega) (by omega) (by omega)]; omega
    have e4 : iRem (iDiv (s : Int) 1000) 10 = (s / 1000 % 10 : Nat) := by rw [iDiv_pos (by omega) (by omega) (by omega) (by omega), iRem_pos (by omega) (by omega) (by omega) (by omega)]; omega
    have e5 : iDiv (s : Int) 10000 = (s / 10000 : Nat) := by rw [iDiv_pos (by omega) (by omega) (by omega) (by omega)]; omega
    refine x264f_111 (Nat.zero_le _) ?_
    rw [toN, e1, e2, e3, e4, e5]
    rw [w32_id (x := ((s % 10 : Nat) : Int) + ((s / 10 % 10 : Nat) : Int)) (by omega) (by omega), w32_id (x := ((s % 10 : Nat) : Int) + ((s / 10 % 10 : Nat) : Int) + ((s / 100 % 10 : Nat) : Int)) (by omega) (by omega), w32_id (x := ((s % 10 : Nat) : Int) + ((s / 10 % 10 : Nat) : Int) + ((s / 100 % 10 : Nat) : Int) + ((s / 1000 % 10 : Nat) : Int)) (by omega) (by omega), w32_id (x := ((s % 10 : Nat) : Int) + ((s / 10 % 10 : Nat) : Int) + ((s / 100 % 10 : Nat) : Int) + ((s / 1000 % 10 : Nat) : Int) + ((s / 10000 : Nat) : Int)) (by omega) (by omega), w32_id (x := (all : Int) - (((s % 10 : Nat) : Int) + ((s / 10 % 10 : Nat) : Int) + ((s / 100 % 10 : Nat) : Int) + ((s / 1000 % 10 : Nat) : Int) + ((s / 10000 : Nat) : Int))) (by omega) (by omega), w32_id (x := (s : Int) + 1) (by omega) (by omega)]
    refine ⟨fun q => by omega, fun _ => ⟨by omega, fun q => ?_, fun q => ih (s + 1) w (by omega) h0 h45 (fun r hr2 hs2 => ?_) hat⟩⟩
    · have hyes : S (deC tens s) := hrs.2.1 (by omega)
      have hle := hS _ hyes
      have ev : (all : Int) - (((s % 10 : Nat) : Int) + ((s / 10 % 10 : Nat) : Int) + ((s / 100 % 10 : Nat) : Int) + ((s / 1000 % 10 : Nat) : Int) + ((s / 10000 : Nat) : Int)) = ((all - (deC tens s).sum : Nat) : Int) := by omega
      rw [ev]
      refine ⟨fun q2 => ih (s + 1) w (by omega) h0 h45 (fun r hr2 hs2 => ?_) hat, fun q2 => ih (s + 1) _ (by omega) (by omega) (by omega) (fun r hr2 hs2 => ?_) (Or.inr ⟨_, hyes, rfl⟩)⟩
      · by_cases h1 : r = s
        · subst h1; exact q2
        · exact hlow r (by omega) hs2
      · by_cases h1 : r = s
        · subst h1; exact Int.le_refl _
        · have := hlow r (by omega) hs2
          omega
    · by_cases h1 : r = s
      · subst h1
        have := hrs.2.2 hs2
        omega
      · exact hlow r (by omega) hs2

end BESTM
