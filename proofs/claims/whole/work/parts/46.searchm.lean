section SEARCHM
variable {G : Ctx} {h n : Nat} {I : MI} {J : MJ} {b : B3} {x y z u v e : Int} {a : BitVec 64} {f1 f2 f3 : Bool}

theorem s105t_l {K : Int → MI → MJ → B3 → Prop} {hl : List Nat} {I0 : MI} (hh : 2 ≤ h) (hlb : hl.length = 5 ∧ ∀ v ∈ hl, v ≤ 9) (h90 : ∀ s : Nat, s < 5 → I0 90 s = (hl.getD s 0 : Nat)) (g : ∀ I2 J2, frK [85, 88, 89] I0 I2 → srI I2 hl → frJ [86] J J2 → rdS J2 86 hl (fun v => v = hl) → K (hl.sum : Nat) I2 J2 (true, f2, f3)) : ∀ (m s : Nat) (I' : MI), s + m = 5 → frK [85, 88, 89] I0 I' → (∀ t : Nat, t < s → I' 88 t = prd ((blV hl).take t) ∧ I' 89 t = (blV hl).getD t 1) → Tri G h 105 119 119 10 [some (vr 85), some (vr 90), some (vi (prd ((blV hl).take s) : Nat)), some (vi (enC ((blV hl).take s) (hl.take s) : Nat)), some (vi ((hl.take s).sum : Nat)), some (vi s)] [] (I', J, PP (true, f2, f3)) (cIN K) := by
  have hb := blV_b hlb
  have hwu : wuV hl = (prd (blV hl) + 63) / 64 := rfl
  have hin : inB (blV hl) hl := by
    have : ∀ l : List Nat, inB (blV l) l := by
      intro l
      induction l with
      | nil => trivial
      | cons a r ih => exact ⟨Nat.lt_succ_self _, ih⟩
    exact this hl
  intro m
  induction m with
  | zero =>
    intro s I' hs5 hf hr
    obtain rfl : s = 5 := hs5
    have e1 : (blV hl).take 5 = blV hl := List.take_of_length_le (by rw [hb.1]; exact Nat.le_refl _)
    have e2 : hl.take 5 = hl := List.take_of_length_le (by rw [hlb.1]; exact Nat.le_refl _)
    have hlt := enC_lt hin
    refine x105t_10 hh ?_
    rw [e1, e2, w32_id (by omega) (by omega), iDiv_pos (by omega) (by omega) (by omega) (by omega)]
    have em : min (1563 : Int) (((prd (blV hl) : Nat) : Int) + 63) / 64 = 0 ∨ True := Or.inr trivial
    have em2 : min (1563 : Int) ((((prd (blV hl) : Nat) : Int) + 63) / 64) = ((wuV hl : Nat) : Int) := by omega
    rw [em2]
    refine ⟨fun _ => ⟨by omega, by omega, cIN_r fun _ => g _ _ (hf.u (by decide)) ⟨hlb, fun s hs => ?_, ?_⟩ ?_ ⟨fun c hc => ?_, fun v hv => ?_⟩⟩, fun q => by omega⟩
    · rw [u2n (by decide), u2n (by decide)]
      exact hr s hs
    · exact u2e
    · refine frJ.u ?_ (by decide)
      intro k hk
      rw [u1_ne (fun q => hk (by rw [q]; decide))]
    · rw [toN, bitJ_set]
      have : bitJ (u1 J 86 (fun j => if (j : Int) < ((wuV hl : Nat) : Int) then 0#64 else J 86 j)) 86 c = false := by
        unfold bitJ
        rw [u1e, if_pos (by omega)]
        simp
      rw [this, Bool.false_or, decide_eq_true_eq]
      constructor
      · intro q
        subst q
        exact ⟨hlt, deC_enC hin⟩
      · rintro ⟨q1, q2⟩
        rw [← enC_deC q1, q2]
    · rw [hv]; exact hin
  | succ m ih =>
    intro s I' hs5 hf hr
    have hs4 : s < 5 := by omega
    have hg := bg_b hlb hs4
    have hp := pt_b hlb s
    have hp1 := pt_b hlb (s + 1)
    have hpt := prd_take (bs := blV hl) (s := s) (by rw [hb.1]; exact hs4)
    have het := enC_take (bs := blV hl) (vs := hl) (s := s) (by rw [hb.1]; exact hs4) (by rw [hb.1]; exact hlb.1)
    have hsm : (hl.take (s + 1)).sum = (hl.take s).sum + hl.getD s 0 := by
      have hsl : s < hl.length := by rw [hlb.1]; exact hs4
      rw [List.take_succ_eq_append_getElem hsl, List.sum_append]
      have : hl.getD s 0 = hl[s] := by rw [List.getD_eq_getElem?_getD, List.getElem?_eq_getElem hsl]; rfl
      simp only [List.sum_cons, List.sum_nil]
      omega
    have hsb : ∀ t, t ≤ 5 → (hl.take t).sum ≤ 9 * t := by
      intro t
      induction t with
      | zero => intro _; simp
      | succ t iht =>
        intro ht
        have h1 := iht (by omega)
        have hg2 := bg_b hlb (s := t) (by omega)
        have htl : t < hl.length := by rw [hlb.1]; omega
        rw [List.take_succ_eq_append_getElem htl, List.sum_append]
        have : hl.getD t 0 = hl[t] := by rw [List.getD_eq_getElem?_getD, List.getElem?_eq_getElem htl]; rfl
        simp only [List.sum_cons, List.sum_nil]
        omega
    have hsb1 := hsb s (by omega)
    have hel : enC ((blV hl).take (s + 1)) (hl.take (s + 1)) < prd ((blV hl).take (s + 1)) := by
      have : ∀ (l : List Nat) (t : Nat), inB ((blV l).take t) (l.take t) := by
        intro l
        induction l with
        | nil => intro t; simp [inB]
        | cons a r ihr =>
          intro t
          cases t with
          | zero => trivial
          | succ t => exact ⟨Nat.lt_succ_self _, ihr t⟩
      exact enC_lt (this hl (s + 1))
    have emin : min (I' 90 s) 9 = ((hl.getD s 0 : Nat) : Int) := by
      rw [hf 90 (by decide), h90 s hs4]
      omega
    obtain ⟨P, hP⟩ : ∃ P, prd ((blV hl).take s) = P := ⟨_, rfl⟩
    obtain ⟨H, hH⟩ : ∃ H, hl.getD s 0 = H := ⟨_, rfl⟩
    rw [hg.1, hP, hH] at hpt
    rw [hP, hH] at het
    rw [hP] at hp
    rw [hH] at hsm hg emin
    have e1 : (P : Int) * ((H : Int) + 1) = ((P * (H + 1) : Nat) : Int) := by rw [Int.natCast_mul]; rfl
    have e2 : (H : Int) * (P : Int) = ((H * P : Nat) : Int) := (Int.natCast_mul _ _).symm
    refine x105t_10 hh ?_
    rw [toN s, emin, hP, w32_id (x := (H : Int) + 1) (by omega) (by omega), e1, e2, w32_id (x := ((P * (H + 1) : Nat) : Int)) (by omega) (by omega), w32_id (x := ((H * P : Nat) : Int)) (by omega) (by omega), w32_id (x := ((enC ((blV hl).take s) (hl.take s) : Nat) : Int) + ((H * P : Nat) : Int)) (by omega) (by omega), w32_id (x := (((hl.take s).sum : Nat) : Int) + (H : Int)) (by omega) (by omega), w32_id (x := (s : Int) + 1) (by omega) (by omega)]
    refine ⟨fun q => by omega, fun _ => ⟨by omega, by omega, by omega, ?_⟩⟩
    have := ih (s + 1) (u2 (u2 I' 88 s (P : Nat)) 89 s ((H : Int) + 1)) (by omega) ((hf.u (by decide)).u (by decide)) (fun t ht => ?_)
    · rw [hpt, het, hsm, Int.natCast_add, Int.natCast_add] at this
      exact this
    · by_cases hts : t = s
      · subst hts
        rw [u2n (by decide), u2e, u2e, hP, (bg_b hlb hs4).1, hH]
        exact ⟨rfl, rfl⟩
      · rw [u2n (by decide), u2j hts, u2j hts, u2n (by decide)]
        exact hr t (by omega)
theorem s105t {K : Int → MI → MJ → B3 → Prop} {hl : List Nat} (hh : 3 ≤ h) (hlb : hl.length = 5 ∧ ∀ v ∈ hl, v ≤ 9) (h90 : ∀ s : Nat, s < 5 → I 90 s = (hl.getD s 0 : Nat)) (g : ∀ I2 J2, frK [85, 88, 89] I I2 → srI I2 hl → frJ [86] J J2 → rdS J2 86 hl (fun v => v = hl) → K (hl.sum : Nat) I2 J2 (true, f2, f3)) : TriM G h 105 119 119 [vr 85, vr 90] (I, J, PP (true, f2, f3)) (cIN K) :=
  x105t_m hh (fun h hh => x105t (by omega) (s105t_l hh hlb h90 g 5 0 I rfl frK.r (fun t ht => by omega)))

theorem s105f_l {K : Int → MI → MJ → B3 → Prop} {hl : List Nat} {I0 : MI} (hh : 2 ≤ h) (hlb : hl.length = 5 ∧ ∀ v ∈ hl, v ≤ 9) (h90 : ∀ s : Nat, s < 5 → I0 90 s = (hl.getD s 0 : Nat)) (g : ∀ I2 J2, frK [85, 88, 89] I0 I2 → srI I2 hl → frJ [87] J J2 → rdS J2 87 hl (fun v => v = hl) → K (hl.sum : Nat) I2 J2 (false, f2, f3)) : ∀ (m s : Nat) (I' : MI), s + m = 5 → frK [85, 88, 89] I0 I' → (∀ t : Nat, t < s → I' 88 t = prd ((blV hl).take t) ∧ I' 89 t = (blV hl).getD t 1) → Tri G h 105 119 119 10 [some (vr 85), some (vr 90), some (vi (prd ((blV hl).take s) : Nat)), some (vi (enC ((blV hl).take s) (hl.take s) : Nat)), some (vi ((hl.take s).sum : Nat)), some (vi s)] [] (I', J, PP (false, f2, f3)) (cIN K) := by
  have hb := blV_b hlb
  have hwu : wuV hl = (prd (blV hl) + 63) / 64 := rfl
  have hin : inB (blV hl) hl := by
    have : ∀ l : List Nat, inB (blV l) l := by
      intro l
      induction l with
      | nil => trivial
      | cons a r ih => exact ⟨Nat.lt_succ_self _, ih⟩
    exact this hl
  intro m
  induction m with
  | zero =>
    intro s I' hs5 hf hr
    obtain rfl : s = 5 := hs5
    have e1 : (blV hl).take 5 = blV hl := List.take_of_length_le (by rw [hb.1]; exact Nat.le_refl _)
    have e2 : hl.take 5 = hl := List.take_of_length_le (by rw [hlb.1]; exact Nat.le_refl _)
    have hlt := enC_lt hin
    refine x105f_10 hh ?_
    rw [e1, e2, w32_id (by omega) (by omega), iDiv_pos (by omega) (by omega) (by omega) (by omega)]
    have em : min (1563 : Int) (((prd (blV hl) : Nat) : Int) + 63) / 64 = 0 ∨ True := Or.inr trivial
    have em2 : min (1563 : Int) ((((prd (blV hl) : Nat) : Int) + 63) / 64) = ((wuV hl : Nat) : Int) := by omega
    rw [em2]
    refine ⟨fun _ => ⟨by omega, by omega, cIN_r fun _ => g _ _ (hf.u (by decide)) ⟨hlb, fun s hs => ?_, ?_⟩ ?_ ⟨fun c hc => ?_, fun v hv => ?_⟩⟩, fun q => by omega⟩
    · rw [u2n (by decide), u2n (by decide)]
      exact hr s hs
    · exact u2e
    · refine frJ.u ?_ (by decide)
      intro k hk
      rw [u1_ne (fun q => hk (by rw [q]; decide))]
    · rw [toN, bitJ_set]
      have : bitJ (u1 J 87 (fun j => if (j : Int) < ((wuV hl : Nat) : Int) then 0#64 else J 87 j)) 87 c = false := by
        unfold bitJ
        rw [u1e, if_pos (by omega)]
        simp
      rw [this, Bool.false_or, decide_eq_true_eq]
      constructor
      · intro q
        subst q
        exact ⟨hlt, deC_enC hin⟩
      · rintro ⟨q1, q2⟩
        rw [← enC_deC q1, q2]
    · rw [hv]; exact hin
  | succ m ih =>
    intro s I' hs5 hf hr
    have hs4 : s < 5 := by omega
    have hg := bg_b hlb hs4
    have hp := pt_b hlb s
    have hp1 := pt_b hlb (s + 1)
    have hpt := prd_take (bs := blV hl) (s := s) (by rw [hb.1]; exact hs4)
    have het := enC_take (bs := blV hl) (vs := hl) (s := s) (by rw [hb.1]; exact hs4) (by rw [hb.1]; exact hlb.1)
    have hsm : (hl.take (s + 1)).sum = (hl.take s).sum + hl.getD s 0 := by
      have hsl : s < hl.length := by rw [hlb.1]; exact hs4
      rw [List.take_succ_eq_append_getElem hsl, List.sum_append]
      have : hl.getD s 0 = hl[s] := by rw [List.getD_eq_getElem?_getD, List.getElem?_eq_getElem hsl]; rfl
      simp only [List.sum_cons, List.sum_nil]
      omega
    have hsb : ∀ t, t ≤ 5 → (hl.take t).sum ≤ 9 * t := by
      intro t
      induction t with
      | zero => intro _; simp
      | succ t iht =>
        intro ht
        have h1 := iht (by omega)
        have hg2 := bg_b hlb (s := t) (by omega)
        have htl : t < hl.length := by rw [hlb.1]; omega
        rw [List.take_succ_eq_append_getElem htl, List.sum_append]
        have : hl.getD t 0 = hl[t] := by rw [List.getD_eq_getElem?_getD, List.getElem?_eq_getElem htl]; rfl
        simp only [List.sum_cons, List.sum_nil]
        omega
    have hsb1 := hsb s (by omega)
    have hel : enC ((blV hl).take (s + 1)) (hl.take (s + 1)) < prd ((blV hl).take (s + 1)) := by
      have : ∀ (l : List Nat) (t : Nat), inB ((blV l).take t) (l.take t) := by
        intro l
        induction l with
        | nil => intro t; simp [inB]
        | cons a r ihr =>
          intro t
          cases t with
          | zero => trivial
          | succ t => exact ⟨Nat.lt_succ_self _, ihr t⟩
      exact enC_lt (this hl (s + 1))
    have emin : min (I' 90 s) 9 = ((hl.getD s 0 : Nat) : Int) := by
      rw [hf 90 (by decide), h90 s hs4]
      omega
    obtain ⟨P, hP⟩ : ∃ P, prd ((blV hl).take s) = P := ⟨_, rfl⟩
    obtain ⟨H, hH⟩ : ∃ H, hl.getD s 0 = H := ⟨_, rfl⟩
    rw [hg.1, hP, hH] at hpt
    rw [hP, hH] at het
    rw [hP] at hp
    rw [hH] at hsm hg emin
    have e1 : (P : Int) * ((H : Int) + 1) = ((P * (H + 1) : Nat) : Int) := by rw [Int.natCast_mul]; rfl
    have e2 : (H : Int) * (P : Int) = ((H * P : Nat) : Int) := (Int.natCast_mul _ _).symm
    refine x105f_10 hh ?_
    rw [toN s, emin, hP, w32_id (x := (H : Int) + 1) (by omega) (by omega), e1, e2, w32_id (x := ((P * (H + 1) : Nat) : Int)) (by omega) (by omega), w32_id (x := ((H * P : Nat) : Int)) (by omega) (by omega), w32_id (x := ((enC ((blV hl).take s) (hl.take s) : Nat) : Int) + ((H * P : Nat) : Int)) (by omega) (by omega), w32_id (x := (((hl.take s).sum : Nat) : Int) + (H : Int)) (by omega) (by omega), w32_id (x := (s : Int) + 1) (by omega) (by omega)]
    refine ⟨fun q => by omega, fun _ => ⟨by omega, by omega, by omega, ?_⟩⟩
    have := ih (s + 1) (u2 (u2 I' 88 s (P : Nat)) 89 s ((H : Int) + 1)) (by omega) ((hf.u (by decide)).u (by decide)) (fun t ht => ?_)
    · rw [hpt, het, hsm, Int.natCast_add, Int.natCast_add] at this
      exact this
    · by_cases hts : t = s
      · subst hts
        rw [u2n (by decide), u2e, u2e, hP, (bg_b hlb hs4).1, hH]
        exact ⟨rfl, rfl⟩
      · rw [u2n (by decide), u2j hts, u2j hts, u2n (by decide)]
        exact hr t (by omega)
theorem s105f {K : Int → MI → MJ → B3 → Prop} {hl : List Nat} (hh : 3 ≤ h) (hlb : hl.length = 5 ∧ ∀ v ∈ hl, v ≤ 9) (h90 : ∀ s : Nat, s < 5 → I 90 s = (hl.getD s 0 : Nat)) (g : ∀ I2 J2, frK [85, 88, 89] I I2 → srI I2 hl → frJ [87] J J2 → rdS J2 87 hl (fun v => v = hl) → K (hl.sum : Nat) I2 J2 (false, f2, f3)) : TriM G h 105 119 119 [vr 85, vr 90] (I, J, PP (false, f2, f3)) (cIN K) :=
  x105f_m hh (fun h hh => x105f (by omega) (s105f_l hh hlb h90 g 5 0 I rfl frK.r (fun t ht => by omega)))

/-- the steps of class and reference -/
def spC (I : MI) (d c : Int) (S : VS) : VS := stQ (opD I d.toNat) (I 27 c.toNat).toNat S
def spR (I : MI) (d c : Int) (S : VS) : VS := stR (opD I d.toNat) (I 27 c.toNat).toNat S
def rdF0 (J : MJ) (f : Bool) (hl : List Nat) (S : VS) : Prop := rdS J (if f = true then 86 else 87) hl S
theorem stQ_in {hl : List Nat} (h : hl.length = 5 ∧ ∀ v ∈ hl, v ≤ 9) {op : Nat → Prop} {k : Nat} {S : VS} (hS : ∀ v, S v → inB (blV hl) v) : ∀ v, stQ op k S v → inB (blV hl) v := by
  intro v hv
  rcases hv with hv | hv
  · exact stK_in h hS v hv.2
  · exact hS v hv.2
theorem stQ_same {op : Nat → Prop} {k : Nat} {S : VS} (hz : k = 0 ∨ S [0, 0, 0, 0, 0]) : stQ op k S = S := by
  funext v
  apply propext
  constructor
  · rintro (q | q)
    · exact absurd hz q.1
    · exact q.2
  · exact fun q => Or.inr ⟨hz, q⟩
theorem stQ_step {op : Nat → Prop} {k : Nat} {S : VS} (hz : ¬ (k = 0 ∨ S [0, 0, 0, 0, 0])) : stQ op k S = stK op k S := by
  funext v
  apply propext
  constructor
  · rintro (q | q)
    · exact q.2
    · exact absurd q.1 hz
  · exact fun q => Or.inl ⟨hz, q⟩
theorem s104_c {Q : MP} {hl : List Nat} {all : Int} {d : Nat} {J0 : MJ} (hh : 5 ≤ h) (hL : rLast 0 92 I) (hs : srI I hl) (hd : d < 4) (SF : VS) (hg : ∀ J2 f S, S = SF → frJ [86, 87] J0 J2 → rdF0 J2 f hl S → (∃ v, S v) → Tri G h 104 119 119 9 [some (vr 85), some (vr 25), none, some (vi all), some (vi ((d : Int) + 1))] [] (I, J2, PP (f, f2, f3)) Q) : ∀ (m c : Nat) (J' : MJ) (f : Bool) (S : VS), (c : Int) + m = I 25 1 → frJ [86, 87] J0 J' → rdF0 J' f hl S → (∃ v, S v) → fvC (spC I) d m c S = SF → Tri G h 104 119 119 21 [some (vr 85), some (vr 25), none, some (vi all), some (vi d), some (vi c)] [] (I, J', PP (f, f2, f3)) Q := by
  have l2 := hL.2.1
  simp only [Nat.reduceAdd] at l2
  have hb := blV_b hs.1
  have hwu : wuV hl = (prd (blV hl) + 63) / 64 := rfl
  intro m
  induction m with
  | zero =>
    intro c J' f S hc hf hr hne hSF
    have fin := hg J' f S hSF hf hr hne
    cases f with
    | true =>
      refine x104t_21 hh ?_
      rw [w32_id (by omega) (by omega)]
      exact ⟨fun _ => fin, fun q => by omega⟩
    | false =>
      refine x104f_21 hh ?_
      rw [w32_id (by omega) (by omega)]
      exact ⟨fun _ => fin, fun q => by omega⟩
  | succ m ih =>
    intro c J' f S hc hf hr hne hSF
    have h4 := hL.2.2.2.1 c (by omega) (by omega)
    simp only [Nat.reduceAdd, toN] at h4
    obtain ⟨k, hk⟩ : ∃ k : Nat, I 27 c = k := ⟨(I 27 c).toNat, by omega⟩
    have hSF2 : fvC (spC I) d m ((c : Int) + 1) (stQ (opD I d) k S) = SF := by
      have e : spC I d c S = stQ (opD I d) k S := by
        unfold spC
        rw [toN, toN, hk, toN]
      rw [← e]
      exact hSF
    have hz0 : ∀ R, rdS J' R hl S → (bitJ J' R 0 = true ↔ S [0, 0, 0, 0, 0]) := by
      intro R hR
      rw [hR.1 0 (by omega), zero_dec hs.1.1]
      exact ⟨fun q => q.2, fun q => ⟨hb.2.2.1, q⟩⟩
    cases f with
    | true =>
      have hr2 : rdS J' 86 hl S := hr
      have same : (k = 0 ∨ S [0, 0, 0, 0, 0]) → Tri G h 104 119 119 21 [some (vr 85), some (vr 25), none, some (vi all), some (vi d), some (vi (w32 ((c : Int) + 1)))] [] (I, J', PP (true, f2, f3)) Q := by
        intro hz
        rw [stQ_same hz] at hSF2
        rw [w32_id (by omega) (by omega)]
        exact ih (c + 1) J' true S (by omega) hf hr hne hSF2
      refine x104t_21 hh ?_
      rw [toN, hk]
      refine ⟨fun q => by omega, fun _ => ⟨by omega, fun q => ⟨by omega, fun q2 => same (Or.inl (by omega)), fun q2 => same (Or.inr ((hz0 86 hr2).1 q))⟩, fun q => ⟨by omega, fun q2 => same (Or.inl (by omega)), fun q2 => ⟨by omega, ?_⟩⟩⟩⟩
      have hz : ¬ (k = 0 ∨ S [0, 0, 0, 0, 0]) := by
        rintro (z | z)
        · omega
        · exact q ((hz0 86 hr2).2 z)
      refine s107t (d := d) (k := k) (by omega) hs hd (by omega) hr2 rfl rfl fun J2 hf2 hr3 => ?_
      rw [w32_id (by omega) (by omega)]
      rw [stQ_step hz] at hSF2
      refine ih (c + 1) J2 false _ (by omega) (hf.t (hf2.mo (by decide))) hr3 ?_ hSF2
      obtain ⟨v, hv⟩ := hne
      have hv2 := hr2.2 v hv
      by_cases hx : ∃ s, s < 5 ∧ opD I d s ∧ 0 < v.getD s 0
      · obtain ⟨s, s1, s2, s3⟩ := hx
        exact ⟨_, Or.inl ⟨v, s, hv, s1, s2, s3, rfl⟩⟩
      · refine ⟨v, Or.inr ⟨hv, fun s s1 s2 => ?_⟩⟩
        apply Classical.byContradiction
        intro hc2
        exact hx ⟨s, s1, s2, by omega⟩
    | false =>
      have hr2 : rdS J' 87 hl S := hr
      have same : (k = 0 ∨ S [0, 0, 0, 0, 0]) → Tri G h 104 119 119 21 [some (vr 85), some (vr 25), none, some (vi all), some (vi d), some (vi (w32 ((c : Int) + 1)))] [] (I, J', PP (false, f2, f3)) Q := by
        intro hz
        rw [stQ_same hz] at hSF2
        rw [w32_id (by omega) (by omega)]
        exact ih (c + 1) J' false S (by omega) hf hr hne hSF2
      refine x104f_21 hh ?_
      rw [toN, hk]
      refine ⟨fun q => by omega, fun _ => ⟨by omega, fun q => ⟨by omega, fun q2 => same (Or.inl (by omega)), fun q2 => same (Or.inr ((hz0 87 hr2).1 q))⟩, fun q => ⟨by omega, fun q2 => same (Or.inl (by omega)), fun q2 => ⟨by omega, ?_⟩⟩⟩⟩
      have hz : ¬ (k = 0 ∨ S [0, 0, 0, 0, 0]) := by
        rintro (z | z)
        · omega
        · exact q ((hz0 87 hr2).2 z)
      refine s107f (d := d) (k := k) (by omega) hs hd (by omega) hr2 rfl rfl fun J2 hf2 hr3 => ?_
      rw [w32_id (by omega) (by omega)]
      rw [stQ_step hz] at hSF2
      refine ih (c + 1) J2 true _ (by omega) (hf.t (hf2.mo (by decide))) hr3 ?_ hSF2
      obtain ⟨v, hv⟩ := hne
      have hv2 := hr2.2 v hv
      by_cases hx : ∃ s, s < 5 ∧ opD I d s ∧ 0 < v.getD s 0
      · obtain ⟨s, s1, s2, s3⟩ := hx
        exact ⟨_, Or.inl ⟨v, s, hv, s1, s2, s3, rfl⟩⟩
      · refine ⟨v, Or.inr ⟨hv, fun s s1 s2 => ?_⟩⟩
        apply Classical.byContradiction
        intro hc2
        exact hx ⟨s, s1, s2, by omega⟩
theorem s104_d {K : Int → MI → MJ → B3 → Prop} {hl : List Nat} {J0 : MJ} {SF : VS} (hh : 5 ≤ h) (hL : rLast 0 92 I) (hs : srI I hl) (hle : ∀ l : Nat, lstS SF l → l ≤ hl.sum) (g : ∀ J2 b2 (l : Nat), frJ [86, 87] J0 J2 → lstS SF l → K ((hl.sum - l : Nat) : Int) I J2 b2) : ∀ (m d : Nat) (J' : MJ) (f : Bool) (S : VS), (d : Int) + m = I 25 0 → frJ [86, 87] J0 J' → rdF0 J' f hl S → (∃ v, S v) → fvD (spC I) (I 25 1).toNat m d S = SF → Tri G h 104 119 119 9 [some (vr 85), some (vr 25), none, some (vi (hl.sum : Nat)), some (vi d)] [] (I, J', PP (f, f2, f3)) (cIN K) := by
  have l1 := hL.1
  have l2 := hL.2.1
  simp only [Nat.reduceAdd] at l1 l2
  have hsum45 : hl.sum ≤ 45 := by
    have hg : ∀ t, t < 5 → hl.getD t 0 ≤ 9 := fun t ht => (bg_b hs.1 ht).2
    rw [sum5 hs.1.1]
    have h0 := hg 0 (by omega)
    have h1 := hg 1 (by omega)
    have h2 := hg 2 (by omega)
    have h3 := hg 3 (by omega)
    have h4 := hg 4 (by omega)
    omega
  intro m
  induction m with
  | zero =>
    intro d J' f S hd hf hr hne hSF
    have hSF2 : S = SF := hSF
    have fin : ∀ l : Nat, lstS S l → w32 (((hl.sum : Nat) : Int) - l) = ((hl.sum - l : Nat) : Int) := by
      intro l hl2
      rw [hSF2] at hl2
      have := hle l hl2
      rw [w32_id (by omega) (by omega)]
      omega
    cases f with
    | true =>
      refine x104t_9 (by omega) ⟨fun _ => s110t (by omega) hs hr hne fun l hl2 => cIN_r fun _ => ?_, fun q => by omega⟩
      rw [fin l hl2]
      exact g J' _ l hf (by rw [← hSF2]; exact hl2)
    | false =>
      refine x104f_9 (by omega) ⟨fun _ => s110f (by omega) hs hr hne fun l hl2 => cIN_r fun _ => ?_, fun q => by omega⟩
      rw [fin l hl2]
      exact g J' _ l hf (by rw [← hSF2]; exact hl2)
  | succ m ih =>
    intro d J' f S hd hf hr hne hSF
    have nx : Tri G h 104 119 119 21 [some (vr 85), some (vr 25), none, some (vi (hl.sum : Nat)), some (vi d), some (vi 0)] [] (I, J', PP (f, f2, f3)) (cIN K) := by
      have hg : ∀ J2 f S2, S2 = fvC (spC I) d (I 25 1).toNat 0 S → frJ [86, 87] J0 J2 → rdF0 J2 f hl S2 → (∃ v, S2 v) → Tri G h 104 119 119 9 [some (vr 85), some (vr 25), none, some (vi (hl.sum : Nat)), some (vi ((d : Int) + 1))] [] (I, J2, PP (f, f2, f3)) (cIN K) := by
        intro J2 f S2 hS2 hf2 hr2 hne2
        refine ih (d + 1) J2 f S2 (by omega) hf2 hr2 hne2 ?_
        rw [hS2]
        exact hSF
      exact s104_c (J0 := J0) (f2 := f2) (f3 := f3) (all := (hl.sum : Nat)) (Q := cIN K) hh hL hs (d := d) (by omega) (fvC (spC I) d (I 25 1).toNat 0 S) hg (I 25 1).toNat 0 J' f S (by omega) hf hr hne rfl
    cases f with
    | true => exact x104t_9 (by omega) ⟨fun q => by omega, fun _ => nx⟩
    | false => exact x104f_9 (by omega) ⟨fun q => by omega, fun _ => nx⟩
end SEARCHM
