section BESTP
variable {G : Ctx} {h n : Nat} {I : MI} {J : MJ} {b : B3} {x y z u v e : Int} {a : BitVec 64} {f1 f2 f3 : Bool}
def rmF (I : MI) (f : Bool) (S : VS) : Prop := rmS I (if f = true then 116 else 117) S
theorem opM_k {S : List Nat} {I' : MI} (hf : frK S I I') (hS : ∀ k ∈ [26, 28], k ∉ S) : opM I' = opM I := by
  funext d s
  unfold opM
  rw [hf 26 (hS 26 (by decide)), hf 28 (hS 28 (by decide))]
theorem s264_c {Q : MP} {hl : List Nat} {all : Int} {d : Nat} {I0 : MI} (hh : 2 ≤ h) (hL : rLast 0 92 I0) (hd : d < 4) (hz : ∀ s, s < 5 → I0 26 s = -1 → hl.getD s 0 = 0) (SF : VS) (hg : ∀ I2 f S, S = SF → frK [116, 117] I0 I2 → rmF I2 f S → (∀ v, S v → inB tens v ∧ leV v hl) → Tri G h 264 119 119 61 [some (vr 91), some (vi all), none, some (vi ((d : Int) + 1))] [] (I2, J, PP (f1, f2, f)) Q) : ∀ (m c : Nat) (I' : MI) (f : Bool) (S : VS), (c : Int) + m = I0 25 1 → frK [116, 117] I0 I' → rmF I' f S → (∀ v, S v → inB tens v ∧ leV v hl) → fvC (spR I0) d m c S = SF → Tri G h 264 119 119 75 [some (vr 91), some (vi all), none, some (vi d), some (vi c)] [] (I', J, PP (f1, f2, f)) Q := by
  have l2 := hL.2.1
  simp only [Nat.reduceAdd] at l2
  intro m
  induction m with
  | zero =>
    intro c I' f S hc hf hr hS hSF
    have fin := hg I' f S hSF hf hr hS
    have e92 := hf 92 (by decide)
    cases f with
    | true =>
      refine x264t_75 hh ?_
      rw [w32_id (by omega) (by omega), e92]
      exact ⟨fun _ => fin, fun q => by omega⟩
    | false =>
      refine x264f_75 hh ?_
      rw [w32_id (by omega) (by omega), e92]
      exact ⟨fun _ => fin, fun q => by omega⟩
  | succ m ih =>
    intro c I' f S hc hf hr hS hSF
    have e92 := hf 92 (by decide)
    have hL' := hL.k hf (by decide)
    have h4 := hL.2.2.2.1 c (by omega) (by omega)
    simp only [Nat.reduceAdd, toN] at h4
    obtain ⟨k, hk⟩ : ∃ k : Nat, I0 27 c = k := ⟨(I0 27 c).toNat, by omega⟩
    have hk' : I' 27 c = k := by rw [hf 27 (by decide)]; exact hk
    have hSF2 : fvC (spR I0) d m ((c : Int) + 1) (stR (opD I0 d) k S) = SF := by
      have e : spR I0 d c S = stR (opD I0 d) k S := by
        unfold spR
        rw [toN, toN, hk, toN]
      rw [← e]
      exact hSF
    have eop : stR (opM I' d) k S = stR (opD I0 d) k S := by
      rw [opM_k hf (by decide)]
      exact stR_eq hS hz
    cases f with
    | true =>
      refine x264t_75 hh ?_
      rw [e92]
      refine ⟨fun q => by omega, fun _ => s263t (by omega) hL' (by omega) hd hk' (by omega) hr (fun v hv => (hS v hv).1) fun I2 hf2 hr2 => ?_⟩
      rw [w32_id (by omega) (by omega)]
      rw [eop] at hr2
      exact ih (c + 1) I2 false _ (by omega) (hf.t (hf2.mo (by decide))) hr2 (stR_in hS) hSF2
    | false =>
      refine x264f_75 hh ?_
      rw [e92]
      refine ⟨fun q => by omega, fun _ => s263f (by omega) hL' (by omega) hd hk' (by omega) hr (fun v hv => (hS v hv).1) fun I2 hf2 hr2 => ?_⟩
      rw [w32_id (by omega) (by omega)]
      rw [eop] at hr2
      exact ih (c + 1) I2 true _ (by omega) (hf.t (hf2.mo (by decide))) hr2 (stR_in hS) hSF2
theorem s264_d {K : Int → MI → MJ → B3 → Prop} {hl : List Nat} {I0 : MI} {SF : VS} (hh : 2 ≤ h) (hL : rLast 0 92 I0) (hlen : hl.length = 5) (h45 : hl.sum ≤ 45) (hz : ∀ s, s < 5 → I0 26 s = -1 → hl.getD s 0 = 0) (hne : ∃ v, SF v) (g : ∀ I2 b2 (l : Nat), frK [116, 117] I0 I2 → lstS SF l → l ≤ hl.sum → K ((hl.sum - l : Nat) : Int) I2 J b2) : ∀ (m d : Nat) (I' : MI) (f : Bool) (S : VS), (d : Int) + m = I0 25 0 → frK [116, 117] I0 I' → rmF I' f S → (∀ v, S v → inB tens v ∧ leV v hl) → fvD (spR I0) (I0 25 1).toNat m d S = SF → Tri G h 264 119 119 61 [some (vr 91), some (vi (hl.sum : Nat)), none, some (vi d)] [] (I', J, PP (f1, f2, f)) (cIN K) := by
  have l1 := hL.1
  have l2 := hL.2.1
  simp only [Nat.reduceAdd] at l1 l2
  intro m
  induction m with
  | zero =>
    intro d I' f S hd hf hr hS hSF
    have hSF2 : S = SF := hSF
    subst hSF2
    have e92 := hf 92 (by decide)
    have hsum : ∀ v, S v → v.sum ≤ hl.sum := fun v hv => leV_sum (inB_len (hS v hv).1) hlen (hS v hv).2
    have fin : ∀ (b2 : B3) (w : Int), (∀ v, S v → ((hl.sum - v.sum : Nat) : Int) ≤ w) → (w = 0 ∨ ∃ v, S v ∧ w = ((hl.sum - v.sum : Nat) : Int)) → K w I' J b2 := by
      intro b2 w hlow hat
      have hat2 : ∃ v, S v ∧ w = ((hl.sum - v.sum : Nat) : Int) := by
        rcases hat with hat | hat
        · obtain ⟨v, hv⟩ := hne
          have h1 := hlow v hv
          exact ⟨v, hv, by omega⟩
        · exact hat
      obtain ⟨v, v1, v2⟩ := hat2
      have := g I' b2 v.sum hf ⟨⟨v, v1, rfl⟩, fun u hu => by have := hlow u hu; have := hsum u hu; have := hsum v v1; omega⟩ (hsum v v1)
      rw [v2]
      exact this
    cases f with
    | true =>
      refine x264t_61 (by omega) ?_
      rw [e92]
      exact ⟨fun _ => s264t_m h45 hr hsum (fun w p1 p2 _ => fin _ w p1 p2) (fun v hv => (hS v hv).1) 100000 0 0 rfl (by omega) (by omega) (fun r hr2 => by omega) (Or.inl rfl), fun q => by omega⟩
    | false =>
      refine x264f_61 (by omega) ?_
      rw [e92]
      exact ⟨fun _ => s264f_m h45 hr hsum (fun w p1 p2 _ => fin _ w p1 p2) (fun v hv => (hS v hv).1) 100000 0 0 rfl (by omega) (by omega) (fun r hr2 => by omega) (Or.inl rfl), fun q => by omega⟩
  | succ m ih =>
    intro d I' f S hd hf hr hS hSF
    have e92 := hf 92 (by decide)
    have nx : Tri G h 264 119 119 75 [some (vr 91), some (vi (hl.sum : Nat)), none, some (vi d), some (vi 0)] [] (I', J, PP (f1, f2, f)) (cIN K) := by
      refine s264_c (I0 := I0) (hl := hl) hh hL (by omega) hz (fvC (spR I0) d (I0 25 1).toNat 0 S) (fun I2 f S2 hS2 hf2 hr2 hin2 => ?_) (I0 25 1).toNat 0 I' f S (by omega) hf hr hS rfl
      refine ih (d + 1) I2 f S2 (by omega) hf2 hr2 hin2 ?_
      rw [hS2]
      exact hSF
    cases f with
    | true =>
      refine x264t_61 (by omega) ?_
      rw [e92]
      exact ⟨fun q => by omega, fun _ => nx⟩
    | false =>
      refine x264f_61 (by omega) ?_
      rw [e92]
      exact ⟨fun q => by omega, fun _ => nx⟩

theorem s264t_h {Q : MP} {hl : List Nat} {all : Int} (hlen : hl.length = 5) (h9 : ∀ t : Nat, t < 5 → I 115 t = (hl.getD t 0 : Nat) ∧ hl.getD t 0 ≤ 9) (g : Tri G h 264 119 119 61 [some (vr 91), some (vi all), none, some (vi 0)] [] (u2 I 116 (enC tens hl) 1, J, PP (f1, f2, true)) Q) : Tri G h 264 119 119 30 [some (vr 91), some (vi all), some (vi 0), some (vi 4)] [] (I, J, PP (f1, f2, true)) Q := by
  match hl, hlen with
  | [a0, a1, a2, a3, a4], _ =>
    have q0 := h9 0 (by omega)
    have q1 := h9 1 (by omega)
    have q2 := h9 2 (by omega)
    have q3 := h9 3 (by omega)
    have q4 := h9 4 (by omega)
    simp only [List.getD_cons_zero, List.getD_cons_succ] at q0 q1 q2 q3 q4
    have ee : enC tens [a0, a1, a2, a3, a4] = a0 + 10 * (a1 + 10 * (a2 + 10 * (a3 + 10 * (a4 + 10 * 0)))) := rfl
    rw [ee] at g
    refine x264t_30 (Nat.zero_le _) ⟨fun q => by omega, fun _ => ⟨by omega, ?_⟩⟩
    rw [show (4 : Int).toNat = 4 from rfl, q4.1, show w32 (10 * 0) = 0 by decide, w32_id (x := 0 + (a4 : Int)) (by omega) (by omega), show w32 (4 + (-1)) = 3 by decide]
    refine x264t_30 (Nat.zero_le _) ⟨fun q => by omega, fun _ => ⟨by omega, ?_⟩⟩
    rw [show (3 : Int).toNat = 3 from rfl, q3.1, w32_id (x := 10 * (0 + (a4 : Int))) (by omega) (by omega), w32_id (x := 10 * (0 + (a4 : Int)) + a3) (by omega) (by omega), show w32 (3 + (-1)) = 2 by decide]
    refine x264t_30 (Nat.zero_le _) ⟨fun q => by omega, fun _ => ⟨by omega, ?_⟩⟩
    rw [show (2 : Int).toNat = 2 from rfl, q2.1, w32_id (x := 10 * (10 * (0 + (a4 : Int)) + a3)) (by omega) (by omega), w32_id (x := 10 * (10 * (0 + (a4 : Int)) + a3) + a2) (by omega) (by omega), show w32 (2 + (-1)) = 1 by decide]
    refine x264t_30 (Nat.zero_le _) ⟨fun q => by omega, fun _ => ⟨by omega, ?_⟩⟩
    rw [show (1 : Int).toNat = 1 from rfl, q1.1, w32_id (x := 10 * (10 * (10 * (0 + (a4 : Int)) + a3) + a2)) (by omega) (by omega), w32_id (x := 10 * (10 * (10 * (0 + (a4 : Int)) + a3) + a2) + a1) (by omega) (by omega), show w32 (1 + (-1)) = 0 by decide]
    refine x264t_30 (Nat.zero_le _) ⟨fun q => by omega, fun _ => ⟨by omega, ?_⟩⟩
    rw [show (0 : Int).toNat = 0 from rfl, q0.1, w32_id (x := 10 * (10 * (10 * (10 * (0 + (a4 : Int)) + a3) + a2) + a1)) (by omega) (by omega), w32_id (x := 10 * (10 * (10 * (10 * (0 + (a4 : Int)) + a3) + a2) + a1) + a0) (by omega) (by omega), show w32 (0 + (-1)) = -1 by decide]
    refine x264t_30 (Nat.zero_le _) ⟨fun _ => ⟨by omega, ?_⟩, fun q => by omega⟩
    rw [show (10 * (10 * (10 * (10 * (0 + (a4 : Int)) + a3) + a2) + a1) + (a0 : Int)).toNat = a0 + 10 * (a1 + 10 * (a2 + 10 * (a3 + 10 * (a4 + 10 * 0)))) by omega]
    exact g
theorem s264t_z {Q : MP} {I0 : MI} {all : Int} (g : ∀ I2, frK [116] I0 I2 → (∀ r : Nat, r < 100000 → I2 116 r = 0) → Tri G h 264 119 119 30 [some (vr 91), some (vi all), some (vi 0), some (vi 4)] [] (I2, J, PP (f1, f2, true)) Q) : ∀ (m s : Nat) (I' : MI), s + m = 100000 → frK [116] I0 I' → (∀ r : Nat, r < s → I' 116 r = 0) → Tri G h 264 119 119 7 [some (vr 91), some (vi all), some (vi s)] [] (I', J, PP (f1, f2, true)) Q := by
  intro m
  induction m with
  | zero =>
    intro s I' hs hf hr
    exact x264t_7 (Nat.zero_le _) ⟨fun _ => g I' hf fun r hr2 => hr r (by omega), fun q => by omega⟩
  | succ m ih =>
    intro s I' hs hf hr
    refine x264t_7 (Nat.zero_le _) ⟨fun q => by omega, fun _ => ⟨by omega, ?_⟩⟩
    rw [w32_id (by omega) (by omega), toN]
    refine ih (s + 1) _ (by omega) (hf.u (by decide)) (fun r hr2 => ?_)
    by_cases h1 : r = s
    · subst h1; exact u2e
    · rw [u2j h1]; exact hr r (by omega)

theorem s264f_h {Q : MP} {hl : List Nat} {all : Int} (hlen : hl.length = 5) (h9 : ∀ t : Nat, t < 5 → I 115 t = (hl.getD t 0 : Nat) ∧ hl.getD t 0 ≤ 9) (g : Tri G h 264 119 119 61 [some (vr 91), some (vi all), none, some (vi 0)] [] (u2 I 117 (enC tens hl) 1, J, PP (f1, f2, false)) Q) : Tri G h 264 119 119 30 [some (vr 91), some (vi all), some (vi 0), some (vi 4)] [] (I, J, PP (f1, f2, false)) Q := by
  match hl, hlen with
  | [a0, a1, a2, a3, a4], _ =>
    have q0 := h9 0 (by omega)
    have q1 := h9 1 (by omega)
    have q2 := h9 2 (by omega)
    have q3 := h9 3 (by omega)
    have q4 := h9 4 (by omega)
    simp only [List.getD_cons_zero, List.getD_cons_succ] at q0 q1 q2 q3 q4
    have ee : enC tens [a0, a1, a2, a3, a4] = a0 + 10 * (a1 + 10 * (a2 + 10 * (a3 + 10 * (a4 + 10 * 0)))) := rfl
    rw [ee] at g
    refine x264f_30 (Nat.zero_le _) ⟨fun q => by omega, fun _ => ⟨by omega, ?_⟩⟩
    rw [show (4 : Int).toNat = 4 from rfl, q4.1, show w32 (10 * 0) = 0 by decide, w32_id (x := 0 + (a4 : Int)) (by omega) (by omega), show w32 (4 + (-1)) = 3 by decide]
    refine x264f_30 (Nat.zero_le _) ⟨fun q => by omega, fun _ => ⟨by omega, ?_⟩⟩
    rw [show (3 : Int).toNat = 3 from rfl, q3.1, w32_id (x := 10 * (0 + (a4 : Int))) (by omega) (by omega), w32_id (x := 10 * (0 + (a4 : Int)) + a3) (by omega) (by omega), show w32 (3 + (-1)) = 2 by decide]
    refine x264f_30 (Nat.zero_le _) ⟨fun q => by omega, fun _ => ⟨by omega, ?_⟩⟩
    rw [show (2 : Int).toNat = 2 from rfl, q2.1, w32_id (x := 10 * (10 * (0 + (a4 : Int)) + a3)) (by omega) (by omega), w32_id (x := 10 * (10 * (0 + (a4 : Int)) + a3) + a2) (by omega) (by omega), show w32 (2 + (-1)) = 1 by decide]
    refine x264f_30 (Nat.zero_le _) ⟨fun q => by omega, fun _ => ⟨by omega, ?_⟩⟩
    rw [show (1 : Int).toNat = 1 from rfl, q1.1, w32_id (x := 10 * (10 * (10 * (0 + (a4 : Int)) + a3) + a2)) (by omega) (by omega), w32_id (x := 10 * (10 * (10 * (0 + (a4 : Int)) + a3) + a2) + a1) (by omega) (by omega), show w32 (1 + (-1)) = 0 by decide]
    refine x264f_30 (Nat.zero_le _) ⟨fun q => by omega, fun _ => ⟨by omega, ?_⟩⟩
    rw [show (0 : Int).toNat = 0 from rfl, q0.1, w32_id (x := 10 * (10 * (10 * (10 * (0 + (a4 : Int)) + a3) + a2) + a1)) (by omega) (by omega), w32_id (x := 10 * (10 * (10 * (10 * (0 + (a4 : Int)) + a3) + a2) + a1) + a0) (by omega) (by omega), show w32 (0 + (-1)) = -1 by decide]
    refine x264f_30 (Nat.zero_le _) ⟨fun _ => ⟨by omega, ?_⟩, fun q => by omega⟩
    rw [show (10 * (10 * (10 * (10 * (0 + (a4 : Int)) + a3) + a2) + a1) + (a0 : Int)).toNat = a0 + 10 * (a1 + 10 * (a2 + 10 * (a3 + 10 * (a4 + 10 * 0)))) by omega]
    exact g
theorem s264f_z {Q : MP} {I0 : MI} {all : Int} (g : ∀ I2, frK [117] I0 I2 → (∀ r : Nat, r < 100000 → I2 117 r = 0) → Tri G h 264 119 119 30 [some (vr 91), some (vi all), some (vi 0), some (vi 4)] [] (I2, J, PP (f1, f2, false)) Q) : ∀ (m s : Nat) (I' : MI), s + m = 100000 → frK [117] I0 I' → (∀ r : Nat, r < s → I' 117 r = 0) → Tri G h 264 119 119 7 [some (vr 91), some (vi all), some (vi s)] [] (I', J, PP (f1, f2, false)) Q := by
  intro m
  induction m with
  | zero =>
    intro s I' hs hf hr
    exact x264f_7 (Nat.zero_le _) ⟨fun _ => g I' hf fun r hr2 => hr r (by omega), fun q => by omega⟩
  | succ m ih =>
    intro s I' hs hf hr
    refine x264f_7 (Nat.zero_le _) ⟨fun q => by omega, fun _ => ⟨by omega, ?_⟩⟩
    rw [w32_id (by omega) (by omega), toN]
    refine ih (s + 1) _ (by omega) (hf.u (by decide)) (fun r hr2 => ?_)
    by_cases h1 : r = s
    · subst h1; exact u2e
    · rw [u2j h1]; exact hr r (by omega)

noncomputable def hlF (I : MI) : List Nat := (List.range 5).map fun t => (slF I t).toNat
theorem hlF_b (I : MI) : (hlF I).length = 5 ∧ (∀ v ∈ hlF I, v ≤ 9) ∧ (∀ t : Nat, t < 5 → (hlF I).getD t 0 = (slF I t).toNat) ∧ fb_si (slF I) 5 = ((hlF I).sum : Nat) := by
  refine ⟨by unfold hlF; rw [List.length_map, List.length_range], fun v hv => ?_, fun t ht => ?_, ?_⟩
  · obtain ⟨t, -, rfl⟩ := List.mem_map.1 hv
    have := slF_b I t
    omega
  · have : t = 0 ∨ t = 1 ∨ t = 2 ∨ t = 3 ∨ t = 4 := by omega
    rcases this with rfl | rfl | rfl | rfl | rfl <;> rfl
  · have e : (hlF I).sum = (slF I 0).toNat + ((slF I 1).toNat + ((slF I 2).toNat + ((slF I 3).toNat + ((slF I 4).toNat + 0)))) := rfl
    have e2 : fb_si (slF I) 5 = 0 + slF I 0 + slF I 1 + slF I 2 + slF I 3 + slF I 4 := rfl
    rw [e, e2]
    have h0 := slF_b I 0
    have h1 := slF_b I 1
    have h2 := slF_b I 2
    have h3 := slF_b I 3
    have h4 := slF_b I 4
    omega
theorem inB_self : ∀ l : List Nat, inB (blV l) l
  | [] => trivial
  | a :: r => ⟨Nat.lt_succ_self _, inB_self r⟩
theorem inB_ten {l : List Nat} (h : l.length = 5) (h9 : ∀ v ∈ l, v ≤ 9) : inB tens l := by
  match l, h with
  | [a0, a1, a2, a3, a4], _ =>
    have q0 := h9 a0 (by simp)
    have q1 := h9 a1 (by simp)
    have q2 := h9 a2 (by simp)
    have q3 := h9 a3 (by simp)
    have q4 := h9 a4 (by simp)
    exact ⟨by omega, by omega, by omega, by omega, by omega, trivial⟩
theorem s264 {K : Int → MI → MJ → B3 → Prop} (hh : 5 ≤ h) (hT : rTown 0 92 I) (hB : rBook 0 92 I) (hL : rLast 0 92 I) (SF : VS) (hSF : fvD (spR I) (I 25 1).toNat (I 25 0).toNat 0 (fun v => v = hlF I) = SF) (hne : ∃ v, SF v) (g : ∀ I2 b2 (l : Nat), frK [114, 115, 116, 117] I I2 → lstS SF l → l ≤ (hlF I).sum → K (((hlF I).sum - l : Nat) : Int) I2 J b2) : TriM G h 264 119 119 [vr 91] (I, J, PP b) (cIN K) := by
  obtain ⟨b1, b2, b3, b4⟩ := hlF_b I
  have l1 := hL.1
  simp only [Nat.reduceAdd] at l1
  obtain ⟨f1, f2, f⟩ := b
  have h45 : (hlF I).sum ≤ 45 := by
    rw [sum5 b1]
    have h0 := slF_b I 0
    have h1 := slF_b I 1
    have h2 := slF_b I 2
    have h3 := slF_b I 3
    have h4 := slF_b I 4
    rw [b3 0 (by omega), b3 1 (by omega), b3 2 (by omega), b3 3 (by omega), b3 4 (by omega)]
    omega
  have hz : ∀ s, s < 5 → I 26 s = -1 → (hlF I).getD s 0 = 0 := by
    intro s hs h26
    rw [b3 s hs]
    unfold slF
    rw [if_pos h26]
    rfl
  have hin := inB_ten b1 b2
  have sps : ∀ I2, frK [114, 115, 116, 117] I I2 → spR I2 = spR I := by
    intro I2 hf
    funext d c S
    unfold spR opD
    rw [hf 27 (by decide), hf 28 (by decide)]
  have go : ∀ (h2 : Nat) (I1 : MI) (f : Bool), 4 ≤ h2 → frK [114, 115] I I1 → (∀ t : Nat, t < 5 → I1 115 t = slF I t) → (∀ t : Nat, t < 5 → I1 115 t = ((hlF I).getD t 0 : Nat) ∧ (hlF I).getD t 0 ≤ 9) → ∀ I2 : MI, frK [116, 117] I1 I2 → rmF I2 f (fun v => v = hlF I) → Tri G h2 264 119 119 61 [some (vr 91), some (vi ((hlF I).sum : Nat)), none, some (vi 0)] [] (I2, J, PP (f1, f2, f)) (cIN K) := by
    intro h2 I1 f hh2 hf1 h115 h9 I2 hf2 hr
    have hfb : frK [114, 115, 116, 117] I I2 := (hf1.mo (by decide)).t (hf2.mo (by decide))
    have hL2 := hL.k hfb (by decide)
    have e25 := hfb 25 (by decide)
    refine s264_d (I0 := I2) (SF := SF) (by omega) hL2 b1 h45 (fun s hs h26 => hz s hs (by rw [hfb 26 (by decide)] at h26; exact h26)) hne (fun I3 b3' l hf3 hl2 hle => g I3 b3' l (hfb.t (hf3.mo (by decide))) hl2 hle) (I 25 0).toNat 0 I2 f (fun v => v = hlF I) (by rw [e25]; omega) frK.r hr (fun v hv => ?_) ?_
    · have hv2 : v = hlF I := hv
      rw [hv2]
      exact ⟨hin, fun t _ => Nat.le_refl _⟩
    · rw [sps I2 hfb, e25]
      exact hSF
  have h9 : ∀ I1 : MI, (∀ t : Nat, t < 5 → I1 115 t = slF I t) → ∀ t : Nat, t < 5 → I1 115 t = ((hlF I).getD t 0 : Nat) ∧ (hlF I).getD t 0 ≤ 9 := by
    intro I1 h115 t ht
    have := slF_b I t
    rw [h115 t ht, b3 t ht]
    omega
  have rm0 : ∀ (I2 : MI) (R : Nat), (∀ r : Nat, r < 100000 → I2 R r = 0) → rmS (u2 I2 R (enC tens (hlF I)) 1) R (fun v => v = hlF I) := by
    intro I2 R hz2 r hr
    by_cases h1 : r = enC tens (hlF I)
    · subst h1
      rw [u2e, deC_enC hin]
      exact ⟨Or.inr rfl, fun _ => rfl, fun _ => rfl⟩
    · rw [u2j h1, hz2 r hr]
      refine ⟨Or.inl rfl, fun q => absurd q (by decide), fun q => ?_⟩
      exfalso
      apply h1
      have q2 : deC tens r = hlF I := q
      rw [← q2, enC_deC (bs := tens) hr]
  cases f with
  | true =>
    refine x264t_m hh (fun h2 hh2 => x264t hh2 (s260 (by omega) hT hB hL fun I1 hf1 h115 => ?_))
    rw [b4]
    refine s264t_z (I0 := I1) (fun I2 hf2 hz2 => s264t_h b1 (fun t ht => ?_) (go h2 I1 true hh2 hf1 h115 (h9 I1 h115) _ ((hf2.mo (by decide)).u (by decide)) (rm0 I2 116 hz2))) 100000 0 I1 rfl frK.r (fun r hr => by omega)
    rw [hf2 115 (by decide)]
    exact h9 I1 h115 t ht
  | false =>
    refine x264f_m hh (fun h2 hh2 => x264f hh2 (s260 (by omega) hT hB hL fun I1 hf1 h115 => ?_))
    rw [b4]
    refine s264f_z (I0 := I1) (fun I2 hf2 hz2 => s264f_h b1 (fun t ht => ?_) (go h2 I1 false hh2 hf1 h115 (h9 I1 h115) _ ((hf2.mo (by decide)).u (by decide)) (rm0 I2 117 hz2))) 100000 0 I1 rfl frK.r (fun r hr => by omega)
    rw [hf2 115 (by decide)]
    exact h9 I1 h115 t ht
theorem lst_ex {S : VS} (h : ∃ v, S v) : ∃ l : Nat, lstS S l := by
  have key : ∀ n : Nat, (∃ v, S v ∧ v.sum ≤ n) → ∃ l : Nat, lstS S l := by
    intro n
    induction n with
    | zero =>
      rintro ⟨v, v1, v2⟩
      exact ⟨0, ⟨v, v1, by omega⟩, fun w _ => Nat.zero_le _⟩
    | succ n ih =>
      rintro ⟨v, v1, v2⟩
      by_cases hx : ∃ v, S v ∧ v.sum ≤ n
      · exact ih hx
      · refine ⟨n + 1, ⟨v, v1, ?_⟩, fun w hw => ?_⟩
        · apply Classical.byContradiction
          intro hc
          exact hx ⟨v, v1, by omega⟩
        · apply Classical.byContradiction
          intro hc
          exact hx ⟨w, hw, by omega⟩
  obtain ⟨v, hv⟩ := h
  exact key v.sum ⟨v, hv, Nat.le_refl _⟩
theorem hlF_k {S : List Nat} {I' : MI} (hf : frK S I I') (hS : ∀ k ∈ [2, 3, 7, 8, 9, 10, 26], k ∉ S) : hlF I' = hlF I := by
  unfold hlF slF
  rw [hf 26 (hS 26 (by decide))]
  congr 1
  funext t
  rw [misN_k hf (fun k hk => hS k (by revert hk; simp; omega))]
theorem pub_best (hI : INV n I J) (hn : n < 64) (hh : 40 ≤ h) : PairI G h 167 264 [] (n + 1) I J b := by
  have hI2 := hI.suc hn
  obtain ⟨hT, hB, hL⟩ : rTown 0 92 I ∧ rBook 0 92 I ∧ rLast 0 92 I := by
    obtain ⟨p0, p1, p2, ⟨a1, a2, a3, a4, a5⟩, -⟩ := hI
    exact ⟨a1, a2, a4⟩
  have l1 := hL.1
  simp only [Nat.reduceAdd] at l1
  obtain ⟨c1, c2, c3, c4⟩ := hlF_b I
  have hrel0 : relV (hlF I) (fun v => v = hlF I) (fun v => v = hlF I) := ⟨fun v hv => hv, fun v hv => ⟨⟨by rw [hv]; exact c1, fun t _ => by rw [hv]; exact Nat.le_refl _⟩, hlF I, rfl, fun t _ => by rw [hv]; exact Nat.le_refl _⟩, ⟨_, rfl⟩⟩
  have hrel := fvD_rel (p := spC I) (q := spR I) (hv := hlF I) (fun d c C R hr => relV_step hr) (cn := (I 25 1).toNat) (I 25 0).toNat 0 _ _ hrel0
  obtain ⟨SC, hSC⟩ : ∃ SC, fvD (spC I) (I 25 1).toNat (I 25 0).toNat 0 (fun v => v = hlF I) = SC := ⟨_, rfl⟩
  obtain ⟨SR, hSR⟩ : ∃ SR, fvD (spR I) (I 25 1).toNat (I 25 0).toNat 0 (fun v => v = hlF I) = SR := ⟨_, rfl⟩
  rw [hSC, hSR] at hrel
  have hneR : ∃ v, SR v := by
    obtain ⟨v, hv⟩ := hrel.2.2
    exact ⟨v, hrel.1 v hv⟩
  have hleC : ∀ l : Nat, lstS SC l → l ≤ (hlF I).sum := by
    intro l hl
    obtain ⟨⟨v, v1, v2⟩, -⟩ := hl
    have := (hrel.2.1 v (hrel.1 v v1)).1
    rw [← v2]
    exact leV_sum this.1 c1 this.2
  have ref : ∀ (I1 : MI) (J1 : MJ) (b1 : B3) (l : Nat), frK [85, 88, 89, 90] I I1 → (∀ k ∈ [70, 71, 77, 109], J1 k = J k) → lstS SC l → TriM G h 264 119 119 [vr 91] (I1, J1, PP b1) (cIN fun y I2 J2 _ => (((hlF I).sum - l : Nat) : Int) = y ∧ INV (n + 1) I2 J2) := by
    intro I1 J1 b1 l hf1 hj1 hl
    have esp : spR I1 = spR I := by
      funext d c S
      unfold spR opD
      rw [hf1 27 (by decide), hf1 28 (by decide)]
    refine s264 (by omega) (hT.k hf1 (by decide)) (hB.k hf1 (by decide)) (hL.k hf1 (by decide)) SR ?_ hneR fun I2 b2 l2 hf2 hl2 hle2 => ⟨?_, ?_⟩
    · rw [esp, hf1 25 (by decide), hlF_k hf1 (by decide)]
      exact hSR
    · rw [hlF_k hf1 (by decide), lstS_rel hrel hl hl2]
    · exact hI2.sc ((hf1.mo (by decide)).t (hf2.mo (by decide))) hj1
  refine x167_m (by omega) (fun h2 hh2 => x167 hh2 (s135 (by omega) hT hB fun I1 hf1 h90 => ?_))
  have hf1' : frK [85, 88, 89, 90] I I1 := hf1.mo (by decide)
  have h90' : ∀ s : Nat, s < 5 → I1 90 s = ((hlF I).getD s 0 : Nat) := by
    intro s hs
    have := slF_b I s
    rw [h90 s hs, c3 s hs]
    omega
  have cls : ∀ (h3 : Nat) (I2 : MI) (J2 : MJ) (f f2 f3 : Bool), 5 ≤ h3 → frK [85, 88, 89] I1 I2 → srI I2 (hlF I) → frJ [86, 87] J J2 → rdF0 J2 f (hlF I) (fun v => v = hlF I) → Tri G h3 104 119 119 9 [some (vr 85), some (vr 25), none, some (vi ((hlF I).sum : Nat)), some (vi 0)] [] (I2, J2, PP (f, f2, f3)) (cIN fun r2 I2 J2 b2 => cIN (fun x I1 J1 b1 => TriM G h 264 119 119 [vr 91] (I1, J1, PP b1) (cIN fun y I2 J2 _ => x = y ∧ INV (n + 1) I2 J2)) (some (vi r2)) (I2, J2, PP b2)) := by
    intro h3 I2 J2 f f2 f3 hh3 hf2 hs hj hr
    have hfb : frK [85, 88, 89, 90] I I2 := hf1'.t (hf2.mo (by decide))
    have e25 := hfb 25 (by decide)
    have esp : spC I2 = spC I := by
      funext d c S
      unfold spC opD
      rw [hfb 27 (by decide), hfb 28 (by decide)]
    refine s104_d (J0 := J) (SF := SC) hh3 (hL.k hfb (by decide)) hs hleC (fun J3 b3 l hj3 hl => cIN_r fun _ => ref I2 J3 b3 l hfb (fun k hk => hj3 k (by revert hk; simp; omega)) hl) (I 25 0).toNat 0 J2 f (fun v => v = hlF I) (by rw [e25]; omega) hj hr ⟨_, rfl⟩ ?_
    rw [esp, e25]
    exact hSC
  obtain ⟨f, f2, f3⟩ := b
  cases f with
  | true => exact x104t_m (by omega) fun h3 hh3 => x104t (by omega) (s105t (by omega) ⟨c1, c2⟩ h90' fun I2 J2 hf2 hs hj hr => cls h3 I2 J2 true f2 f3 (by omega) hf2 hs (hj.mo (by decide)) hr)
  | false => exact x104f_m (by omega) fun h3 hh3 => x104f (by omega) (s105f (by omega) ⟨c1, c2⟩ h90' fun I2 J2 hf2 hs hj hr => cls h3 I2 J2 false f2 f3 (by omega) hf2 hs (hj.mo (by decide)) hr)
end BESTP
