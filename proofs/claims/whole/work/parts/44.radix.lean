/-! numbers whose digits are what is left in the slots -/
def enC : List Nat → List Nat → Nat
  | b :: bs, v :: vs => v + b * enC bs vs
  | _, _ => 0
def deC : List Nat → Nat → List Nat
  | [], _ => []
  | b :: bs, c => c % b :: deC bs (c / b)
def prd : List Nat → Nat
  | [] => 1
  | b :: bs => b * prd bs
def inB : List Nat → List Nat → Prop
  | [], [] => True
  | b :: bs, v :: vs => v < b ∧ inB bs vs
  | _, _ => False
theorem deC_in : ∀ {bs : List Nat} (c : Nat), (∀ b ∈ bs, 0 < b) → inB bs (deC bs c)
  | [], _, _ => trivial
  | b :: bs, c, h => ⟨Nat.mod_lt _ (h b List.mem_cons_self), deC_in (c / b) fun x hx => h x (List.mem_cons_of_mem _ hx)⟩
theorem inB_len : ∀ {bs vs : List Nat}, inB bs vs → vs.length = bs.length
  | [], [], _ => rfl
  | b :: bs, v :: vs, h => by simp [inB_len h.2]
  | [], _ :: _, h => h.elim
  | _ :: _, [], h => h.elim
theorem enC_deC : ∀ {bs : List Nat} {c : Nat}, c < prd bs → enC bs (deC bs c) = c
  | [], c, h => by
    have : c = 0 := by simpa [prd] using h
    subst this; rfl
  | b :: bs, c, h => by
    have h2 : c / b < prd bs := by
      have : c < b * prd bs := h
      exact Nat.div_lt_of_lt_mul this
    show c % b + b * enC bs (deC bs (c / b)) = c
    rw [enC_deC h2]
    exact Nat.mod_add_div c b
theorem deC_enC : ∀ {bs vs : List Nat}, inB bs vs → deC bs (enC bs vs) = vs
  | [], [], _ => rfl
  | b :: bs, v :: vs, h => by
    show (v + b * enC bs vs) % b :: deC bs ((v + b * enC bs vs) / b) = v :: vs
    have hb : 0 < b := by have := h.1; omega
    rw [Nat.add_mul_mod_self_left, Nat.mod_eq_of_lt h.1, Nat.add_mul_div_left _ _ hb, Nat.div_eq_of_lt h.1, Nat.zero_add, deC_enC h.2]
  | [], _ :: _, h => h.elim
  | _ :: _, [], h => h.elim
theorem enC_lt : ∀ {bs vs : List Nat}, inB bs vs → enC bs vs < prd bs
  | [], [], _ => by decide
  | b :: bs, v :: vs, h => by
    have ih := enC_lt h.2
    have h1 := h.1
    show v + b * enC bs vs < b * prd bs
    have h2 : b * enC bs vs + b ≤ b * prd bs := by
      have : b * (enC bs vs + 1) ≤ b * prd bs := Nat.mul_le_mul_left _ ih
      rw [Nat.mul_add, Nat.mul_one] at this
      exact this
    omega
  | [], _ :: _, h => h.elim
  | _ :: _, [], h => h.elim
theorem deC_at : ∀ {bs : List Nat} {c s : Nat}, s < bs.length → (deC bs c).getD s 0 = c / prd (bs.take s) % bs.getD s 1
  | [], c, s, h => by simp at h
  | b :: bs, c, 0, h => by
    show c % b = c / 1 % b
    rw [Nat.div_one]
  | b :: bs, c, s + 1, h => by
    have ih := deC_at (bs := bs) (c := c / b) (s := s) (by simpa using h)
    show (deC bs (c / b)).getD s 0 = c / (b * prd (bs.take s)) % bs.getD s 1
    rw [ih, Nat.div_div_eq_div_mul]
theorem enC_set : ∀ {bs vs : List Nat} {s w : Nat}, s < bs.length → inB bs vs → w ≤ vs.getD s 0 → enC bs vs = enC bs (vs.set s w) + (vs.getD s 0 - w) * prd (bs.take s)
  | b :: bs, v :: vs, 0, w, h, hi, hw => by
    have hw2 : w ≤ v := hw
    show v + b * enC bs vs = (w + b * enC bs vs) + (v - w) * 1
    omega
  | b :: bs, v :: vs, s + 1, w, h, hi, hw => by
    have ih := enC_set (bs := bs) (vs := vs) (s := s) (w := w) (by simpa using h) hi.2 hw
    show v + b * enC bs vs = (v + b * enC bs (vs.set s w)) + (vs.getD s 0 - w) * (b * prd (bs.take s))
    rw [ih, Nat.mul_add, ← Nat.mul_assoc, ← Nat.mul_assoc, Nat.mul_comm b (vs.getD s 0 - w)]
    omega
  | [], _, s, w, h, hi, hw => by simp at h
  | b :: bs, [], s, w, h, hi, hw => hi.elim
theorem inB_set : ∀ {bs vs : List Nat} {s w : Nat}, inB bs vs → w ≤ vs.getD s 0 → inB bs (vs.set s w)
  | [], [], _, _, _, _ => trivial
  | b :: bs, v :: vs, 0, w, hi, hw => ⟨by have h1 := hi.1; have hw2 : w ≤ v := hw; omega, hi.2⟩
  | b :: bs, v :: vs, s + 1, w, hi, hw => ⟨hi.1, inB_set (s := s) hi.2 hw⟩
  | [], _ :: _, _, _, hi, _ => hi.elim
  | _ :: _, [], _, _, hi, _ => hi.elim
theorem inB_at : ∀ {bs vs : List Nat} {s : Nat}, inB bs vs → s < bs.length → vs.getD s 0 < bs.getD s 1
  | b :: bs, v :: vs, 0, hi, h => hi.1
  | b :: bs, v :: vs, s + 1, hi, h => inB_at (s := s) hi.2 (by simpa using h)
  | [], [], s, hi, h => by simp at h
  | [], _ :: _, _, hi, _ => hi.elim
  | _ :: _, [], _, hi, _ => hi.elim
theorem prd_take : ∀ {bs : List Nat} {s : Nat}, s < bs.length → prd (bs.take (s + 1)) = prd (bs.take s) * bs.getD s 1
  | [], s, h => by simp at h
  | b :: bs, 0, h => by
    show b * 1 = 1 * b
    omega
  | b :: bs, s + 1, h => by
    have ih := prd_take (bs := bs) (s := s) (by simpa using h)
    show b * prd (bs.take (s + 1)) = b * prd (bs.take s) * bs.getD s 1
    rw [ih, Nat.mul_assoc]
theorem enC_take : ∀ {bs vs : List Nat} {s : Nat}, s < bs.length → vs.length = bs.length → enC (bs.take (s + 1)) (vs.take (s + 1)) = enC (bs.take s) (vs.take s) + vs.getD s 0 * prd (bs.take s)
  | [], _, s, h, _ => by simp at h
  | b :: bs, [], s, h, hl => by simp at hl
  | b :: bs, v :: vs, 0, h, hl => by
    show v + b * 0 = 0 + v * 1
    omega
  | b :: bs, v :: vs, s + 1, h, hl => by
    have ih := enC_take (bs := bs) (vs := vs) (s := s) (by simpa using h) (by simpa using hl)
    show v + b * enC (bs.take (s + 1)) (vs.take (s + 1)) = (v + b * enC (bs.take s) (vs.take s)) + vs.getD s 0 * (b * prd (bs.take s))
    rw [ih, Nat.mul_add, ← Nat.mul_assoc, ← Nat.mul_assoc, Nat.mul_comm b (vs.getD s 0)]
    omega
theorem prd_le {B : Nat} : ∀ {bs : List Nat}, (∀ b ∈ bs, b ≤ B) → prd bs ≤ B ^ bs.length
  | [], _ => Nat.le_refl _
  | b :: bs, h => by
    have ih := prd_le (B := B) (bs := bs) fun x hx => h x (List.mem_cons_of_mem _ hx)
    show b * prd bs ≤ B ^ (bs.length + 1)
    rw [Nat.pow_succ, Nat.mul_comm (B ^ bs.length)]
    exact Nat.mul_le_mul (h b List.mem_cons_self) ih
theorem prd_pos : ∀ {bs : List Nat}, (∀ b ∈ bs, 0 < b) → 0 < prd bs
  | [], _ => by decide
  | b :: bs, h => Nat.mul_pos (h b List.mem_cons_self) (prd_pos fun x hx => h x (List.mem_cons_of_mem _ hx))
/-! sets of such rows -/
abbrev VS : Type := List Nat → Prop
def mvV (v : List Nat) (s k : Nat) : List Nat := v.set s (v.getD s 0 - min (v.getD s 0) k)
def stR (op : Nat → Prop) (k : Nat) (S : VS) : VS := fun w => S w ∨ ∃ v s, S v ∧ s < 5 ∧ op s ∧ w = mvV v s k
def stK (op : Nat → Prop) (k : Nat) (S : VS) : VS := fun w => (∃ v s, S v ∧ s < 5 ∧ op s ∧ 0 < v.getD s 0 ∧ w = mvV v s k) ∨ (S w ∧ ∀ s, s < 5 → op s → w.getD s 0 = 0)
/-- the class: who has no strength stays, and nobody goes when all is seen -/
def stQ (op : Nat → Prop) (k : Nat) (S : VS) : VS := fun w => (¬ (k = 0 ∨ S [0, 0, 0, 0, 0]) ∧ stK op k S w) ∨ ((k = 0 ∨ S [0, 0, 0, 0, 0]) ∧ S w)
def leV (v w : List Nat) : Prop := ∀ s, s < 5 → v.getD s 0 ≤ w.getD s 0
def relV (hv : List Nat) (C R : VS) : Prop := (∀ v, C v → R v) ∧ (∀ v, R v → (v.length = 5 ∧ leV v hv) ∧ ∃ c, C c ∧ leV c v) ∧ ∃ v, C v
theorem mvV_len {v : List Nat} {s k : Nat} : (mvV v s k).length = v.length := by
  unfold mvV
  rw [List.length_set]
theorem mvV_at {v : List Nat} {s k t : Nat} (hs : s < v.length) : (mvV v s k).getD t 0 = if t = s then v.getD s 0 - min (v.getD s 0) k else v.getD t 0 := by
  unfold mvV
  rw [List.getD_eq_getElem?_getD, List.getElem?_set]
  by_cases h : t = s
  · subst h
    rw [if_pos rfl, if_pos rfl, if_pos hs]
    rfl
  · rw [if_neg (fun q => h q.symm), if_neg h, ← List.getD_eq_getElem?_getD]
theorem relV_step {hv : List Nat} {C R : VS} {op : Nat → Prop} {k : Nat} (h : relV hv C R) : relV hv (stQ op k C) (stR op k R) := by
  obtain ⟨h1, h2, h3⟩ := h
  have len5 : ∀ v, C v → v.length = 5 := fun v hv => (h2 v (h1 v hv)).1.1
  by_cases hz : k = 0 ∨ C [0, 0, 0, 0, 0]
  · refine ⟨fun v hv => ?_, fun v hv => ?_, ?_⟩
    · rcases hv with hv | hv
      · exact absurd hz hv.1
      · exact Or.inl (h1 v hv.2)
    · rcases hv with hv | ⟨u, s, hu, hs, ho, rfl⟩
      · obtain ⟨a1, c, c1, c2⟩ := h2 v hv
        exact ⟨a1, c, Or.inr ⟨hz, c1⟩, c2⟩
      · obtain ⟨a1, c, c1, c2⟩ := h2 u hu
        have hsl : s < u.length := by rw [a1.1]; exact hs
        refine ⟨⟨by rw [mvV_len]; exact a1.1, fun t ht => ?_⟩, ?_⟩
        · rw [mvV_at hsl]
          have := a1.2 t ht
          split
          · next q => subst q; omega
          · exact this
        · rcases hz with hz | hz
          · refine ⟨c, Or.inr ⟨Or.inl hz, c1⟩, fun t ht => ?_⟩
            rw [mvV_at hsl]
            have := c2 t ht
            split
            · next q => subst q; omega
            · exact this
          · refine ⟨[0, 0, 0, 0, 0], Or.inr ⟨Or.inr hz, hz⟩, fun t ht => ?_⟩
            have : ([0, 0, 0, 0, 0] : List Nat).getD t 0 = 0 := by
              have : t = 0 ∨ t = 1 ∨ t = 2 ∨ t = 3 ∨ t = 4 := by omega
              rcases this with rfl | rfl | rfl | rfl | rfl <;> rfl
            rw [this]
            exact Nat.zero_le _
    · obtain ⟨v, hv⟩ := h3
      exact ⟨v, Or.inr ⟨hz, hv⟩⟩
  · -- the class goes from c somewhere below c
    have below : ∀ c, C c → ∃ c', stK op k C c' ∧ leV c' c := by
      intro c hc
      by_cases hx : ∃ s, s < 5 ∧ op s ∧ 0 < c.getD s 0
      · obtain ⟨s, s1, s2, s3⟩ := hx
        refine ⟨mvV c s k, Or.inl ⟨c, s, hc, s1, s2, s3, rfl⟩, fun t ht => ?_⟩
        rw [mvV_at (by rw [len5 c hc]; exact s1)]
        split
        · next q => subst q; omega
        · exact Nat.le_refl _
      · refine ⟨c, Or.inr ⟨hc, fun s s1 s2 => ?_⟩, fun t _ => Nat.le_refl _⟩
        apply Classical.byContradiction
        intro hc2
        exact hx ⟨s, s1, s2, by omega⟩
    refine ⟨fun v hv => ?_, fun v hv => ?_, ?_⟩
    · rcases hv with hv | hv
      · rcases hv.2 with ⟨u, s, u1, u2, u3, u4, rfl⟩ | ⟨u1, u2⟩
        · exact Or.inr ⟨u, s, h1 u u1, u2, u3, rfl⟩
        · exact Or.inl (h1 v u1)
      · exact absurd hv.1 hz
    · rcases hv with hv | ⟨u, s, hu, hs, ho, rfl⟩
      · obtain ⟨a1, c, c1, c2⟩ := h2 v hv
        obtain ⟨c', d1, d2⟩ := below c c1
        exact ⟨a1, c', Or.inl ⟨hz, d1⟩, fun t ht => Nat.le_trans (d2 t ht) (c2 t ht)⟩
      · obtain ⟨a1, c, c1, c2⟩ := h2 u hu
        have hsl : s < u.length := by rw [a1.1]; exact hs
        refine ⟨⟨by rw [mvV_len]; exact a1.1, fun t ht => ?_⟩, ?_⟩
        · rw [mvV_at hsl]
          have := a1.2 t ht
          split
          · next q => subst q; omega
          · exact this
        · by_cases h0 : 0 < c.getD s 0
          · refine ⟨mvV c s k, Or.inl ⟨hz, Or.inl ⟨c, s, c1, hs, ho, h0, rfl⟩⟩, fun t ht => ?_⟩
            rw [mvV_at hsl, mvV_at (by rw [len5 c c1]; exact hs)]
            have := c2 t ht
            split
            · next q => subst q; omega
            · exact this
          · obtain ⟨c', d1, d2⟩ := below c c1
            refine ⟨c', Or.inl ⟨hz, d1⟩, fun t ht => ?_⟩
            rw [mvV_at hsl]
            have := c2 t ht
            have := d2 t ht
            split
            · next q => subst q; omega
            · omega
    · obtain ⟨v, hv⟩ := h3
      obtain ⟨c', d1, -⟩ := below v hv
      exact ⟨c', Or.inl ⟨hz, d1⟩⟩
def fvC (stp : Int → Int → VS → VS) (d : Int) : Nat → Int → VS → VS
  | 0, _, S => S
  | m + 1, c, S => fvC stp d m (c + 1) (stp d c S)
def fvD (stp : Int → Int → VS → VS) (cn : Nat) : Nat → Int → VS → VS
  | 0, _, S => S
  | m + 1, d, S => fvD stp cn m (d + 1) (fvC stp d cn 0 S)
theorem fvC_rel {hv : List Nat} {p q : Int → Int → VS → VS} (h : ∀ d c C R, relV hv C R → relV hv (p d c C) (q d c R)) {d : Int} : ∀ (m : Nat) (c : Int) (C R : VS), relV hv C R → relV hv (fvC p d m c C) (fvC q d m c R)
  | 0, _, _, _, hr => hr
  | m + 1, c, C, R, hr => fvC_rel h m (c + 1) _ _ (h d c C R hr)
theorem fvD_rel {hv : List Nat} {p q : Int → Int → VS → VS} (h : ∀ d c C R, relV hv C R → relV hv (p d c C) (q d c R)) {cn : Nat} : ∀ (m : Nat) (d : Int) (C R : VS), relV hv C R → relV hv (fvD p cn m d C) (fvD q cn m d R)
  | 0, _, _, _, hr => hr
  | m + 1, d, C, R, hr => fvD_rel h m (d + 1) _ _ (fvC_rel h cn 0 C R hr)
/-- the least sum -/
def lstS (S : VS) (m : Nat) : Prop := (∃ v, S v ∧ v.sum = m) ∧ ∀ v, S v → m ≤ v.sum
theorem sum5 : ∀ {v : List Nat}, v.length = 5 → v.sum = v.getD 0 0 + v.getD 1 0 + v.getD 2 0 + v.getD 3 0 + v.getD 4 0
  | [a, b, c, d, e], _ => by
    show a + (b + (c + (d + (e + 0)))) = a + b + c + d + e
    omega
  | [], h => by simp at h
  | [_], h => by simp at h
  | [_, _], h => by simp at h
  | [_, _, _], h => by simp at h
  | [_, _, _, _], h => by simp at h
  | _ :: _ :: _ :: _ :: _ :: _ :: _, h => by simp at h
theorem leV_sum {v w : List Nat} (hv : v.length = 5) (hw : w.length = 5) (h : leV v w) : v.sum ≤ w.sum := by
  rw [sum5 hv, sum5 hw]
  have h0 := h 0 (by omega)
  have h1 := h 1 (by omega)
  have h2 := h 2 (by omega)
  have h3 := h 3 (by omega)
  have h4 := h 4 (by omega)
  omega
theorem lstS_rel {hv : List Nat} {C R : VS} {m k : Nat} (h : relV hv C R) (hc : lstS C m) (hr : lstS R k) : m = k := by
  obtain ⟨h1, h2, h3⟩ := h
  obtain ⟨⟨v, v1, v2⟩, v3⟩ := hc
  obtain ⟨⟨w, w1, w2⟩, w3⟩ := hr
  have e1 := w3 v (h1 v v1)
  obtain ⟨a1, c, c1, c2⟩ := h2 w w1
  have e2 := v3 c c1
  have e3 := leV_sum (h2 c (h1 c c1)).1.1 a1.1 c2
  omega
