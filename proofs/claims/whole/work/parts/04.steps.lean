
abbrev Ent : Type := Nat × Instr × Nat × Nat × Int
def insLen : Instr → Nat
  | .bipush _ | .ldc _ | .iload _ | .lload _ | .aload _ | .istore _ | .lstore _ | .astore _ | .newarray _ => 2
  | .sipush _ | .ldc_w _ | .ldc2_w _ | .iinc _ _ | .ifCond _ _ | .if_icmp _ _ | .goto _ | .getstatic _ | .getfield _ | .putfield _ | .invokevirtual _ | .invokespecial _ | .invokestatic _ | .new _ => 3
  | .tableswitch _ _ _ _ | .lookupswitch _ _ => 0
  | _ => 1
def chkL (mi : Nat) (ins : Instr) (a : Nat) (b : Int) : Bool := match ins with
  | .iconst v => decide (-2147483648 ≤ v ∧ v < 2147483648)
  | .bipush v => decide (-128 ≤ v ∧ v < 128)
  | .sipush v => decide (-32768 ≤ v ∧ v < 32768)
  | .iinc i v => decide (i < lM mi) && decide (-2147483648 ≤ v ∧ v < 2147483648)
  | .istore i => decide (i < lM mi)
  | .istore_n i => decide (i.val < lM mi)
  | .astore i => decide (i < lM mi)
  | .astore_n i => decide (i.val < lM mi)
  | .lstore i => decide (i + 1 < lM mi)
  | .lstore_n i => decide (i.val + 1 < lM mi)
  | .ldc i => (a == 0 && (decide (-2147483648 ≤ b ∧ b < 2147483648) && decide ((oc mi, i, b) ∈ kiT))) || (a == 1 && (decide (stO.getD b.toNat 0 = oc mi) && (decide (stI.getD b.toNat 0 = i) && decide (b.toNat < 22))))
  | .ldc_w i => decide (-2147483648 ≤ b ∧ b < 2147483648) && decide ((oc mi, i, b) ∈ kiT)
  | .ldc2_w i => decide ((oc mi, i, b) ∈ klT)
  | .getfield i => (a == 100 && (decide ((oc mi, i, b.toNat) ∈ sfT) && decide (b.toNat < 2))) || (decide (a < 13) && (decide (b.toNat < cN a) && decide ((oc mi, i, a, b.toNat) ∈ flT)))
  | .putfield i => decide (a < 13) && (decide (b.toNat < cN a) && (decide ((oc mi, i, a, b.toNat) ∈ flT) && (!(fT a b.toNat).2.2.2 || (mk mi == 2 && oc mi == a))))
  | .getstatic i => decide ((oc mi, i, a) ∈ gsT) && decide (a < 2)
  | .invokevirtual i => decide (a < 269) && (mk a == 1 && decide ((oc mi, i, a) ∈ mlT))
  | .invokestatic i => (a == 998 && decide ((oc mi, i) ∈ acT)) || (decide (a < 269) && (mk a == 0 && ((b == 0 && decide ((oc mi, i, a) ∈ mlT)) || (b == 1 && decide ((oc mi, i, a) ∈ nlT)))))
  | .invokespecial i => (a == 999 && decide ((oc mi, i) ∈ oiT)) || (decide (a < 269) && (mk a == 2 && decide ((oc mi, i, a) ∈ mlT)))
  | .new i => decide (a < 13) && decide ((oc mi, i, a) ∈ clT)
  | .lookupswitch _ ps => (ps.toList.zip (ps.toList.drop 1)).all (fun (x : (Int × Int) × (Int × Int)) => decide (x.1.1 < x.2.1))
  | .tableswitch _ lo hi offs => decide (hi + 1 - lo = offs.size)
  | _ => true
def EOK (mi : Nat) (q : Ent) : Prop := mi < NM ∧ decode (bM mi) q.1 = .ok (q.2.1, q.2.2.1) ∧ (insLen q.2.1 = 0 ∨ q.2.2.1 = insLen q.2.1) ∧ chkL mi q.2.1 q.2.2.2.1 q.2.2.2.2 = true
theorem EOK.dec {mi pc len a : Nat} {ins : Instr} {b : Int} (h : EOK mi (pc, ins, len, a, b)) {k : Nat} (hk : insLen ins = k) (h0 : k ≠ 0) : len = k ∧ decode (bM mi) pc = .ok (ins, k) := by
  obtain ⟨-, h1, h2, -⟩ := h
  have hl : len = k := by
    rcases h2 with h2 | h2
    · exact absurd (hk.symm.trans h2) h0
    · exact h2.trans hk
  exact ⟨hl, by rw [← hl]; exact h1⟩
/-! locals -/
def lget : ML → Nat → Option MV
  | [], _ => none
  | v :: _, 0 => v
  | _ :: r, i + 1 => lget r i
def mset : ML → Nat → Option MV → ML
  | [], 0, v => [v]
  | [], i + 1, v => none :: mset [] i v
  | _ :: r, 0, v => v :: r
  | a :: r, i + 1, v => a :: mset r i v
def isLg : Option MV → Bool
  | some (.inr (.inl _)) => true
  | _ => false
def killp (ls : ML) : Nat → ML
  | 0 => ls
  | i + 1 => match isLg (lget ls i) with
    | true => mset ls i none
    | false => ls
def mst (ls : ML) (i : Nat) (v : MV) : ML := mset (killp ls i) i (some v)
def mst2 (ls : ML) (i : Nat) (v : MV) : ML := mset (mset (killp ls i) i (some v)) (i + 1) none
def maskL : List Bool → ML → ML
  | [], _ => []
  | _, [] => []
  | true :: m, v :: r => v :: maskL m r
  | false :: m, _ :: r => none :: maskL m r
theorem lget_mem {ls : ML} {i : Nat} {v : MV} (h : lget ls i = some v) : some v ∈ ls := by
  induction ls generalizing i with
  | nil => cases h
  | cons a r ih =>
    cases i with
    | zero => exact List.mem_cons.mpr (Or.inl h.symm)
    | succ i => exact List.mem_cons_of_mem _ (ih h)
theorem mem_lget {ls : ML} {v : MV} (h : some v ∈ ls) : ∃ i, lget ls i = some v := by
  induction ls with
  | nil => cases h
  | cons a r ih =>
    rcases List.mem_cons.mp h with h | h
    · exact ⟨0, h.symm⟩
    · obtain ⟨i, hi⟩ := ih h
      exact ⟨i + 1, hi⟩
theorem mem_asl {G : Ctx} {ls : ML} {j : Nat} {q : Nat × Value} : q ∈ aslF G j ls ↔ ∃ i v, lget ls i = some v ∧ q = (j + i, trV G v) := by
  induction ls generalizing j with
  | nil => simp [aslF, lget]
  | cons a r ih =>
    cases a with
    | none =>
      rw [aslF, ih]
      constructor
      · rintro ⟨i, v, h1, h2⟩
        exact ⟨i + 1, v, h1, by rw [h2]; congr 1; omega⟩
      · rintro ⟨i, v, h1, h2⟩
        cases i with
        | zero => cases h1
        | succ i => exact ⟨i, v, h1, by rw [h2]; congr 1; omega⟩
    | some w =>
      rw [aslF, List.mem_cons, ih]
      constructor
      · rintro (h | ⟨i, v, h1, h2⟩)
        · exact ⟨0, w, rfl, h⟩
        · exact ⟨i + 1, v, h1, by rw [h2]; congr 1; omega⟩
      · rintro ⟨i, v, h1, h2⟩
        cases i with
        | zero => left; cases h1; exact h2
        | succ i => exact Or.inr ⟨i, v, h1, by rw [h2]; congr 1; omega⟩
theorem lv_of {G : Ctx} {als : Array Slot} {nL : Nat} {ls : ML} {i : Nat} {v : MV} (h : lv_has als nL (aslF G 0 ls)) (hv : lget ls i = some v) : als[i]? = some (.val (trV G v)) := h.2.2 (i, trV G v) (mem_asl.mpr ⟨i, v, hv, by rw [Nat.zero_add]⟩)
theorem lget_mset {ls : ML} {i k : Nat} {w : Option MV} : lget (mset ls i w) k = if k = i then w else lget ls k := by
  induction ls generalizing i k with
  | nil =>
    induction i generalizing k with
    | zero => cases k with
      | zero => simp [mset, lget]
      | succ k => simp [mset, lget]
    | succ i ih => cases k with
      | zero => simp [mset, lget]
      | succ k => simp only [mset, lget, ih, Nat.add_right_cancel_iff]
  | cons a r ih =>
    cases i with
    | zero => cases k with
      | zero => simp [mset, lget]
      | succ k => simp [mset, lget]
    | succ i => cases k with
      | zero => simp [mset, lget]
      | succ k => simp only [mset, lget, ih, Nat.add_right_cancel_iff]
theorem lget_killp {ls : ML} {i k : Nat} {v : MV} (h : lget (killp ls i) k = some v) : lget ls k = some v ∧ ¬ (k + 1 = i ∧ isLg (some v) = true) := by
  cases i with
  | zero => exact ⟨h, fun q => by omega⟩
  | succ i =>
    rw [show killp ls (i + 1) = (match isLg (lget ls i) with
      | true => mset ls i none
      | false => ls) from rfl] at h
    cases hl : isLg (lget ls i) with
    | true =>
      rw [hl] at h
      dsimp only at h
      rw [lget_mset] at h
      by_cases hk : k = i
      · rw [if_pos hk] at h; cases h
      · rw [if_neg hk] at h
        exact ⟨h, fun q => hk (by omega)⟩
    | false =>
      rw [hl] at h
      dsimp only at h
      refine ⟨h, fun q => ?_⟩
      have : k = i := by omega
      subst this
      rw [h] at hl
      rw [hl] at q
      exact absurd q.2 (by decide)
theorem cat_tr {G : Ctx} (hF : cF G = .null ∨ ∃ t, cF G = .ref t) (v : MV) : (trV G v).category = if isLg (some v) = true then 2 else 1 := by
  rcases v with x | x | x
  · rfl
  · rfl
  · show (trR G x).category = 1
    unfold trR
    repeat' split
    all_goals first | rfl | (rcases hF with h | ⟨t, h⟩ <;> rw [h] <;> rfl)
theorem trR_cases {G : Ctx} (hF : cF G = .null ∨ ∃ t, cF G = .ref t) (x : Nat) : trR G x = .null ∨ ∃ a, trR G x = .ref a := by
  unfold trR
  repeat' split
  all_goals first | exact Or.inl rfl | exact Or.inr ⟨_, rfl⟩ | exact hF
theorem lv_less {als : Array Slot} {nL : Nat} {l l' : List (Nat × Value)} (h : lv_has als nL l) (hs : ∀ q ∈ l', q ∈ l) : lv_has als nL l' := ⟨h.1, h.2.1, fun q hq => h.2.2 q (hs q hq)⟩
theorem asl_st {G : Ctx} (hF : cF G = .null ∨ ∃ t, cF G = .ref t) {ls : ML} {i : Nat} {v : MV} : ∀ q ∈ aslF G 0 (mst ls i v), q ∈ (i, trV G v) :: (aslF G 0 ls).filter (fun q => !(q.1 == i) && !(q.1 + 1 == i && q.2.category == 2)) := by
  intro q hq
  obtain ⟨k, u, h1, rfl⟩ := mem_asl.mp hq
  unfold mst at h1
  rw [lget_mset] at h1
  by_cases hk : k = i
  · rw [if_pos hk] at h1
    cases h1
    rw [hk, Nat.zero_add]
    exact List.mem_cons_self
  · rw [if_neg hk] at h1
    obtain ⟨h2, h3⟩ := lget_killp h1
    refine List.mem_cons_of_mem _ (List.mem_filter.mpr ⟨mem_asl.mpr ⟨k, u, h2, rfl⟩, ?_⟩)
    rw [Nat.zero_add]
    have e1 : (k == i) = false := by simpa using hk
    show (!(k == i) && !(k + 1 == i && (trV G u).category == 2)) = true
    rw [e1, cat_tr hF]
    by_cases h4 : k + 1 = i
    · have h5 : isLg (some u) ≠ true := fun h => h3 ⟨h4, h⟩
      rw [if_neg h5]
      simp
    · have e2 : (k + 1 == i) = false := by simpa using h4
      rw [e2]; rfl
theorem asl_st2 {G : Ctx} (hF : cF G = .null ∨ ∃ t, cF G = .ref t) {ls : ML} {i : Nat} {v : MV} : ∀ q ∈ aslF G 0 (mst2 ls i v), q ∈ (i, trV G v) :: (aslF G 0 ls).filter (fun q => !(q.1 == i) && (!(q.1 == i + 1) && !(q.1 + 1 == i && q.2.category == 2))) := by
  intro q hq
  obtain ⟨k, u, h1, rfl⟩ := mem_asl.mp hq
  unfold mst2 at h1
  rw [lget_mset] at h1
  by_cases hj : k = i + 1
  · rw [if_pos hj] at h1; cases h1
  rw [if_neg hj, lget_mset] at h1
  by_cases hk : k = i
  · rw [if_pos hk] at h1
    cases h1
    rw [hk, Nat.zero_add]
    exact List.mem_cons_self
  · rw [if_neg hk] at h1
    obtain ⟨h2, h3⟩ := lget_killp h1
    refine List.mem_cons_of_mem _ (List.mem_filter.mpr ⟨mem_asl.mpr ⟨k, u, h2, rfl⟩, ?_⟩)
    rw [Nat.zero_add]
    have e1 : (k == i) = false := by simpa using hk
    have e3 : (k == i + 1) = false := by simpa using hj
    show (!(k == i) && (!(k == i + 1) && !(k + 1 == i && (trV G u).category == 2))) = true
    rw [e1, e3, cat_tr hF]
    by_cases h4 : k + 1 = i
    · have h5 : isLg (some u) ≠ true := fun h => h3 ⟨h4, h⟩
      rw [if_neg h5]
      simp
    · have e2 : (k + 1 == i) = false := by simpa using h4
      rw [e2]; rfl
theorem ok_mst {ls : ML} {i : Nat} {v : MV} (h : ∀ u, some u ∈ ls → okV u) (hv : okV v) : ∀ u, some u ∈ mst ls i v → okV u := by
  intro u hu
  obtain ⟨k, hk⟩ := mem_lget hu
  unfold mst at hk
  rw [lget_mset] at hk
  by_cases he : k = i
  · rw [if_pos he] at hk; cases hk; exact hv
  · rw [if_neg he] at hk
    exact h u (lget_mem (lget_killp hk).1)
theorem ok_mst2 {ls : ML} {i : Nat} {v : MV} (h : ∀ u, some u ∈ ls → okV u) (hv : okV v) : ∀ u, some u ∈ mst2 ls i v → okV u := by
  intro u hu
  obtain ⟨k, hk⟩ := mem_lget hu
  unfold mst2 at hk
  rw [lget_mset] at hk
  by_cases hj : k = i + 1
  · rw [if_pos hj] at hk; cases hk
  rw [if_neg hj, lget_mset] at hk
  by_cases he : k = i
  · rw [if_pos he] at hk; cases hk; exact hv
  · rw [if_neg he] at hk
    exact h u (lget_mem (lget_killp hk).1)
theorem lget_mask {ms : List Bool} {ls : ML} {k : Nat} {v : MV} (h : lget (maskL ms ls) k = some v) : lget ls k = some v := by
  induction ms generalizing ls k with
  | nil => cases h
  | cons a r ih =>
    cases ls with
    | nil => cases a <;> cases h
    | cons x l =>
      cases a with
      | true => cases k with
        | zero => exact h
        | succ k => exact ih (ls := l) (k := k) h
      | false => cases k with
        | zero => cases h
        | succ k => exact ih (ls := l) (k := k) h
theorem Tri.mask {G : Ctx} {h mi nf n pc : Nat} {ls : ML} {st : List MV} {σ : MS} {Q : MP} (ms : List Bool) (k : Tri G h mi nf n pc (maskL ms ls) st σ Q) : Tri G h mi nf n pc ls st σ Q := by
  intro p e R s m args below meth c n0 Z H locs als F RO hn hnf hP hS hσ hst hls hal
  refine k p e R s m args below meth c n0 Z H locs als F RO hn hnf hP hS hσ hst (fun v hv => ?_) (lv_less hal (fun q hq => ?_))
  · obtain ⟨i, hi⟩ := mem_lget hv
    exact hls v (lget_mem (lget_mask hi))
  · obtain ⟨i, v, h1, h2⟩ := mem_asl.mp hq
    exact mem_asl.mpr ⟨i, v, lget_mask h1, h2⟩
theorem ok_c {v : MV} {st : List MV} (hv : okV v) (h : ∀ u ∈ st, okV u) : ∀ u ∈ v :: st, okV u := fun u hu => by
  rcases List.mem_cons.mp hu with rfl | hu
  · exact hv
  · exact h u hu
theorem ok_t {v : MV} {st : List MV} (h : ∀ u ∈ v :: st, okV u) : ∀ u ∈ st, okV u := fun u hu => h u (List.mem_cons_of_mem _ hu)
theorem ok_h {v : MV} {st : List MV} (h : ∀ u ∈ v :: st, okV u) : okV v := h v List.mem_cons_self
section STEPS
variable {G : Ctx} {h mi nf n pc len a : Nat} {b : Int} {ls : ML} {st : List MV} {σ : MS} {Q : MP}

theorem T_iconst {v : Int} (he : EOK mi (pc, .iconst v, len, a, b)) (k : Tri G h mi nf n (pc + len) ls (vi v :: st) σ Q) : Tri G h mi nf n pc ls st σ Q := by
  intro p e R s m args below meth c n0 Z H locs als F RO hn hnf hP hS hσ hst hls hal
  obtain ⟨hx, hb, hml, hr, hown, hts, hlk, hnm, hK, hW, hsz, hn0, hRf, hRl, hRc, hRs, hNC⟩ := id F
  obtain ⟨rfl, hd⟩ := he.dec (k := 1) rfl (by decide)
  have hv : -2147483648 ≤ v ∧ v < 2147483648 := of_decide_eq_true he.2.2.2
  exact lv_iconst hx hb hd rfl (k p e R s m args below meth c n0 Z H locs als F RO hn hnf hP hS hσ (ok_c hv hst) hls hal)
theorem T_bipush {v : Int} (he : EOK mi (pc, .bipush v, len, a, b)) (k : Tri G h mi nf n (pc + len) ls (vi v :: st) σ Q) : Tri G h mi nf n pc ls st σ Q := by
  intro p e R s m args below meth c n0 Z H locs als F RO hn hnf hP hS hσ hst hls hal
  obtain ⟨hx, hb, hml, hr, hown, hts, hlk, hnm, hK, hW, hsz, hn0, hRf, hRl, hRc, hRs, hNC⟩ := id F
  obtain ⟨rfl, hd⟩ := he.dec (k := 2) rfl (by decide)
  have hv : -128 ≤ v ∧ v < 128 := of_decide_eq_true he.2.2.2
  refine lv_bipush hx hb hd (v := Int32.ofInt v) ?_ (k p e R s m args below meth c n0 Z H locs als F RO hn hnf hP hS hσ (ok_c (show inR v by unfold inR; omega) hst) hls hal)
  rw [← Int32.toInt_inj, Int8.toInt_toInt32, Int8.toInt_ofInt_of_le (by omega) (by omega), toI (by unfold inR; omega)]
theorem T_sipush {v : Int} (he : EOK mi (pc, .sipush v, len, a, b)) (k : Tri G h mi nf n (pc + len) ls (vi v :: st) σ Q) : Tri G h mi nf n pc ls st σ Q := by
  intro p e R s m args below meth c n0 Z H locs als F RO hn hnf hP hS hσ hst hls hal
  obtain ⟨hx, hb, hml, hr, hown, hts, hlk, hnm, hK, hW, hsz, hn0, hRf, hRl, hRc, hRs, hNC⟩ := id F
  obtain ⟨rfl, hd⟩ := he.dec (k := 3) rfl (by decide)
  have hv : -32768 ≤ v ∧ v < 32768 := of_decide_eq_true he.2.2.2
  refine lv_sipush hx hb hd (v := Int32.ofInt v) ?_ (k p e R s m args below meth c n0 Z H locs als F RO hn hnf hP hS hσ (ok_c (show inR v by unfold inR; omega) hst) hls hal)
  rw [← Int32.toInt_inj, Int16.toInt_toInt32, Int16.toInt_ofInt_of_le (by omega) (by omega), toI (by unfold inR; omega)]
theorem T_lconst {v : Fin 2} (he : EOK mi (pc, .lconst v, len, a, b)) (k : Tri G h mi nf n (pc + len) ls (vl (BitVec.ofNat 64 v) :: st) σ Q) : Tri G h mi nf n pc ls st σ Q := by
  intro p e R s m args below meth c n0 Z H locs als F RO hn hnf hP hS hσ hst hls hal
  obtain ⟨hx, hb, hml, hr, hown, hts, hlk, hnm, hK, hW, hsz, hn0, hRf, hRl, hRc, hRs, hNC⟩ := id F
  obtain ⟨rfl, hd⟩ := he.dec (k := 1) rfl (by decide)
  exact lv_lconst hx hb hd (v := Int64.ofBitVec (BitVec.ofNat 64 v)) rfl (k p e R s m args below meth c n0 Z H locs als F RO hn hnf hP hS hσ (ok_c trivial hst) hls hal)
theorem T_iload {i : Nat} {x : Int} (he : EOK mi (pc, .iload i, len, a, b)) (hl : lget ls i = some (vi x)) (k : Tri G h mi nf n (pc + len) ls (vi x :: st) σ Q) : Tri G h mi nf n pc ls st σ Q := by
  intro p e R s m args below meth c n0 Z H locs als F RO hn hnf hP hS hσ hst hls hal
  obtain ⟨hx, hb, hml, hr, hown, hts, hlk, hnm, hK, hW, hsz, hn0, hRf, hRl, hRc, hRs, hNC⟩ := id F
  obtain ⟨rfl, hd⟩ := he.dec (k := 2) rfl (by decide)
  exact lv_iload hx hb hd (lv_of hal hl) (k p e R s m args below meth c n0 Z H locs als F RO hn hnf hP hS hσ (ok_c (hls _ (lget_mem hl)) hst) hls hal)
theorem T_iload_n {i : Fin 4} {x : Int} (he : EOK mi (pc, .iload_n i, len, a, b)) (hl : lget ls i.val = some (vi x)) (k : Tri G h mi nf n (pc + len) ls (vi x :: st) σ Q) : Tri G h mi nf n pc ls st σ Q := by
  intro p e R s m args below meth c n0 Z H locs als F RO hn hnf hP hS hσ hst hls hal
  obtain ⟨hx, hb, hml, hr, hown, hts, hlk, hnm, hK, hW, hsz, hn0, hRf, hRl, hRc, hRs, hNC⟩ := id F
  obtain ⟨rfl, hd⟩ := he.dec (k := 1) rfl (by decide)
  exact lv_iload_n hx hb hd rfl (lv_of hal hl) (k p e R s m args below meth c n0 Z H locs als F RO hn hnf hP hS hσ (ok_c (hls _ (lget_mem hl)) hst) hls hal)
theorem T_lload {i : Nat} {x : BitVec 64} (he : EOK mi (pc, .lload i, len, a, b)) (hl : lget ls i = some (vl x)) (k : Tri G h mi nf n (pc + len) ls (vl x :: st) σ Q) : Tri G h mi nf n pc ls st σ Q := by
  intro p e R s m args below meth c n0 Z H locs als F RO hn hnf hP hS hσ hst hls hal
  obtain ⟨hx, hb, hml, hr, hown, hts, hlk, hnm, hK, hW, hsz, hn0, hRf, hRl, hRc, hRs, hNC⟩ := id F
  obtain ⟨rfl, hd⟩ := he.dec (k := 2) rfl (by decide)
  exact lv_lload hx hb hd (lv_of hal hl) (k p e R s m args below meth c n0 Z H locs als F RO hn hnf hP hS hσ (ok_c trivial hst) hls hal)
theorem T_lload_n {i : Fin 4} {x : BitVec 64} (he : EOK mi (pc, .lload_n i, len, a, b)) (hl : lget ls i.val = some (vl x)) (k : Tri G h mi nf n (pc + len) ls (vl x :: st) σ Q) : Tri G h mi nf n pc ls st σ Q := by
  intro p e R s m args below meth c n0 Z H locs als F RO hn hnf hP hS hσ hst hls hal
  obtain ⟨hx, hb, hml, hr, hown, hts, hlk, hnm, hK, hW, hsz, hn0, hRf, hRl, hRc, hRs, hNC⟩ := id F
  obtain ⟨rfl, hd⟩ := he.dec (k := 1) rfl (by decide)
  exact lv_lload_n hx hb hd rfl (lv_of hal hl) (k p e R s m args below meth c n0 Z H locs als F RO hn hnf hP hS hσ (ok_c trivial hst) hls hal)
theorem T_aload {i : Nat} {x : Nat} (he : EOK mi (pc, .aload i, len, a, b)) (hl : lget ls i = some (vr x)) (k : Tri G h mi nf n (pc + len) ls (vr x :: st) σ Q) : Tri G h mi nf n pc ls st σ Q := by
  intro p e R s m args below meth c n0 Z H locs als F RO hn hnf hP hS hσ hst hls hal
  obtain ⟨hx, hb, hml, hr, hown, hts, hlk, hnm, hK, hW, hsz, hn0, hRf, hRl, hRc, hRs, hNC⟩ := id F
  obtain ⟨rfl, hd⟩ := he.dec (k := 2) rfl (by decide)
  have h1 := lv_of hal hl
  have k1 := k p e R s m args below meth c n0 Z H locs als F RO hn hnf hP hS hσ (ok_c (v := vr x) trivial hst) hls hal
  have e1 : trV G (vr x) = trR G x := rfl
  rw [List.map_cons, e1] at k1
  rw [e1] at h1
  rcases trR_cases hK.2.2.2 x with h2 | ⟨w, h2⟩
  · rw [h2] at h1 k1
    exact lv_aloadN hx hb hd h1 k1
  · rw [h2] at h1 k1
    exact lv_aload hx hb hd h1 k1
theorem T_aload_n {i : Fin 4} {x : Nat} (he : EOK mi (pc, .aload_n i, len, a, b)) (hl : lget ls i.val = some (vr x)) (k : Tri G h mi nf n (pc + len) ls (vr x :: st) σ Q) : Tri G h mi nf n pc ls st σ Q := by
  intro p e R s m args below meth c n0 Z H locs als F RO hn hnf hP hS hσ hst hls hal
  obtain ⟨hx, hb, hml, hr, hown, hts, hlk, hnm, hK, hW, hsz, hn0, hRf, hRl, hRc, hRs, hNC⟩ := id F
  obtain ⟨rfl, hd⟩ := he.dec (k := 1) rfl (by decide)
  have h1 := lv_of hal hl
  have k1 := k p e R s m args below meth c n0 Z H locs als F RO hn hnf hP hS hσ (ok_c (v := vr x) trivial hst) hls hal
  have e1 : trV G (vr x) = trR G x := rfl
  rw [List.map_cons, e1] at k1
  rw [e1] at h1
  rcases trR_cases hK.2.2.2 x with h2 | ⟨w, h2⟩
  · rw [h2] at h1 k1
    exact lv_aload_nN hx hb hd rfl h1 k1
  · rw [h2] at h1 k1
    exact lv_aload_n hx hb hd rfl h1 k1
theorem T_istore {i : Nat} {x : Int} (he : EOK mi (pc, .istore i, len, a, b)) (k : Tri G h mi nf n (pc + len) (mst ls i (vi x)) st σ Q) : Tri G h mi nf n pc ls (vi x :: st) σ Q := by
  intro p e R s m args below meth c n0 Z H locs als F RO hn hnf hP hS hσ hst hls hal
  obtain ⟨hx, hb, hml, hr, hown, hts, hlk, hnm, hK, hW, hsz, hn0, hRf, hRl, hRc, hRs, hNC⟩ := id F
  obtain ⟨rfl, hd⟩ := he.dec (k := 2) rfl (by decide)
  have hi : i < lM mi := of_decide_eq_true he.2.2.2
  refine lv_istore hx hb hd hal hi rfl (fun als2 hal2 => ?_)
  exact k p e R s m args below meth c n0 Z H locs als2 F RO hn hnf hP hS hσ (ok_t hst) (ok_mst hls (ok_h hst)) (lv_less hal2 (asl_st (v := vi x) hK.2.2.2))
theorem T_istore_n {i : Fin 4} {x : Int} (he : EOK mi (pc, .istore_n i, len, a, b)) (k : Tri G h mi nf n (pc + len) (mst ls i.val (vi x)) st σ Q) : Tri G h mi nf n pc ls (vi x :: st) σ Q := by
  intro p e R s m args below meth c n0 Z H locs als F RO hn hnf hP hS hσ hst hls hal
  obtain ⟨hx, hb, hml, hr, hown, hts, hlk, hnm, hK, hW, hsz, hn0, hRf, hRl, hRc, hRs, hNC⟩ := id F
  obtain ⟨rfl, hd⟩ := he.dec (k := 1) rfl (by decide)
  have hi : i.val < lM mi := of_decide_eq_true he.2.2.2
  refine lv_istore_n hx hb hd rfl hal hi rfl (fun als2 hal2 => ?_)
  exact k p e R s m args below meth c n0 Z H locs als2 F RO hn hnf hP hS hσ (ok_t hst) (ok_mst hls (ok_h hst)) (lv_less hal2 (asl_st (v := vi x) hK.2.2.2))
theorem T_lstore {i : Nat} {x : BitVec 64} (he : EOK mi (pc, .lstore i, len, a, b)) (k : Tri G h mi nf n (pc + len) (mst2 ls i (vl x)) st σ Q) : Tri G h mi nf n pc ls (vl x :: st) σ Q := by
  intro p e R s m args below meth c n0 Z H locs als F RO hn hnf hP hS hσ hst hls hal
  obtain ⟨hx, hb, hml, hr, hown, hts, hlk, hnm, hK, hW, hsz, hn0, hRf, hRl, hRc, hRs, hNC⟩ := id F
  obtain ⟨rfl, hd⟩ := he.dec (k := 2) rfl (by decide)
  have hi : i + 1 < lM mi := of_decide_eq_true he.2.2.2
  refine lv_lstore hx hb hd hal hi rfl (fun als2 hal2 => ?_)
  exact k p e R s m args below meth c n0 Z H locs als2 F RO hn hnf hP hS hσ (ok_t hst) (ok_mst2 hls (ok_h hst)) (lv_less hal2 (asl_st2 (v := vl x) hK.2.2.2))
theorem T_lstore_n {i : Fin 4} {x : BitVec 64} (he : EOK mi (pc, .lstore_n i, len, a, b)) (k : Tri G h mi nf n (pc + len) (mst2 ls i.val (vl x)) st σ Q) : Tri G h mi nf n pc ls (vl x :: st) σ Q := by
  intro p e R s m args below meth c n0 Z H locs als F RO hn hnf hP hS hσ hst hls hal
  obtain ⟨hx, hb, hml, hr, hown, hts, hlk, hnm, hK, hW, hsz, hn0, hRf, hRl, hRc, hRs, hNC⟩ := id F
  obtain ⟨rfl, hd⟩ := he.dec (k := 1) rfl (by decide)
  have hi : i.val + 1 < lM mi := of_decide_eq_true he.2.2.2
  refine lv_lstore_n hx hb hd rfl hal hi rfl (fun als2 hal2 => ?_)
  exact k p e R s m args below meth c n0 Z H locs als2 F RO hn hnf hP hS hσ (ok_t hst) (ok_mst2 hls (ok_h hst)) (lv_less hal2 (asl_st2 (v := vl x) hK.2.2.2))
theorem T_astore {i : Nat} {x : Nat} (he : EOK mi (pc, .astore i, len, a, b)) (k : Tri G h mi nf n (pc + len) (mst ls i (vr x)) st σ Q) : Tri G h mi nf n pc ls (vr x :: st) σ Q := by
  intro p e R s m args below meth c n0 Z H locs als F RO hn hnf hP hS hσ hst hls hal
  obtain ⟨hx, hb, hml, hr, hown, hts, hlk, hnm, hK, hW, hsz, hn0, hRf, hRl, hRc, hRs, hNC⟩ := id F
  obtain ⟨rfl, hd⟩ := he.dec (k := 2) rfl (by decide)
  have hi : i < lM mi := of_decide_eq_true he.2.2.2
  have kk : ∀ als2, lv_has als2 (lM mi) ((i, trR G x) :: (aslF G 0 ls).filter (fun q => !(q.1 == i) && !(q.1 + 1 == i && q.2.category == 2))) → _ := fun als2 hal2 => k p e R s m args below meth c n0 Z H locs als2 F RO hn hnf hP hS hσ (ok_t hst) (ok_mst hls (ok_h hst)) (lv_less hal2 (asl_st (v := vr x) hK.2.2.2))
  show W p (cL G) e R s m args below meth c H locs (n - n0) (slt n - slt n0) Z (F0 m pc als (trR G x :: st.map (trV G)))
  rcases trR_cases hK.2.2.2 x with h2 | ⟨w, h2⟩
  · rw [h2] at kk ⊢
    exact lv_astoreN hx hb hd hal hi rfl kk
  · rw [h2] at kk ⊢
    exact lv_astore hx hb hd hal hi rfl kk
theorem T_astore_n {i : Fin 4} {x : Nat} (he : EOK mi (pc, .astore_n i, len, a, b)) (k : Tri G h mi nf n (pc + len) (mst ls i.val (vr x)) st σ Q) : Tri G h mi nf n pc ls (vr x :: st) σ Q := by
  intro p e R s m args below meth c n0 Z H locs als F RO hn hnf hP hS hσ hst hls hal
  obtain ⟨hx, hb, hml, hr, hown, hts, hlk, hnm, hK, hW, hsz, hn0, hRf, hRl, hRc, hRs, hNC⟩ := id F
  obtain ⟨rfl, hd⟩ := he.dec (k := 1) rfl (by decide)
  have hi : i.val < lM mi := of_decide_eq_true he.2.2.2
  have kk : ∀ als2, lv_has als2 (lM mi) ((i.val, trR G x) :: (aslF G 0 ls).filter (fun q => !(q.1 == i.val) && !(q.1 + 1 == i.val && q.2.category == 2))) → _ := fun als2 hal2 => k p e R s m args below meth c n0 Z H locs als2 F RO hn hnf hP hS hσ (ok_t hst) (ok_mst hls (ok_h hst)) (lv_less hal2 (asl_st (v := vr x) hK.2.2.2))
  show W p (cL G) e R s m args below meth c H locs (n - n0) (slt n - slt n0) Z (F0 m pc als (trR G x :: st.map (trV G)))
  rcases trR_cases hK.2.2.2 x with h2 | ⟨w, h2⟩
  · rw [h2] at kk ⊢
    exact lv_astore_nN hx hb hd rfl hal hi rfl kk
  · rw [h2] at kk ⊢
    exact lv_astore_n hx hb hd rfl hal hi rfl kk
theorem T_iinc {i : Nat} {v x : Int} (he : EOK mi (pc, .iinc i v, len, a, b)) (hl : lget ls i = some (vi x)) (k : Tri G h mi nf n (pc + len) (mst ls i (vi (w32 (x + v)))) st σ Q) : Tri G h mi nf n pc ls st σ Q := by
  intro p e R s m args below meth c n0 Z H locs als F RO hn hnf hP hS hσ hst hls hal
  obtain ⟨hx, hb, hml, hr, hown, hts, hlk, hnm, hK, hW, hsz, hn0, hRf, hRl, hRc, hRs, hNC⟩ := id F
  obtain ⟨rfl, hd⟩ := he.dec (k := 3) rfl (by decide)
  have hc := he.2.2.2
  have h12 := (Bool.and_eq_true _ _).mp hc
  have hi : i < lM mi := of_decide_eq_true h12.1
  obtain ⟨k0, hk0⟩ := List.getElem?_of_mem (mem_asl (G := G) (j := 0).mpr ⟨i, vi x, hl, by rw [Nat.zero_add]⟩)
  refine lv_iinc (v := Int32.ofInt (w32 (x + v))) hx hb hd hal (k := k0) hk0 (by rw [ofI_w32, Int32.ofInt_add]) hi rfl (fun als2 hal2 => ?_)
  exact k p e R s m args below meth c n0 Z H locs als2 F RO hn hnf hP hS hσ hst (ok_mst hls (w32_in _)) (lv_less hal2 (asl_st (v := vi (w32 (x + v))) hK.2.2.2))
theorem T_iadd {x y : Int} (he : EOK mi (pc, .iadd, len, a, b)) (k : Tri G h mi nf n (pc + len) ls (vi (w32 (x + y)) :: st) σ Q) : Tri G h mi nf n pc ls (vi y :: vi x :: st) σ Q := by
  intro p e R s m args below meth c n0 Z H locs als F RO hn hnf hP hS hσ hst hls hal
  obtain ⟨hx, hb, hml, hr, hown, hts, hlk, hnm, hK, hW, hsz, hn0, hRf, hRl, hRc, hRs, hNC⟩ := id F
  obtain ⟨rfl, hd⟩ := he.dec (k := 1) rfl (by decide)
  have k1 := k p e R s m args below meth c n0 Z H locs als F RO hn hnf hP hS hσ (ok_c (w32_in _) (ok_t (ok_t hst))) hls hal
  rw [List.map_cons] at k1
  refine lv_iadd hx hb hd  ?_
  rw [show trV G (vi (w32 (x + y))) = .int (Int32.ofInt (w32 (x + y))) from rfl, ofI_w32, Int32.ofInt_add] at k1
  exact k1
theorem T_isub {x y : Int} (he : EOK mi (pc, .isub, len, a, b)) (k : Tri G h mi nf n (pc + len) ls (vi (w32 (x - y)) :: st) σ Q) : Tri G h mi nf n pc ls (vi y :: vi x :: st) σ Q := by
  intro p e R s m args below meth c n0 Z H locs als F RO hn hnf hP hS hσ hst hls hal
  obtain ⟨hx, hb, hml, hr, hown, hts, hlk, hnm, hK, hW, hsz, hn0, hRf, hRl, hRc, hRs, hNC⟩ := id F
  obtain ⟨rfl, hd⟩ := he.dec (k := 1) rfl (by decide)
  have k1 := k p e R s m args below meth c n0 Z H locs als F RO hn hnf hP hS hσ (ok_c (w32_in _) (ok_t (ok_t hst))) hls hal
  rw [List.map_cons] at k1
  refine lv_isub hx hb hd  ?_
  rw [show trV G (vi (w32 (x - y))) = .int (Int32.ofInt (w32 (x - y))) from rfl, ofI_w32, Int32.ofInt_sub] at k1
  exact k1
theorem T_imul {x y : Int} (he : EOK mi (pc, .imul, len, a, b)) (k : Tri G h mi nf n (pc + len) ls (vi (w32 (x * y)) :: st) σ Q) : Tri G h mi nf n pc ls (vi y :: vi x :: st) σ Q := by
  intro p e R s m args below meth c n0 Z H locs als F RO hn hnf hP hS hσ hst hls hal
  obtain ⟨hx, hb, hml, hr, hown, hts, hlk, hnm, hK, hW, hsz, hn0, hRf, hRl, hRc, hRs, hNC⟩ := id F
  obtain ⟨rfl, hd⟩ := he.dec (k := 1) rfl (by decide)
  have k1 := k p e R s m args below meth c n0 Z H locs als F RO hn hnf hP hS hσ (ok_c (w32_in _) (ok_t (ok_t hst))) hls hal
  rw [List.map_cons] at k1
  refine lv_imul hx hb hd  ?_
  rw [show trV G (vi (w32 (x * y))) = .int (Int32.ofInt (w32 (x * y))) from rfl, ofI_w32, Int32.ofInt_mul] at k1
  exact k1
theorem T_iand {x y : Int} (he : EOK mi (pc, .iand, len, a, b)) (k : Tri G h mi nf n (pc + len) ls (vi (iAnd x y) :: st) σ Q) : Tri G h mi nf n pc ls (vi y :: vi x :: st) σ Q := by
  intro p e R s m args below meth c n0 Z H locs als F RO hn hnf hP hS hσ hst hls hal
  obtain ⟨hx, hb, hml, hr, hown, hts, hlk, hnm, hK, hW, hsz, hn0, hRf, hRl, hRc, hRs, hNC⟩ := id F
  obtain ⟨rfl, hd⟩ := he.dec (k := 1) rfl (by decide)
  have k1 := k p e R s m args below meth c n0 Z H locs als F RO hn hnf hP hS hσ (ok_c (inR_to _) (ok_t (ok_t hst))) hls hal
  rw [List.map_cons] at k1
  refine lv_iand hx hb hd  ?_
  rw [show trV G (vi (iAnd x y)) = .int (Int32.ofInt (iAnd x y)) from rfl, show Int32.ofInt (iAnd x y) = _ from Int32.ofInt_toInt _] at k1
  exact k1
theorem T_ior {x y : Int} (he : EOK mi (pc, .ior, len, a, b)) (k : Tri G h mi nf n (pc + len) ls (vi (iOr x y) :: st) σ Q) : Tri G h mi nf n pc ls (vi y :: vi x :: st) σ Q := by
  intro p e R s m args below meth c n0 Z H locs als F RO hn hnf hP hS hσ hst hls hal
  obtain ⟨hx, hb, hml, hr, hown, hts, hlk, hnm, hK, hW, hsz, hn0, hRf, hRl, hRc, hRs, hNC⟩ := id F
  obtain ⟨rfl, hd⟩ := he.dec (k := 1) rfl (by decide)
  have k1 := k p e R s m args below meth c n0 Z H locs als F RO hn hnf hP hS hσ (ok_c (inR_to _) (ok_t (ok_t hst))) hls hal
  rw [List.map_cons] at k1
  refine lv_ior hx hb hd  ?_
  rw [show trV G (vi (iOr x y)) = .int (Int32.ofInt (iOr x y)) from rfl, show Int32.ofInt (iOr x y) = _ from Int32.ofInt_toInt _] at k1
  exact k1
theorem T_ixor {x y : Int} (he : EOK mi (pc, .ixor, len, a, b)) (k : Tri G h mi nf n (pc + len) ls (vi (iXor x y) :: st) σ Q) : Tri G h mi nf n pc ls (vi y :: vi x :: st) σ Q := by
  intro p e R s m args below meth c n0 Z H locs als F RO hn hnf hP hS hσ hst hls hal
  obtain ⟨hx, hb, hml, hr, hown, hts, hlk, hnm, hK, hW, hsz, hn0, hRf, hRl, hRc, hRs, hNC⟩ := id F
  obtain ⟨rfl, hd⟩ := he.dec (k := 1) rfl (by decide)
  have k1 := k p e R s m args below meth c n0 Z H locs als F RO hn hnf hP hS hσ (ok_c (inR_to _) (ok_t (ok_t hst))) hls hal
  rw [List.map_cons] at k1
  refine lv_ixor hx hb hd  ?_
  rw [show trV G (vi (iXor x y)) = .int (Int32.ofInt (iXor x y)) from rfl, show Int32.ofInt (iXor x y) = _ from Int32.ofInt_toInt _] at k1
  exact k1
theorem T_ishl {x y : Int} (he : EOK mi (pc, .ishl, len, a, b)) (k : Tri G h mi nf n (pc + len) ls (vi (iShl x y) :: st) σ Q) : Tri G h mi nf n pc ls (vi y :: vi x :: st) σ Q := by
  intro p e R s m args below meth c n0 Z H locs als F RO hn hnf hP hS hσ hst hls hal
  obtain ⟨hx, hb, hml, hr, hown, hts, hlk, hnm, hK, hW, hsz, hn0, hRf, hRl, hRc, hRs, hNC⟩ := id F
  obtain ⟨rfl, hd⟩ := he.dec (k := 1) rfl (by decide)
  have k1 := k p e R s m args below meth c n0 Z H locs als F RO hn hnf hP hS hσ (ok_c (inR_to _) (ok_t (ok_t hst))) hls hal
  rw [List.map_cons] at k1
  refine lv_ishl hx hb hd  ?_
  rw [show trV G (vi (iShl x y)) = .int (Int32.ofInt (iShl x y)) from rfl, show Int32.ofInt (iShl x y) = _ from Int32.ofInt_toInt _] at k1
  exact k1
theorem T_ishr {x y : Int} (he : EOK mi (pc, .ishr, len, a, b)) (k : Tri G h mi nf n (pc + len) ls (vi (iShr x y) :: st) σ Q) : Tri G h mi nf n pc ls (vi y :: vi x :: st) σ Q := by
  intro p e R s m args below meth c n0 Z H locs als F RO hn hnf hP hS hσ hst hls hal
  obtain ⟨hx, hb, hml, hr, hown, hts, hlk, hnm, hK, hW, hsz, hn0, hRf, hRl, hRc, hRs, hNC⟩ := id F
  obtain ⟨rfl, hd⟩ := he.dec (k := 1) rfl (by decide)
  have k1 := k p e R s m args below meth c n0 Z H locs als F RO hn hnf hP hS hσ (ok_c (inR_to _) (ok_t (ok_t hst))) hls hal
  rw [List.map_cons] at k1
  refine lv_ishr hx hb hd  ?_
  rw [show trV G (vi (iShr x y)) = .int (Int32.ofInt (iShr x y)) from rfl, show Int32.ofInt (iShr x y) = _ from Int32.ofInt_toInt _] at k1
  exact k1
theorem T_idiv {x y : Int} (he : EOK mi (pc, .idiv, len, a, b)) (hne : y ≠ 0) (k : Tri G h mi nf n (pc + len) ls (vi (iDiv x y) :: st) σ Q) : Tri G h mi nf n pc ls (vi y :: vi x :: st) σ Q := by
  intro p e R s m args below meth c n0 Z H locs als F RO hn hnf hP hS hσ hst hls hal
  obtain ⟨hx, hb, hml, hr, hown, hts, hlk, hnm, hK, hW, hsz, hn0, hRf, hRl, hRc, hRs, hNC⟩ := id F
  obtain ⟨rfl, hd⟩ := he.dec (k := 1) rfl (by decide)
  have k1 := k p e R s m args below meth c n0 Z H locs als F RO hn hnf hP hS hσ (ok_c (inR_to _) (ok_t (ok_t hst))) hls hal
  rw [List.map_cons] at k1
  refine lv_idiv hx hb hd (fun h0 => hne (by have h1 := toI (show inR y from ok_h hst); rw [h0] at h1; exact h1.symm)) ?_
  rw [show trV G (vi (iDiv x y)) = .int (Int32.ofInt (iDiv x y)) from rfl, show Int32.ofInt (iDiv x y) = _ from Int32.ofInt_toInt _] at k1
  exact k1
theorem T_irem {x y : Int} (he : EOK mi (pc, .irem, len, a, b)) (hne : y ≠ 0) (k : Tri G h mi nf n (pc + len) ls (vi (iRem x y) :: st) σ Q) : Tri G h mi nf n pc ls (vi y :: vi x :: st) σ Q := by
  intro p e R s m args below meth c n0 Z H locs als F RO hn hnf hP hS hσ hst hls hal
  obtain ⟨hx, hb, hml, hr, hown, hts, hlk, hnm, hK, hW, hsz, hn0, hRf, hRl, hRc, hRs, hNC⟩ := id F
  obtain ⟨rfl, hd⟩ := he.dec (k := 1) rfl (by decide)
  have k1 := k p e R s m args below meth c n0 Z H locs als F RO hn hnf hP hS hσ (ok_c (inR_to _) (ok_t (ok_t hst))) hls hal
  rw [List.map_cons] at k1
  refine lv_irem hx hb hd (fun h0 => hne (by have h1 := toI (show inR y from ok_h hst); rw [h0] at h1; exact h1.symm)) ?_
  rw [show trV G (vi (iRem x y)) = .int (Int32.ofInt (iRem x y)) from rfl, show Int32.ofInt (iRem x y) = _ from Int32.ofInt_toInt _] at k1
  exact k1
theorem T_iushr {x y : Int} (he : EOK mi (pc, .iushr, len, a, b)) (k : Tri G h mi nf n (pc + len) ls (vi (iUsh x y) :: st) σ Q) : Tri G h mi nf n pc ls (vi y :: vi x :: st) σ Q := by
  intro p e R s m args below meth c n0 Z H locs als F RO hn hnf hP hS hσ hst hls hal
  obtain ⟨hx, hb, hml, hr, hown, hts, hlk, hnm, hK, hW, hsz, hn0, hRf, hRl, hRc, hRs, hNC⟩ := id F
  obtain ⟨rfl, hd⟩ := he.dec (k := 1) rfl (by decide)
  exact lv_iushr hx hb hd (Int32.ofInt_toInt _).symm (k p e R s m args below meth c n0 Z H locs als F RO hn hnf hP hS hσ (ok_c (inR_to _) (ok_t (ok_t hst))) hls hal)
theorem T_ineg {x : Int} (he : EOK mi (pc, .ineg, len, a, b)) (k : Tri G h mi nf n (pc + len) ls (vi (w32 (-x)) :: st) σ Q) : Tri G h mi nf n pc ls (vi x :: st) σ Q := by
  intro p e R s m args below meth c n0 Z H locs als F RO hn hnf hP hS hσ hst hls hal
  obtain ⟨hx, hb, hml, hr, hown, hts, hlk, hnm, hK, hW, hsz, hn0, hRf, hRl, hRc, hRs, hNC⟩ := id F
  obtain ⟨rfl, hd⟩ := he.dec (k := 1) rfl (by decide)
  have k1 := k p e R s m args below meth c n0 Z H locs als F RO hn hnf hP hS hσ (ok_c (w32_in _) (ok_t hst)) hls hal
  rw [List.map_cons] at k1
  refine lv_ineg hx hb hd ?_
  rw [show trV G (vi (w32 (-x))) = .int (Int32.ofInt (w32 (-x))) from rfl, ofI_w32, Int32.ofInt_neg] at k1
  exact k1
theorem T_i2b {x : Int} (he : EOK mi (pc, .i2b, len, a, b)) (k : Tri G h mi nf n (pc + len) ls (vi (w8 x) :: st) σ Q) : Tri G h mi nf n pc ls (vi x :: st) σ Q := by
  intro p e R s m args below meth c n0 Z H locs als F RO hn hnf hP hS hσ hst hls hal
  obtain ⟨hx, hb, hml, hr, hown, hts, hlk, hnm, hK, hW, hsz, hn0, hRf, hRl, hRc, hRs, hNC⟩ := id F
  obtain ⟨rfl, hd⟩ := he.dec (k := 1) rfl (by decide)
  exact lv_i2b hx hb hd (v := Int32.ofInt (w8 x)) rfl (k p e R s m args below meth c n0 Z H locs als F RO hn hnf hP hS hσ (ok_c (by have h1 := Int8.le_toInt (Int32.ofInt x).toInt8; have h2 := Int8.toInt_lt (Int32.ofInt x).toInt8; show inR (Int32.ofInt x).toInt8.toInt; unfold inR; omega) (ok_t hst)) hls hal)
theorem T_i2c {x : Int} (he : EOK mi (pc, .i2c, len, a, b)) (k : Tri G h mi nf n (pc + len) ls (vi (i2c x) :: st) σ Q) : Tri G h mi nf n pc ls (vi x :: st) σ Q := by
  intro p e R s m args below meth c n0 Z H locs als F RO hn hnf hP hS hσ hst hls hal
  obtain ⟨hx, hb, hml, hr, hown, hts, hlk, hnm, hK, hW, hsz, hn0, hRf, hRl, hRc, hRs, hNC⟩ := id F
  obtain ⟨rfl, hd⟩ := he.dec (k := 1) rfl (by decide)
  exact lv_i2c hx hb hd (Int32.ofInt_toInt _).symm (k p e R s m args below meth c n0 Z H locs als F RO hn hnf hP hS hσ (ok_c (inR_to _) (ok_t hst)) hls hal)
theorem T_i2l {x : Int} (he : EOK mi (pc, .i2l, len, a, b)) (k : Tri G h mi nf n (pc + len) ls (vl (i2l x) :: st) σ Q) : Tri G h mi nf n pc ls (vi x :: st) σ Q := by
  intro p e R s m args below meth c n0 Z H locs als F RO hn hnf hP hS hσ hst hls hal
  obtain ⟨hx, hb, hml, hr, hown, hts, hlk, hnm, hK, hW, hsz, hn0, hRf, hRl, hRc, hRs, hNC⟩ := id F
  obtain ⟨rfl, hd⟩ := he.dec (k := 1) rfl (by decide)
  exact lv_i2l hx hb hd rfl (k p e R s m args below meth c n0 Z H locs als F RO hn hnf hP hS hσ (ok_c trivial (ok_t hst)) hls hal)
theorem T_l2i {x : BitVec 64} (he : EOK mi (pc, .l2i, len, a, b)) (k : Tri G h mi nf n (pc + len) ls (vi (l2i x) :: st) σ Q) : Tri G h mi nf n pc ls (vl x :: st) σ Q := by
  intro p e R s m args below meth c n0 Z H locs als F RO hn hnf hP hS hσ hst hls hal
  obtain ⟨hx, hb, hml, hr, hown, hts, hlk, hnm, hK, hW, hsz, hn0, hRf, hRl, hRc, hRs, hNC⟩ := id F
  obtain ⟨rfl, hd⟩ := he.dec (k := 1) rfl (by decide)
  exact lv_l2i hx hb hd (Int32.ofInt_toInt _).symm (k p e R s m args below meth c n0 Z H locs als F RO hn hnf hP hS hσ (ok_c (inR_to _) (ok_t hst)) hls hal)
theorem T_ladd {x y : BitVec 64} (he : EOK mi (pc, .ladd, len, a, b)) (k : Tri G h mi nf n (pc + len) ls (vl (x + y) :: st) σ Q) : Tri G h mi nf n pc ls (vl y :: vl x :: st) σ Q := by
  intro p e R s m args below meth c n0 Z H locs als F RO hn hnf hP hS hσ hst hls hal
  obtain ⟨hx, hb, hml, hr, hown, hts, hlk, hnm, hK, hW, hsz, hn0, hRf, hRl, hRc, hRs, hNC⟩ := id F
  obtain ⟨rfl, hd⟩ := he.dec (k := 1) rfl (by decide)
  exact lv_ladd hx hb hd (k p e R s m args below meth c n0 Z H locs als F RO hn hnf hP hS hσ (ok_c trivial (ok_t (ok_t hst))) hls hal)
theorem T_lsub {x y : BitVec 64} (he : EOK mi (pc, .lsub, len, a, b)) (k : Tri G h mi nf n (pc + len) ls (vl (x - y) :: st) σ Q) : Tri G h mi nf n pc ls (vl y :: vl x :: st) σ Q := by
  intro p e R s m args below meth c n0 Z H locs als F RO hn hnf hP hS hσ hst hls hal
  obtain ⟨hx, hb, hml, hr, hown, hts, hlk, hnm, hK, hW, hsz, hn0, hRf, hRl, hRc, hRs, hNC⟩ := id F
  obtain ⟨rfl, hd⟩ := he.dec (k := 1) rfl (by decide)
  exact lv_lsub hx hb hd (k p e R s m args below meth c n0 Z H locs als F RO hn hnf hP hS hσ (ok_c trivial (ok_t (ok_t hst))) hls hal)
theorem T_lmul {x y : BitVec 64} (he : EOK mi (pc, .lmul, len, a, b)) (k : Tri G h mi nf n (pc + len) ls (vl (x * y) :: st) σ Q) : Tri G h mi nf n pc ls (vl y :: vl x :: st) σ Q := by
  intro p e R s m args below meth c n0 Z H locs als F RO hn hnf hP hS hσ hst hls hal
  obtain ⟨hx, hb, hml, hr, hown, hts, hlk, hnm, hK, hW, hsz, hn0, hRf, hRl, hRc, hRs, hNC⟩ := id F
  obtain ⟨rfl, hd⟩ := he.dec (k := 1) rfl (by decide)
  exact lv_lmul hx hb hd (k p e R s m args below meth c n0 Z H locs als F RO hn hnf hP hS hσ (ok_c trivial (ok_t (ok_t hst))) hls hal)
theorem T_land {x y : BitVec 64} (he : EOK mi (pc, .land, len, a, b)) (k : Tri G h mi nf n (pc + len) ls (vl (x &&& y) :: st) σ Q) : Tri G h mi nf n pc ls (vl y :: vl x :: st) σ Q := by
  intro p e R s m args below meth c n0 Z H locs als F RO hn hnf hP hS hσ hst hls hal
  obtain ⟨hx, hb, hml, hr, hown, hts, hlk, hnm, hK, hW, hsz, hn0, hRf, hRl, hRc, hRs, hNC⟩ := id F
  obtain ⟨rfl, hd⟩ := he.dec (k := 1) rfl (by decide)
  exact lv_land hx hb hd (k p e R s m args below meth c n0 Z H locs als F RO hn hnf hP hS hσ (ok_c trivial (ok_t (ok_t hst))) hls hal)
theorem T_lor {x y : BitVec 64} (he : EOK mi (pc, .lor, len, a, b)) (k : Tri G h mi nf n (pc + len) ls (vl (x ||| y) :: st) σ Q) : Tri G h mi nf n pc ls (vl y :: vl x :: st) σ Q := by
  intro p e R s m args below meth c n0 Z H locs als F RO hn hnf hP hS hσ hst hls hal
  obtain ⟨hx, hb, hml, hr, hown, hts, hlk, hnm, hK, hW, hsz, hn0, hRf, hRl, hRc, hRs, hNC⟩ := id F
  obtain ⟨rfl, hd⟩ := he.dec (k := 1) rfl (by decide)
  exact lv_lor hx hb hd (k p e R s m args below meth c n0 Z H locs als F RO hn hnf hP hS hσ (ok_c trivial (ok_t (ok_t hst))) hls hal)
theorem T_lxor {x y : BitVec 64} (he : EOK mi (pc, .lxor, len, a, b)) (k : Tri G h mi nf n (pc + len) ls (vl (x ^^^ y) :: st) σ Q) : Tri G h mi nf n pc ls (vl y :: vl x :: st) σ Q := by
  intro p e R s m args below meth c n0 Z H locs als F RO hn hnf hP hS hσ hst hls hal
  obtain ⟨hx, hb, hml, hr, hown, hts, hlk, hnm, hK, hW, hsz, hn0, hRf, hRl, hRc, hRs, hNC⟩ := id F
  obtain ⟨rfl, hd⟩ := he.dec (k := 1) rfl (by decide)
  exact lv_lxor hx hb hd (k p e R s m args below meth c n0 Z H locs als F RO hn hnf hP hS hσ (ok_c trivial (ok_t (ok_t hst))) hls hal)
theorem T_lneg {x : BitVec 64} (he : EOK mi (pc, .lneg, len, a, b)) (k : Tri G h mi nf n (pc + len) ls (vl (-x) :: st) σ Q) : Tri G h mi nf n pc ls (vl x :: st) σ Q := by
  intro p e R s m args below meth c n0 Z H locs als F RO hn hnf hP hS hσ hst hls hal
  obtain ⟨hx, hb, hml, hr, hown, hts, hlk, hnm, hK, hW, hsz, hn0, hRf, hRl, hRc, hRs, hNC⟩ := id F
  obtain ⟨rfl, hd⟩ := he.dec (k := 1) rfl (by decide)
  exact lv_lneg hx hb hd (k p e R s m args below meth c n0 Z H locs als F RO hn hnf hP hS hσ (ok_c trivial (ok_t hst)) hls hal)
theorem T_ldiv {x y : BitVec 64} (he : EOK mi (pc, .ldiv, len, a, b)) (hne : y ≠ 0) (k : Tri G h mi nf n (pc + len) ls (vl (lDiv x y) :: st) σ Q) : Tri G h mi nf n pc ls (vl y :: vl x :: st) σ Q := by
  intro p e R s m args below meth c n0 Z H locs als F RO hn hnf hP hS hσ hst hls hal
  obtain ⟨hx, hb, hml, hr, hown, hts, hlk, hnm, hK, hW, hsz, hn0, hRf, hRl, hRc, hRs, hNC⟩ := id F
  obtain ⟨rfl, hd⟩ := he.dec (k := 1) rfl (by decide)
  exact lv_ldiv hx hb hd (fun h0 => hne (by have h1 := congrArg Int64.toBitVec h0; exact h1)) (k p e R s m args below meth c n0 Z H locs als F RO hn hnf hP hS hσ (ok_c trivial (ok_t (ok_t hst))) hls hal)
theorem T_lshl {x : BitVec 64} {y : Int} (he : EOK mi (pc, .lshl, len, a, b)) (k : Tri G h mi nf n (pc + len) ls (vl (lShl x y) :: st) σ Q) : Tri G h mi nf n pc ls (vi y :: vl x :: st) σ Q := by
  intro p e R s m args below meth c n0 Z H locs als F RO hn hnf hP hS hσ hst hls hal
  obtain ⟨hx, hb, hml, hr, hown, hts, hlk, hnm, hK, hW, hsz, hn0, hRf, hRl, hRc, hRs, hNC⟩ := id F
  obtain ⟨rfl, hd⟩ := he.dec (k := 1) rfl (by decide)
  exact lv_lshl hx hb hd rfl (k p e R s m args below meth c n0 Z H locs als F RO hn hnf hP hS hσ (ok_c trivial (ok_t (ok_t hst))) hls hal)
theorem T_lushr {x : BitVec 64} {y : Int} (he : EOK mi (pc, .lushr, len, a, b)) (k : Tri G h mi nf n (pc + len) ls (vl (lUsh x y) :: st) σ Q) : Tri G h mi nf n pc ls (vi y :: vl x :: st) σ Q := by
  intro p e R s m args below meth c n0 Z H locs als F RO hn hnf hP hS hσ hst hls hal
  obtain ⟨hx, hb, hml, hr, hown, hts, hlk, hnm, hK, hW, hsz, hn0, hRf, hRl, hRc, hRs, hNC⟩ := id F
  obtain ⟨rfl, hd⟩ := he.dec (k := 1) rfl (by decide)
  exact lv_lushr hx hb hd rfl (k p e R s m args below meth c n0 Z H locs als F RO hn hnf hP hS hσ (ok_c trivial (ok_t (ok_t hst))) hls hal)
theorem T_lcmp {x y : BitVec 64} (he : EOK mi (pc, .lcmp, len, a, b)) (k : Tri G h mi nf n (pc + len) ls (vi (lCmp x y) :: st) σ Q) : Tri G h mi nf n pc ls (vl y :: vl x :: st) σ Q := by
  intro p e R s m args below meth c n0 Z H locs als F RO hn hnf hP hS hσ hst hls hal
  obtain ⟨hx, hb, hml, hr, hown, hts, hlk, hnm, hK, hW, hsz, hn0, hRf, hRl, hRc, hRs, hNC⟩ := id F
  obtain ⟨rfl, hd⟩ := he.dec (k := 1) rfl (by decide)
  have k1 := k p e R s m args below meth c n0 Z H locs als F RO hn hnf hP hS hσ (ok_c (inR_to _) (ok_t (ok_t hst))) hls hal
  rw [List.map_cons, show trV G (vi (lCmp x y)) = .int (Int32.ofInt (lCmp x y)) from rfl, show Int32.ofInt (lCmp x y) = _ from Int32.ofInt_toInt _] at k1
  exact W.lcmp hx hb hd k1
theorem T_dup {v : MV} (he : EOK mi (pc, .dup, len, a, b)) (hv : isLg (some v) = false) (k : Tri G h mi nf n (pc + len) ls (v :: v :: st) σ Q) : Tri G h mi nf n pc ls (v :: st) σ Q := by
  intro p e R s m args below meth c n0 Z H locs als F RO hn hnf hP hS hσ hst hls hal
  obtain ⟨hx, hb, hml, hr, hown, hts, hlk, hnm, hK, hW, hsz, hn0, hRf, hRl, hRc, hRs, hNC⟩ := id F
  obtain ⟨rfl, hd⟩ := he.dec (k := 1) rfl (by decide)
  exact lv_dup hx hb hd (by rw [cat_tr hK.2.2.2, hv]; rfl) (k p e R s m args below meth c n0 Z H locs als F RO hn hnf hP hS hσ (ok_c (ok_h hst) hst) hls hal)
theorem T_pop {v : MV} (he : EOK mi (pc, .pop, len, a, b)) (hv : isLg (some v) = false) (k : Tri G h mi nf n (pc + len) ls st σ Q) : Tri G h mi nf n pc ls (v :: st) σ Q := by
  intro p e R s m args below meth c n0 Z H locs als F RO hn hnf hP hS hσ hst hls hal
  obtain ⟨hx, hb, hml, hr, hown, hts, hlk, hnm, hK, hW, hsz, hn0, hRf, hRl, hRc, hRs, hNC⟩ := id F
  obtain ⟨rfl, hd⟩ := he.dec (k := 1) rfl (by decide)
  exact lv_pop hx hb hd (by rw [cat_tr hK.2.2.2, hv]; rfl) (k p e R s m args below meth c n0 Z H locs als F RO hn hnf hP hS hσ (ok_t hst) hls hal)
theorem T_dup2 {v w : MV} (he : EOK mi (pc, .dup2, len, a, b)) (hv : isLg (some v) = false) (hw : isLg (some w) = false) (k : Tri G h mi nf n (pc + len) ls (v :: w :: v :: w :: st) σ Q) : Tri G h mi nf n pc ls (v :: w :: st) σ Q := by
  intro p e R s m args below meth c n0 Z H locs als F RO hn hnf hP hS hσ hst hls hal
  obtain ⟨hx, hb, hml, hr, hown, hts, hlk, hnm, hK, hW, hsz, hn0, hRf, hRl, hRc, hRs, hNC⟩ := id F
  obtain ⟨rfl, hd⟩ := he.dec (k := 1) rfl (by decide)
  exact lv_dup2_11 hx hb hd (by rw [cat_tr hK.2.2.2, hv]; rfl) (by rw [cat_tr hK.2.2.2, hw]; rfl) (k p e R s m args below meth c n0 Z H locs als F RO hn hnf hP hS hσ (ok_c (ok_h hst) (ok_c (ok_h (ok_t hst)) hst)) hls hal)
def cmpc : ClassFile.Cond → Int → Int → Prop
  | .eq, x, y => x = y
  | .ne, x, y => ¬ x = y
  | .lt, x, y => x < y
  | .ge, x, y => y ≤ x
  | .gt, x, y => y < x
  | .le, x, y => x ≤ y
theorem ofI_eq {x y : Int} (hx : inR x) (hy : inR y) : Int32.ofInt x = Int32.ofInt y ↔ x = y := by rw [← Int32.toInt_inj, toI hx, toI hy]
theorem ofI_lt {x y : Int} (hx : inR x) (hy : inR y) : Int32.ofInt x < Int32.ofInt y ↔ x < y := by rw [Int32.lt_iff_toInt_lt, toI hx, toI hy]
theorem ofI_le {x y : Int} (hx : inR x) (hy : inR y) : Int32.ofInt x ≤ Int32.ofInt y ↔ x ≤ y := by rw [Int32.le_iff_toInt_le, toI hx, toI hy]
theorem inR0 : inR 0 := by unfold inR; omega
theorem T_icmp_eq {x y : Int} {off : Int} {tgt : Nat} (he : EOK mi (pc, .if_icmp .eq off, len, a, b)) (ht : (pc : Int) + off = (tgt : Int)) (kt : x = y → Tri G h mi nf n tgt ls st σ Q) (kf : ¬ (x = y) → Tri G h mi nf n (pc + len) ls st σ Q) : Tri G h mi nf n pc ls (vi y :: vi x :: st) σ Q := by
  obtain ⟨rfl, hd⟩ := he.dec (k := 3) rfl (by decide)
  intro p e R s m args below meth c n0 Z H locs als F RO hn hnf hP hS hσ hst hls hal
  obtain ⟨hx, hb, hml, hr, hown, hts, hlk, hnm, hK, hW, hsz, hn0, hRf, hRl, hRc, hRs, hNC⟩ := id F
  have kt := fun q => kt q p e R s m args below meth c n0 Z H locs als F RO hn hnf hP hS hσ (ok_t (ok_t hst)) hls hal
  have kf := fun q => kf q p e R s m args below meth c n0 Z H locs als F RO hn hnf hP hS hσ (ok_t (ok_t hst)) hls hal
  exact lv_icmp_eq hx hb hd ht (fun q => kt ((ofI_eq (show inR x from ok_h (ok_t hst)) (show inR y from ok_h hst)).mp q)) (fun q => kf (fun z => q ((ofI_eq (show inR x from ok_h (ok_t hst)) (show inR y from ok_h hst)).mpr z)))
theorem T_if_eq {x : Int} {off : Int} {tgt : Nat} (he : EOK mi (pc, .ifCond .eq off, len, a, b)) (ht : (pc : Int) + off = (tgt : Int)) (kt : x = 0 → Tri G h mi nf n tgt ls st σ Q) (kf : ¬ (x = 0) → Tri G h mi nf n (pc + len) ls st σ Q) : Tri G h mi nf n pc ls (vi x :: st) σ Q := by
  obtain ⟨rfl, hd⟩ := he.dec (k := 3) rfl (by decide)
  intro p e R s m args below meth c n0 Z H locs als F RO hn hnf hP hS hσ hst hls hal
  obtain ⟨hx, hb, hml, hr, hown, hts, hlk, hnm, hK, hW, hsz, hn0, hRf, hRl, hRc, hRs, hNC⟩ := id F
  have kt := fun q => kt q p e R s m args below meth c n0 Z H locs als F RO hn hnf hP hS hσ (ok_t hst) hls hal
  have kf := fun q => kf q p e R s m args below meth c n0 Z H locs als F RO hn hnf hP hS hσ (ok_t hst) hls hal
  exact lv_if_eq hx hb hd ht (fun q => kt ((ofI_eq (show inR x from ok_h hst) inR0).mp q)) (fun q => kf (fun z => q ((ofI_eq (show inR x from ok_h hst) inR0).mpr z)))
theorem T_icmp_ne {x y : Int} {off : Int} {tgt : Nat} (he : EOK mi (pc, .if_icmp .ne off, len, a, b)) (ht : (pc : Int) + off = (tgt : Int)) (kt : ¬ x = y → Tri G h mi nf n tgt ls st σ Q) (kf : ¬ (¬ x = y) → Tri G h mi nf n (pc + len) ls st σ Q) : Tri G h mi nf n pc ls (vi y :: vi x :: st) σ Q := by
  obtain ⟨rfl, hd⟩ := he.dec (k := 3) rfl (by decide)
  intro p e R s m args below meth c n0 Z H locs als F RO hn hnf hP hS hσ hst hls hal
  obtain ⟨hx, hb, hml, hr, hown, hts, hlk, hnm, hK, hW, hsz, hn0, hRf, hRl, hRc, hRs, hNC⟩ := id F
  have kt := fun q => kt q p e R s m args below meth c n0 Z H locs als F RO hn hnf hP hS hσ (ok_t (ok_t hst)) hls hal
  have kf := fun q => kf q p e R s m args below meth c n0 Z H locs als F RO hn hnf hP hS hσ (ok_t (ok_t hst)) hls hal
  exact lv_icmp_ne hx hb hd ht (fun q => kt (fun z => q ((ofI_eq (show inR x from ok_h (ok_t hst)) (show inR y from ok_h hst)).mpr z))) (fun q => kf (fun z => z ((ofI_eq (show inR x from ok_h (ok_t hst)) (show inR y from ok_h hst)).mp q)))
theorem T_if_ne {x : Int} {off : Int} {tgt : Nat} (he : EOK mi (pc, .ifCond .ne off, len, a, b)) (ht : (pc : Int) + off = (tgt : Int)) (kt : ¬ x = 0 → Tri G h mi nf n tgt ls st σ Q) (kf : ¬ (¬ x = 0) → Tri G h mi nf n (pc + len) ls st σ Q) : Tri G h mi nf n pc ls (vi x :: st) σ Q := by
  obtain ⟨rfl, hd⟩ := he.dec (k := 3) rfl (by decide)
  intro p e R s m args below meth c n0 Z H locs als F RO hn hnf hP hS hσ hst hls hal
  obtain ⟨hx, hb, hml, hr, hown, hts, hlk, hnm, hK, hW, hsz, hn0, hRf, hRl, hRc, hRs, hNC⟩ := id F
  have kt := fun q => kt q p e R s m args below meth c n0 Z H locs als F RO hn hnf hP hS hσ (ok_t hst) hls hal
  have kf := fun q => kf q p e R s m args below meth c n0 Z H locs als F RO hn hnf hP hS hσ (ok_t hst) hls hal
  exact lv_if_ne hx hb hd ht (fun q => kt (fun z => q ((ofI_eq (show inR x from ok_h hst) inR0).mpr z))) (fun q => kf (fun z => z ((ofI_eq (show inR x from ok_h hst) inR0).mp q)))
theorem T_icmp_lt {x y : Int} {off : Int} {tgt : Nat} (he : EOK mi (pc, .if_icmp .lt off, len, a, b)) (ht : (pc : Int) + off = (tgt : Int)) (kt : x < y → Tri G h mi nf n tgt ls st σ Q) (kf : ¬ (x < y) → Tri G h mi nf n (pc + len) ls st σ Q) : Tri G h mi nf n pc ls (vi y :: vi x :: st) σ Q := by
  obtain ⟨rfl, hd⟩ := he.dec (k := 3) rfl (by decide)
  intro p e R s m args below meth c n0 Z H locs als F RO hn hnf hP hS hσ hst hls hal
  obtain ⟨hx, hb, hml, hr, hown, hts, hlk, hnm, hK, hW, hsz, hn0, hRf, hRl, hRc, hRs, hNC⟩ := id F
  have kt := fun q => kt q p e R s m args below meth c n0 Z H locs als F RO hn hnf hP hS hσ (ok_t (ok_t hst)) hls hal
  have kf := fun q => kf q p e R s m args below meth c n0 Z H locs als F RO hn hnf hP hS hσ (ok_t (ok_t hst)) hls hal
  exact lv_icmp_lt hx hb hd ht (fun q => kt ((ofI_lt (show inR x from ok_h (ok_t hst)) (show inR y from ok_h hst)).mp q)) (fun q => kf (fun z => q ((ofI_lt (show inR x from ok_h (ok_t hst)) (show inR y from ok_h hst)).mpr z)))
theorem T_if_lt {x : Int} {off : Int} {tgt : Nat} (he : EOK mi (pc, .ifCond .lt off, len, a, b)) (ht : (pc : Int) + off = (tgt : Int)) (kt : x < 0 → Tri G h mi nf n tgt ls st σ Q) (kf : ¬ (x < 0) → Tri G h mi nf n (pc + len) ls st σ Q) : Tri G h mi nf n pc ls (vi x :: st) σ Q := by
  obtain ⟨rfl, hd⟩ := he.dec (k := 3) rfl (by decide)
  intro p e R s m args below meth c n0 Z H locs als F RO hn hnf hP hS hσ hst hls hal
  obtain ⟨hx, hb, hml, hr, hown, hts, hlk, hnm, hK, hW, hsz, hn0, hRf, hRl, hRc, hRs, hNC⟩ := id F
  have kt := fun q => kt q p e R s m args below meth c n0 Z H locs als F RO hn hnf hP hS hσ (ok_t hst) hls hal
  have kf := fun q => kf q p e R s m args below meth c n0 Z H locs als F RO hn hnf hP hS hσ (ok_t hst) hls hal
  exact lv_if_lt hx hb hd ht (fun q => kt ((ofI_lt (show inR x from ok_h hst) inR0).mp q)) (fun q => kf (fun z => q ((ofI_lt (show inR x from ok_h hst) inR0).mpr z)))
theorem T_icmp_ge {x y : Int} {off : Int} {tgt : Nat} (he : EOK mi (pc, .if_icmp .ge off, len, a, b)) (ht : (pc : Int) + off = (tgt : Int)) (kt : y ≤ x → Tri G h mi nf n tgt ls st σ Q) (kf : ¬ (y ≤ x) → Tri G h mi nf n (pc + len) ls st σ Q) : Tri G h mi nf n pc ls (vi y :: vi x :: st) σ Q := by
  obtain ⟨rfl, hd⟩ := he.dec (k := 3) rfl (by decide)
  intro p e R s m args below meth c n0 Z H locs als F RO hn hnf hP hS hσ hst hls hal
  obtain ⟨hx, hb, hml, hr, hown, hts, hlk, hnm, hK, hW, hsz, hn0, hRf, hRl, hRc, hRs, hNC⟩ := id F
  have kt := fun q => kt q p e R s m args below meth c n0 Z H locs als F RO hn hnf hP hS hσ (ok_t (ok_t hst)) hls hal
  have kf := fun q => kf q p e R s m args below meth c n0 Z H locs als F RO hn hnf hP hS hσ (ok_t (ok_t hst)) hls hal
  exact lv_icmp_ge hx hb hd ht (fun q => kt ((ofI_le (show inR y from ok_h hst) (show inR x from ok_h (ok_t hst))).mp q)) (fun q => kf (fun z => q ((ofI_le (show inR y from ok_h hst) (show inR x from ok_h (ok_t hst))).mpr z)))
theorem T_if_ge {x : Int} {off : Int} {tgt : Nat} (he : EOK mi (pc, .ifCond .ge off, len, a, b)) (ht : (pc : Int) + off = (tgt : Int)) (kt : 0 ≤ x → Tri G h mi nf n tgt ls st σ Q) (kf : ¬ (0 ≤ x) → Tri G h mi nf n (pc + len) ls st σ Q) : Tri G h mi nf n pc ls (vi x :: st) σ Q := by
  obtain ⟨rfl, hd⟩ := he.dec (k := 3) rfl (by decide)
  intro p e R s m args below meth c n0 Z H locs als F RO hn hnf hP hS hσ hst hls hal
  obtain ⟨hx, hb, hml, hr, hown, hts, hlk, hnm, hK, hW, hsz, hn0, hRf, hRl, hRc, hRs, hNC⟩ := id F
  have kt := fun q => kt q p e R s m args below meth c n0 Z H locs als F RO hn hnf hP hS hσ (ok_t hst) hls hal
  have kf := fun q => kf q p e R s m args below meth c n0 Z H locs als F RO hn hnf hP hS hσ (ok_t hst) hls hal
  exact lv_if_ge hx hb hd ht (fun q => kt ((ofI_le inR0 (show inR x from ok_h hst)).mp q)) (fun q => kf (fun z => q ((ofI_le inR0 (show inR x from ok_h hst)).mpr z)))
theorem T_icmp_gt {x y : Int} {off : Int} {tgt : Nat} (he : EOK mi (pc, .if_icmp .gt off, len, a, b)) (ht : (pc : Int) + off = (tgt : Int)) (kt : y < x → Tri G h mi nf n tgt ls st σ Q) (kf : ¬ (y < x) → Tri G h mi nf n (pc + len) ls st σ Q) : Tri G h mi nf n pc ls (vi y :: vi x :: st) σ Q := by
  obtain ⟨rfl, hd⟩ := he.dec (k := 3) rfl (by decide)
  intro p e R s m args below meth c n0 Z H locs als F RO hn hnf hP hS hσ hst hls hal
  obtain ⟨hx, hb, hml, hr, hown, hts, hlk, hnm, hK, hW, hsz, hn0, hRf, hRl, hRc, hRs, hNC⟩ := id F
  have kt := fun q => kt q p e R s m args below meth c n0 Z H locs als F RO hn hnf hP hS hσ (ok_t (ok_t hst)) hls hal
  have kf := fun q => kf q p e R s m args below meth c n0 Z H locs als F RO hn hnf hP hS hσ (ok_t (ok_t hst)) hls hal
  exact lv_icmp_gt hx hb hd ht (fun q => kt ((ofI_lt (show inR y from ok_h hst) (show inR x from ok_h (ok_t hst))).mp q)) (fun q => kf (fun z => q ((ofI_lt (show inR y from ok_h hst) (show inR x from ok_h (ok_t hst))).mpr z)))
theorem T_if_gt {x : Int} {off : Int} {tgt : Nat} (he : EOK mi (pc, .ifCond .gt off, len, a, b)) (ht : (pc : Int) + off = (tgt : Int)) (kt : 0 < x → Tri G h mi nf n tgt ls st σ Q) (kf : ¬ (0 < x) → Tri G h mi nf n (pc + len) ls st σ Q) : Tri G h mi nf n pc ls (vi x :: st) σ Q := by
  obtain ⟨rfl, hd⟩ := he.dec (k := 3) rfl (by decide)
  intro p e R s m args below meth c n0 Z H locs als F RO hn hnf hP hS hσ hst hls hal
  obtain ⟨hx, hb, hml, hr, hown, hts, hlk, hnm, hK, hW, hsz, hn0, hRf, hRl, hRc, hRs, hNC⟩ := id F
  have kt := fun q => kt q p e R s m args below meth c n0 Z H locs als F RO hn hnf hP hS hσ (ok_t hst) hls hal
  have kf := fun q => kf q p e R s m args below meth c n0 Z H locs als F RO hn hnf hP hS hσ (ok_t hst) hls hal
  exact lv_if_gt hx hb hd ht (fun q => kt ((ofI_lt inR0 (show inR x from ok_h hst)).mp q)) (fun q => kf (fun z => q ((ofI_lt inR0 (show inR x from ok_h hst)).mpr z)))
theorem T_icmp_le {x y : Int} {off : Int} {tgt : Nat} (he : EOK mi (pc, .if_icmp .le off, len, a, b)) (ht : (pc : Int) + off = (tgt : Int)) (kt : x ≤ y → Tri G h mi nf n tgt ls st σ Q) (kf : ¬ (x ≤ y) → Tri G h mi nf n (pc + len) ls st σ Q) : Tri G h mi nf n pc ls (vi y :: vi x :: st) σ Q := by
  obtain ⟨rfl, hd⟩ := he.dec (k := 3) rfl (by decide)
  intro p e R s m args below meth c n0 Z H locs als F RO hn hnf hP hS hσ hst hls hal
  obtain ⟨hx, hb, hml, hr, hown, hts, hlk, hnm, hK, hW, hsz, hn0, hRf, hRl, hRc, hRs, hNC⟩ := id F
  have kt := fun q => kt q p e R s m args below meth c n0 Z H locs als F RO hn hnf hP hS hσ (ok_t (ok_t hst)) hls hal
  have kf := fun q => kf q p e R s m args below meth c n0 Z H locs als F RO hn hnf hP hS hσ (ok_t (ok_t hst)) hls hal
  exact lv_icmp_le hx hb hd ht (fun q => kt ((ofI_le (show inR x from ok_h (ok_t hst)) (show inR y from ok_h hst)).mp q)) (fun q => kf (fun z => q ((ofI_le (show inR x from ok_h (ok_t hst)) (show inR y from ok_h hst)).mpr z)))
theorem T_if_le {x : Int} {off : Int} {tgt : Nat} (he : EOK mi (pc, .ifCond .le off, len, a, b)) (ht : (pc : Int) + off = (tgt : Int)) (kt : x ≤ 0 → Tri G h mi nf n tgt ls st σ Q) (kf : ¬ (x ≤ 0) → Tri G h mi nf n (pc + len) ls st σ Q) : Tri G h mi nf n pc ls (vi x :: st) σ Q := by
  obtain ⟨rfl, hd⟩ := he.dec (k := 3) rfl (by decide)
  intro p e R s m args below meth c n0 Z H locs als F RO hn hnf hP hS hσ hst hls hal
  obtain ⟨hx, hb, hml, hr, hown, hts, hlk, hnm, hK, hW, hsz, hn0, hRf, hRl, hRc, hRs, hNC⟩ := id F
  have kt := fun q => kt q p e R s m args below meth c n0 Z H locs als F RO hn hnf hP hS hσ (ok_t hst) hls hal
  have kf := fun q => kf q p e R s m args below meth c n0 Z H locs als F RO hn hnf hP hS hσ (ok_t hst) hls hal
  exact lv_if_le hx hb hd ht (fun q => kt ((ofI_le (show inR x from ok_h hst) inR0).mp q)) (fun q => kf (fun z => q ((ofI_le (show inR x from ok_h hst) inR0).mpr z)))
theorem T_goto {off : Int} {tgt : Nat} (he : EOK mi (pc, .goto off, len, a, b)) (ht : (pc : Int) + off = (tgt : Int)) (k : Tri G h mi nf n tgt ls st σ Q) : Tri G h mi nf n pc ls st σ Q := by
  obtain ⟨rfl, hd⟩ := he.dec (k := 3) rfl (by decide)
  intro p e R s m args below meth c n0 Z H locs als F RO hn hnf hP hS hσ hst hls hal
  obtain ⟨hx, hb, hml, hr, hown, hts, hlk, hnm, hK, hW, hsz, hn0, hRf, hRl, hRc, hRs, hNC⟩ := id F
  exact lv_goto hx hb hd ht (k p e R s m args below meth c n0 Z H locs als F RO hn hnf hP hS hσ hst hls hal)
end STEPS
