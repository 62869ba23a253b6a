/-! the world's cells, by their places -/
theorem ws_at {G : Ctx} {n k : Nat} (σ : MS) (hk : k < n) : (wsO G n σ)[k]? = some (cB G + k, celE G σ k) := by
  unfold wsO
  rw [List.getElem?_map, List.getElem?_range hk]
  rfl
theorem ws_len {G : Ctx} {n : Nat} {σ : MS} : (wsO G n σ).length = n := by simp [wsO]
theorem ws_of {G : Ctx} {n i : Nat} {σ : MS} {q : Nat × va_E} (h : (wsO G n σ)[i]? = some q) : i < n ∧ q = (cB G + i, celE G σ i) := by
  have hl : i < n := by have := (List.getElem?_eq_some_iff.mp h).1; rwa [ws_len] at this
  rw [ws_at σ hl] at h
  exact ⟨hl, (Option.some.inj h).symm⟩
theorem ws_D (G : Ctx) (n : Nat) (σ : MS) : va_D (AO G) (wsO G n σ) := by
  refine ⟨fun i j p q hi hj he => ?_, fun k q hk => ?_⟩
  · have h1 := (ws_of hi).2
    have h2 := (ws_of hj).2
    subst h1; subst h2
    dsimp only at he
    omega
  · have h1 := (ws_of hk).2
    subst h1
    show cB G ≤ cB G + k
    omega
theorem ws_set {G : Ctx} {n k : Nat} {σ σ' : MS} (hk : k < n) {e : va_E} (h1 : celE G σ' k = e) (h2 : ∀ j, j ≠ k → celE G σ' j = celE G σ j) : (wsO G n σ).set k (cB G + k, e) = wsO G n σ' := by
  apply List.ext_getElem?
  intro i
  by_cases hi : i < n
  · rw [ws_at σ' hi]
    by_cases he : i = k
    · subst he
      rw [List.getElem?_set_self (by rw [ws_len]; exact hi), h1]
    · rw [List.getElem?_set_ne (Ne.symm he), ws_at σ hi, h2 i he]
  · rw [List.getElem?_eq_none (by rw [List.length_set, ws_len]; omega), List.getElem?_eq_none (by rw [ws_len]; omega)]
theorem ws_push {G : Ctx} {n : Nat} {σ σ' : MS} {e : va_E} (h1 : celE G σ' n = e) (h2 : ∀ j, j < n → celE G σ' j = celE G σ j) : wsO G n σ ++ [(cB G + n, e)] = wsO G (n + 1) σ' := by
  unfold wsO
  rw [List.range_succ, List.map_append, List.map_singleton, h1]
  congr 1
  apply List.map_congr_left
  intro j hj
  rw [h2 j (List.mem_range.mp hj)]
/-- cells of a kind -/
def shIs (n k t : Nat) : Option Nat := match Nat.blt k n && Nat.beq (sh k).1 t with
  | true => some (sh k).2
  | false => none
def isObj (n k c : Nat) : Bool := Nat.blt k n && (Nat.blt c 13 && Nat.beq (sh k).1 (4 + c))
theorem shIs_spec {n k t L : Nat} (h : shIs n k t = some L) : k < n ∧ (sh k).1 = t ∧ (sh k).2 = L := by
  unfold shIs at h
  cases hc : Nat.blt k n && Nat.beq (sh k).1 t with
  | true =>
    rw [hc] at h
    have h1 := (Bool.and_eq_true _ _).mp hc
    exact ⟨Nat.le_of_ble_eq_true h1.1, Nat.eq_of_beq_eq_true h1.2, Option.some.inj h⟩
  | false => rw [hc] at h; cases h
theorem isObj_spec {n k c : Nat} (h : isObj n k c = true) : k < n ∧ c < 13 ∧ (sh k).1 = 4 + c := by
  have h1 := (Bool.and_eq_true _ _).mp h
  have h2 := (Bool.and_eq_true _ _).mp h1.2
  exact ⟨Nat.le_of_ble_eq_true h1.1, Nat.le_of_ble_eq_true h2.1, Nat.eq_of_beq_eq_true h2.2⟩
theorem cel_i {G : Ctx} {σ : MS} {k t : Nat} (h : (sh k).1 = t) (h1 : t ≠ 1) (h4 : t < 4) : celE G σ k = .inl (cA G t, (sh k).2, .inl (fun j => Int32.ofInt (σ.1 k j))) := by
  subst h
  unfold celE
  rw [if_neg h1, if_pos h4]
theorem cel_l {G : Ctx} {σ : MS} {k : Nat} (h : (sh k).1 = 1) : celE G σ k = .inl (cA G 1, (sh k).2, .inr (.inl (fun j => Int64.ofBitVec (σ.2.1 k j)))) := by
  unfold celE
  rw [if_pos h]
theorem cel_o {G : Ctx} {σ : MS} {k c : Nat} (h : (sh k).1 = 4 + c) : celE G σ k = .inr (c, flds G σ k c) := by
  unfold celE
  rw [if_neg (by omega), if_neg (by omega), h, show 4 + c - 4 = c by omega]
theorem u2_ne {α : Type} {f : Nat → Nat → α} {k j a : Nat} {x : α} (h : a ≠ k) : u2 f k j x a = f a := by
  funext b
  unfold u2
  rw [if_neg (fun q => h q.1)]
theorem u2_at {α : Type} {f : Nat → Nat → α} {k j b : Nat} {x : α} : u2 f k j x k b = if b = j then x else f k b := by
  unfold u2
  by_cases h : b = j
  · rw [if_pos ⟨rfl, h⟩, if_pos h]
  · rw [if_neg (fun q => h q.2), if_neg h]
theorem u1_ne {α : Type} {f : Nat → Nat → α} {k a : Nat} {g : Nat → α} (h : a ≠ k) : u1 f k g a = f a := by
  funext b
  unfold u1
  rw [if_neg h]
theorem u1_at {α : Type} {f : Nat → Nat → α} {k : Nat} {g : Nat → α} : u1 f k g k = g := by
  funext b
  unfold u1
  rw [if_pos rfl]
theorem cel_sI {G : Ctx} {σ : MS} {k j a : Nat} {x : Int} (h : a ≠ k) : celE G (sI σ k j x) a = celE G σ a := by
  unfold celE flds fldV
  simp only [u2_ne h]
theorem cel_sJ {G : Ctx} {σ : MS} {k j a : Nat} {x : BitVec 64} (h : a ≠ k) : celE G (sJ σ k j x) a = celE G σ a := by
  unfold celE flds fldV
  simp only [u2_ne h]
theorem cel_sP {G : Ctx} {σ : MS} {k j a : Nat} {x : Nat} (h : a ≠ k) : celE G (sP σ k j x) a = celE G σ a := by
  unfold celE flds fldV
  simp only [u2_ne h]
theorem cel_sC {G : Ctx} {σ : MS} {src sp k dp len a : Nat} (h : a ≠ k) : celE G (sC σ src sp k dp len) a = celE G σ a := by
  unfold celE flds fldV
  simp only [u1_ne h]
theorem cel_sN {G : Ctx} {σ : MS} {k a : Nat} (h : a ≠ k) : celE G (sN σ k) a = celE G σ a := by
  unfold celE flds fldV
  simp only [u1_ne h]
theorem idx_in {i : Int} {L : Nat} (hr : inR i) (h : 0 ≤ i ∧ i < L) : vp_in (Int32.ofInt i) L := by
  rw [vp_in_iff, toI hr]
  exact h
theorem idx_cl {i : Int} (hr : inR i) : (Int32.ofInt i).toNatClampNeg = i.toNat := by
  show (Int32.ofInt i).toInt.toNat = i.toNat
  rw [toI hr]
theorem trR_c {G : Ctx} {k : Nat} (h : k < 1000) : trR G k = .ref (cB G + k) := by
  unfold trR
  rw [if_pos h]
theorem okC_in {t : Nat} {x : Int} (h : okC t x) : inR x := by
  unfold okC at h
  unfold inR
  split at h
  · omega
  · split at h
    · omega
    · exact h
theorem NC_lt : NC < 1000 := by decide
theorem ok_sI {σ : MS} {k j : Nat} {x : Int} (h : okS σ) (hx : okC (sh k).1 x) : okS (sI σ k j x) := by
  intro a b
  show okC (sh a).1 (u2 σ.1 k j x a b)
  unfold u2
  split
  · next q => rw [q.1]; exact hx
  · exact h a b
/-! what a class's tables are -/
theorem clsAt : ∀ c, c < 13 → ∃ (T : u_T) (ty : Nat → FieldType), vwCl[c]? = some (RC c, T, cN c) ∧ (∀ k, T k = fT c k) ∧ (∀ w ∈ u_ws (RC c) T (cN c), w ∈ lw_good) ∧ (∀ k, k < cN c → parseFieldDescriptor (T k).2.2.1 = some (ty k)) ∧ (∀ a, a < cN c → ∀ b, b < cN c → a ≠ b → (T a).2.1 ≠ (T b).2.1) := by
  intro c hc
  match c, hc with
  | 0, _ => exact ⟨TX0, tyX0, rfl, fun _ => rfl, inX0, tyX0_ok, nmX0⟩
  | 1, _ => exact ⟨TX1, tyX1, rfl, fun _ => rfl, inX1, tyX1_ok, nmX1⟩
  | 2, _ => exact ⟨TX2, tyX2, rfl, fun _ => rfl, inX2, tyX2_ok, nmX2⟩
  | 3, _ => exact ⟨TX3, tyX3, rfl, fun _ => rfl, inX3, tyX3_ok, nmX3⟩
  | 4, _ => exact ⟨TX4, tyX4, rfl, fun _ => rfl, inX4, tyX4_ok, nmX4⟩
  | 5, _ => exact ⟨TX5, tyX5, rfl, fun _ => rfl, inX5, tyX5_ok, nmX5⟩
  | 6, _ => exact ⟨TX6, tyX6, rfl, fun _ => rfl, inX6, tyX6_ok, nmX6⟩
  | 7, _ => exact ⟨TX7, tyX7, rfl, fun _ => rfl, inX7, tyX7_ok, nmX7⟩
  | 8, _ => exact ⟨TX8, tyX8, rfl, fun _ => rfl, inX8, tyX8_ok, nmX8⟩
  | 9, _ => exact ⟨TX9, tyX9, rfl, fun _ => rfl, inX9, tyX9_ok, nmX9⟩
  | 10, _ => exact ⟨TX10, tyX10, rfl, fun _ => rfl, inX10, tyX10_ok, nmX10⟩
  | 11, _ => exact ⟨TX11, tyX11, rfl, fun _ => rfl, inX11, tyX11_ok, nmX11⟩
  | 12, _ => exact ⟨TX12, tyX12, rfl, fun _ => rfl, inX12, tyX12_ok, nmX12⟩
  | c + 13, h => exact absurd h (by omega)
/-- a field's kind and its descriptor -/
theorem fk_ok : ∀ c, c < 13 → ∀ j, j < cN c → (fT c j).1 = RC c ∧ ((fk c j = 0 ∧ (fT c j).2.2.1 = "I") ∨ (fk c j = 2 ∧ (fT c j).2.2.1 = "Z") ∨ (fk c j = 1 ∧ (match parseFieldDescriptor (fT c j).2.2.1 with | some (.object _) => true | some (.array _) => true | _ => false) = true)) := by decide +kernel
def fval (σ : MS) (k c j : Nat) : MV := match Nat.beq (fk c j) 1 with
  | true => vr (σ.2.2 k j)
  | false => vi (σ.1 k j)
theorem fval_tr {G : Ctx} {σ : MS} {k c j : Nat} : trV G (fval σ k c j) = fldV G σ k c j := by
  unfold fval fldV
  cases hb : Nat.beq (fk c j) 1 with
  | true => rw [if_pos (Nat.eq_of_beq_eq_true hb)]; rfl
  | false => rw [if_neg (fun q => by rw [q] at hb; cases hb)]; rfl
theorem flds_at {G : Ctx} {σ : MS} {k c j : Nat} (hj : j < cN c) : (flds G σ k c)[j]? = some (fldV G σ k c j) := by
  unfold flds
  rw [List.getElem?_map, List.getElem?_range hj]
  rfl
theorem flds_len {G : Ctx} {σ : MS} {k c : Nat} : (flds G σ k c).length = cN c := by simp [flds]
theorem flds_set {G : Ctx} {σ σ' : MS} {k c j : Nat} {v : Value} (hj : j < cN c) (h1 : fldV G σ' k c j = v) (h2 : ∀ i, i ≠ j → fldV G σ' k c i = fldV G σ k c i) : (flds G σ k c).set j v = flds G σ' k c := by
  apply List.ext_getElem?
  intro i
  by_cases hi : i < cN c
  · rw [flds_at hi]
    by_cases he : i = j
    · subst he
      rw [List.getElem?_set_self (by rw [flds_len]; exact hi), h1]
    · rw [List.getElem?_set_ne (Ne.symm he), flds_at hi, h2 i he]
  · rw [List.getElem?_eq_none (by rw [List.length_set, flds_len]; omega), List.getElem?_eq_none (by rw [flds_len]; omega)]
theorem sl_step : ∀ k, k < NC → slt (k + 1) = slt k + (sh k).2 := by decide +kernel
theorem slt_mono {x y : Nat} (h : x ≤ y) (hy : y ≤ NC) : slt x ≤ slt y := by
  induction y with
  | zero => have : x = 0 := by omega
            subst this; exact Nat.le_refl _
  | succ y ih =>
    by_cases he : x = y + 1
    · subst he; exact Nat.le_refl _
    · have h1 := ih (by omega) (by omega)
      rw [sl_step y (by omega)]
      omega
theorem ty_at {G : Ctx} {t : Nat} {ty : FieldType} (h : akT[t]? = some ty) : (tyA G)[t]? = some (cA G t, ty) := by
  match t, h with
  | 0, h => cases h; rfl
  | 1, h => cases h; rfl
  | 2, h => cases h; rfl
  | 3, h => cases h; rfl
section HEAP
variable {G : Ctx} {h mi nf n pc len a : Nat} {b : Int} {ls : ML} {st : List MV} {σ : MS} {Q : MP}
theorem T_iaload {k L : Nat} {i : Int} (he : EOK mi (pc, .iaload, len, a, b)) (hk : shIs n k 0 = some L) (hi : 0 ≤ i ∧ i < L) (kk : Tri G h mi nf n (pc + len) ls (vi (σ.1 k i.toNat) :: st) σ Q) : Tri G h mi nf n pc ls (vi i :: vr k :: st) σ Q := by
  obtain ⟨rfl, hd⟩ := he.dec (k := 1) rfl (by decide)
  obtain ⟨h1, h2, h3⟩ := shIs_spec hk
  intro p e R s m args below meth c n0 Z H locs als F RO hn hnf hP hS hσ hst hls hal
  obtain ⟨hx, hb, hml, hr, hown, hts, hlk, hnm, hK, hW, hsz, hn0, hRf, hRl, hRc, hRs, hNC⟩ := id F
  have hr9 : inR i := ok_h hst
  have k1 := kk p e R s m args below meth c n0 Z H locs als F RO hn hnf hP hS hσ (ok_c (okC_in (hσ k i.toNat)) (ok_t (ok_t hst))) hls hal
  rw [List.map_cons, List.map_cons, show trV G (vr k) = trR G k from rfl, trR_c (by have := NC_lt; omega)]
  have hw := ws_at (G := G) σ h1
  rw [cel_i h2 (by decide) (by decide), h3] at hw
  refine va_iald hx hb hK.1 hP k 0 hw (ty_at (t := 0) rfl) (idx_in hr9 hi) hd ?_
  rw [idx_cl hr9]
  exact k1
theorem T_baload {k L t : Nat} {i : Int} (ht : t = 2 ∨ t = 3) (he : EOK mi (pc, .baload, len, a, b)) (hk : shIs n k t = some L) (hi : 0 ≤ i ∧ i < L) (kk : Tri G h mi nf n (pc + len) ls (vi (σ.1 k i.toNat) :: st) σ Q) : Tri G h mi nf n pc ls (vi i :: vr k :: st) σ Q := by
  obtain ⟨rfl, hd⟩ := he.dec (k := 1) rfl (by decide)
  obtain ⟨h1, h2, h3⟩ := shIs_spec hk
  intro p e R s m args below meth c n0 Z H locs als F RO hn hnf hP hS hσ hst hls hal
  obtain ⟨hx, hb, hml, hr, hown, hts, hlk, hnm, hK, hW, hsz, hn0, hRf, hRl, hRc, hRs, hNC⟩ := id F
  have hr9 : inR i := ok_h hst
  have k1 := kk p e R s m args below meth c n0 Z H locs als F RO hn hnf hP hS hσ (ok_c (okC_in (hσ k i.toNat)) (ok_t (ok_t hst))) hls hal
  rw [List.map_cons, List.map_cons, show trV G (vr k) = trR G k from rfl, trR_c (by have := NC_lt; omega)]
  have hw := ws_at (G := G) σ h1
  rcases ht with rfl | rfl
  · rw [cel_i h2 (by decide) (by decide), h3] at hw
    refine va_bald hx hb hK.1 hP k 2 hw (ty_at (t := 2) rfl) (idx_in hr9 hi) hd ?_
    rw [idx_cl hr9]
    exact k1
  · rw [cel_i h2 (by decide) (by decide), h3] at hw
    refine va_zald hx hb hK.1 hP k 3 hw (ty_at (t := 3) rfl) (idx_in hr9 hi) hd ?_
    rw [idx_cl hr9]
    exact k1
theorem T_laload {k L : Nat} {i : Int} (he : EOK mi (pc, .laload, len, a, b)) (hk : shIs n k 1 = some L) (hi : 0 ≤ i ∧ i < L) (kk : Tri G h mi nf n (pc + len) ls (vl (σ.2.1 k i.toNat) :: st) σ Q) : Tri G h mi nf n pc ls (vi i :: vr k :: st) σ Q := by
  obtain ⟨rfl, hd⟩ := he.dec (k := 1) rfl (by decide)
  obtain ⟨h1, h2, h3⟩ := shIs_spec hk
  intro p e R s m args below meth c n0 Z H locs als F RO hn hnf hP hS hσ hst hls hal
  obtain ⟨hx, hb, hml, hr, hown, hts, hlk, hnm, hK, hW, hsz, hn0, hRf, hRl, hRc, hRs, hNC⟩ := id F
  have hr9 : inR i := ok_h hst
  have k1 := kk p e R s m args below meth c n0 Z H locs als F RO hn hnf hP hS hσ (ok_c trivial (ok_t (ok_t hst))) hls hal
  rw [List.map_cons, List.map_cons, show trV G (vr k) = trR G k from rfl, trR_c (by have := NC_lt; omega)]
  have hw := ws_at (G := G) σ h1
  rw [cel_l h2, h3] at hw
  refine va_lald hx hb hK.1 hP k 1 hw (ty_at (t := 1) rfl) (idx_in hr9 hi) hd ?_
  rw [idx_cl hr9]
  exact k1
theorem T_iastore {k L : Nat} {i x : Int} (he : EOK mi (pc, .iastore, len, a, b)) (hk : shIs n k 0 = some L) (hi : 0 ≤ i ∧ i < L) (kk : Tri G h mi nf n (pc + len) ls st (sI σ k i.toNat x) Q) : Tri G h mi nf n pc ls (vi x :: vi i :: vr k :: st) σ Q := by
  obtain ⟨rfl, hd⟩ := he.dec (k := 1) rfl (by decide)
  obtain ⟨h1, h2, h3⟩ := shIs_spec hk
  intro p e R s m args below meth c n0 Z H locs als F RO hn hnf hP hS hσ hst hls hal
  obtain ⟨hx, hb, hml, hr, hown, hts, hlk, hnm, hK, hW, hsz, hn0, hRf, hRl, hRc, hRs, hNC⟩ := id F
  have hr9 : inR i := ok_h (ok_t hst)
  have hx9 : inR x := ok_h hst
  rw [List.map_cons, List.map_cons, List.map_cons, show trV G (vr k) = trR G k from rfl, trR_c (by have := NC_lt; omega)]
  have hw := ws_at (G := G) σ h1
  rw [cel_i h2 (by decide) (by decide), h3] at hw
  refine va_iast hx hb hK.1 hP (ws_D G n σ) hS k 0 hw (ty_at (t := 0) rfl) (idx_in hr9 hi) hd (fun H1 locs1 hP1 hD1 hS1 => ?_)
  rw [idx_cl hr9] at hP1
  rw [ws_set (σ' := sI σ k i.toNat x) h1 (by
    rw [cel_i h2 (by decide) (by decide), h3]
    congr 4
    funext j
    show Int32.ofInt (u2 σ.1 k i.toNat x k j) = _
    rw [u2_at]
    unfold upd
    split <;> rfl) (fun j hj => cel_sI hj)] at hP1
  exact kk p e R s m args below meth c n0 Z H1 locs1 als F RO hn hnf hP1 hS1 (ok_sI hσ (by rw [h2]; exact hx9)) (ok_t (ok_t (ok_t hst))) hls hal
theorem nar_b (x : Int) : vp_nar .byte (Int32.ofInt x) = Int32.ofInt (w8 x) := by
  rw [vp_nar_byte]
  rfl
theorem w8_in (x : Int) : -128 ≤ w8 x ∧ w8 x < 128 := by
  have h1 := Int8.le_toInt (Int32.ofInt x).toInt8
  have h2 := Int8.toInt_lt (Int32.ofInt x).toInt8
  unfold w8
  omega
theorem T_bastore {k L : Nat} {i x : Int} (he : EOK mi (pc, .bastore, len, a, b)) (hk : shIs n k 2 = some L) (hi : 0 ≤ i ∧ i < L) (kk : Tri G h mi nf n (pc + len) ls st (sI σ k i.toNat (w8 x)) Q) : Tri G h mi nf n pc ls (vi x :: vi i :: vr k :: st) σ Q := by
  obtain ⟨rfl, hd⟩ := he.dec (k := 1) rfl (by decide)
  obtain ⟨h1, h2, h3⟩ := shIs_spec hk
  intro p e R s m args below meth c n0 Z H locs als F RO hn hnf hP hS hσ hst hls hal
  obtain ⟨hx, hb, hml, hr, hown, hts, hlk, hnm, hK, hW, hsz, hn0, hRf, hRl, hRc, hRs, hNC⟩ := id F
  have hr9 : inR i := ok_h (ok_t hst)
  rw [List.map_cons, List.map_cons, List.map_cons, show trV G (vr k) = trR G k from rfl, trR_c (by have := NC_lt; omega)]
  have hw := ws_at (G := G) σ h1
  rw [cel_i h2 (by decide) (by decide), h3] at hw
  refine va_bast hx hb hK.1 hP (ws_D G n σ) hS k 2 hw (ty_at (t := 2) rfl) (idx_in hr9 hi) hd (fun H1 locs1 hP1 hD1 hS1 => ?_)
  rw [idx_cl hr9, nar_b] at hP1
  rw [ws_set (σ' := sI σ k i.toNat (w8 x)) h1 (by
    rw [cel_i h2 (by decide) (by decide), h3]
    congr 4
    funext j
    show Int32.ofInt (u2 σ.1 k i.toNat (w8 x) k j) = _
    rw [u2_at]
    unfold upd
    split <;> rfl) (fun j hj => cel_sI hj)] at hP1
  exact kk p e R s m args below meth c n0 Z H1 locs1 als F RO hn hnf hP1 hS1 (ok_sI hσ (by rw [h2]; exact w8_in x)) (ok_t (ok_t (ok_t hst))) hls hal
theorem T_zastore {k L : Nat} {i x : Int} (he : EOK mi (pc, .bastore, len, a, b)) (hk : shIs n k 3 = some L) (hi : 0 ≤ i ∧ i < L) (h01 : x = 0 ∨ x = 1) (kk : Tri G h mi nf n (pc + len) ls st (sI σ k i.toNat x) Q) : Tri G h mi nf n pc ls (vi x :: vi i :: vr k :: st) σ Q := by
  obtain ⟨rfl, hd⟩ := he.dec (k := 1) rfl (by decide)
  obtain ⟨h1, h2, h3⟩ := shIs_spec hk
  intro p e R s m args below meth c n0 Z H locs als F RO hn hnf hP hS hσ hst hls hal
  obtain ⟨hx, hb, hml, hr, hown, hts, hlk, hnm, hK, hW, hsz, hn0, hRf, hRl, hRc, hRs, hNC⟩ := id F
  have hr9 : inR i := ok_h (ok_t hst)
  rw [List.map_cons, List.map_cons, List.map_cons, show trV G (vr k) = trR G k from rfl, trR_c (by have := NC_lt; omega)]
  have hw := ws_at (G := G) σ h1
  rw [cel_i h2 (by decide) (by decide), h3] at hw
  have hnz : vp_nar .boolean (Int32.ofInt x) = Int32.ofInt x := by rcases h01 with rfl | rfl <;> rfl
  refine va_zast hx hb hK.1 hP (ws_D G n σ) hS k 3 hw (ty_at (t := 3) rfl) (idx_in hr9 hi) hd (fun H1 locs1 hP1 hD1 hS1 => ?_)
  rw [idx_cl hr9, hnz] at hP1
  rw [ws_set (σ' := sI σ k i.toNat x) h1 (by
    rw [cel_i h2 (by decide) (by decide), h3]
    congr 4
    funext j
    show Int32.ofInt (u2 σ.1 k i.toNat x k j) = _
    rw [u2_at]
    unfold upd
    split <;> rfl) (fun j hj => cel_sI hj)] at hP1
  exact kk p e R s m args below meth c n0 Z H1 locs1 als F RO hn hnf hP1 hS1 (ok_sI hσ (by rw [h2]; exact h01)) (ok_t (ok_t (ok_t hst))) hls hal
theorem T_lastore {k L : Nat} {i : Int} {x : BitVec 64} (he : EOK mi (pc, .lastore, len, a, b)) (hk : shIs n k 1 = some L) (hi : 0 ≤ i ∧ i < L) (kk : Tri G h mi nf n (pc + len) ls st (sJ σ k i.toNat x) Q) : Tri G h mi nf n pc ls (vl x :: vi i :: vr k :: st) σ Q := by
  obtain ⟨rfl, hd⟩ := he.dec (k := 1) rfl (by decide)
  obtain ⟨h1, h2, h3⟩ := shIs_spec hk
  intro p e R s m args below meth c n0 Z H locs als F RO hn hnf hP hS hσ hst hls hal
  obtain ⟨hx, hb, hml, hr, hown, hts, hlk, hnm, hK, hW, hsz, hn0, hRf, hRl, hRc, hRs, hNC⟩ := id F
  have hr9 : inR i := ok_h (ok_t hst)
  rw [List.map_cons, List.map_cons, List.map_cons, show trV G (vr k) = trR G k from rfl, trR_c (by have := NC_lt; omega)]
  have hw := ws_at (G := G) σ h1
  rw [cel_l h2, h3] at hw
  refine va_last hx hb hK.1 hP (ws_D G n σ) hS k 1 hw (ty_at (t := 1) rfl) (idx_in hr9 hi) hd (fun H1 locs1 hP1 hD1 hS1 => ?_)
  rw [idx_cl hr9] at hP1
  rw [ws_set (σ' := sJ σ k i.toNat x) h1 (by
    rw [cel_l h2, h3]
    congr 5
    funext j
    show Int64.ofBitVec (u2 σ.2.1 k i.toNat x k j) = _
    rw [u2_at]
    unfold vp_updL
    split <;> rfl) (fun j hj => cel_sJ hj)] at hP1
  exact kk p e R s m args below meth c n0 Z H1 locs1 als F RO hn hnf hP1 hS1 hσ (ok_t (ok_t (ok_t hst))) hls hal
/-- how long an array is, whatever its kind -/
def arrN (n k : Nat) : Option Nat := match Nat.blt k n && Nat.blt (sh k).1 4 with
  | true => some (sh k).2
  | false => none
theorem sh_small : ∀ k, k < NC → (sh k).2 < 2147483648 := by decide +kernel
theorem T_alen {k L : Nat} (he : EOK mi (pc, .arraylength, len, a, b)) (hk : arrN n k = some L) (kk : Tri G h mi nf n (pc + len) ls (vi (L : Int) :: st) σ Q) : Tri G h mi nf n pc ls (vr k :: st) σ Q := by
  obtain ⟨rfl, hd⟩ := he.dec (k := 1) rfl (by decide)
  have hsp : k < n ∧ (sh k).1 < 4 ∧ (sh k).2 = L := by
    unfold arrN at hk
    cases hc : Nat.blt k n && Nat.blt (sh k).1 4 with
    | true =>
      rw [hc] at hk
      have h1 := (Bool.and_eq_true _ _).mp hc
      exact ⟨Nat.le_of_ble_eq_true h1.1, Nat.le_of_ble_eq_true h1.2, Option.some.inj hk⟩
    | false => rw [hc] at hk; cases hk
  obtain ⟨h1, h2, h3⟩ := hsp
  intro p e R s m args below meth c n0 Z H locs als F RO hn hnf hP hS hσ hst hls hal
  obtain ⟨hx, hb, hml, hr, hown, hts, hlk, hnm, hK, hW, hsz, hn0, hRf, hRl, hRc, hRs, hNC⟩ := id F
  have hL : L < 2147483648 := by rw [← h3]; exact sh_small k (by omega)
  have k1 := kk p e R s m args below meth c n0 Z H locs als F RO hn hnf hP hS hσ (ok_c (show inR (L : Int) by unfold inR; omega) (ok_t hst)) hls hal
  rw [List.map_cons, show trV G (vr k) = trR G k from rfl, trR_c (by have := NC_lt; omega)]
  rw [List.map_cons, show trV G (vi (L : Int)) = .int (Int32.ofInt (L : Int)) from rfl, Int32.ofInt_eq_ofNat] at k1
  have hw := ws_at (G := G) σ h1
  by_cases h4 : (sh k).1 = 1
  · rw [cel_l h4, h3] at hw
    exact va_alen hx hb hK.1 hP k 1 hw (ty_at (t := 1) rfl) rfl hd k1
  · have hcs : (sh k).1 = 0 ∨ (sh k).1 = 2 ∨ (sh k).1 = 3 := by omega
    rcases hcs with h5 | h5 | h5
    · rw [cel_i h5 (by decide) (by decide), h3] at hw
      exact va_alen hx hb hK.1 hP k 0 hw (ty_at (t := 0) rfl) rfl hd k1
    · rw [cel_i h5 (by decide) (by decide), h3] at hw
      exact va_alen hx hb hK.1 hP k 2 hw (ty_at (t := 2) rfl) rfl hd k1
    · rw [cel_i h5 (by decide) (by decide), h3] at hw
      exact va_alen hx hb hK.1 hP k 3 hw (ty_at (t := 3) rfl) rfl hd k1
/-! Strings and the script -/
theorem trR_s {G : Ctx} {i : Nat} (h : i < 22) : trR G (2000 + i) = .ref (cK G i) := by
  unfold trR
  rw [if_neg (by omega), if_neg (by omega), if_pos (by omega), show 2000 + i - 2000 = i by omega]
theorem trR_b {G : Ctx} {i : Nat} (h : i < 22) : trR G (3000 + i) = .ref (cV G i) := by
  unfold trR
  rw [if_neg (by omega), if_neg (by omega), if_neg (by omega), if_pos (by omega), show 3000 + i - 3000 = i by omega]
theorem trR_x {G : Ctx} : trR G 4000 = .ref (cS G) := by
  unfold trR
  rw [if_neg (by omega), if_neg (by omega), if_neg (by omega), if_neg (by omega), if_pos rfl]
def stC (i j : Nat) : Int := ((stB.getD i []).getD j 0).toInt
theorem st_small : ∀ i, i < 22 → stN.getD i 0 < 2147483648 := by decide +kernel
theorem T_alenS {i : Nat} (hi : i < 22) (he : EOK mi (pc, .arraylength, len, a, b)) (kk : Tri G h mi nf n (pc + len) ls (vi ((stN.getD i 0 : Nat) : Int) :: st) σ Q) : Tri G h mi nf n pc ls (vr (3000 + i) :: st) σ Q := by
  obtain ⟨rfl, hd⟩ := he.dec (k := 1) rfl (by decide)
  intro p e R s m args below meth c n0 Z H locs als F RO hn hnf hP hS hσ hst hls hal
  obtain ⟨hx, hb, hml, hr, hown, hts, hlk, hnm, hK, hW, hsz, hn0, hRf, hRl, hRc, hRs, hNC⟩ := id F
  have hL := st_small i hi
  have k1 := kk p e R s m args below meth c n0 Z H locs als F RO hn hnf hP hS hσ (ok_c (show inR ((stN.getD i 0 : Nat) : Int) by unfold inR; omega) (ok_t hst)) hls hal
  rw [List.map_cons, show trV G (vr (3000 + i)) = trR G (3000 + i) from rfl, trR_b hi]
  rw [List.map_cons, show trV G (vi ((stN.getD i 0 : Nat) : Int)) = .int (Int32.ofInt ((stN.getD i 0 : Nat) : Int)) from rfl, Int32.ofInt_eq_ofNat] at k1
  exact va_tlen hx hb (hW.1.1 i hi).2.2.2 hS rfl hd k1
theorem T_baloadS {i : Nat} {j : Int} (hi : i < 22) (he : EOK mi (pc, .baload, len, a, b)) (hj : 0 ≤ j ∧ j < (stN.getD i 0 : Nat)) (kk : Tri G h mi nf n (pc + len) ls (vi (stC i j.toNat) :: st) σ Q) : Tri G h mi nf n pc ls (vi j :: vr (3000 + i) :: st) σ Q := by
  obtain ⟨rfl, hd⟩ := he.dec (k := 1) rfl (by decide)
  intro p e R s m args below meth c n0 Z H locs als F RO hn hnf hP hS hσ hst hls hal
  obtain ⟨hx, hb, hml, hr, hown, hts, hlk, hnm, hK, hW, hsz, hn0, hRf, hRl, hRc, hRs, hNC⟩ := id F
  have hr9 : inR j := ok_h hst
  have k1 := kk p e R s m args below meth c n0 Z H locs als F RO hn hnf hP hS hσ (ok_c (inR_to _) (ok_t (ok_t hst))) hls hal
  rw [List.map_cons, List.map_cons, show trV G (vr (3000 + i)) = trR G (3000 + i) from rfl, trR_b hi]
  refine va_tb hx hb (hW.1.1 i hi).2.2.2 hS (idx_in hr9 hj) ?_ hd k1
  rw [idx_cl hr9]
  exact congrArg Value.int (Int32.ofInt_toInt _).symm
theorem T_getS {i : Nat} {ix : Nat} (hi : i < 22) (he : EOK mi (pc, .getfield ix, len, 100, b)) (kk : Tri G h mi nf n (pc + len) ls ((match Nat.beq b.toNat 0 with | true => vr (3000 + i) | false => vi 0) :: st) σ Q) : Tri G h mi nf n pc ls (vr (2000 + i) :: st) σ Q := by
  obtain ⟨rfl, hd⟩ := he.dec (k := 3) rfl (by decide)
  have hc : (((100 : Nat) == 100 && (decide ((oc mi, ix, b.toNat) ∈ sfT) && decide (b.toNat < 2))) || (decide ((100 : Nat) < 13) && (decide (b.toNat < cN 100) && decide ((oc mi, ix, 100, b.toNat) ∈ flT)))) = true := he.2.2.2
  have hc1 : (oc mi, ix, b.toNat) ∈ sfT ∧ b.toNat < 2 := by simpa using hc
  intro p e R s m args below meth c n0 Z H locs als F RO hn hnf hP hS hσ hst hls hal
  obtain ⟨hx, hb, hml, hr, hown, hts, hlk, hnm, hK, hW, hsz, hn0, hRf, hRl, hRc, hRs, hNC⟩ := id F
  have hl := hts _ (sf_ok _ hc1.1)
  rw [List.map_cons, show trV G (vr (2000 + i)) = trR G (2000 + i) from rfl, trR_s hi]
  rcases (show b.toNat = 0 ∨ b.toNat = 1 by omega) with h0 | h0
  · rw [h0] at hl kk
    have k1 := kk p e R s m args below meth c n0 Z H locs als F RO hn hnf hP hS hσ (ok_c (v := vr (3000 + i)) trivial (ok_t hst)) hls hal
    have k1 : W p (cL G) e R s m args below meth c H locs (n - n0) (slt n - slt n0) Z (F0 m (pc + 3) als (trR G (3000 + i) :: List.map (trV G) st)) := k1
    rw [trR_b hi] at k1
    exact vk_getf hx hb (hW.1.1 i hi).2.2.1 hS hown hl (fun x h => h) hd k1
  · rw [h0] at hl kk
    exact vk_getf hx hb (hW.1.1 i hi).2.1 hS hown hl (fun x h => h) hd (kk p e R s m args below meth c n0 Z H locs als F RO hn hnf hP hS hσ (ok_c (v := vi 0) inR0 (ok_t hst)) hls hal)
theorem T_sld {i : Int} (he : EOK mi (pc, .iaload, len, a, b)) (hi : 0 ≤ i ∧ i < (cNn G : Int)) (kk : Tri G h mi nf n (pc + len) ls (vi (cX G i.toNat).toInt :: st) σ Q) : Tri G h mi nf n pc ls (vi i :: vr 4000 :: st) σ Q := by
  obtain ⟨rfl, hd⟩ := he.dec (k := 1) rfl (by decide)
  intro p e R s m args below meth c n0 Z H locs als F RO hn hnf hP hS hσ hst hls hal
  obtain ⟨hx, hb, hml, hr, hown, hts, hlk, hnm, hK, hW, hsz, hn0, hRf, hRl, hRc, hRs, hNC⟩ := id F
  have hr9 : inR i := ok_h hst
  have k1 := kk p e R s m args below meth c n0 Z H locs als F RO hn hnf hP hS hσ (ok_c (inR_to _) (ok_t (ok_t hst))) hls hal
  rw [List.map_cons, List.map_cons, show trV G (vr 4000) = trR G 4000 from rfl, trR_x]
  rw [List.map_cons, show trV G (vi (cX G i.toNat).toInt) = .int (Int32.ofInt (cX G i.toNat).toInt) from rfl, Int32.ofInt_toInt] at k1
  obtain ⟨hX1, hX2, hX3⟩ := hW.2.2.2
  have hbl : cS G < s.heap.size := by have := hX2; unfold AO at this; omega
  refine va_sld hx hb hX1 hbl hX2 hS (idx_in hr9 hi) hd ?_
  rw [idx_cl hr9]
  exact k1
theorem T_slen (he : EOK mi (pc, .arraylength, len, a, b)) (kk : Tri G h mi nf n (pc + len) ls (vi (cNn G : Int) :: st) σ Q) : Tri G h mi nf n pc ls (vr 4000 :: st) σ Q := by
  obtain ⟨rfl, hd⟩ := he.dec (k := 1) rfl (by decide)
  intro p e R s m args below meth c n0 Z H locs als F RO hn hnf hP hS hσ hst hls hal
  obtain ⟨hx, hb, hml, hr, hown, hts, hlk, hnm, hK, hW, hsz, hn0, hRf, hRl, hRc, hRs, hNC⟩ := id F
  obtain ⟨hX1, hX2, hX3⟩ := hW.2.2.2
  have k1 := kk p e R s m args below meth c n0 Z H locs als F RO hn hnf hP hS hσ (ok_c (show inR (cNn G : Int) by unfold inR; omega) (ok_t hst)) hls hal
  rw [List.map_cons, show trV G (vr 4000) = trR G 4000 from rfl, trR_x]
  rw [List.map_cons, show trV G (vi (cNn G : Int)) = .int (Int32.ofInt (cNn G : Int)) from rfl, Int32.ofInt_eq_ofNat] at k1
  have hbl : cS G < s.heap.size := by have := hX2; unfold AO at this; omega
  exact va_slen hx hb hX1 hbl hX2 hS hd k1
/-! constants of the pool -/
theorem T_ldc {i : Nat} (he : EOK mi (pc, .ldc i, len, 0, b)) (kk : Tri G h mi nf n (pc + len) ls (vi b :: st) σ Q) : Tri G h mi nf n pc ls st σ Q := by
  obtain ⟨rfl, hd⟩ := he.dec (k := 2) rfl (by decide)
  have hc := he.2.2.2
  have hc1 : (-2147483648 ≤ b ∧ b < 2147483648) ∧ (oc mi, i, b) ∈ kiT := by simpa [chkL] using hc
  intro p e R s m args below meth c n0 Z H locs als F RO hn hnf hP hS hσ hst hls hal
  obtain ⟨hx, hb, hml, hr, hown, hts, hlk, hnm, hK, hW, hsz, hn0, hRf, hRl, hRc, hRs, hNC⟩ := id F
  exact lv_ldc hx hb hown (hts _ (ki_ok _ hc1.2)) hd (kk p e R s m args below meth c n0 Z H locs als F RO hn hnf hP hS hσ (ok_c (v := vi b) hc1.1 hst) hls hal)
theorem T_ldcw {i : Nat} (he : EOK mi (pc, .ldc_w i, len, a, b)) (kk : Tri G h mi nf n (pc + len) ls (vi b :: st) σ Q) : Tri G h mi nf n pc ls st σ Q := by
  obtain ⟨rfl, hd⟩ := he.dec (k := 3) rfl (by decide)
  have hc := he.2.2.2
  have hc1 : (-2147483648 ≤ b ∧ b < 2147483648) ∧ (oc mi, i, b) ∈ kiT := by simpa [chkL] using hc
  intro p e R s m args below meth c n0 Z H locs als F RO hn hnf hP hS hσ hst hls hal
  obtain ⟨hx, hb, hml, hr, hown, hts, hlk, hnm, hK, hW, hsz, hn0, hRf, hRl, hRc, hRs, hNC⟩ := id F
  exact lv_ldcw hx hb hown (hts _ (ki_ok _ hc1.2)) hd (kk p e R s m args below meth c n0 Z H locs als F RO hn hnf hP hS hσ (ok_c (v := vi b) hc1.1 hst) hls hal)
theorem T_ldcS {i : Nat} (he : EOK mi (pc, .ldc i, len, 1, b)) (kk : Tri G h mi nf n (pc + len) ls (vr (2000 + b.toNat) :: st) σ Q) : Tri G h mi nf n pc ls st σ Q := by
  obtain ⟨rfl, hd⟩ := he.dec (k := 2) rfl (by decide)
  have hc := he.2.2.2
  have hc1 : stO.getD b.toNat 0 = oc mi ∧ stI.getD b.toNat 0 = i ∧ b.toNat < 22 := by
    simpa only [chkL, show ((1 : Nat) == 0) = false from rfl, show ((1 : Nat) == 1) = true from rfl, Bool.false_and, Bool.true_and, Bool.false_or, Bool.and_eq_true, decide_eq_true_eq] using hc
  intro p e R s m args below meth c n0 Z H locs als F RO hn hnf hP hS hσ hst hls hal
  obtain ⟨hx, hb, hml, hr, hown, hts, hlk, hnm, hK, hW, hsz, hn0, hRf, hRl, hRc, hRs, hNC⟩ := id F
  have hR := hK.2.1 b.toNat hc1.2.2
  rw [hc1.1, hc1.2.1] at hR
  have k1 : W p (cL G) e R s m args below meth c H locs (n - n0) (slt n - slt n0) Z (F0 m (pc + 2) als (trR G (2000 + b.toNat) :: List.map (trV G) st)) := kk p e R s m args below meth c n0 Z H locs als F RO hn hnf hP hS hσ (ok_c (v := vr (2000 + b.toNat)) trivial hst) hls hal
  rw [trR_s hc1.2.2] at k1
  exact va_ldcS hx hb hown hR hd k1
theorem T_ldc2 {i : Nat} (he : EOK mi (pc, .ldc2_w i, len, a, b)) (kk : Tri G h mi nf n (pc + len) ls (vl (BitVec.ofInt 64 b) :: st) σ Q) : Tri G h mi nf n pc ls st σ Q := by
  obtain ⟨rfl, hd⟩ := he.dec (k := 3) rfl (by decide)
  have hc := he.2.2.2
  have hc1 : (oc mi, i, b) ∈ klT := by simpa [chkL] using hc
  intro p e R s m args below meth c n0 Z H locs als F RO hn hnf hP hS hσ hst hls hal
  obtain ⟨hx, hb, hml, hr, hown, hts, hlk, hnm, hK, hW, hsz, hn0, hRf, hRl, hRc, hRs, hNC⟩ := id F
  exact lv_ldc2 hx hb hown (hts _ (kl_ok _ hc1)) hd (kk p e R s m args below meth c n0 Z H locs als F RO hn hnf hP hS hσ (ok_c (v := vl (BitVec.ofInt 64 b)) trivial hst) hls hal)
theorem T_gets {i : Nat} (he : EOK mi (pc, .getstatic i, len, a, b)) (kk : Tri G h mi nf n (pc + len) ls ((match Nat.beq a 0 with | true => vi 1 | false => vr 5000) :: st) σ Q) : Tri G h mi nf n pc ls st σ Q := by
  obtain ⟨rfl, hd⟩ := he.dec (k := 3) rfl (by decide)
  have hc := he.2.2.2
  have hc1 : (oc mi, i, a) ∈ gsT ∧ a < 2 := by simpa [chkL] using hc
  intro p e R s m args below meth c n0 Z H locs als F RO hn hnf hP hS hσ hst hls hal
  obtain ⟨hx, hb, hml, hr, hown, hts, hlk, hnm, hK, hW, hsz, hn0, hRf, hRl, hRc, hRs, hNC⟩ := id F
  have hl := hts _ (gs_ok _ hc1.1)
  rcases (show a = 0 ∨ a = 1 by omega) with rfl | rfl
  · exact va_gets hx hb hW.2.1 hS hown hl (fun x h => h) hd (kk p e R s m args below meth c n0 Z H locs als F RO hn hnf hP hS hσ (ok_c (v := vi 1) (by show inR 1; unfold inR; omega) hst) hls hal)
  · have k1 : W p (cL G) e R s m args below meth c H locs (n - n0) (slt n - slt n0) Z (F0 m (pc + 3) als (trR G 5000 :: List.map (trV G) st)) := kk p e R s m args below meth c n0 Z H locs als F RO hn hnf hP hS hσ (ok_c (v := vr 5000) trivial hst) hls hal
    rw [show trR G 5000 = cF G from rfl] at k1
    exact va_gets hx hb hW.2.2.1 hS hown hl (fun x h => h) hd k1
/-! fields -/
theorem T_get {k ix : Nat} (he : EOK mi (pc, .getfield ix, len, a, b)) (hk : isObj n k a = true) (kk : Tri G h mi nf n (pc + len) ls (fval σ k a b.toNat :: st) σ Q) : Tri G h mi nf n pc ls (vr k :: st) σ Q := by
  obtain ⟨rfl, hd⟩ := he.dec (k := 3) rfl (by decide)
  obtain ⟨h1, h2, h3⟩ := isObj_spec hk
  have hc := he.2.2.2
  have hc1 : b.toNat < cN a ∧ (oc mi, ix, a, b.toNat) ∈ flT := by
    have h4 : a ≠ 100 := by omega
    simpa [chkL, h4, h2] using hc
  obtain ⟨T, ty, t1, t2, t3, t4, t5⟩ := clsAt a h2
  intro p e R s m args below meth c n0 Z H locs als F RO hn hnf hP hS hσ hst hls hal
  obtain ⟨hx, hb, hml, hr, hown, hts, hlk, hnm, hK, hW, hsz, hn0, hRf, hRl, hRc, hRs, hNC⟩ := id F
  have hl := hts _ (fl_ok _ hc1.2)
  unfold flC at hl
  dsimp only at hl
  rw [← t2] at hl
  have hw := ws_at (G := G) σ h1
  rw [cel_o h3] at hw
  have hok : okV (fval σ k a b.toNat) := by
    unfold fval
    cases Nat.beq (fk a b.toNat) 1
    · exact okC_in (hσ k b.toNat)
    · trivial
  have k1 := kk p e R s m args below meth c n0 Z H locs als F RO hn hnf hP hS hσ (ok_c hok (ok_t hst)) hls hal
  rw [List.map_cons, fval_tr] at k1
  rw [List.map_cons, show trV G (vr k) = trR G k from rfl, trR_c (by have := NC_lt; omega)]
  exact va_get hx hb hts t3 hown hK.1 hP k hw t1 b.toNat hc1.1 hl (fun x h => h) (flds_at hc1.1) hd k1
theorem put_any {k ix : Nat} {v : MV} {σ' : MS} (he : EOK mi (pc, .putfield ix, len, a, b)) (hk : isObj n k a = true) (hok : okS σ → okV v → okS σ')
    (hcel : ∀ j, j ≠ k → celE G σ' j = celE G σ j) (hf1 : fldV G σ' k a b.toNat = trV G v) (hf2 : ∀ i, i ≠ b.toNat → fldV G σ' k a i = fldV G σ k a i)
    (hty : (cF G = .null ∨ ∃ t, cF G = .ref t) → ∀ ty, parseFieldDescriptor (fT a b.toNat).2.2.1 = some ty → narrow ty (trV G v) = trV G v ∧ fits ty (trV G v) = true)
    (kk : Tri G h mi nf n (pc + len) ls st σ' Q) : Tri G h mi nf n pc ls (v :: vr k :: st) σ Q := by
  obtain ⟨rfl, hd⟩ := he.dec (k := 3) rfl (by decide)
  obtain ⟨h1, h2, h3⟩ := isObj_spec hk
  have hc := he.2.2.2
  have hc1 : a < 13 ∧ b.toNat < cN a ∧ (oc mi, ix, a, b.toNat) ∈ flT ∧ ((fT a b.toNat).2.2.2 = false ∨ (mk mi = 2 ∧ oc mi = a)) := by
    simpa only [chkL, Bool.and_eq_true, Bool.or_eq_true, decide_eq_true_eq, Bool.not_eq_true', beq_iff_eq] using hc
  obtain ⟨T, ty, t1, t2, t3, t4, t5⟩ := clsAt a h2
  intro p e R s m args below meth c n0 Z H locs als F RO hn hnf hP hS hσ hst hls hal
  obtain ⟨hx, hb, hml, hr, hown, hts, hlk, hnm, hK, hW, hsz, hn0, hRf, hRl, hRc, hRs, hNC⟩ := id F
  have hl := hts _ (fl_ok _ hc1.2.2.1)
  unfold flC at hl
  dsimp only at hl
  rw [← t2] at hl
  have hw := ws_at (G := G) σ h1
  rw [cel_o h3] at hw
  have hd4 := t4 b.toNat hc1.2.1
  have hnf0 := hnf
  have hnf := hty hK.2.2.2 (ty b.toNat) (by rw [← t2]; exact hd4)
  rw [List.map_cons, List.map_cons, show trV G (vr k) = trR G k from rfl, trR_c (by have := NC_lt; omega)]
  have fin : ∀ (H1 : Heap) (locs1 : List Loc), va_P (cC G, cI G) vwCl ((wsO G n σ).set k (cB G + k, .inr (a, (flds G σ k a).set b.toNat (trV G v)))) H1 → va_D (AO G) ((wsO G n σ).set k (cB G + k, .inr (a, (flds G σ k a).set b.toNat (trV G v)))) → va_S (AO G) s.heap H1 locs1 → W p (cL G) e R s m args below meth c H1 locs1 (n - n0) (slt n - slt n0) Z (F0 m (pc + 3) als (st.map (trV G))) := by
    intro H1 locs1 hP1 _ hS1
    rw [ws_set (σ' := σ') h1 (by rw [cel_o h3, flds_set hc1.2.1 hf1 hf2]) hcel] at hP1
    exact kk p e R s m args below meth c n0 Z H1 locs1 als F RO hn hnf0 hP1 hS1 (hok hσ (ok_h hst)) (ok_t (ok_t hst)) hls hal
  rcases hc1.2.2.2 with hfin | ⟨hm2, hoc⟩
  · exact va_put hx hb hts t3 ty t4 t5 hown hK.1 hP (ws_D G n σ) hS k hw t1 b.toNat hc1.2.1 hl (fun x h => h) (by rw [t2]; exact hfin) hd4 hnf.1 hnf.2 (by rw [flds_len]; exact hc1.2.1) hd fin
  · by_cases hfin : (fT a b.toNat).2.2.2 = false
    · exact va_put hx hb hts t3 ty t4 t5 hown hK.1 hP (ws_D G n σ) hS k hw t1 b.toNat hc1.2.1 hl (fun x h => h) (by rw [t2]; exact hfin) hd4 hnf.1 hnf.2 (by rw [flds_len]; exact hc1.2.1) hd fin
    · exact va_putF hx hb hts t3 ty t4 t5 hown hK.1 hP (ws_D G n σ) hS k hw t1 b.toNat hc1.2.1 hl (fun x h => h) (by rw [t2]; simpa using hfin) (by rw [hnm]; exact (c_all mi he.1 hm2).2.1) (by rw [t2, (fk_ok a h2 b.toNat hc1.2.1).1, hoc]) hd4 hnf.1 hnf.2 (by rw [flds_len]; exact hc1.2.1) hd fin
theorem T_putI {k ix : Nat} {x : Int} (he : EOK mi (pc, .putfield ix, len, a, b)) (hk : isObj n k a = true) (hf : fk a b.toNat = 0) (kk : Tri G h mi nf n (pc + len) ls st (sI σ k b.toNat x) Q) : Tri G h mi nf n pc ls (vi x :: vr k :: st) σ Q := by
  obtain ⟨h1, h2, h3⟩ := isObj_spec hk
  refine put_any (v := vi x) (σ' := sI σ k b.toNat x) he hk (fun q1 q2 => ok_sI q1 (by rw [h3]; unfold okC; rw [if_neg (by omega), if_neg (by omega)]; exact q2)) (fun j hj => cel_sI hj) ?_ ?_ (fun _ ty hty => ?_) kk
  · show fldV G (sI σ k b.toNat x) k a b.toNat = .int (Int32.ofInt x)
    unfold fldV
    rw [if_neg (by omega)]
    show Value.int (Int32.ofInt (u2 σ.1 k b.toNat x k b.toNat)) = _
    rw [u2_at, if_pos rfl]
  · intro i hi
    unfold fldV
    show (if fk a i = 1 then _ else Value.int (Int32.ofInt (u2 σ.1 k b.toNat x k i))) = _
    rw [u2_at, if_neg hi]
  · have hc := he.2.2.2
    have hc1 : b.toNat < cN a := by
      have := hc
      simp only [chkL, Bool.and_eq_true, decide_eq_true_eq] at this
      exact this.2.1
    rcases (fk_ok a h2 b.toNat hc1).2 with ⟨-, e1⟩ | ⟨e1, -⟩ | ⟨e1, -⟩
    · rw [e1] at hty
      cases hty
      exact ⟨rfl, rfl⟩
    · omega
    · omega
theorem T_putZ {k ix : Nat} {x : Int} (he : EOK mi (pc, .putfield ix, len, a, b)) (hk : isObj n k a = true) (hf : fk a b.toNat = 2) (h01 : x = 0 ∨ x = 1) (kk : Tri G h mi nf n (pc + len) ls st (sI σ k b.toNat x) Q) : Tri G h mi nf n pc ls (vi x :: vr k :: st) σ Q := by
  obtain ⟨h1, h2, h3⟩ := isObj_spec hk
  refine put_any (v := vi x) (σ' := sI σ k b.toNat x) he hk (fun q1 q2 => ok_sI q1 (by rw [h3]; unfold okC; rw [if_neg (by omega), if_neg (by omega)]; exact q2)) (fun j hj => cel_sI hj) ?_ ?_ (fun _ ty hty => ?_) kk
  · show fldV G (sI σ k b.toNat x) k a b.toNat = .int (Int32.ofInt x)
    unfold fldV
    rw [if_neg (by omega)]
    show Value.int (Int32.ofInt (u2 σ.1 k b.toNat x k b.toNat)) = _
    rw [u2_at, if_pos rfl]
  · intro i hi
    unfold fldV
    show (if fk a i = 1 then _ else Value.int (Int32.ofInt (u2 σ.1 k b.toNat x k i))) = _
    rw [u2_at, if_neg hi]
  · have hc := he.2.2.2
    have hc1 : b.toNat < cN a := by
      have := hc
      simp only [chkL, Bool.and_eq_true, decide_eq_true_eq] at this
      exact this.2.1
    rcases (fk_ok a h2 b.toNat hc1).2 with ⟨e1, -⟩ | ⟨-, e1⟩ | ⟨e1, -⟩
    · omega
    · rw [e1] at hty
      cases hty
      rcases h01 with rfl | rfl <;> exact ⟨rfl, rfl⟩
    · omega
theorem T_putR {k ix : Nat} {x : Nat} (he : EOK mi (pc, .putfield ix, len, a, b)) (hk : isObj n k a = true) (hf : fk a b.toNat = 1) (kk : Tri G h mi nf n (pc + len) ls st (sP σ k b.toNat x) Q) : Tri G h mi nf n pc ls (vr x :: vr k :: st) σ Q := by
  obtain ⟨h1, h2, h3⟩ := isObj_spec hk
  refine put_any (v := vr x) (σ' := sP σ k b.toNat x) he hk (fun q1 q2 => q1) (fun j hj => cel_sP hj) ?_ ?_ (fun hF ty hty => ?_) kk
  · show fldV G (sP σ k b.toNat x) k a b.toNat = trR G x
    unfold fldV
    rw [if_pos hf]
    show trR G (u2 σ.2.2 k b.toNat x k b.toNat) = _
    rw [u2_at, if_pos rfl]
  · intro i hi
    unfold fldV
    show (if fk a i = 1 then trR G (u2 σ.2.2 k b.toNat x k i) else _) = _
    rw [u2_at, if_neg hi]
  · have hc := he.2.2.2
    have hc1 : b.toNat < cN a := by
      have := hc
      simp only [chkL, Bool.and_eq_true, decide_eq_true_eq] at this
      exact this.2.1
    rcases (fk_ok a h2 b.toNat hc1).2 with ⟨e1, -⟩ | ⟨e1, -⟩ | ⟨-, e1⟩
    · omega
    · omega
    · rw [hty] at e1
      show narrow ty (trR G x) = trR G x ∧ fits ty (trR G x) = true
      cases ty <;> first | (exact absurd e1 (by decide)) | (rcases trR_cases hF x with h5 | ⟨w, h5⟩ <;> rw [h5] <;> exact ⟨rfl, rfl⟩)
end HEAP
