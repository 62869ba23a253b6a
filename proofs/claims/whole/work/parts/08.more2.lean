section MORE2
variable {G : Ctx} {h mi nf n pc len a : Nat} {b : Int} {ls : ML} {st : List MV} {σ : MS} {Q : MP}
def cpK (n x d : Nat) : Bool := Nat.blt x n && (Nat.blt d n && (Nat.beq (sh x).1 (sh d).1 && (Nat.beq (sh x).1 0 || (Nat.beq (sh x).1 2 || Nat.beq (sh x).1 3))))
theorem nfw : nativeFrameWords "java/lang/System" "arraycopy" 5 ≤ 40 := by decide +kernel
theorem T_acopy {i x d : Nat} {cl sp dp : Int} (he : EOK mi (pc, .invokestatic i, len, 998, b)) (hh : 1 ≤ h) (hcat : catS st ≤ 8) (hk : cpK n x d = true) (hg : 0 ≤ sp ∧ 0 ≤ dp ∧ 0 ≤ cl ∧ sp + cl ≤ (sh x).2 ∧ dp + cl ≤ (sh d).2)
    (kk : Tri G h mi nf n (pc + len) ls st (sC σ x sp.toNat d dp.toNat cl.toNat) Q) : Tri G h mi nf n pc ls (vi cl :: vi dp :: vr d :: vi sp :: vr x :: st) σ Q := by
  obtain ⟨rfl, hd⟩ := he.dec (k := 3) rfl (by decide)
  have hc := he.2.2.2
  have hc1 : (oc mi, i) ∈ acT := by simpa [chkL] using hc
  have hk1 : x < n ∧ d < n ∧ (sh x).1 = (sh d).1 ∧ ((sh x).1 = 0 ∨ (sh x).1 = 2 ∨ (sh x).1 = 3) := by
    unfold cpK at hk
    simp only [Bool.and_eq_true, Bool.or_eq_true, Nat.beq_eq] at hk
    exact ⟨Nat.le_of_ble_eq_true hk.1, Nat.le_of_ble_eq_true hk.2.1, hk.2.2.1, hk.2.2.2⟩
  obtain ⟨k1, k2, k3, k4⟩ := hk1
  intro p e R s m args below meth c n0 Z H locs als F RO hn hnf hP hS hσ hst hls hal
  obtain ⟨hx, hb, hml, hr, hown, hts, hlk, hnm, hK, hW, hsz, hn0, hRf, hRl, hRc, hRs, hNC⟩ := id F
  have hl : (Cond.methodLink (RC (oc mi)) i arraycopyName).before args s = true := hts _ (ac_ok (oc mi, i) hc1)
  have hnat : (Cond.native arraycopyName).before args s = true := hts _ (ac_rest _ List.mem_cons_self)
  have hstat : (Cond.static arraycopyName).before args s = true := hts _ (ac_rest _ (List.mem_cons_of_mem _ List.mem_cons_self))
  have hini : (Cond.initialized "java/lang/System").before args s = true := hts _ (ac_rest _ (List.mem_cons_of_mem _ (List.mem_cons_of_mem _ List.mem_cons_self)))
  have r1 : inR cl := ok_h hst
  have r2 : inR dp := ok_h (ok_t hst)
  have r3 : inR sp := ok_h (ok_t (ok_t (ok_t hst)))
  have neg : ∀ {z : Int}, inR z → 0 ≤ z → ¬ Int32.ofInt z < 0 := fun hz h0 => by rw [show (0 : Int32) = Int32.ofInt 0 from rfl, ofI_lt hz inR0]; omega
  have hw1 := ws_at (G := G) σ k1
  have hw2 := ws_at (G := G) σ k2
  have hnf1 := nfw
  have e5 : (sC σ x sp.toNat d dp.toNat cl.toNat).1 = u1 σ.1 d (fun j => if dp.toNat ≤ j ∧ j < dp.toNat + cl.toNat then σ.1 x (sp.toNat + (j - dp.toNat)) else σ.1 d j) := rfl
  have key : ∀ (t : Nat) (ty : FieldType), (sh x).1 = t → t ≠ 1 → t < 4 → akT[t]? = some ty → refKind ty = false → (∀ j, okC t (σ.1 x j) → fits ty (.int (Int32.ofInt (σ.1 x j))) = true) → W p (cL G) e R s m args below meth c H locs (n - n0) (slt n - slt n0) Z (F0 m pc als (.int (Int32.ofInt cl) :: .int (Int32.ofInt dp) :: .ref (cB G + d) :: .int (Int32.ofInt sp) :: .ref (cB G + x) :: st.map (trV G))) := by
    intro t ty ht t1 t4 hak hprim hfit
    rw [cel_i ht t1 t4] at hw1
    rw [cel_i (k3.symm.trans ht) t1 t4] at hw2
    refine va_copyi hx hb (by rw [hml]; exact hal.1.symm) hown hl hnat hstat hini hK.1 hP (ws_D G n σ) hS x d t t hw1 hw2 (ty_at hak) (ty_at hak) hprim (neg r3 hg.1) (neg r2 hg.2.1) (neg r1 hg.2.2.1) (by rw [idx_cl r3, idx_cl r1]; omega) (by rw [idx_cl r2, idx_cl r1]; omega) (fun j _ => hfit _ (by rw [← ht]; exact hσ x _)) (by omega) (by rw [catS_ok hK.2.2.2]; omega) hd (fun H1 locs1 hP1 hD1 hS1 => ?_)
    rw [idx_cl r1, idx_cl r2, idx_cl r3] at hP1
    rw [ws_set (σ' := sC σ x sp.toNat d dp.toNat cl.toNat) k2 (by
      rw [cel_i (k3.symm.trans ht) t1 t4]
      congr 4
      funext j
      rw [e5, u1_at]
      unfold va_cpy
      split <;> rfl) (fun j hj => cel_sC hj)] at hP1
    refine kk p e R s m args below meth c n0 Z H1 locs1 als F RO hn hnf hP1 hS1 ?_ (ok_t (ok_t (ok_t (ok_t (ok_t hst))))) hls hal
    intro y j
    rw [e5]
    unfold u1
    split
    · next hy =>
      subst hy
      dsimp only
      split
      · rw [← k3]; exact hσ x _
      · exact hσ y j
    · exact hσ y j
  have e0 : (vi cl :: vi dp :: vr d :: vi sp :: vr x :: st).map (trV G) = .int (Int32.ofInt cl) :: .int (Int32.ofInt dp) :: .ref (cB G + d) :: .int (Int32.ofInt sp) :: .ref (cB G + x) :: st.map (trV G) := by
    simp only [List.map_cons]
    rw [show trV G (vr d) = trR G d from rfl, show trV G (vr x) = trR G x from rfl, trR_c (show d < 1000 by have := NC_lt; omega), trR_c (show x < 1000 by have := NC_lt; omega)]
    rfl
  rw [e0]
  rcases k4 with h5 | h5 | h5
  · exact key 0 .int h5 (by decide) (by decide) rfl rfl (fun j _ => rfl)
  · refine key 2 .byte h5 (by decide) (by decide) rfl rfl (fun j hj => ?_)
    have hj : -128 ≤ σ.1 x j ∧ σ.1 x j < 128 := hj
    have rj : inR (σ.1 x j) := by unfold inR; omega
    show ((-128 : Int32) ≤ Int32.ofInt (σ.1 x j) && Int32.ofInt (σ.1 x j) ≤ 127) = true
    rw [Bool.and_eq_true, decide_eq_true_eq, decide_eq_true_eq, show (-128 : Int32) = Int32.ofInt (-128) from rfl, show (127 : Int32) = Int32.ofInt 127 from rfl, ofI_le (by unfold inR; omega) rj, ofI_le rj (by unfold inR; omega)]
    omega
  · refine key 3 .boolean h5 (by decide) (by decide) rfl rfl (fun j hj => ?_)
    have hj : σ.1 x j = 0 ∨ σ.1 x j = 1 := hj
    rcases hj with hj | hj <;> rw [hj] <;> rfl
/-! switches -/
def swt (x : Int) (K : Int → Prop) : Int → List Int → Prop
  | _, [] => True
  | lo, o :: r => (x = lo → K o) ∧ swt x K (lo + 1) r
def lks (x : Int) (K : Int → Prop) : List (Int × Int) → Prop
  | [] => True
  | q :: r => (x = q.1 → K q.2) ∧ lks x K r
def lkd (x : Int) (P : Prop) : List (Int × Int) → Prop
  | [] => P
  | q :: r => ¬ x = q.1 → lkd x P r
theorem swt_at {x : Int} {K : Int → Prop} : ∀ {l : List Int} {lo : Int} {j : Nat} {o : Int}, swt x K lo l → l[j]? = some o → x = lo + j → K o
  | [], _, _, _, _, h, _ => by simp at h
  | o :: r, lo, 0, o', hs, h, hx => by
    rw [List.getElem?_cons_zero] at h
    cases h
    exact hs.1 (by omega)
  | o :: r, lo, j + 1, o', hs, h, hx => by
    rw [List.getElem?_cons_succ] at h
    exact swt_at hs.2 h (by omega)
theorem T_tsw {dflt lo hi x : Int} {offs : Array Int} (he : EOK mi (pc, .tableswitch dflt lo hi offs, len, a, b)) (K : Int → Prop) (hK9 : ∀ o, K o → ∃ tgt : Nat, (pc : Int) + o = tgt ∧ Tri G h mi nf n tgt ls st σ Q) (h1 : swt x K lo offs.toList) (h2 : (x < lo ∨ hi < x) → K dflt) : Tri G h mi nf n pc ls (vi x :: st) σ Q := by
  have hc : hi + 1 - lo = offs.size := of_decide_eq_true he.2.2.2
  intro p e R s m args below meth c n0 Z H locs als F RO hn hnf hP hS hσ hst hls hal
  obtain ⟨hx, hb, hml, hr, hown, hts, hlk, hnm, hK, hW, hsz, hn0, hRf, hRl, hRc, hRs, hNC⟩ := id F
  have rx : inR x := ok_h hst
  by_cases hlo : x < lo ∨ hi < x
  · obtain ⟨tgt, ht, k⟩ := hK9 _ (h2 hlo)
    exact lv_tableOut hx hb he.2.1 (by rw [toI rx]; exact hlo) ht (k p e R s m args below meth c n0 Z H locs als F RO hn hnf hP hS hσ (ok_t hst) hls hal)
  · have hj : (x - lo).toNat < offs.size := by omega
    obtain ⟨tgt, ht, k⟩ := hK9 offs[(x - lo).toNat] (swt_at h1 (j := (x - lo).toNat) (by rw [Array.getElem?_toList]; exact Array.getElem?_eq_getElem hj) (by omega))
    exact lv_tableIn hx hb he.2.1 (by rw [toI rx]; omega) (by rw [toI rx]; omega) (off := offs[(x - lo).toNat]) (by rw [toI rx]; exact Array.getElem?_eq_getElem hj) ht (k p e R s m args below meth c n0 Z H locs als F RO hn hnf hP hS hσ (ok_t hst) hls hal)
theorem lk_off {x d : Int} {K : Int → Prop} : ∀ (l : List (Int × Int)), lks x K l → lkd x (K d) l → K (Op.lookupswitch.offset l d x)
  | [], _, h => h
  | q :: r, h1, h2 => by
    by_cases hq : x = q.1
    · have h3 := h1.1 hq
      have e1 : Op.lookupswitch.offset (q :: r) d x = q.2 := by
        obtain ⟨q1, q2⟩ := q
        dsimp only at hq
        subst hq
        simp [Op.lookupswitch.offset]
      rw [e1]; exact h3
    · have h3 := lk_off (d := d) r h1.2 (h2 hq)
      have e1 : Op.lookupswitch.offset (q :: r) d x = Op.lookupswitch.offset r d x := by
        obtain ⟨q1, q2⟩ := q
        have hq : ¬ x = q1 := hq
        simp [Op.lookupswitch.offset, hq, Ne.symm hq]
      rw [e1]; exact h3
theorem T_lsw {dflt x : Int} {ps : Array (Int × Int)} (he : EOK mi (pc, .lookupswitch dflt ps, len, a, b)) (K : Int → Prop) (hK9 : ∀ o, K o → ∃ tgt : Nat, (pc : Int) + o = tgt ∧ Tri G h mi nf n tgt ls st σ Q) (h1 : lks x K ps.toList) (h2 : lkd x (K dflt) ps.toList) : Tri G h mi nf n pc ls (vi x :: st) σ Q := by
  have hc : (ps.toList.zip (ps.toList.drop 1)).all (fun (x : (Int × Int) × (Int × Int)) => decide (x.1.1 < x.2.1)) = true := he.2.2.2
  intro p e R s m args below meth c n0 Z H locs als F RO hn hnf hP hS hσ hst hls hal
  obtain ⟨hx, hb, hml, hr, hown, hts, hlk, hnm, hK, hW, hsz, hn0, hRf, hRl, hRc, hRs, hNC⟩ := id F
  have rx : inR x := ok_h hst
  obtain ⟨tgt, ht, k⟩ := hK9 _ (lk_off ps.toList h1 h2)
  exact lv_lookup hx hb he.2.1 hc (by rw [toI rx]) ht (k p e R s m args below meth c n0 Z H locs als F RO hn hnf hP hS hσ (ok_t hst) hls hal)
end MORE2
