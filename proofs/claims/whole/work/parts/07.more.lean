section MORE
variable {G : Ctx} {h mi nf n pc len a : Nat} {b : Int} {ls : ML} {st : List MV} {σ : MS} {Q : MP}
/-- the object that is called -/
theorem rc_o {k0 : Nat} (ha : a < 269) (hk : isObj n k0 (oc a) = true) (hk0 : k0 < 1000) : ∀ (s : State) (H : Heap) (locs : List Loc), KW G s → HW G s s.heap → va_P (cC G, cI G) vwCl (wsO G n σ) H → va_S (AO G) s.heap H locs → ∃ q, trR G k0 = .ref q ∧ ∃ cellB : Cell, H[q]? = some cellB ∧ cellB.vm.isStatics = false ∧ s.vm.findClass (yM a).cls = some cellB.cls := by
  intro s H locs hK hW hP hS
  obtain ⟨h1, h2, h3⟩ := isObj_spec hk
  obtain ⟨T, ty, t1, t2, t3, t4, t5⟩ := clsAt (oc a) h2
  have hw := ws_at (G := G) σ h1
  rw [cel_o h3] at hw
  refine ⟨_, trR_c hk0, ?_⟩
  rw [oc_ok a (by show a < 270; omega)]
  exact va_recv hK.1 hP t1 hw
theorem rc_s {i : Nat} (hi : i < 22) (ha : (yM a).cls = "java/lang/String") : ∀ (s : State) (H : Heap) (locs : List Loc), KW G s → HW G s s.heap → va_P (cC G, cI G) vwCl (wsO G n σ) H → va_S (AO G) s.heap H locs → ∃ q, trR G (2000 + i) = .ref q ∧ ∃ cellB : Cell, H[q]? = some cellB ∧ cellB.vm.isStatics = false ∧ s.vm.findClass (yM a).cls = some cellB.cls := by
  intro s H locs hK hW hP hS
  refine ⟨_, trR_s hi, ?_⟩
  rw [ha]
  exact vk_recv hW.1 hi hS
/-! returns -/
theorem T_ret (he : EOK mi (pc, .return_, len, a, b)) (hrt : rt mi = 0) (hnn : n = nf) (hq : Q none σ) : Tri G h mi nf n pc ls [] σ Q := by
  obtain ⟨rfl, hd⟩ := he.dec (k := 1) rfl (by decide)
  subst hnn
  intro p e R s m args below meth c n0 Z H locs als F RO hn hnf hP hS hσ hst hls hal
  obtain ⟨hx, hb, hml, hr, hown, hts, hlk, hnm, hK, hW, hsz, hn0, hRf, hRl, hRc, hRs, hNC⟩ := id F
  exact RO H locs als σ pc none ⟨hd, (rt_ok mi he.1).1 hrt⟩ hP hS hσ (fun v hv => by cases hv) hq
theorem T_iret {x : Int} (he : EOK mi (pc, .ireturn, len, a, b)) (hnn : n = nf) (hrt : (rt mi = 1) ∨ (rt mi = 4 ∧ (x = 0 ∨ x = 1)) ∨ (rt mi = 5 ∧ 0 ≤ x ∧ x < 65536) ∨ (rt mi = 6 ∧ -128 ≤ x ∧ x < 128)) (hq : Q (some (vi x)) σ) : Tri G h mi nf n pc ls [vi x] σ Q := by
  obtain ⟨rfl, hd⟩ := he.dec (k := 1) rfl (by decide)
  subst hnn
  intro p e R s m args below meth c n0 Z H locs als F RO hn hnf hP hS hσ hst hls hal
  obtain ⟨hx, hb, hml, hr, hown, hts, hlk, hnm, hK, hW, hsz, hn0, hRf, hRl, hRc, hRs, hNC⟩ := id F
  have hR := rt_ok mi he.1
  have hx9 : inR x := ok_h hst
  refine RO H locs als σ pc (some (vi x)) ⟨hd, ?_⟩ hP hS hσ (fun v hv => by cases hv; exact hx9) hq
  rcases hrt with h1 | ⟨h1, h2⟩ | ⟨h1, h2, h3⟩ | ⟨h1, h2, h3⟩
  · exact ⟨_, hR.2.1 h1, rfl⟩
  · refine ⟨_, hR.2.2.2.1 h1, ?_⟩
    rcases h2 with rfl | rfl <;> rfl
  · refine ⟨_, hR.2.2.2.2.1 h1, ?_⟩
    have e1 : Int32.ofInt x = nI x.toNat := by
      rw [show x = ((x.toNat : Nat) : Int) by omega, Int32.ofInt_eq_ofNat]; rfl
    rw [e1]
    exact (pk_charN (by omega)).1
  · refine ⟨_, hR.2.2.2.2.2 h1, ?_⟩
    have e1 : Int32.ofInt x = (Int32.ofInt x).toInt8.toInt32 := by
      rw [← Int32.toInt_inj, Int8.toInt_toInt32, Int32.toInt_toInt8, toI hx9]
      exact (Int.bmod_eq_of_le (by omega) (by omega)).symm
    rw [e1]
    exact pk_nb _
theorem T_lret {x : BitVec 64} (he : EOK mi (pc, .lreturn, len, a, b)) (hrt : rt mi = 2) (hnn : n = nf) (hq : Q (some (vl x)) σ) : Tri G h mi nf n pc ls [vl x] σ Q := by
  obtain ⟨rfl, hd⟩ := he.dec (k := 1) rfl (by decide)
  subst hnn
  intro p e R s m args below meth c n0 Z H locs als F RO hn hnf hP hS hσ hst hls hal
  obtain ⟨hx, hb, hml, hr, hown, hts, hlk, hnm, hK, hW, hsz, hn0, hRf, hRl, hRc, hRs, hNC⟩ := id F
  exact RO H locs als σ pc (some (vl x)) ⟨hd, (rt_ok mi he.1).2.2.1 hrt⟩ hP hS hσ (fun v hv => by cases hv; trivial) hq
theorem T_aret {x : Nat} (he : EOK mi (pc, .areturn, len, a, b)) (hrt : rt mi = 3) (hnn : n = nf) (hq : Q (some (vr x)) σ) : Tri G h mi nf n pc ls [vr x] σ Q := by
  obtain ⟨rfl, hd⟩ := he.dec (k := 1) rfl (by decide)
  subst hnn
  intro p e R s m args below meth c n0 Z H locs als F RO hn hnf hP hS hσ hst hls hal
  obtain ⟨hx, hb, hml, hr, hown, hts, hlk, hnm, hK, hW, hsz, hn0, hRf, hRl, hRc, hRs, hNC⟩ := id F
  exact RO H locs als σ pc (some (vr x)) ⟨hd, _, rt_okR mi he.1 hrt⟩ hP hS hσ (fun v hv => by cases hv; trivial) hq
/-! a method's contract out of its walk -/
def entL : List MV → ML
  | [] => []
  | v :: r => match isLg (some v) with
    | true => some v :: none :: entL r
    | false => some v :: entL r
theorem lvargs_in (hF : cF G = .null ∨ ∃ t, cF G = .ref t) : ∀ (av : List MV) (j : Nat) (q : Nat × Value), q ∈ aslF G j (entL av) → q ∈ lv_args j (av.map (trV G)) := by
  intro av
  induction av with
  | nil => intro j q h; exact h
  | cons v r ih =>
    intro j q hq
    rw [List.map_cons]
    have hc := cat_tr hF v
    unfold lv_args
    unfold entL at hq
    cases hl : isLg (some v) with
    | true =>
      rw [hl] at hq hc
      rw [if_pos rfl] at hc
      have hq : q ∈ (j, trV G v) :: aslF G (j + 1 + 1) (entL r) := hq
      rcases List.mem_cons.mp hq with h1 | h1
      · rw [h1]; exact List.mem_cons_self
      · refine List.mem_cons_of_mem _ ?_
        rw [hc]
        exact ih _ q h1
    | false =>
      rw [hl] at hq hc
      rw [if_neg (by decide)] at hc
      have hq : q ∈ (j, trV G v) :: aslF G (j + 1) (entL r) := hq
      rcases List.mem_cons.mp hq with h1 | h1
      · rw [h1]; exact List.mem_cons_self
      · refine List.mem_cons_of_mem _ ?_
        rw [hc]
        exact ih _ q h1
theorem ok_entL {av : List MV} (h : ∀ v ∈ av, okV v) : ∀ v, some v ∈ entL av → okV v := by
  induction av with
  | nil => intro v hv; cases hv
  | cons u r ih =>
    intro v hv
    unfold entL at hv
    have ih2 := ih (fun w hw => h w (List.mem_cons_of_mem _ hw))
    cases hl : isLg (some u) with
    | true =>
      rw [hl] at hv
      rcases List.mem_cons.mp hv with h1 | h1
      · rw [Option.some.inj h1]; exact h u List.mem_cons_self
      · rcases List.mem_cons.mp h1 with h2 | h2
        · cases h2
        · exact ih2 v h2
    | false =>
      rw [hl] at hv
      rcases List.mem_cons.mp hv with h1 | h1
      · rw [Option.some.inj h1]; exact h u List.mem_cons_self
      · exact ih2 v h1
theorem lg_len (hF : cF G = .null ∨ ∃ t, cF G = .ref t) (av : List MV) : (lg_sl (av.map (trV G))).length = catS av := by
  induction av with
  | nil => rfl
  | cons v r ih =>
    have hc := cat_tr hF v
    unfold lg_sl at ih ⊢
    rw [List.map_cons, List.flatMap_cons, List.length_append, ih]
    show _ = (match isLg (some v) with
      | true => 2
      | false => 1) + catS r
    cases hl : isLg (some v) with
    | true => rw [hl, if_pos rfl] at hc; rw [if_pos hc]; rfl
    | false => rw [hl, if_neg (by decide)] at hc; rw [if_neg (by rw [hc]; decide)]; rfl
theorem TriM.mono {av : List MV} {Q' : MP} (hM : TriM G h mi n nf av σ Q) (hq : ∀ r σ', Q r σ' → (∀ v, r = some v → okV v) → Q' r σ') : TriM G h mi n nf av σ Q' := by
  obtain ⟨h', hh, hm⟩ := hM
  refine ⟨h', hh, ?_⟩
  intro p e ha hc hk s m args below hf happ hP hK
  obtain ⟨k, o, h1, h2, h3, ⟨⟨r, σ', q1, q2, q3, q4, q5⟩, q6⟩, q7⟩ := hm p e ha hc hk s m args below hf happ hP hK
  exact ⟨k, o, h1, h2, h3, ⟨⟨r, σ', q1, q2, q3, hq r σ' q4 q2, q5⟩, q6⟩, q7⟩
theorem TriM_intro {av : List MV} (h' : Nat) (hh : h' < h) (hmi : mi < 269) (hlen : catS av ≤ lM mi) (hn : n ≤ nf) (hN : nf ≤ NC) (k : Tri G h' mi nf n 0 (entL av) [] σ Q) : TriM G h mi n nf av σ Q := by
  refine ⟨h', hh, ?_⟩
  have hNM : mi < NM := by show mi < 270; omega
  refine va_MetF (cc := bM mi) (maxL := lM mi) (ret := rM mi) (pl_ok mi hNM) (ws' := lw_good) rfl ?_
  intro p e s m args below meth c s₁ B hml hv
  obtain ⟨rfl, hsz, hP, hK, hW, hσ, hav⟩ := hv
  have hts := atoms_spec (ws := wM mi :: lw_good) B.pre
  have hown : s.vm.findClass (yM mi).cls = some m.cls := findClass_of_methodNamed B.named
  rw [oc_ok mi hNM] at hown
  have hl := lv_entry (av.map (trV G)) (n := lM mi) (by rw [lg_len hK.2.2.2]; exact hlen)
  rw [lg_entry_eq]
  generalize (lg_sl (av.map (trV G)) ++ List.replicate (lM mi - (lg_sl (av.map (trV G))).length) Slot.unset).toArray = als at hl ⊢
  have F : Fix G h' mi nf n p (headSpec (wM mi :: lw_good) (rmO h' (nf - n) (slt nf - slt n))).room s m ((av.map (trV G)).toArray) meth c :=
    ⟨B.exec, B.bytes, hml, B.returns, hown, fun w hw => hts w (List.mem_cons_of_mem _ hw), B.notSynchronized, (name_of_methodNamed B.named B.method).1, hK, hW, hsz, hn, Nat.le_refl _, Nat.le_refl _, Nat.le_refl _, Nat.le_refl _, hN⟩
  have RO : RetOK G mi nf n p e (headSpec (wM mi :: lw_good) (rmO h' (nf - n) (slt nf - slt n))).room s m ((av.map (trV G)).toArray) below meth c (MQ below (QcO G nf Q) ((av.map (trV G)).toArray) s (nf - n) (slt nf - slt n) (AO G)) Q := by
    intro H locs als2 σ2 pc r hret hP2 hS2 hσ2 hok2 hQ
    have hpost : ∀ t : State, t.heap = H → s.WarmedH t.vm → QcO G nf Q ((av.map (trV G)).toArray) s (.returned (r.map (trV G))) t := fun t ht _ => ⟨⟨r, σ2, rfl, hok2, hσ2, hQ, by rw [ht]; exact hP2⟩, hS2.F ht⟩
    have hfr : ∀ q ∈ locs, AO G q.base := hS2.2.2
    rcases r with _ | (x | x | x)
    · obtain ⟨hd, hr⟩ := hret
      exact W.vret B.exec B.bytes (B.returns.trans hr) hpost hfr hd B.notSynchronized
    · obtain ⟨hd, ty, hr, hnr⟩ := hret
      exact W.zret (v := Int32.ofInt x) (ty := ty) B.exec B.bytes (B.returns.trans hr) hnr hpost hfr hd B.notSynchronized
    · obtain ⟨hd, hr⟩ := hret
      exact W.lret (v := Int64.ofBitVec x) B.exec B.bytes (B.returns.trans hr) hpost hfr hd B.notSynchronized
    · obtain ⟨hd, C, hr⟩ := hret
      exact W.aret (v := trR G x) B.exec B.bytes (B.returns.trans hr) (Or.inl ⟨C, rfl⟩) (trR_cases hK.2.2.2 x) hpost hfr hd B.notSynchronized
  have k1 := k p e (headSpec (wM mi :: lw_good) (rmO h' (nf - n) (slt nf - slt n))).room s m ((av.map (trV G)).toArray) below meth c n (MQ below (QcO G nf Q) ((av.map (trV G)).toArray) s (nf - n) (slt nf - slt n) (AO G)) s.heap [] als F RO (Nat.le_refl _) hn hP va_S.rf hσ (fun v hv => by cases hv) (ok_entL hav) (lv_less hl (lvargs_in hK.2.2.2 av 0))
  rw [Nat.sub_self, Nat.sub_self] at k1
  exact k1
/-! Object's constructor, new cells, a copy -/
theorem T_oinit {i : Nat} {k0 : Nat} (he : EOK mi (pc, .invokespecial i, len, 999, b)) (hk0 : k0 < 1000) (hh : 1 ≤ h) (hcat : catS st ≤ 8) (kk : Tri G h mi nf n (pc + len) ls st σ Q) : Tri G h mi nf n pc ls (vr k0 :: st) σ Q := by
  obtain ⟨rfl, hd⟩ := he.dec (k := 3) rfl (by decide)
  have hc := he.2.2.2
  have hc1 : (oc mi, i) ∈ oiT := by simpa [chkL] using hc
  intro p e R s m args below meth c n0 Z H locs als F RO hn hnf hP hS hσ hst hls hal
  obtain ⟨hx, hb, hml, hr, hown, hts, hlk, hnm, hK, hW, hsz, hn0, hRf, hRl, hRc, hRs, hNC⟩ := id F
  have hl : (Cond.methodLink (RC (oc mi)) i Lib.objectInit).before args s = true := hts _ (oi_ok (oc mi, i) hc1)
  have k1 := kk p e R s m args below meth c n0 Z H locs als F RO hn hnf hP hS hσ (ok_t hst) hls hal
  rw [List.map_cons, show trV G (vr k0) = trR G k0 from rfl, trR_c hk0]
  refine W.objInit (g := F0 m pc als (.ref (cB G + k0) :: st.map (trV G))) (rest := st.map (trV G)) hx hb hown hl (hts _ oi_inst) (hts _ oi_code) rfl (by rw [hml]; exact hal.1) rfl hd (by omega) ?_ k1
  rw [catS_ok hK.2.2.2]
  show 2 * 0 + catS st + 12 ≤ R.locals
  omega
theorem T_new {i : Nat} (he : EOK mi (pc, .new i, len, a, b)) (hn1 : n < nf) (hsh : (sh n).1 = 4 + a) (kk : Tri G h mi nf (n + 1) (pc + len) ls (vr n :: st) (sN σ n) Q) : Tri G h mi nf n pc ls st σ Q := by
  obtain ⟨rfl, hd⟩ := he.dec (k := 3) rfl (by decide)
  have hc := he.2.2.2
  have hc1 : a < 13 ∧ (oc mi, i, a) ∈ clT := by simpa [chkL] using hc
  obtain ⟨T, ty, t1, t2, t3, t4, t5⟩ := clsAt a hc1.1
  intro p e R s m args below meth c n0 Z H locs als F RO hn hnf hP hS hσ hst hls hal
  obtain ⟨hx, hb, hml, hr, hown, hts, hlk, hnm, hK, hW, hsz, hn0, hRf, hRl, hRc, hRs, hNC⟩ := id F
  refine W_size hsz hn hP hS (fun hHs => ?_)
  have hcl : (Cond.classLink (RC (oc mi)) i (RC a)).before args s = true := hts _ (cl_ok (oc mi, i, a) hc1.2)
  have a13 : a ∈ n_inst_l := by
    have : ∀ a, a < 13 → a ∈ n_inst_l := by decide
    exact this a hc1.1
  have hins : (Cond.instantiable (RC a) (cN a)).before args s = true := hts _ (n_inst a a13)
  have aI : a ∈ a_init_l := by
    have : ∀ a, a < 13 → a ∈ a_init_l := by decide
    exact this a hc1.1
  have hini : (Cond.initialized (RC a)).before args s = true := hts _ (a_init a aI)
  have hnN : n < NC := by omega
  have hN9 : (sh n).2 = cN a := by
    have : ∀ n, n < NC → ∀ c, c < 13 → (sh n).1 = 4 + c → (sh n).2 = cN c := by decide +kernel
    exact this n hnN a hc1.1 hsh
  have hsl := sl_step n hnN
  rw [hN9] at hsl
  have hsm := slt_mono hn (show n ≤ NC by omega)
  have hsm2 := slt_mono (show n + 1 ≤ nf by omega) hNC
  have hKn := hK.1.1 a _ t1
  refine W.newcK (h := cB G + n) hx hb hown hcl hins hini rfl hd (by omega) (by omega) hKn.2.1 hHs fun H1 kC hkC e1 z1 o1 => ?_
  have hkp : ∀ (k : Nat) (x : Nat × va_E), (wsO G n σ)[k]? = some x → H1[x.1]? = H[x.1]? := fun k x hx => o1 x.1 (by rw [← hHs]; exact (hP k x hx).lt)
  have hP1 : va_P (cC G, cI G) vwCl (wsO G (n + 1) (sN σ n)) H1 := by
    rw [← ws_push (σ := σ) (σ' := sN σ n) (n := n) (e := .inr (a, flds G (sN σ n) n a)) (cel_o hsh) (fun j hj => cel_sN (by omega))]
    refine (hP.kept hkp).app (fun k x hx => ?_)
    have hz : k < 1 := (List.getElem?_eq_some_iff.mp hx).1
    rw [show k = 0 by omega] at hx
    cases hx
    refine ⟨_, t1, (u_born ty hts t3 hKn hkC e1 t4).to (fun j hj => ?_)⟩
    show defaultValue (ty j) = vp_V (flds G (sN σ n) n a) j
    unfold vp_V
    rw [List.getD_eq_getElem?_getD, flds_at hj]
    show defaultValue (ty j) = fldV G (sN σ n) n a j
    have hd4 := t4 j hj
    rw [t2] at hd4
    unfold fldV
    rcases (fk_ok a hc1.1 j hj).2 with ⟨e2, e3⟩ | ⟨e2, e3⟩ | ⟨e2, e3⟩
    · rw [e3] at hd4
      rw [if_neg (by omega), show (sN σ n).1 n j = 0 from by show u1 σ.1 n (fun _ => 0) n j = 0; rw [u1_at]]
      cases hd4' : ty j <;> rw [hd4'] at hd4 <;> first | rfl | cases hd4
    · rw [e3] at hd4
      rw [if_neg (by omega), show (sN σ n).1 n j = 0 from by show u1 σ.1 n (fun _ => 0) n j = 0; rw [u1_at]]
      cases hd4' : ty j <;> rw [hd4'] at hd4 <;> first | rfl | cases hd4
    · rw [hd4] at e3
      rw [if_pos e2, show (sN σ n).2.2 n j = 1000 from by show u1 σ.2.2 n (fun _ => 1000) n j = 1000; rw [u1_at]]
      show defaultValue (ty j) = trR G 1000
      cases hd4' : ty j <;> rw [hd4'] at e3 <;> first | rfl | (exact absurd e3 (by decide))
  have hS1 : va_S (AO G) s.heap H1 locs := ⟨Nat.le_trans hS.1 (by omega), fun q h1 h2 => (o1 q (by rw [← hHs]; exact Nat.lt_of_lt_of_le h1 hS.1)).trans (hS.2.1 q h1 h2), hS.2.2⟩
  have hoS : okS (sN σ n) := by
    intro x y
    show okC (sh x).1 (u1 σ.1 n (fun _ => 0) x y)
    unfold u1
    split
    · unfold okC
      split
      · show (-128 : Int) ≤ 0 ∧ (0 : Int) < 128
        omega
      · split
        · exact Or.inl rfl
        · exact inR0
    · exact hσ x y
  have k1 := kk p e R s m args below meth c n0 Z H1 locs als F RO (by omega) (by omega) hP1 hS1 hoS (ok_c (v := vr n) trivial hst) hls hal
  rw [List.map_cons, show trV G (vr n) = trR G n from rfl, trR_c (by have := NC_lt; omega)] at k1
  rw [show n - n0 + 1 = n + 1 - n0 by omega, show slt n - slt n0 + cN a = slt (n + 1) - slt n0 by omega]
  exact k1
def atK : ArrayType → Nat
  | .int => 0
  | .long => 1
  | .byte => 2
  | .boolean => 3
  | _ => 50
theorem T_newa {t : ArrayType} {x : Int} (he : EOK mi (pc, .newarray t, len, a, b)) (hn1 : n < nf) (hsh : (sh n).1 = atK t) (hx0 : x = ((sh n).2 : Int)) (kk : Tri G h mi nf (n + 1) (pc + len) ls (vr n :: st) (sN σ n) Q) : Tri G h mi nf n pc ls (vi x :: st) σ Q := by
  obtain ⟨rfl, hd⟩ := he.dec (k := 2) rfl (by decide)
  intro p e R s m args below meth c n0 Z H locs als F RO hn hnf hP hS hσ hst hls hal
  obtain ⟨hx, hb, hml, hr, hown, hts, hlk, hnm, hK, hW, hsz, hn0, hRf, hRl, hRc, hRs, hNC⟩ := id F
  refine W_size hsz hn hP hS (fun hHs => ?_)
  have hx9 : inR x := ok_h hst
  have hnN : n < NC := by omega
  have hat : (sh n).1 < 17 := by
    have : ∀ n, n < NC → (sh n).1 < 17 := by decide +kernel
    exact this n hnN
  have hsz9 : (sh n).2 ≤ 100000 := by
    have : ∀ n, n < NC → (sh n).2 ≤ 100000 := by decide +kernel
    exact this n hnN
  have hsl := sl_step n hnN
  have hsm := slt_mono hn (show n ≤ NC by omega)
  have hsm2 := slt_mono (show n + 1 ≤ nf by omega) hNC
  have hxn : (Int32.ofInt x).toNatClampNeg = (sh n).2 := by rw [idx_cl hx9]; omega
  have hx1 : ¬ Int32.ofInt x < 0 := by rw [show (0 : Int32) = Int32.ofInt 0 from rfl, ofI_lt hx9 inR0]; omega
  have key : ∀ (t0 : Nat) (ty : FieldType), atK t = t0 → newarray.typeOf t = ty → akT[t0]? = some ty → componentBytes ty ≤ 8 → (∀ cA' : ClassId, vp_cell cA' ((sh n).2, (if t0 = 1 then .inr (.inl (fun _ => 0)) else .inl (fun _ => 0))) = arrV cA' (sh n).2 (fun _ => defaultValue ty)) → W p (cL G) e R s m args below meth c H locs (n - n0) (slt n - slt n0) Z (F0 m pc als (.int (Int32.ofInt x) :: st.map (trV G))) := by
    intro t0 ty ht0 hty hak hcb hcell
    have hty9 := ty_at (G := G) hak
    have hKt := hK.1.2 t0 _ hty9
    have har : (Cond.arrayClass (newarray.typeOf t)).before args s = true := hts _ (by rw [hty]; exact ar_ok ty (List.mem_of_getElem? hak))
    refine va_newaK (h := cB G + n) (N := (sh n).2) hx hb har rfl hd rfl hx1 hxn ?_ (by omega) (by omega) hHs fun H1 cA1 e1 z1 o1 hAr hNm => ?_
    · rw [hty]
      have : (sh n).2 * componentBytes ty ≤ 100000 * 8 := Nat.mul_le_mul hsz9 hcb
      omega
    have hcA : cA1 = cA G t0 := by
      have h2 : s.vm.findClass ("[" ++ ty.toString) = some (cA G t0) := by
        have h3 := hKt.2
        match t0, hak with
        | 0, hak => cases hak; exact h3
        | 1, hak => cases hak; exact h3
        | 2, hak => cases hak; exact h3
        | 3, hak => cases hak; exact h3
      rw [hty] at hNm
      exact Option.some.inj (hNm.symm.trans h2)
    subst hcA
    have hkp : ∀ (k : Nat) (x : Nat × va_E), (wsO G n σ)[k]? = some x → H1[x.1]? = H[x.1]? := fun k x hx => o1 x.1 (by rw [← hHs]; exact (hP k x hx).lt)
    have hcel : celE G (sN σ n) n = .inl (cA G t0, (sh n).2, (if t0 = 1 then .inr (.inl (fun _ => 0)) else .inl (fun _ => 0))) := by
      have z1 : (sN σ n).1 n = fun _ => 0 := u1_at
      have z2 : (sN σ n).2.1 n = fun _ => 0 := u1_at
      by_cases h1 : t0 = 1
      · subst h1
        rw [cel_l (by rw [hsh, ht0]), z2, if_pos rfl]; rfl
      · have h4 : t0 < 4 := by
          have := (List.getElem?_eq_some_iff.mp hak).1
          exact this
        rw [cel_i (t := t0) (by rw [hsh, ht0]) h1 h4, z1, if_neg h1]; rfl
    have hP1 : va_P (cC G, cI G) vwCl (wsO G (n + 1) (sN σ n)) H1 := by
      rw [← ws_push (σ := σ) (σ' := sN σ n) (n := n) hcel (fun j hj => cel_sN (by omega))]
      refine (hP.kept hkp).app (fun k x hx => ?_)
      have hz : k < 1 := (List.getElem?_eq_some_iff.mp hx).1
      rw [show k = 0 by omega] at hx
      cases hx
      show H1[cB G + n]? = some (vp_cell _ _)
      rw [hcell, ← hty]
      exact e1
    have hS1 : va_S (AO G) s.heap H1 locs := ⟨Nat.le_trans hS.1 (by omega), fun q h1 h2 => (o1 q (by rw [← hHs]; exact Nat.lt_of_lt_of_le h1 hS.1)).trans (hS.2.1 q h1 h2), hS.2.2⟩
    have hoS : okS (sN σ n) := by
      intro x y
      show okC (sh x).1 (u1 σ.1 n (fun _ => 0) x y)
      unfold u1
      split
      · unfold okC
        split
        · show (-128 : Int) ≤ 0 ∧ (0 : Int) < 128
          omega
        · split
          · exact Or.inl rfl
          · exact inR0
      · exact hσ x y
    have k1 := kk p e R s m args below meth c n0 Z H1 locs als F RO (by omega) (by omega) hP1 hS1 hoS (ok_c (v := vr n) trivial (ok_t hst)) hls hal
    rw [List.map_cons, show trV G (vr n) = trR G n from rfl, trR_c (by have := NC_lt; omega)] at k1
    rw [show n - n0 + 1 = n + 1 - n0 by omega, show slt n - slt n0 + (sh n).2 = slt (n + 1) - slt n0 by omega]
    exact k1
  cases t with
  | int => exact key 0 .int rfl rfl rfl (by decide) (fun _ => rfl)
  | long => exact key 1 .long rfl rfl rfl (by decide) (fun _ => rfl)
  | byte => exact key 2 .byte rfl rfl rfl (by decide) (fun _ => rfl)
  | boolean => exact key 3 .boolean rfl rfl rfl (by decide) (fun _ => rfl)
  | _ => exact absurd (show (sh n).1 = 50 from hsh) (by omega)
end MORE
