/-! calls, returns, new cells, copies, switches -/
theorem W_size {G : Ctx} {p : Program} {e : Env} {R : Room} {s : State} {m : MethodId} {args : Array Value} {below : List Frame} {meth : Method} {c : Code} {H : Heap} {locs : List Loc} {n n0 slots : Nat} {σ : MS} {Z : State → Prop} {g : JFrame}
    (hsz : s.heap.size = cB G + n0) (hn : n0 ≤ n) (hP : va_P (cC G, cI G) vwCl (wsO G n σ) H) (hS : va_S (AO G) s.heap H locs) (k : H.size = cB G + n → W p (cL G) e R s m args below meth c H locs (n - n0) slots Z g) : W p (cL G) e R s m args below meth c H locs (n - n0) slots Z g := by
  intro T hT X
  have h1 := X.heapSize
  rw [hT, hsz] at h1
  refine k ?_ T hT X
  by_cases h0 : n0 < n
  · have h2 := (hP (n - 1) _ (ws_at (G := G) σ (show n - 1 < n by omega))).lt
    dsimp only at h2
    omega
  · have h2 := hS.1
    rw [hsz] at h2
    omega
theorem KW.warm {G : Ctx} {s U : State} (hW : s.WarmedH U.vm) (h : KW G s) : KW G U := ⟨va_K.moved hW.alike h.1, fun i hi => vk_R.warm hW (h.2.1 i hi), fun q hq => va_Nw.warmM hW (h.2.2.1 q hq), h.2.2.2⟩
theorem KW.same {G : Ctx} {s U : State} (hv : U.vm = s.vm) (h : KW G s) : KW G U := ⟨va_K.moved (by rw [hv]; exact Vm.Alike.refl _) h.1, fun i hi => vk_R.same hv (h.2.1 i hi), fun q hq => va_Nw.same rfl hv.symm (h.2.2.1 q hq), h.2.2.2⟩
theorem HW.go {G : Ctx} {s U : State} {H H1 : Heap} (hA : s.vm.Alike U.vm) (hq : ∀ a : Nat, a < H.size → ¬ AO G a → H1[a]? = H[a]?) (h : HW G s H) : HW G U H1 := by
  obtain ⟨h1, h2, h3, h4, h5, h6⟩ := h
  have hlt : cS G < H.size := by
    obtain ⟨scr, q1, -⟩ := h4
    exact (Array.getElem?_eq_some_iff.mp q1).1
  exact ⟨(h1.moved hA).kept hq, (h2.moved hA).kept hq, (h3.moved hA).kept hq, (h4.moved hA).kept (hq _ hlt h5), h5, h6⟩
theorem Pc_blind {G : Ctx} {n : Nat} {av : List MV} {σ : MS} : FrameBlind (PcO G n av σ) := by
  intro a U g mk q
  obtain ⟨q1, q2, q3, q4, q5, q6, q7⟩ := q
  exact ⟨q1, q2, q3, q4.same rfl, HW.go (s := U) (Vm.Alike.refl U.vm) (fun _ _ _ => rfl) q5, q6, q7⟩
def pushR : Option MV → List MV → List MV
  | none, st => st
  | some v, st => v :: st
def catS : List MV → Nat
  | [] => 0
  | v :: r => (match isLg (some v) with
    | true => 2
    | false => 1) + catS r
theorem catS_ok {G : Ctx} (hF : cF G = .null ∨ ∃ t, cF G = .ref t) (st : List MV) : ((st.map (trV G)).map fun v => v.category).sum = catS st := by
  induction st with
  | nil => rfl
  | cons v r ih =>
    rw [List.map_cons, List.map_cons, List.sum_cons, ih, cat_tr hF]
    show _ = (match isLg (some v) with
      | true => 2
      | false => 1) + catS r
    cases isLg (some v) <;> rfl
theorem call_go {G : Ctx} {p : Program} {e : Env} {R : Room} {s : State} {m : MethodId} {args : Array Value} {below : List Frame} {meth : Method} {c : Code} {H : Heap} {locs : List Loc} {cells slots mc ms pc n' : Nat} {als : Array Slot} {st0 rest : List Value} {Q' : MP} {a : Array Value} {Z : State → Prop}
    (hr : va_Run p (cL G) e R s m args below meth c H locs cells slots mc ms (F0 m pc als st0) rest (QcO G n' Q' a) (AO G)) (hS : va_S (AO G) s.heap H locs)
    (kk : ∀ (r : Option MV) (σ' : MS) (H1 : Heap) (locs1 : List Loc), (∀ v, r = some v → okV v) → okS σ' → Q' r σ' → va_P (cC G, cI G) vwCl (wsO G n' σ') H1 → va_S (AO G) s.heap H1 locs1 → W p (cL G) e R s m args below meth c H1 locs1 (cells + mc) (slots + ms) Z (F0 m (pc + 3) als ((r.map (trV G)).toList ++ rest))) : W p (cL G) e R s m args below meth c H locs cells slots Z (F0 m pc als st0) := by
  intro T hT X
  obtain ⟨v, st₀, t, T', L, h0, X', hL, e1, e2, ⟨⟨r, σ', hv, hok, hoS, hQ, hP1⟩, hz, hk⟩, st⟩ := hr T hT X
  cases hv
  rw [h0] at hz hk
  obtain ⟨t2, a1, b1⟩ := kk r σ' T'.heap (locs ++ L) hok hoS hQ (by rw [e1]; exact hP1)
    ⟨Nat.le_trans hS.1 (by rw [e1]; exact hz), fun q h1 h2 => by rw [e1, hk q (Nat.lt_of_lt_of_le h1 hS.1) h2]; exact hS.2.1 q h1 h2, fun q hq => by
      rcases List.mem_append.mp hq with h | h
      · exact hS.2.2 q h
      · exact hL q h⟩ T' rfl X'
  exact ⟨t2, st t2 a1, b1⟩
section CALLS
variable {G : Ctx} {h mi nf n pc len a : Nat} {b : Int} {ls : ML} {st : List MV} {σ : MS} {Q : MP}
theorem gi_c {a : Nat} (ha : a < 269) : GoodIn lw_good (wM a :: lw_good) := by
  intro w hw
  rcases List.mem_cons.mp hw with rfl | hw
  · exact good_all _ (wM_in a ha)
  · exact good_all _ hw
theorem gi_app {ws1 ws2 : List Cond} (h1 : ∀ w ∈ ws1, w ∈ lw_good) (h2 : GoodIn lw_good ws2) : GoodIn lw_good (ws1 ++ ws2) := fun w hw => (List.mem_append.mp hw).elim (fun q => good_all w (h1 w q)) (h2 w)
theorem ini_in {a : Nat} (ha : a < 269) : Cond.initialized (yM a).cls ∈ lw_good := by
  rw [oc_ok a (by show a < 270; omega)]
  exact a_init _ (oc_lt a (by show a < 270; omega))
/-- the call's own facts, for every kind of call -/
theorem pre_of {n' : Nat} {av : List MV} {s : State} {H : Heap} {locs : List Loc} (hK : KW G s) (hW : HW G s s.heap) (hS : va_S (AO G) s.heap H locs) (hP : va_P (cC G, cI G) vwCl (wsO G n σ) H) (hσ : okS σ) (hav : ∀ v ∈ av, okV v) (hsz : H.size = cB G + n) : ∀ U : State, U.heap = H → s.WarmedH U.vm → PcO G n av σ ((av.map (trV G)).toArray) U := by
  intro U hU hw
  refine ⟨rfl, by rw [hU]; exact hsz, by rw [hU]; exact hP, hK.warm hw, ?_, hσ, hav⟩
  rw [hU]
  exact HW.go hw.alike hS.2.1 hW
theorem T_callS {i : Nat} {av : List MV} {n' : Nat} {Q' : MP} (he : EOK mi (pc, .invokestatic i, len, a, b)) (ha : a < 269) (hag : av.length = ag a) (hm0 : mk a = 0) (hcat : catS st ≤ 8) (hn1 : n ≤ n') (hn2 : n' ≤ nf) (hM : TriM G h a n n' av σ Q')
    (kk : ∀ (r : Option MV) (σ' : MS), Q' r σ' → (∀ v, r = some v → okV v) → Tri G h mi nf n' (pc + len) ls (pushR r st) σ' Q) : Tri G h mi nf n pc ls (av.reverse ++ st) σ Q := by
  obtain ⟨rfl, hd⟩ := he.dec (k := 3) rfl (by decide)
  have hc := he.2.2.2
  have hc1 : ((oc mi, i, a) ∈ mlT) ∨ ((oc mi, i, a) ∈ nlT) := by
    have h998 : a ≠ 998 := by omega
    have : (b = 0 ∧ (oc mi, i, a) ∈ mlT) ∨ (b = 1 ∧ (oc mi, i, a) ∈ nlT) := by
      simpa [chkL, h998, ha, hm0] using hc
    rcases this with h1 | h1
    · exact Or.inl h1.2
    · exact Or.inr h1.2
  obtain ⟨h', hh, hMet⟩ := hM
  intro p e R s m args below meth c n0 Z H locs als F RO hn hnf hP hS hσ hst hls hal
  obtain ⟨hx, hb, hml, hr, hown, hts, hlk, hnm, hK, hW, hsz, hn0, hRf, hRl, hRc, hRs, hNC⟩ := id F
  refine W_size hsz hn hP hS (fun hHs => ?_)
  have hav : ∀ v ∈ av, okV v := fun v hv => hst v (List.mem_append_left _ (List.mem_reverse.mpr hv))
  have hst2 : ∀ v ∈ st, okV v := fun v hv => hst v (List.mem_append_right _ hv)
  have hNM : a < NM := by show a < 270; omega
  have hl45 := lM_ok a hNM
  have fin : va_Run p (cL G) e R s m args below meth c H locs (n - n0) (slt n - slt n0) (n' - n) (slt n' - slt n) (F0 m pc als ((av.reverse ++ st).map (trV G))) (st.map (trV G)) (QcO G n' Q' ((av.map (trV G)).toArray)) (AO G) := by
    have hR : (rmO h' (n' - n) (slt n' - slt n)).frames + 1 ≤ R.frames ∧ 8 + (lM a + 11) + (rmO h' (n' - n) (slt n' - slt n)).locals ≤ R.locals := by
      show h' + 1 ≤ R.frames ∧ 8 + (lM a + 11) + 64 * h' ≤ R.locals
      omega
    have hst9 : ((av.reverse ++ st).map (trV G)) = (av.map (trV G)).reverse ++ st.map (trV G) := by rw [List.map_append, List.map_reverse]
    have hf : (n - n0) + (n' - n) ≤ R.cells ∧ (slt n - slt n0) + (slt n' - slt n) ≤ R.slots := by
      have q1 := slt_mono hn (show n ≤ NC by omega)
      have q2 := slt_mono hn1 (show n' ≤ NC by omega)
      have q3 := slt_mono hn2 hNC
      omega
    have hdd : (yM a).cls ≠ "java/lang/invoke/MethodHandle" ∧ (yM a).cls ≠ "java/lang/invoke/VarHandle" ∧ (parseMethodDescriptor (yM a).desc).map (fun d => d.parameters.length) = some (ag a) := ⟨(mh_ok a hNM).1, (mh_ok a hNM).2, ag_ok a hNM⟩
    have hwm : wM a :: lw_good = Cond.code (yM a) (bM a) (lM a) (rM a) :: lw_good := rfl
    have hpre : PreS s H (PcO G n av σ) (av.map (trV G)) := ⟨Pc_blind, pre_of (n' := n') hK hW hS hP hσ hav hHs⟩
    have hsta : Cond.static (yM a) ∈ lw_good := s_stat a (s_all a (by show a < 269; exact ha) hm0)
    have hlen : (av.map (trV G)).length = ag a := by rw [List.length_map]; exact hag
    have hroom : 2 * (F0 m pc als ((av.reverse ++ st).map (trV G))).monitorRoom + ((st.map (trV G)).map fun v => v.category).sum ≤ 8 := lv_room (by rw [catS_ok hK.2.2.2]; exact hcat)
    rcases hc1 with hl | hl
    · have hml9 : Cond.methodLink (RC (oc mi)) i (yM a) ∈ lw_good := ml_ok (oc mi, i, a) hl
      have hgi : GoodIn lw_good (va_wsS (RC (oc mi)) i (yM a) (wM a :: lw_good)) := gi_app (fun w hw => by
          rcases List.mem_cons.mp hw with rfl | hw
          · exact hml9
          · rcases List.mem_cons.mp hw with rfl | hw
            · exact hsta
            · rcases List.mem_cons.mp hw with rfl | hw
              · exact ini_in ha
              · cases hw) (gi_c ha)
      have hcw := va_cwS (R := R) (args := args) (rm := rmO h' (n' - n) (slt n' - slt n)) (mc := n' - n) (ms := slt n' - slt n) (ag a) hts hgi hwm rfl rfl hdd hR
      exact va_runS (g := F0 m pc als ((av.reverse ++ st).map (trV G))) ⟨hx, hb, hml, hown, hts⟩ hMet hcw hpre rfl hlen hal.1 hst9 hroom hd hf
    · have hnl : va_Nw (.methodLinkNest (RC (oc mi)) i (yM a) "CountedTwice") s := hK.2.2.1 (oc mi, i, a) hl
      have hcn := va_cnB (R := R) (args := args) (rm := rmO h' (n' - n) (slt n' - slt n)) (mc := n' - n) (ms := slt n' - slt n) (ag a) hts (gi_c ha) hwm rfl rfl hnl (hts _ (ini_in ha)) hdd hR
      exact va_runSN (g := F0 m pc als ((av.reverse ++ st).map (trV G))) ⟨hx, hb, hml, hown, hts⟩ hMet ⟨hcn, hts _ hsta, trivial⟩ hpre rfl hlen hal.1 hst9 hroom hd hf
  refine call_go fin hS (fun r σ' H1 locs1 hok hoS hQ hP1 hS1 => ?_)
  have k1 := kk r σ' hQ hok p e R s m args below meth c n0 Z H1 locs1 als F RO (Nat.le_trans hn hn1) hn2 hP1 hS1 hoS (by
    cases r with
    | none => exact hst2
    | some v => exact ok_c (hok v rfl) hst2) hls hal
  have q1 := slt_mono hn (show n ≤ NC by omega)
  have q2 := slt_mono hn1 (show n' ≤ NC by omega)
  rw [show n - n0 + (n' - n) = n' - n0 by omega, show slt n - slt n0 + (slt n' - slt n) = slt n' - slt n0 by omega]
  cases r with
  | none => exact k1
  | some v => exact k1
theorem T_callV {i k0 c0 : Nat} {av : List MV} {n' : Nat} {Q' : MP} (he : EOK mi (pc, .invokevirtual i, len, a, b)) (ha : a < 269) (hag : av.length = ag a) (hm0 : mk a = 1) (hrc : ∀ (s : State) (H : Heap) (locs : List Loc), KW G s → HW G s s.heap → va_P (cC G, cI G) vwCl (wsO G n σ) H → va_S (AO G) s.heap H locs → ∃ q, trR G k0 = .ref q ∧ ∃ cellB : Cell, H[q]? = some cellB ∧ cellB.vm.isStatics = false ∧ s.vm.findClass (yM a).cls = some cellB.cls) (hcat : catS st ≤ 8) (hn1 : n ≤ n') (hn2 : n' ≤ nf) (hM : TriM G h a n n' (vr k0 :: av) σ Q')
    (kk : ∀ (r : Option MV) (σ' : MS), Q' r σ' → (∀ v, r = some v → okV v) → Tri G h mi nf n' (pc + len) ls (pushR r st) σ' Q) : Tri G h mi nf n pc ls (av.reverse ++ vr k0 :: st) σ Q := by
  obtain ⟨rfl, hd⟩ := he.dec (k := 3) rfl (by decide)
  have hc := he.2.2.2
  have hc1 : (oc mi, i, a) ∈ mlT := by
    have : a < 269 ∧ mk a = 1 ∧ (oc mi, i, a) ∈ mlT := by
      simpa only [chkL, Bool.and_eq_true, decide_eq_true_eq, beq_iff_eq] using hc
    exact this.2.2
  obtain ⟨h', hh, hMet⟩ := hM
  intro p e R s m args below meth c n0 Z H locs als F RO hn hnf hP hS hσ hst hls hal
  obtain ⟨hx, hb, hml, hr, hown, hts, hlk, hnm, hK, hW, hsz, hn0, hRf, hRl, hRc, hRs, hNC⟩ := id F
  refine W_size hsz hn hP hS (fun hHs => ?_)
  have hav : ∀ v ∈ vr k0 :: av, okV v := fun v hv => by
    rcases List.mem_cons.mp hv with rfl | hv
    · trivial
    · exact hst v (List.mem_append_left _ (List.mem_reverse.mpr hv))
  have hst2 : ∀ v ∈ st, okV v := fun v hv => hst v (List.mem_append_right _ (List.mem_cons_of_mem _ hv))
  obtain ⟨q, hq0, hcell⟩ := hrc s H locs hK hW hP hS
  have hNM : a < NM := by show a < 270; omega
  have hl45 := lM_ok a hNM
  have fin : va_Run p (cL G) e R s m args below meth c H locs (n - n0) (slt n - slt n0) (n' - n) (slt n' - slt n) (F0 m pc als ((av.reverse ++ vr k0 :: st).map (trV G))) (st.map (trV G)) (QcO G n' Q' ((Value.ref q :: av.map (trV G)).toArray)) (AO G) := by
    have hR : (rmO h' (n' - n) (slt n' - slt n)).frames + 1 ≤ R.frames ∧ 8 + (lM a + 11) + (rmO h' (n' - n) (slt n' - slt n)).locals ≤ R.locals := by
      show h' + 1 ≤ R.frames ∧ 8 + (lM a + 11) + 64 * h' ≤ R.locals
      omega
    have hst9 : ((av.reverse ++ vr k0 :: st).map (trV G)) = (av.map (trV G)).reverse ++ .ref q :: st.map (trV G) := by rw [List.map_append, List.map_reverse, List.map_cons, show trV G (vr k0) = trR G k0 from rfl, hq0]
    have hf : (n - n0) + (n' - n) ≤ R.cells ∧ (slt n - slt n0) + (slt n' - slt n) ≤ R.slots := by
      have q1 := slt_mono hn (show n ≤ NC by omega)
      have q2 := slt_mono hn1 (show n' ≤ NC by omega)
      have q3 := slt_mono hn2 hNC
      omega
    have hdd : (yM a).cls ≠ "java/lang/invoke/MethodHandle" ∧ (yM a).cls ≠ "java/lang/invoke/VarHandle" ∧ (parseMethodDescriptor (yM a).desc).map (fun d => d.parameters.length) = some (ag a) := ⟨(mh_ok a hNM).1, (mh_ok a hNM).2, ag_ok a hNM⟩
    have hwm : wM a :: lw_good = Cond.code (yM a) (bM a) (lM a) (rM a) :: lw_good := rfl
    have hpre : PreV s H (yM a).cls q (PcO G n (vr k0 :: av) σ) (av.map (trV G)) := ⟨Pc_blind, hcell, fun U hU hw => by
      have h9 := pre_of (n' := n') hK hW hS hP hσ hav hHs U hU hw
      rw [List.map_cons, show trV G (vr k0) = trR G k0 from rfl, hq0] at h9
      exact h9⟩
    have hlen : (av.map (trV G)).length = ag a := by rw [List.length_map]; exact hag
    have hroom : 2 * (F0 m pc als ((av.reverse ++ vr k0 :: st).map (trV G))).monitorRoom + ((st.map (trV G)).map fun v => v.category).sum ≤ 8 := lv_room (by rw [catS_ok hK.2.2.2]; exact hcat)
    have hml9 : Cond.methodLink (RC (oc mi)) i (yM a) ∈ lw_good := ml_ok (oc mi, i, a) hc1
    have hgi : GoodIn lw_good (wsV (RC (oc mi)) i (yM a).cls (yM a) (wM a :: lw_good)) := gi_app (fun w hw => by
        rcases List.mem_cons.mp hw with rfl | hw
        · exact hml9
        · rcases List.mem_cons.mp hw with rfl | hw
          · exact v_inst a (v_all a hNM hm0)
          · rcases List.mem_cons.mp hw with rfl | hw
            · exact v_sel a (v_all2 a hNM hm0)
            · rcases List.mem_cons.mp hw with rfl | hw
              · exact ini_in ha
              · cases hw) (gi_c ha)
    have hcw := cwV (R := R) (args := args) (rm := rmO h' (n' - n) (slt n' - slt n)) (mc := n' - n) (ms := slt n' - slt n) (ag a) hts hgi hwm rfl rfl ⟨rfl, hdd⟩ hR
    exact va_runV (g := F0 m pc als ((av.reverse ++ vr k0 :: st).map (trV G))) ⟨hx, hb, hml, hown, hts⟩ hMet hcw hpre rfl hlen hal.1 hst9 hroom hd hf
  refine call_go fin hS (fun r σ' H1 locs1 hok hoS hQ hP1 hS1 => ?_)
  have k1 := kk r σ' hQ hok p e R s m args below meth c n0 Z H1 locs1 als F RO (Nat.le_trans hn hn1) hn2 hP1 hS1 hoS (by
    cases r with
    | none => exact hst2
    | some v => exact ok_c (hok v rfl) hst2) hls hal
  have q1 := slt_mono hn (show n ≤ NC by omega)
  have q2 := slt_mono hn1 (show n' ≤ NC by omega)
  rw [show n - n0 + (n' - n) = n' - n0 by omega, show slt n - slt n0 + (slt n' - slt n) = slt n' - slt n0 by omega]
  cases r with
  | none => exact k1
  | some v => exact k1
theorem T_callI {i k0 c0 : Nat} {av : List MV} {n' : Nat} {Q' : MP} (he : EOK mi (pc, .invokespecial i, len, a, b)) (ha : a < 269) (hag : av.length = ag a) (hm0 : mk a = 2) (hrc : k0 < 1000) (hcat : catS st ≤ 8) (hn1 : n ≤ n') (hn2 : n' ≤ nf) (hM : TriM G h a n n' (vr k0 :: av) σ Q')
    (kk : ∀ (r : Option MV) (σ' : MS), Q' r σ' → (∀ v, r = some v → okV v) → Tri G h mi nf n' (pc + len) ls (pushR r st) σ' Q) : Tri G h mi nf n pc ls (av.reverse ++ vr k0 :: st) σ Q := by
  obtain ⟨rfl, hd⟩ := he.dec (k := 3) rfl (by decide)
  have hc := he.2.2.2
  have hc1 : (oc mi, i, a) ∈ mlT := by
    have h999 : a ≠ 999 := by omega
    have : (oc mi, i, a) ∈ mlT := by
      simpa [chkL, h999, ha, hm0] using hc
    exact this
  obtain ⟨h', hh, hMet⟩ := hM
  intro p e R s m args below meth c n0 Z H locs als F RO hn hnf hP hS hσ hst hls hal
  obtain ⟨hx, hb, hml, hr, hown, hts, hlk, hnm, hK, hW, hsz, hn0, hRf, hRl, hRc, hRs, hNC⟩ := id F
  refine W_size hsz hn hP hS (fun hHs => ?_)
  have hav : ∀ v ∈ vr k0 :: av, okV v := fun v hv => by
    rcases List.mem_cons.mp hv with rfl | hv
    · trivial
    · exact hst v (List.mem_append_left _ (List.mem_reverse.mpr hv))
  have hst2 : ∀ v ∈ st, okV v := fun v hv => hst v (List.mem_append_right _ (List.mem_cons_of_mem _ hv))
  obtain ⟨q, hq0⟩ : ∃ q, trR G k0 = .ref q := ⟨_, trR_c hrc⟩
  have hNM : a < NM := by show a < 270; omega
  have hl45 := lM_ok a hNM
  have fin : va_Run p (cL G) e R s m args below meth c H locs (n - n0) (slt n - slt n0) (n' - n) (slt n' - slt n) (F0 m pc als ((av.reverse ++ vr k0 :: st).map (trV G))) (st.map (trV G)) (QcO G n' Q' ((Value.ref q :: av.map (trV G)).toArray)) (AO G) := by
    have hR : (rmO h' (n' - n) (slt n' - slt n)).frames + 1 ≤ R.frames ∧ 8 + (lM a + 11) + (rmO h' (n' - n) (slt n' - slt n)).locals ≤ R.locals := by
      show h' + 1 ≤ R.frames ∧ 8 + (lM a + 11) + 64 * h' ≤ R.locals
      omega
    have hst9 : ((av.reverse ++ vr k0 :: st).map (trV G)) = (av.map (trV G)).reverse ++ .ref q :: st.map (trV G) := by rw [List.map_append, List.map_reverse, List.map_cons, show trV G (vr k0) = trR G k0 from rfl, hq0]
    have hf : (n - n0) + (n' - n) ≤ R.cells ∧ (slt n - slt n0) + (slt n' - slt n) ≤ R.slots := by
      have q1 := slt_mono hn (show n ≤ NC by omega)
      have q2 := slt_mono hn1 (show n' ≤ NC by omega)
      have q3 := slt_mono hn2 hNC
      omega
    have hdd : (yM a).cls ≠ "java/lang/invoke/MethodHandle" ∧ (yM a).cls ≠ "java/lang/invoke/VarHandle" ∧ (parseMethodDescriptor (yM a).desc).map (fun d => d.parameters.length) = some (ag a) := ⟨(mh_ok a hNM).1, (mh_ok a hNM).2, ag_ok a hNM⟩
    have hwm : wM a :: lw_good = Cond.code (yM a) (bM a) (lM a) (rM a) :: lw_good := rfl
    have hpre : PreS s H (PcO G n (vr k0 :: av) σ) (.ref q :: av.map (trV G)) := ⟨Pc_blind, fun U hU hw => by
      have h9 := pre_of (n' := n') hK hW hS hP hσ hav hHs U hU hw
      rw [List.map_cons, show trV G (vr k0) = trR G k0 from rfl, hq0] at h9
      exact h9⟩
    have hlen : (av.map (trV G)).length = ag a := by rw [List.length_map]; exact hag
    have hroom : 2 * (F0 m pc als ((av.reverse ++ vr k0 :: st).map (trV G))).monitorRoom + ((st.map (trV G)).map fun v => v.category).sum ≤ 8 := lv_room (by rw [catS_ok hK.2.2.2]; exact hcat)
    have hml9 : Cond.methodLink (RC (oc mi)) i (yM a) ∈ lw_good := ml_ok (oc mi, i, a) hc1
    have hca := c_all a hNM hm0
    have hwm2 : wM a :: lw_good = Cond.code (yM a) (bM a) (lM a) none :: lw_good := by rw [← hca.2.2]; rfl
    have hcw := cwI (R := R) (args := args) (rm := rmO h' (n' - n) (slt n' - slt n)) (mc := n' - n) (ms := slt n' - slt n) (ag a) hts (gi_c ha) hwm2 rfl rfl (hts _ (ini_in ha)) (hts _ hml9) (hts _ (c_inst a hca.1)) hca.2.1 hdd hR
    exact va_runI (g := F0 m pc als ((av.reverse ++ vr k0 :: st).map (trV G))) ⟨hx, hb, hml, hown, hts⟩ hMet hcw hpre rfl hlen hal.1 hst9 hroom hd hf
  refine call_go fin hS (fun r σ' H1 locs1 hok hoS hQ hP1 hS1 => ?_)
  have k1 := kk r σ' hQ hok p e R s m args below meth c n0 Z H1 locs1 als F RO (Nat.le_trans hn hn1) hn2 hP1 hS1 hoS (by
    cases r with
    | none => exact hst2
    | some v => exact ok_c (hok v rfl) hst2) hls hal
  have q1 := slt_mono hn (show n ≤ NC by omega)
  have q2 := slt_mono hn1 (show n' ≤ NC by omega)
  rw [show n - n0 + (n' - n) = n' - n0 by omega, show slt n - slt n0 + (slt n' - slt n) = slt n' - slt n0 by omega]
  cases r with
  | none => exact k1
  | some v => exact k1
end CALLS
