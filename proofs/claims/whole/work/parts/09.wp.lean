/-! THE WALK BY COMPUTATION: wpf runs the code from a place on, over values that may be unknown, and says what must hold -/
def onB (b : Bool) (P : Prop) : Prop := match b with
  | true => P
  | false => False
def onS (o : Option Nat) (P : Nat → Prop) : Prop := match o with
  | some x => P x
  | none => False
def onC (o : Option (List Bool)) (A : List Bool → Prop) (B : Prop) : Prop := match o with
  | some x => A x
  | none => B
def lI (o : Option MV) (P : Int → Prop) : Prop := match o with
  | some (.inl x) => P x
  | _ => False
def lJ (o : Option MV) (P : BitVec 64 → Prop) : Prop := match o with
  | some (.inr (.inl x)) => P x
  | _ => False
def lR (o : Option MV) (P : Nat → Prop) : Prop := match o with
  | some (.inr (.inr x)) => P x
  | _ => False
def s1I (st : List MV) (P : Int → List MV → Prop) : Prop := match st with
  | .inl x :: r => P x r
  | _ => False
def s1J (st : List MV) (P : BitVec 64 → List MV → Prop) : Prop := match st with
  | .inr (.inl x) :: r => P x r
  | _ => False
def s1R (st : List MV) (P : Nat → List MV → Prop) : Prop := match st with
  | .inr (.inr x) :: r => P x r
  | _ => False
def s1V (st : List MV) (P : MV → List MV → Prop) : Prop := match st with
  | x :: r => P x r
  | _ => False
theorem onB_e {b : Bool} {P : Prop} (h : onB b P) : b = true ∧ P := by
  cases b
  · exact h.elim
  · exact ⟨rfl, h⟩
theorem onB_i {b : Bool} {P : Prop} (hb : b = true) (h : P) : onB b P := by subst hb; exact h
theorem onS_e {o : Option Nat} {P : Nat → Prop} (h : onS o P) : ∃ x, o = some x ∧ P x := by
  cases o
  · exact h.elim
  · exact ⟨_, rfl, h⟩
theorem onS_i {o : Option Nat} {P : Nat → Prop} {x : Nat} (hb : o = some x) (h : P x) : onS o P := by subst hb; exact h
theorem lI_e {o : Option MV} {P : Int → Prop} (h : lI o P) : ∃ x, o = some (vi x) ∧ P x := by
  rcases o with _ | (x | x | x)
  · exact h.elim
  · exact ⟨x, rfl, h⟩
  · exact h.elim
  · exact h.elim
theorem lJ_e {o : Option MV} {P : BitVec 64 → Prop} (h : lJ o P) : ∃ x, o = some (vl x) ∧ P x := by
  rcases o with _ | (x | x | x)
  · exact h.elim
  · exact h.elim
  · exact ⟨x, rfl, h⟩
  · exact h.elim
theorem lR_e {o : Option MV} {P : Nat → Prop} (h : lR o P) : ∃ x, o = some (vr x) ∧ P x := by
  rcases o with _ | (x | x | x)
  · exact h.elim
  · exact h.elim
  · exact h.elim
  · exact ⟨x, rfl, h⟩
theorem s1I_e {st : List MV} {P : Int → List MV → Prop} (h : s1I st P) : ∃ x r, st = vi x :: r ∧ P x r := by
  rcases st with _ | ⟨x | x | x, r⟩
  · exact h.elim
  · exact ⟨x, r, rfl, h⟩
  · exact h.elim
  · exact h.elim
theorem s1J_e {st : List MV} {P : BitVec 64 → List MV → Prop} (h : s1J st P) : ∃ x r, st = vl x :: r ∧ P x r := by
  rcases st with _ | ⟨x | x | x, r⟩
  · exact h.elim
  · exact h.elim
  · exact ⟨x, r, rfl, h⟩
  · exact h.elim
theorem s1R_e {st : List MV} {P : Nat → List MV → Prop} (h : s1R st P) : ∃ x r, st = vr x :: r ∧ P x r := by
  rcases st with _ | ⟨x | x | x, r⟩
  · exact h.elim
  · exact h.elim
  · exact h.elim
  · exact ⟨x, r, rfl, h⟩
theorem s1V_e {st : List MV} {P : MV → List MV → Prop} (h : s1V st P) : ∃ x r, st = x :: r ∧ P x r := by
  rcases st with _ | ⟨x, r⟩
  · exact h.elim
  · exact ⟨x, r, rfl, h⟩
def nil0 (st : List MV) (P : Prop) : Prop := match st with
  | [] => P
  | _ => False
theorem nil0_e {st : List MV} {P : Prop} (h : nil0 st P) : st = [] ∧ P := by
  cases st
  · exact ⟨rfl, h⟩
  · exact h.elim
def jmpT (pc : Nat) (off : Int) (K : Nat → Prop) : Prop := match (pc : Int) + off with
  | .ofNat t => K t
  | .negSucc _ => False
theorem jmpT_e {pc : Nat} {off : Int} {K : Nat → Prop} (h : jmpT pc off K) : ∃ t : Nat, (pc : Int) + off = (t : Int) ∧ K t := by
  unfold jmpT at h
  cases hz : (pc : Int) + off with
  | ofNat t => rw [hz] at h; exact ⟨t, rfl, h⟩
  | negSucc t => rw [hz] at h; exact h.elim
def popA : Nat → List MV → List MV → (List MV → List MV → Prop) → Prop
  | 0, st, acc, K => K acc st
  | _ + 1, [], _, _ => False
  | c + 1, v :: st, acc, K => popA c st (v :: acc) K
theorem popA_e : ∀ {c : Nat} {st acc : List MV} {K : List MV → List MV → Prop}, popA c st acc K → ∃ av st', av.length = c ∧ st = av.reverse ++ st' ∧ K (av ++ acc) st'
  | 0, st, acc, K, h => ⟨[], st, rfl, rfl, h⟩
  | c + 1, [], acc, K, h => h.elim
  | c + 1, v :: st, acc, K, h => by
    obtain ⟨av, st', h1, h2, h3⟩ := popA_e (c := c) (st := st) (acc := v :: acc) (K := K) h
    exact ⟨av ++ [v], st', by simp [h1], by rw [List.reverse_append, h2]; rfl, by rw [List.append_assoc]; exact h3⟩
def shB (n k : Nat) : Option Nat := match shIs n k 2 with
  | some L => some L
  | none => shIs n k 3
def recv (n k a : Nat) : Bool := match Nat.blt k 1000 with
  | true => isObj n k (oc a)
  | false => Nat.beq (oc a) 15 && (Nat.ble 2000 k && Nat.blt (k - 2000) 22)
def seek (t : Nat) : List Ent → List Ent
  | [] => []
  | e :: r => match Nat.beq e.1 t with
    | true => e :: r
    | false => seek t r
def lkC : List (Nat × List Bool) → Nat → Option (List Bool)
  | [], _ => none
  | (q, ms) :: r, pc => match Nat.beq q pc with
    | true => some ms
    | false => lkC r pc
def cutAt (cuts : List (Nat × List Bool)) (first : Bool) (pc : Nat) : Option (List Bool) := match first with
  | true => none
  | false => lkC cuts pc
def callK (G : Ctx) (h nf n a : Nat) (av st : List MV) (σ : MS) (K : Nat → List MV → MS → Prop) : Prop :=
  onB (Nat.ble (catS st) 8 && Nat.ble (n + al a) nf) (match rt a with
    | 0 => TriM G h a n (n + al a) av σ (cV' fun σ' => K (n + al a) st σ')
    | 2 => TriM G h a n (n + al a) av σ (cJ' fun x σ' => K (n + al a) (vl x :: st) σ')
    | 3 => TriM G h a n (n + al a) av σ (cR' fun x σ' => K (n + al a) (vr x :: st) σ')
    | _ => TriM G h a n (n + al a) av σ (cI' fun x σ' => K (n + al a) (vi x :: st) σ'))
def retG (c : Nat) (x : Int) (P : Prop) : Prop := match c with
  | 1 => P
  | 4 => (x = 0 ∨ x = 1) ∧ P
  | 5 => (0 ≤ x ∧ x < 65536) ∧ P
  | 6 => (-128 ≤ x ∧ x < 128) ∧ P
  | _ => False
def stepF (G : Ctx) (h mi nf : Nat) (Q : MP) (ins : Instr) (pc a : Nat) (b : Int) (n : Nat) (ls : ML) (st : List MV) (σ : MS) (K : Nat → ML → List MV → MS → Prop) (J : Nat → ML → List MV → MS → Prop) : Prop := match ins with
  | .iconst v => K n ls (vi v :: st) σ
  | .bipush v => K n ls (vi v :: st) σ
  | .sipush v => K n ls (vi v :: st) σ
  | .lconst v => K n ls (vl (BitVec.ofNat 64 v) :: st) σ
  | .ldc _ => match a with
    | 0 => K n ls (vi b :: st) σ
    | 1 => K n ls (vr (2000 + b.toNat) :: st) σ
    | _ => False
  | .ldc_w _ => K n ls (vi b :: st) σ
  | .ldc2_w _ => K n ls (vl (BitVec.ofInt 64 b) :: st) σ
  | .iload i => lI (lget ls i) fun x => K n ls (vi x :: st) σ
  | .iload_n i => lI (lget ls i.val) fun x => K n ls (vi x :: st) σ
  | .lload i => lJ (lget ls i) fun x => K n ls (vl x :: st) σ
  | .lload_n i => lJ (lget ls i.val) fun x => K n ls (vl x :: st) σ
  | .aload i => lR (lget ls i) fun x => K n ls (vr x :: st) σ
  | .aload_n i => lR (lget ls i.val) fun x => K n ls (vr x :: st) σ
  | .istore i => s1I st fun x st => K n (mst ls i (vi x)) st σ
  | .istore_n i => s1I st fun x st => K n (mst ls i.val (vi x)) st σ
  | .lstore i => s1J st fun x st => K n (mst2 ls i (vl x)) st σ
  | .lstore_n i => s1J st fun x st => K n (mst2 ls i.val (vl x)) st σ
  | .astore i => s1R st fun x st => K n (mst ls i (vr x)) st σ
  | .astore_n i => s1R st fun x st => K n (mst ls i.val (vr x)) st σ
  | .iinc i v => lI (lget ls i) fun x => K n (mst ls i (vi (w32 (x + v)))) st σ
  | .iadd => s1I st fun y st => s1I st fun x st => K n ls (vi (w32 (x + y)) :: st) σ
  | .isub => s1I st fun y st => s1I st fun x st => K n ls (vi (w32 (x - y)) :: st) σ
  | .imul => s1I st fun y st => s1I st fun x st => K n ls (vi (w32 (x * y)) :: st) σ
  | .iand => s1I st fun y st => s1I st fun x st => K n ls (vi (iAnd x y) :: st) σ
  | .ior => s1I st fun y st => s1I st fun x st => K n ls (vi (iOr x y) :: st) σ
  | .ixor => s1I st fun y st => s1I st fun x st => K n ls (vi (iXor x y) :: st) σ
  | .ishl => s1I st fun y st => s1I st fun x st => K n ls (vi (iShl x y) :: st) σ
  | .ishr => s1I st fun y st => s1I st fun x st => K n ls (vi (iShr x y) :: st) σ
  | .iushr => s1I st fun y st => s1I st fun x st => K n ls (vi (iUsh x y) :: st) σ
  | .idiv => s1I st fun y st => s1I st fun x st => y ≠ 0 ∧ K n ls (vi (iDiv x y) :: st) σ
  | .irem => s1I st fun y st => s1I st fun x st => y ≠ 0 ∧ K n ls (vi (iRem x y) :: st) σ
  | .ineg => s1I st fun x st => K n ls (vi (w32 (-x)) :: st) σ
  | .i2b => s1I st fun x st => K n ls (vi (w8 x) :: st) σ
  | .i2c => s1I st fun x st => K n ls (vi (i2c x) :: st) σ
  | .i2l => s1I st fun x st => K n ls (vl (i2l x) :: st) σ
  | .l2i => s1J st fun x st => K n ls (vi (l2i x) :: st) σ
  | .lneg => s1J st fun x st => K n ls (vl (-x) :: st) σ
  | .ladd => s1J st fun y st => s1J st fun x st => K n ls (vl (x + y) :: st) σ
  | .lsub => s1J st fun y st => s1J st fun x st => K n ls (vl (x - y) :: st) σ
  | .lmul => s1J st fun y st => s1J st fun x st => K n ls (vl (x * y) :: st) σ
  | .land => s1J st fun y st => s1J st fun x st => K n ls (vl (x &&& y) :: st) σ
  | .lor => s1J st fun y st => s1J st fun x st => K n ls (vl (x ||| y) :: st) σ
  | .lxor => s1J st fun y st => s1J st fun x st => K n ls (vl (x ^^^ y) :: st) σ
  | .ldiv => s1J st fun y st => s1J st fun x st => y ≠ 0 ∧ K n ls (vl (lDiv x y) :: st) σ
  | .lcmp => s1J st fun y st => s1J st fun x st => K n ls (vi (lCmp x y) :: st) σ
  | .lshl => s1I st fun y st => s1J st fun x st => K n ls (vl (lShl x y) :: st) σ
  | .lushr => s1I st fun y st => s1J st fun x st => K n ls (vl (lUsh x y) :: st) σ
  | .dup => s1V st fun v st => onB (!isLg (some v)) (K n ls (v :: v :: st) σ)
  | .pop => s1V st fun v st => onB (!isLg (some v)) (K n ls st σ)
  | .dup2 => s1V st fun v st => s1V st fun w st => onB (!isLg (some v) && !isLg (some w)) (K n ls (v :: w :: v :: w :: st) σ)
  | .ifCond c off => s1I st fun x st => (cmpc c x 0 → jmpT pc off fun t => J t ls st σ) ∧ (¬ cmpc c x 0 → K n ls st σ)
  | .if_icmp c off => s1I st fun y st => s1I st fun x st => (cmpc c x y → jmpT pc off fun t => J t ls st σ) ∧ (¬ cmpc c x y → K n ls st σ)
  | .goto off => jmpT pc off fun t => J t ls st σ
  | .tableswitch d lo hi offs => s1I st fun x st => swt x (fun o => jmpT pc o fun t => J t ls st σ) lo offs.toList ∧ ((x < lo ∨ hi < x) → jmpT pc d fun t => J t ls st σ)
  | .lookupswitch d ps => s1I st fun x st => lks x (fun o => jmpT pc o fun t => J t ls st σ) ps.toList ∧ lkd x (jmpT pc d fun t => J t ls st σ) ps.toList
  | .iaload => s1I st fun i st => s1R st fun k st => match Nat.beq k 4000 with
    | true => (0 ≤ i ∧ i < (cNn G : Int)) ∧ K n ls (vi (cX G i.toNat).toInt :: st) σ
    | false => onS (shIs n k 0) fun L => (0 ≤ i ∧ i < (L : Int)) ∧ K n ls (vi (σ.1 k i.toNat) :: st) σ
  | .baload => s1I st fun i st => s1R st fun k st => match Nat.blt k 3000 with
    | true => onS (shB n k) fun L => (0 ≤ i ∧ i < (L : Int)) ∧ K n ls (vi (σ.1 k i.toNat) :: st) σ
    | false => onB (Nat.blt (k - 3000) 22) ((0 ≤ i ∧ i < ((stN.getD (k - 3000) 0 : Nat) : Int)) ∧ K n ls (vi (stC (k - 3000) i.toNat) :: st) σ)
  | .laload => s1I st fun i st => s1R st fun k st => onS (shIs n k 1) fun L => (0 ≤ i ∧ i < (L : Int)) ∧ K n ls (vl (σ.2.1 k i.toNat) :: st) σ
  | .iastore => s1I st fun x st => s1I st fun i st => s1R st fun k st => onS (shIs n k 0) fun L => (0 ≤ i ∧ i < (L : Int)) ∧ K n ls st (sI σ k i.toNat x)
  | .bastore => s1I st fun x st => s1I st fun i st => s1R st fun k st => match Nat.beq (sh k).1 3 with
    | true => onS (shIs n k 3) fun L => (0 ≤ i ∧ i < (L : Int)) ∧ (x = 0 ∨ x = 1) ∧ K n ls st (sI σ k i.toNat x)
    | false => onS (shIs n k 2) fun L => (0 ≤ i ∧ i < (L : Int)) ∧ K n ls st (sI σ k i.toNat (w8 x))
  | .lastore => s1J st fun x st => s1I st fun i st => s1R st fun k st => onS (shIs n k 1) fun L => (0 ≤ i ∧ i < (L : Int)) ∧ K n ls st (sJ σ k i.toNat x)
  | .arraylength => s1R st fun k st => match Nat.blt k 3000 with
    | true => onS (arrN n k) fun L => K n ls (vi (L : Int) :: st) σ
    | false => match Nat.beq k 4000 with
      | true => K n ls (vi (cNn G : Int) :: st) σ
      | false => onB (Nat.blt (k - 3000) 22) (K n ls (vi ((stN.getD (k - 3000) 0 : Nat) : Int) :: st) σ)
  | .getstatic _ => K n ls ((match Nat.beq a 0 with | true => vi 1 | false => vr 5000) :: st) σ
  | .getfield _ => s1R st fun k st => match Nat.beq a 100 with
    | true => onB (Nat.ble 2000 k && Nat.blt (k - 2000) 22) (K n ls ((match Nat.beq b.toNat 0 with | true => vr (3000 + (k - 2000)) | false => vi 0) :: st) σ)
    | false => onB (isObj n k a) (K n ls (fval σ k a b.toNat :: st) σ)
  | .putfield _ => match fk a b.toNat with
    | 0 => s1I st fun x st => s1R st fun k st => onB (isObj n k a) (K n ls st (sI σ k b.toNat x))
    | 1 => s1R st fun x st => s1R st fun k st => onB (isObj n k a) (K n ls st (sP σ k b.toNat x))
    | 2 => s1I st fun x st => s1R st fun k st => onB (isObj n k a) ((x = 0 ∨ x = 1) ∧ K n ls st (sI σ k b.toNat x))
    | _ => False
  | .invokevirtual _ => onB (Nat.blt a 269 && Nat.beq (mk a) 1) (popA (ag a) st [] fun av st => s1R st fun k st => onB (recv n k a) (callK G h nf n a (vr k :: av) st σ fun n st σ => K n ls st σ))
  | .invokestatic _ => match Nat.beq a 998 with
    | true => s1I st fun cl st => s1I st fun dp st => s1R st fun d st => s1I st fun sp st => s1R st fun x st => onB (Nat.ble (catS st) 8 && cpK n x d) (1 ≤ h ∧ (0 ≤ sp ∧ 0 ≤ dp ∧ 0 ≤ cl ∧ sp + cl ≤ ((sh x).2 : Int) ∧ dp + cl ≤ ((sh d).2 : Int)) ∧ K n ls st (sC σ x sp.toNat d dp.toNat cl.toNat))
    | false => onB (Nat.blt a 269 && Nat.beq (mk a) 0) (popA (ag a) st [] fun av st => callK G h nf n a av st σ fun n st σ => K n ls st σ)
  | .invokespecial _ => match Nat.beq a 999 with
    | true => s1R st fun k st => onB (Nat.blt k 1000 && Nat.ble (catS st) 8) (1 ≤ h ∧ K n ls st σ)
    | false => onB (Nat.blt a 269 && Nat.beq (mk a) 2) (popA (ag a) st [] fun av st => s1R st fun k st => onB (Nat.blt k 1000) (callK G h nf n a (vr k :: av) st σ fun n st σ => K n ls st σ))
  | .new _ => onB (Nat.blt n nf && Nat.beq (sh n).1 (4 + a)) (K (n + 1) ls (vr n :: st) (sN σ n))
  | .newarray t => s1I st fun x st => onB (Nat.blt n nf && (Nat.beq (sh n).1 (atK t) && decide (x = ((sh n).2 : Int)))) (K (n + 1) ls (vr n :: st) (sN σ n))
  | .return_ => nil0 st (onB (Nat.beq n nf && Nat.beq (rt mi) 0) (Q none σ))
  | .ireturn => s1I st fun x st => nil0 st (onB (Nat.beq n nf) (retG (rt mi) x (Q (some (vi x)) σ)))
  | .lreturn => s1J st fun x st => nil0 st (onB (Nat.beq n nf && Nat.beq (rt mi) 2) (Q (some (vl x)) σ))
  | .areturn => s1R st fun x st => nil0 st (onB (Nat.beq n nf && Nat.beq (rt mi) 3) (Q (some (vr x)) σ))
  | _ => False
theorem callK_e {G : Ctx} {h nf n a : Nat} {av st : List MV} {σ : MS} {K : Nat → List MV → MS → Prop} (hs : callK G h nf n a av st σ K) : ∃ Q' : MP, catS st ≤ 8 ∧ n + al a ≤ nf ∧ TriM G h a n (n + al a) av σ Q' ∧ ∀ r σ', Q' r σ' → (∀ v, r = some v → okV v) → (True ∧ K (n + al a) (pushR r st) σ') := by
  obtain ⟨h8, hs⟩ := onB_e hs
  have h9 := (Bool.and_eq_true _ _).mp h8
  have c1 := Nat.le_of_ble_eq_true h9.1
  have c2 := Nat.le_of_ble_eq_true h9.2
  have kI : TriM G h a n (n + al a) av σ (cI' fun x σ' => K (n + al a) (vi x :: st) σ') → ∃ Q' : MP, catS st ≤ 8 ∧ n + al a ≤ nf ∧ TriM G h a n (n + al a) av σ Q' ∧ ∀ r σ', Q' r σ' → (∀ v, r = some v → okV v) → (True ∧ K (n + al a) (pushR r st) σ') := fun hm => ⟨_, c1, c2, hm, fun r σ' q hv => by
    obtain ⟨x, rfl, q⟩ := q
    exact ⟨trivial, q (hv _ rfl)⟩⟩
  match hr : rt a, hs with
  | 0, hs => exact ⟨_, c1, c2, hs, fun r σ' q hv => by
      obtain ⟨rfl, q⟩ := q
      exact ⟨trivial, q⟩⟩
  | 1, hs => exact kI hs
  | 2, hs => exact ⟨_, c1, c2, hs, fun r σ' q hv => by
      obtain ⟨x, rfl, q⟩ := q
      exact ⟨trivial, q⟩⟩
  | 3, hs => exact ⟨_, c1, c2, hs, fun r σ' q hv => by
      obtain ⟨x, rfl, q⟩ := q
      exact ⟨trivial, q⟩⟩
  | c + 4, hs => exact kI hs
set_option maxRecDepth 100000 in
set_option maxHeartbeats 4000000 in
theorem stepF_ok {G : Ctx} {h mi nf n pc len a : Nat} {b : Int} {ls : ML} {st : List MV} {σ : MS} {Q : MP} {ins : Instr} {K : Nat → ML → List MV → MS → Prop} {J : Nat → ML → List MV → MS → Prop} (he : EOK mi (pc, ins, len, a, b)) (hto : ∀ off, (∃ c, ins = .ifCond c off ∨ ins = .if_icmp c off) → ∃ t : Nat, (pc : Int) + off = (t : Int)) (hK : ∀ n ls st σ, K n ls st σ → Tri G h mi nf n (pc + len) ls st σ Q) (hJ : ∀ t ls st σ, J t ls st σ → Tri G h mi nf n t ls st σ Q) (hs : stepF G h mi nf Q ins pc a b n ls st σ K J) : Tri G h mi nf n pc ls st σ Q := by
  cases ins with
  | iconst v =>
    exact T_iconst he (hK _ _ _ _ hs)
  | bipush v =>
    exact T_bipush he (hK _ _ _ _ hs)
  | sipush v =>
    exact T_sipush he (hK _ _ _ _ hs)
  | lconst v =>
    exact T_lconst he (hK _ _ _ _ hs)
  | ldc _ =>
    match a, he, hs with
    | 0, he, hs => exact T_ldc he (hK _ _ _ _ hs)
    | 1, he, hs => exact T_ldcS he (hK _ _ _ _ hs)
    | a + 2, he, hs => exact False.elim hs
  | ldc_w _ =>
    exact T_ldcw he (hK _ _ _ _ hs)
  | ldc2_w _ =>
    exact T_ldc2 he (hK _ _ _ _ hs)
  | iload i =>
    obtain ⟨x, h1, h2⟩ := lI_e hs
    exact T_iload he h1 (hK _ _ _ _ h2)
  | iload_n i =>
    obtain ⟨x, h1, h2⟩ := lI_e hs
    exact T_iload_n he h1 (hK _ _ _ _ h2)
  | lload i =>
    obtain ⟨x, h1, h2⟩ := lJ_e hs
    exact T_lload he h1 (hK _ _ _ _ h2)
  | lload_n i =>
    obtain ⟨x, h1, h2⟩ := lJ_e hs
    exact T_lload_n he h1 (hK _ _ _ _ h2)
  | aload i =>
    obtain ⟨x, h1, h2⟩ := lR_e hs
    exact T_aload he h1 (hK _ _ _ _ h2)
  | aload_n i =>
    obtain ⟨x, h1, h2⟩ := lR_e hs
    exact T_aload_n he h1 (hK _ _ _ _ h2)
  | istore i =>
    obtain ⟨x, r, rfl, h2⟩ := s1I_e hs
    exact T_istore he (hK _ _ _ _ h2)
  | istore_n i =>
    obtain ⟨x, r, rfl, h2⟩ := s1I_e hs
    exact T_istore_n he (hK _ _ _ _ h2)
  | lstore i =>
    obtain ⟨x, r, rfl, h2⟩ := s1J_e hs
    exact T_lstore he (hK _ _ _ _ h2)
  | lstore_n i =>
    obtain ⟨x, r, rfl, h2⟩ := s1J_e hs
    exact T_lstore_n he (hK _ _ _ _ h2)
  | astore i =>
    obtain ⟨x, r, rfl, h2⟩ := s1R_e hs
    exact T_astore he (hK _ _ _ _ h2)
  | astore_n i =>
    obtain ⟨x, r, rfl, h2⟩ := s1R_e hs
    exact T_astore_n he (hK _ _ _ _ h2)
  | iinc i v =>
    obtain ⟨x, h1, h2⟩ := lI_e hs
    exact T_iinc he h1 (hK _ _ _ _ h2)
  | iadd =>
    obtain ⟨y, r1, rfl, h0⟩ := s1I_e hs; clear hs; have hs := h0; clear h0
    obtain ⟨x, r, rfl, h0⟩ := s1I_e hs; clear hs; have hs := h0; clear h0
    exact T_iadd he (hK _ _ _ _ hs)
  | isub =>
    obtain ⟨y, r1, rfl, h0⟩ := s1I_e hs; clear hs; have hs := h0; clear h0
    obtain ⟨x, r, rfl, h0⟩ := s1I_e hs; clear hs; have hs := h0; clear h0
    exact T_isub he (hK _ _ _ _ hs)
  | imul =>
    obtain ⟨y, r1, rfl, h0⟩ := s1I_e hs; clear hs; have hs := h0; clear h0
    obtain ⟨x, r, rfl, h0⟩ := s1I_e hs; clear hs; have hs := h0; clear h0
    exact T_imul he (hK _ _ _ _ hs)
  | iand =>
    obtain ⟨y, r1, rfl, h0⟩ := s1I_e hs; clear hs; have hs := h0; clear h0
    obtain ⟨x, r, rfl, h0⟩ := s1I_e hs; clear hs; have hs := h0; clear h0
    exact T_iand he (hK _ _ _ _ hs)
  | ior =>
    obtain ⟨y, r1, rfl, h0⟩ := s1I_e hs; clear hs; have hs := h0; clear h0
    obtain ⟨x, r, rfl, h0⟩ := s1I_e hs; clear hs; have hs := h0; clear h0
    exact T_ior he (hK _ _ _ _ hs)
  | ixor =>
    obtain ⟨y, r1, rfl, h0⟩ := s1I_e hs; clear hs; have hs := h0; clear h0
    obtain ⟨x, r, rfl, h0⟩ := s1I_e hs; clear hs; have hs := h0; clear h0
    exact T_ixor he (hK _ _ _ _ hs)
  | ishl =>
    obtain ⟨y, r1, rfl, h0⟩ := s1I_e hs; clear hs; have hs := h0; clear h0
    obtain ⟨x, r, rfl, h0⟩ := s1I_e hs; clear hs; have hs := h0; clear h0
    exact T_ishl he (hK _ _ _ _ hs)
  | ishr =>
    obtain ⟨y, r1, rfl, h0⟩ := s1I_e hs; clear hs; have hs := h0; clear h0
    obtain ⟨x, r, rfl, h0⟩ := s1I_e hs; clear hs; have hs := h0; clear h0
    exact T_ishr he (hK _ _ _ _ hs)
  | iushr =>
    obtain ⟨y, r1, rfl, h0⟩ := s1I_e hs; clear hs; have hs := h0; clear h0
    obtain ⟨x, r, rfl, h0⟩ := s1I_e hs; clear hs; have hs := h0; clear h0
    exact T_iushr he (hK _ _ _ _ hs)
  | idiv =>
    obtain ⟨y, r1, rfl, h0⟩ := s1I_e hs; clear hs; have hs := h0; clear h0
    obtain ⟨x, r, rfl, h0⟩ := s1I_e hs; clear hs; have hs := h0; clear h0
    exact T_idiv he hs.1 (hK _ _ _ _ hs.2)
  | irem =>
    obtain ⟨y, r1, rfl, h0⟩ := s1I_e hs; clear hs; have hs := h0; clear h0
    obtain ⟨x, r, rfl, h0⟩ := s1I_e hs; clear hs; have hs := h0; clear h0
    exact T_irem he hs.1 (hK _ _ _ _ hs.2)
  | ineg =>
    obtain ⟨x, r, rfl, h0⟩ := s1I_e hs; clear hs; have hs := h0; clear h0
    exact T_ineg he (hK _ _ _ _ hs)
  | i2b =>
    obtain ⟨x, r, rfl, h0⟩ := s1I_e hs; clear hs; have hs := h0; clear h0
    exact T_i2b he (hK _ _ _ _ hs)
  | i2c =>
    obtain ⟨x, r, rfl, h0⟩ := s1I_e hs; clear hs; have hs := h0; clear h0
    exact T_i2c he (hK _ _ _ _ hs)
  | i2l =>
    obtain ⟨x, r, rfl, h0⟩ := s1I_e hs; clear hs; have hs := h0; clear h0
    exact T_i2l he (hK _ _ _ _ hs)
  | l2i =>
    obtain ⟨x, r, rfl, h0⟩ := s1J_e hs; clear hs; have hs := h0; clear h0
    exact T_l2i he (hK _ _ _ _ hs)
  | lneg =>
    obtain ⟨x, r, rfl, h0⟩ := s1J_e hs; clear hs; have hs := h0; clear h0
    exact T_lneg he (hK _ _ _ _ hs)
  | ladd =>
    obtain ⟨y, r1, rfl, h0⟩ := s1J_e hs; clear hs; have hs := h0; clear h0
    obtain ⟨x, r, rfl, h0⟩ := s1J_e hs; clear hs; have hs := h0; clear h0
    exact T_ladd he (hK _ _ _ _ hs)
  | lsub =>
    obtain ⟨y, r1, rfl, h0⟩ := s1J_e hs; clear hs; have hs := h0; clear h0
    obtain ⟨x, r, rfl, h0⟩ := s1J_e hs; clear hs; have hs := h0; clear h0
    exact T_lsub he (hK _ _ _ _ hs)
  | lmul =>
    obtain ⟨y, r1, rfl, h0⟩ := s1J_e hs; clear hs; have hs := h0; clear h0
    obtain ⟨x, r, rfl, h0⟩ := s1J_e hs; clear hs; have hs := h0; clear h0
    exact T_lmul he (hK _ _ _ _ hs)
  | land =>
    obtain ⟨y, r1, rfl, h0⟩ := s1J_e hs; clear hs; have hs := h0; clear h0
    obtain ⟨x, r, rfl, h0⟩ := s1J_e hs; clear hs; have hs := h0; clear h0
    exact T_land he (hK _ _ _ _ hs)
  | lor =>
    obtain ⟨y, r1, rfl, h0⟩ := s1J_e hs; clear hs; have hs := h0; clear h0
    obtain ⟨x, r, rfl, h0⟩ := s1J_e hs; clear hs; have hs := h0; clear h0
    exact T_lor he (hK _ _ _ _ hs)
  | lxor =>
    obtain ⟨y, r1, rfl, h0⟩ := s1J_e hs; clear hs; have hs := h0; clear h0
    obtain ⟨x, r, rfl, h0⟩ := s1J_e hs; clear hs; have hs := h0; clear h0
    exact T_lxor he (hK _ _ _ _ hs)
  | ldiv =>
    obtain ⟨y, r1, rfl, h0⟩ := s1J_e hs; clear hs; have hs := h0; clear h0
    obtain ⟨x, r, rfl, h0⟩ := s1J_e hs; clear hs; have hs := h0; clear h0
    exact T_ldiv he hs.1 (hK _ _ _ _ hs.2)
  | lcmp =>
    obtain ⟨y, r1, rfl, h0⟩ := s1J_e hs; clear hs; have hs := h0; clear h0
    obtain ⟨x, r, rfl, h0⟩ := s1J_e hs; clear hs; have hs := h0; clear h0
    exact T_lcmp he (hK _ _ _ _ hs)
  | lshl =>
    obtain ⟨y, r1, rfl, h0⟩ := s1I_e hs; clear hs; have hs := h0; clear h0
    obtain ⟨x, r, rfl, h0⟩ := s1J_e hs; clear hs; have hs := h0; clear h0
    exact T_lshl he (hK _ _ _ _ hs)
  | lushr =>
    obtain ⟨y, r1, rfl, h0⟩ := s1I_e hs; clear hs; have hs := h0; clear h0
    obtain ⟨x, r, rfl, h0⟩ := s1J_e hs; clear hs; have hs := h0; clear h0
    exact T_lushr he (hK _ _ _ _ hs)
  | dup =>
    obtain ⟨v, r, rfl, h0⟩ := s1V_e hs; clear hs; have hs := h0; clear h0
    obtain ⟨h1, h0⟩ := onB_e hs; clear hs; have hs := h0; clear h0
    exact T_dup he (by simpa using h1) (hK _ _ _ _ hs)
  | pop =>
    obtain ⟨v, r, rfl, h0⟩ := s1V_e hs; clear hs; have hs := h0; clear h0
    obtain ⟨h1, h0⟩ := onB_e hs; clear hs; have hs := h0; clear h0
    exact T_pop he (by simpa using h1) (hK _ _ _ _ hs)
  | dup2 =>
    obtain ⟨v, r1, rfl, h0⟩ := s1V_e hs; clear hs; have hs := h0; clear h0
    obtain ⟨w, r, rfl, h0⟩ := s1V_e hs; clear hs; have hs := h0; clear h0
    obtain ⟨h1, h0⟩ := onB_e hs; clear hs; have hs := h0; clear h0
    have h2 : isLg (some v) = false ∧ isLg (some w) = false := by simpa using h1
    exact T_dup2 he h2.1 h2.2 (hK _ _ _ _ hs)
  | ifCond c off =>
    obtain ⟨x, r, rfl, h0⟩ := s1I_e hs; clear hs; have hs := h0; clear h0
    by_cases hz : ∃ t : Nat, (pc : Int) + off = (t : Int)
    · obtain ⟨t, ht⟩ := hz
      have hj : jmpT pc off (fun t => J t ls r σ) → Tri G h mi nf n t ls r σ Q := fun q => by
        obtain ⟨t2, q1, q2⟩ := jmpT_e q
        have : t2 = t := by omega
        subst this
        exact hJ _ _ _ _ q2
      cases c with
      | eq => exact T_if_eq he ht (fun q => hj (hs.1 q)) (fun q => hK _ _ _ _ (hs.2 q))
      | ne => exact T_if_ne he ht (fun q => hj (hs.1 q)) (fun q => hK _ _ _ _ (hs.2 q))
      | lt => exact T_if_lt he ht (fun q => hj (hs.1 q)) (fun q => hK _ _ _ _ (hs.2 q))
      | ge => exact T_if_ge he ht (fun q => hj (hs.1 q)) (fun q => hK _ _ _ _ (hs.2 q))
      | gt => exact T_if_gt he ht (fun q => hj (hs.1 q)) (fun q => hK _ _ _ _ (hs.2 q))
      | le => exact T_if_le he ht (fun q => hj (hs.1 q)) (fun q => hK _ _ _ _ (hs.2 q))
    · exact absurd (hto off ⟨c, Or.inl rfl⟩) hz
  | if_icmp c off =>
    obtain ⟨y, r1, rfl, h0⟩ := s1I_e hs; clear hs; have hs := h0; clear h0
    obtain ⟨x, r, rfl, h0⟩ := s1I_e hs; clear hs; have hs := h0; clear h0
    by_cases hz : ∃ t : Nat, (pc : Int) + off = (t : Int)
    · obtain ⟨t, ht⟩ := hz
      have hj : jmpT pc off (fun t => J t ls r σ) → Tri G h mi nf n t ls r σ Q := fun q => by
        obtain ⟨t2, q1, q2⟩ := jmpT_e q
        have : t2 = t := by omega
        subst this
        exact hJ _ _ _ _ q2
      cases c with
      | eq => exact T_icmp_eq he ht (fun q => hj (hs.1 q)) (fun q => hK _ _ _ _ (hs.2 q))
      | ne => exact T_icmp_ne he ht (fun q => hj (hs.1 q)) (fun q => hK _ _ _ _ (hs.2 q))
      | lt => exact T_icmp_lt he ht (fun q => hj (hs.1 q)) (fun q => hK _ _ _ _ (hs.2 q))
      | ge => exact T_icmp_ge he ht (fun q => hj (hs.1 q)) (fun q => hK _ _ _ _ (hs.2 q))
      | gt => exact T_icmp_gt he ht (fun q => hj (hs.1 q)) (fun q => hK _ _ _ _ (hs.2 q))
      | le => exact T_icmp_le he ht (fun q => hj (hs.1 q)) (fun q => hK _ _ _ _ (hs.2 q))
    · exact absurd (hto off ⟨c, Or.inr rfl⟩) hz
  | goto off =>
    obtain ⟨t, ht, h0⟩ := jmpT_e hs; clear hs; have hs := h0; clear h0
    exact T_goto he ht (hJ _ _ _ _ hs)
  | tableswitch d lo hi offs =>
    obtain ⟨x, r, rfl, h0⟩ := s1I_e hs; clear hs; have hs := h0; clear h0
    exact T_tsw he _ (fun o q => by obtain ⟨t, ht, q⟩ := jmpT_e q; exact ⟨t, ht, hJ _ _ _ _ q⟩) hs.1 hs.2
  | lookupswitch d ps =>
    obtain ⟨x, r, rfl, h0⟩ := s1I_e hs; clear hs; have hs := h0; clear h0
    exact T_lsw he (fun o => jmpT pc o fun t => J t ls r σ) (fun o q => by obtain ⟨t, ht, q⟩ := jmpT_e q; exact ⟨t, ht, hJ _ _ _ _ q⟩) hs.1 hs.2
  | iaload =>
    obtain ⟨i, r1, rfl, h0⟩ := s1I_e hs; clear hs; have hs := h0; clear h0
    obtain ⟨k, r, rfl, h0⟩ := s1R_e hs; clear hs; have hs := h0; clear h0
    cases hb4 : Nat.beq k 4000 with
    | true =>
      rw [hb4] at hs
      obtain rfl := Nat.eq_of_beq_eq_true hb4
      exact T_sld he hs.1 (hK _ _ _ _ hs.2)
    | false =>
      rw [hb4] at hs
      obtain ⟨L, h1, h0⟩ := onS_e hs; clear hs; have hs := h0; clear h0
      exact T_iaload he h1 hs.1 (hK _ _ _ _ hs.2)
  | baload =>
    obtain ⟨i, r1, rfl, h0⟩ := s1I_e hs; clear hs; have hs := h0; clear h0
    obtain ⟨k, r, rfl, h0⟩ := s1R_e hs; clear hs; have hs := h0; clear h0
    cases hb4 : Nat.blt k 3000 with
    | true =>
      rw [hb4] at hs
      obtain ⟨L, h1, h0⟩ := onS_e hs; clear hs; have hs := h0; clear h0
      unfold shB at h1
      cases h2 : shIs n k 2 with
      | some L2 =>
        rw [h2] at h1
        obtain rfl := Option.some.inj h1
        exact T_baload (Or.inl rfl) he h2 hs.1 (hK _ _ _ _ hs.2)
      | none =>
        rw [h2] at h1
        exact T_baload (Or.inr rfl) he h1 hs.1 (hK _ _ _ _ hs.2)
    | false =>
      rw [hb4] at hs
      dsimp only at hs
      obtain ⟨h1, h0⟩ := onB_e hs; clear hs; have hs := h0; clear h0
      have h3 : ¬ k < 3000 := fun q => by have := Nat.ble_eq_true_of_le (Nat.succ_le_of_lt q); rw [show Nat.ble (k + 1) 3000 = Nat.blt k 3000 from rfl, hb4] at this; cases this
      obtain ⟨j, rfl⟩ : ∃ j, k = 3000 + j := ⟨k - 3000, by omega⟩
      rw [show 3000 + j - 3000 = j by omega] at hs h1
      exact T_baloadS (Nat.le_of_ble_eq_true h1) he hs.1 (hK _ _ _ _ hs.2)
  | laload =>
    obtain ⟨i, r1, rfl, h0⟩ := s1I_e hs; clear hs; have hs := h0; clear h0
    obtain ⟨k, r, rfl, h0⟩ := s1R_e hs; clear hs; have hs := h0; clear h0
    obtain ⟨L, h1, h0⟩ := onS_e hs; clear hs; have hs := h0; clear h0
    exact T_laload he h1 hs.1 (hK _ _ _ _ hs.2)
  | iastore =>
    obtain ⟨x, r2, rfl, h0⟩ := s1I_e hs; clear hs; have hs := h0; clear h0
    obtain ⟨i, r1, rfl, h0⟩ := s1I_e hs; clear hs; have hs := h0; clear h0
    obtain ⟨k, r, rfl, h0⟩ := s1R_e hs; clear hs; have hs := h0; clear h0
    obtain ⟨L, h1, h0⟩ := onS_e hs; clear hs; have hs := h0; clear h0
    exact T_iastore he h1 hs.1 (hK _ _ _ _ hs.2)
  | bastore =>
    obtain ⟨x, r2, rfl, h0⟩ := s1I_e hs; clear hs; have hs := h0; clear h0
    obtain ⟨i, r1, rfl, h0⟩ := s1I_e hs; clear hs; have hs := h0; clear h0
    obtain ⟨k, r, rfl, h0⟩ := s1R_e hs; clear hs; have hs := h0; clear h0
    cases hb4 : Nat.beq (sh k).1 3 with
    | true =>
      rw [hb4] at hs
      obtain ⟨L, h1, h0⟩ := onS_e hs; clear hs; have hs := h0; clear h0
      exact T_zastore he h1 hs.1 hs.2.1 (hK _ _ _ _ hs.2.2)
    | false =>
      rw [hb4] at hs
      obtain ⟨L, h1, h0⟩ := onS_e hs; clear hs; have hs := h0; clear h0
      exact T_bastore he h1 hs.1 (hK _ _ _ _ hs.2)
  | lastore =>
    obtain ⟨x, r2, rfl, h0⟩ := s1J_e hs; clear hs; have hs := h0; clear h0
    obtain ⟨i, r1, rfl, h0⟩ := s1I_e hs; clear hs; have hs := h0; clear h0
    obtain ⟨k, r, rfl, h0⟩ := s1R_e hs; clear hs; have hs := h0; clear h0
    obtain ⟨L, h1, h0⟩ := onS_e hs; clear hs; have hs := h0; clear h0
    exact T_lastore he h1 hs.1 (hK _ _ _ _ hs.2)
  | arraylength =>
    obtain ⟨k, r, rfl, h0⟩ := s1R_e hs; clear hs; have hs := h0; clear h0
    cases hb4 : Nat.blt k 3000 with
    | true =>
      rw [hb4] at hs
      obtain ⟨L, h1, h0⟩ := onS_e hs; clear hs; have hs := h0; clear h0
      exact T_alen he h1 (hK _ _ _ _ hs)
    | false =>
      rw [hb4] at hs
      have h3 : ¬ k < 3000 := fun q => by have := Nat.ble_eq_true_of_le (Nat.succ_le_of_lt q); rw [show Nat.ble (k + 1) 3000 = Nat.blt k 3000 from rfl, hb4] at this; cases this
      cases hb5 : Nat.beq k 4000 with
      | true =>
        rw [hb5] at hs
        obtain rfl := Nat.eq_of_beq_eq_true hb5
        exact T_slen he (hK _ _ _ _ hs)
      | false =>
        rw [hb5] at hs
        dsimp only at hs
        obtain ⟨h1, h0⟩ := onB_e hs; clear hs; have hs := h0; clear h0
        obtain ⟨j, rfl⟩ : ∃ j, k = 3000 + j := ⟨k - 3000, by omega⟩
        rw [show 3000 + j - 3000 = j by omega] at hs h1
        exact T_alenS (Nat.le_of_ble_eq_true h1) he (hK _ _ _ _ hs)
  | getstatic _ =>
    exact T_gets he (hK _ _ _ _ hs)
  | getfield _ =>
    obtain ⟨k, r, rfl, h0⟩ := s1R_e hs; clear hs; have hs := h0; clear h0
    cases hb4 : Nat.beq a 100 with
    | true =>
      rw [hb4] at hs
      obtain ⟨h1, h0⟩ := onB_e hs; clear hs; have hs := h0; clear h0
      obtain rfl := Nat.eq_of_beq_eq_true hb4
      have h2 := (Bool.and_eq_true _ _).mp h1
      have h3 := Nat.le_of_ble_eq_true h2.1
      obtain ⟨j, rfl⟩ : ∃ j, k = 2000 + j := ⟨k - 2000, by omega⟩
      rw [show 2000 + j - 2000 = j by omega] at hs h2
      exact T_getS (Nat.le_of_ble_eq_true h2.2) he (hK _ _ _ _ hs)
    | false =>
      rw [hb4] at hs
      obtain ⟨h1, h0⟩ := onB_e hs; clear hs; have hs := h0; clear h0
      exact T_get he h1 (hK _ _ _ _ hs)
  | putfield _ =>
    dsimp only [stepF] at hs
    cases hf : fk a b.toNat with
    | zero =>
      rw [hf] at hs
      obtain ⟨x, r1, rfl, h0⟩ := s1I_e hs; clear hs; have hs := h0; clear h0
      obtain ⟨k, r, rfl, h0⟩ := s1R_e hs; clear hs; have hs := h0; clear h0
      obtain ⟨h1, h0⟩ := onB_e hs; clear hs; have hs := h0; clear h0
      exact T_putI he h1 hf (hK _ _ _ _ hs)
    | succ c =>
      rw [hf] at hs
      match c, hf, hs with
      | 0, hf, hs =>
        obtain ⟨x, r1, rfl, h0⟩ := s1R_e hs; clear hs; have hs := h0; clear h0
        obtain ⟨k, r, rfl, h0⟩ := s1R_e hs; clear hs; have hs := h0; clear h0
        obtain ⟨h1, h0⟩ := onB_e hs; clear hs; have hs := h0; clear h0
        exact T_putR he h1 hf (hK _ _ _ _ hs)
      | 1, hf, hs =>
        obtain ⟨x, r1, rfl, h0⟩ := s1I_e hs; clear hs; have hs := h0; clear h0
        obtain ⟨k, r, rfl, h0⟩ := s1R_e hs; clear hs; have hs := h0; clear h0
        obtain ⟨h1, h0⟩ := onB_e hs; clear hs; have hs := h0; clear h0
        exact T_putZ he h1 hf hs.1 (hK _ _ _ _ hs.2)
      | c + 2, hf, hs => exact False.elim hs
  | invokevirtual _ =>
    obtain ⟨h1, h0⟩ := onB_e hs; clear hs; have hs := h0; clear h0
    have h2 := (Bool.and_eq_true _ _).mp h1
    have ha := Nat.le_of_ble_eq_true h2.1
    have hm := Nat.eq_of_beq_eq_true h2.2
    obtain ⟨av, st', hl, rfl, h0⟩ := popA_e hs; clear hs; have hs := h0; clear h0
    rw [List.append_nil] at hs
    obtain ⟨k, r, rfl, h0⟩ := s1R_e hs; clear hs; have hs := h0; clear h0
    obtain ⟨h3, h0⟩ := onB_e hs; clear hs; have hs := h0; clear h0
    obtain ⟨Q', hcat, hnf9, hM, hq⟩ := callK_e hs
    refine T_callV (c0 := 0) he ha hl hm ?_ hcat (Nat.le_add_right _ _) hnf9 hM (fun r' σ' q1 q2 => hK _ _ _ _ (hq r' σ' q1 q2).2)
    unfold recv at h3
    cases hb4 : Nat.blt k 1000 with
    | true =>
      rw [hb4] at h3
      exact rc_o ha h3 (Nat.le_of_ble_eq_true hb4)
    | false =>
      rw [hb4] at h3
      have h4 := (Bool.and_eq_true _ _).mp h3
      have h5 := (Bool.and_eq_true _ _).mp h4.2
      have h6 := Nat.le_of_ble_eq_true h5.1
      obtain ⟨j, rfl⟩ : ∃ j, k = 2000 + j := ⟨k - 2000, by omega⟩
      rw [show 2000 + j - 2000 = j by omega] at h5
      exact rc_s (Nat.le_of_ble_eq_true h5.2) (by rw [oc_ok a (by show a < 270; omega), Nat.eq_of_beq_eq_true h4.1]; rfl)
  | invokestatic _ =>
    dsimp only [stepF] at hs
    cases hb4 : Nat.beq a 998 with
    | true =>
      rw [hb4] at hs
      obtain rfl := Nat.eq_of_beq_eq_true hb4
      obtain ⟨cl, r1, rfl, h0⟩ := s1I_e hs; clear hs; have hs := h0; clear h0
      obtain ⟨dp, r2, rfl, h0⟩ := s1I_e hs; clear hs; have hs := h0; clear h0
      obtain ⟨d, r3, rfl, h0⟩ := s1R_e hs; clear hs; have hs := h0; clear h0
      obtain ⟨sp, r4, rfl, h0⟩ := s1I_e hs; clear hs; have hs := h0; clear h0
      obtain ⟨x, r, rfl, h0⟩ := s1R_e hs; clear hs; have hs := h0; clear h0
      obtain ⟨h1, h0⟩ := onB_e hs; clear hs; have hs := h0; clear h0
      have h2 := (Bool.and_eq_true _ _).mp h1
      exact T_acopy he hs.1 (Nat.le_of_ble_eq_true h2.1) h2.2 hs.2.1 (hK _ _ _ _ hs.2.2)
    | false =>
      rw [hb4] at hs
      obtain ⟨h1, h0⟩ := onB_e hs; clear hs; have hs := h0; clear h0
      have h2 := (Bool.and_eq_true _ _).mp h1
      have ha := Nat.le_of_ble_eq_true h2.1
      have hm := Nat.eq_of_beq_eq_true h2.2
      obtain ⟨av, st', hl, rfl, h0⟩ := popA_e hs; clear hs; have hs := h0; clear h0
      rw [List.append_nil] at hs
      obtain ⟨Q', hcat, hnf9, hM, hq⟩ := callK_e hs
      exact T_callS he ha hl hm hcat (Nat.le_add_right _ _) hnf9 hM (fun r' σ' q1 q2 => hK _ _ _ _ (hq r' σ' q1 q2).2)
  | invokespecial _ =>
    dsimp only [stepF] at hs
    cases hb4 : Nat.beq a 999 with
    | true =>
      rw [hb4] at hs
      obtain rfl := Nat.eq_of_beq_eq_true hb4
      obtain ⟨k, r, rfl, h0⟩ := s1R_e hs; clear hs; have hs := h0; clear h0
      obtain ⟨h1, h0⟩ := onB_e hs; clear hs; have hs := h0; clear h0
      have h2 := (Bool.and_eq_true _ _).mp h1
      exact T_oinit he (Nat.le_of_ble_eq_true h2.1) hs.1 (Nat.le_of_ble_eq_true h2.2) (hK _ _ _ _ hs.2)
    | false =>
      rw [hb4] at hs
      obtain ⟨h1, h0⟩ := onB_e hs; clear hs; have hs := h0; clear h0
      have h2 := (Bool.and_eq_true _ _).mp h1
      have ha := Nat.le_of_ble_eq_true h2.1
      have hm := Nat.eq_of_beq_eq_true h2.2
      obtain ⟨av, st', hl, rfl, h0⟩ := popA_e hs; clear hs; have hs := h0; clear h0
      rw [List.append_nil] at hs
      obtain ⟨k, r, rfl, h0⟩ := s1R_e hs; clear hs; have hs := h0; clear h0
      obtain ⟨h3, h0⟩ := onB_e hs; clear hs; have hs := h0; clear h0
      obtain ⟨Q', hcat, hnf9, hM, hq⟩ := callK_e hs
      exact T_callI (c0 := 0) he ha hl hm (Nat.le_of_ble_eq_true h3) hcat (Nat.le_add_right _ _) hnf9 hM (fun r' σ' q1 q2 => hK _ _ _ _ (hq r' σ' q1 q2).2)
  | new _ =>
    obtain ⟨h1, h0⟩ := onB_e hs; clear hs; have hs := h0; clear h0
    have h2 := (Bool.and_eq_true _ _).mp h1
    exact T_new he (Nat.le_of_ble_eq_true h2.1) (Nat.eq_of_beq_eq_true h2.2) (hK _ _ _ _ hs)
  | newarray t =>
    obtain ⟨x, r, rfl, h0⟩ := s1I_e hs; clear hs; have hs := h0; clear h0
    obtain ⟨h1, h0⟩ := onB_e hs; clear hs; have hs := h0; clear h0
    have h2 := (Bool.and_eq_true _ _).mp h1
    have h3 := (Bool.and_eq_true _ _).mp h2.2
    exact T_newa he (Nat.le_of_ble_eq_true h2.1) (Nat.eq_of_beq_eq_true h3.1) (of_decide_eq_true h3.2) (hK _ _ _ _ hs)
  | return_ =>
    obtain ⟨rfl, h0⟩ := nil0_e hs; clear hs; have hs := h0; clear h0
    obtain ⟨h1, h0⟩ := onB_e hs; clear hs; have hs := h0; clear h0
    have h2 := (Bool.and_eq_true _ _).mp h1
    exact T_ret he (Nat.eq_of_beq_eq_true h2.2) (Nat.eq_of_beq_eq_true h2.1) hs
  | ireturn =>
    obtain ⟨x, r, rfl, h0⟩ := s1I_e hs; clear hs; have hs := h0; clear h0
    obtain ⟨rfl, h0⟩ := nil0_e hs; clear hs; have hs := h0; clear h0
    obtain ⟨h1, h0⟩ := onB_e hs; clear hs; have hs := h0; clear h0
    have hnn := Nat.eq_of_beq_eq_true h1
    match hr : rt mi, hs with
    | 0, hs => exact False.elim hs
    | 1, hs => exact T_iret he hnn (Or.inl hr) hs
    | 2, hs => exact False.elim hs
    | 3, hs => exact False.elim hs
    | 4, hs => exact T_iret he hnn (Or.inr (Or.inl ⟨hr, hs.1⟩)) hs.2
    | 5, hs => exact T_iret he hnn (Or.inr (Or.inr (Or.inl ⟨hr, hs.1⟩))) hs.2
    | 6, hs => exact T_iret he hnn (Or.inr (Or.inr (Or.inr ⟨hr, hs.1⟩))) hs.2
    | c + 7, hs => exact False.elim hs
  | lreturn =>
    obtain ⟨x, r, rfl, h0⟩ := s1J_e hs; clear hs; have hs := h0; clear h0
    obtain ⟨rfl, h0⟩ := nil0_e hs; clear hs; have hs := h0; clear h0
    obtain ⟨h1, h0⟩ := onB_e hs; clear hs; have hs := h0; clear h0
    have h2 := (Bool.and_eq_true _ _).mp h1
    exact T_lret he (Nat.eq_of_beq_eq_true h2.2) (Nat.eq_of_beq_eq_true h2.1) hs
  | areturn =>
    obtain ⟨x, r, rfl, h0⟩ := s1R_e hs; clear hs; have hs := h0; clear h0
    obtain ⟨rfl, h0⟩ := nil0_e hs; clear hs; have hs := h0; clear h0
    obtain ⟨h1, h0⟩ := onB_e hs; clear hs; have hs := h0; clear h0
    have h2 := (Bool.and_eq_true _ _).mp h1
    exact T_aret he (Nat.eq_of_beq_eq_true h2.2) (Nat.eq_of_beq_eq_true h2.1) hs
  | _ => exact False.elim hs
def wpf (G : Ctx) (h mi nf : Nat) (code : List Ent) (cuts : List (Nat × List Bool)) (Q : MP) : Nat → Bool → Nat → List Ent → Nat → ML → List MV → MS → Prop
  | 0, _, _, _, _, _, _, _ => False
  | _ + 1, _, _, [], _, _, _, _ => False
  | f + 1, first, pc, (pc0, ins, len, a, b) :: r, n, ls, st, σ => onB (Nat.beq pc0 pc) (onC (cutAt cuts first pc) (fun ms => Tri G h mi nf n pc (maskL ms ls) st σ Q)
      (stepF G h mi nf Q ins pc a b n ls st σ (fun n ls st σ => wpf G h mi nf code cuts Q f false (pc + len) r n ls st σ) (fun t ls st σ => wpf G h mi nf code cuts Q f false t (seek t code) n ls st σ)))
def offOK (pc : Nat) : Instr → Bool
  | .ifCond _ off => decide (0 ≤ (pc : Int) + off)
  | .if_icmp _ off => decide (0 ≤ (pc : Int) + off)
  | _ => true
def chkE (mi : Nat) (q : Ent) : Bool := decide (decode (bM mi) q.1 = .ok (q.2.1, q.2.2.1)) && ((decide (insLen q.2.1 = 0) || decide (q.2.2.1 = insLen q.2.1)) && (chkL mi q.2.1 q.2.2.2.1 q.2.2.2.2 && offOK q.1 q.2.1))
def codeOK (mi : Nat) (code : List Ent) : Prop := mi < NM ∧ code.all (chkE mi) = true
theorem codeOK.at {mi : Nat} {code : List Ent} (h : codeOK mi code) {q : Ent} (hq : q ∈ code) : EOK mi q ∧ offOK q.1 q.2.1 = true := by
  have h1 := List.all_eq_true.mp h.2 q hq
  unfold chkE at h1
  simp only [Bool.and_eq_true, Bool.or_eq_true, decide_eq_true_eq] at h1
  exact ⟨⟨h.1, h1.1, h1.2.1, h1.2.2.1⟩, h1.2.2.2⟩
theorem seek_sub {t : Nat} {code : List Ent} {e : Ent} (h : e ∈ seek t code) : e ∈ code := by
  induction code with
  | nil => exact h
  | cons x r ih =>
    unfold seek at h
    cases hb : Nat.beq x.1 t with
    | true => rw [hb] at h; exact h
    | false => rw [hb] at h; exact List.mem_cons_of_mem _ (ih h)
theorem wpf_ok {G : Ctx} {h mi nf : Nat} {code : List Ent} {cuts : List (Nat × List Bool)} {Q : MP} (hc : codeOK mi code) : ∀ (f : Nat) (first : Bool) (pc : Nat) (rest : List Ent) (n : Nat) (ls : ML) (st : List MV) (σ : MS), (∀ e ∈ rest, e ∈ code) → wpf G h mi nf code cuts Q f first pc rest n ls st σ → Tri G h mi nf n pc ls st σ Q := by
  intro f
  induction f with
  | zero => intro first pc rest n ls st σ _ hw; exact False.elim hw
  | succ f ih =>
    intro first pc rest n ls st σ hr hw
    cases rest with
    | nil => exact False.elim hw
    | cons q r =>
      obtain ⟨pc0, ins, len, a, b⟩ := q
      have hw : onB (Nat.beq pc0 pc) (onC (cutAt cuts first pc) (fun ms => Tri G h mi nf n pc (maskL ms ls) st σ Q) (stepF G h mi nf Q ins pc a b n ls st σ (fun n ls st σ => wpf G h mi nf code cuts Q f false (pc + len) r n ls st σ) (fun t ls st σ => wpf G h mi nf code cuts Q f false t (seek t code) n ls st σ))) := hw
      obtain ⟨h1, hw⟩ := onB_e hw
      obtain rfl := Nat.eq_of_beq_eq_true h1
      obtain ⟨he, ho⟩ := hc.at (hr _ List.mem_cons_self)
      cases hcut : cutAt cuts first pc0 with
      | some ms =>
        rw [hcut] at hw
        exact Tri.mask ms hw
      | none =>
        rw [hcut] at hw
        refine stepF_ok he (fun off hi => ?_) (fun n ls st σ q => ih false _ r n ls st σ (fun e he => hr e (List.mem_cons_of_mem _ he)) q) (fun t ls st σ q => ih false t (seek t code) n ls st σ (fun e he => seek_sub he) q) hw
        obtain ⟨c, rfl | rfl⟩ := hi
        · have : 0 ≤ (pc0 : Int) + off := of_decide_eq_true ho
          exact ⟨((pc0 : Int) + off).toNat, by omega⟩
        · have : 0 ≤ (pc0 : Int) + off := of_decide_eq_true ho
          exact ⟨((pc0 : Int) + off).toNat, by omega⟩
/-- from a place of the code on -/
theorem wp_at {G : Ctx} {h mi nf n pc : Nat} {ls : ML} {st : List MV} {σ : MS} {Q : MP} {code : List Ent} (hc : codeOK mi code) (cuts : List (Nat × List Bool)) (f : Nat) (hw : wpf G h mi nf code cuts Q f true pc (seek pc code) n ls st σ) : Tri G h mi nf n pc ls st σ Q := wpf_ok hc f true pc (seek pc code) n ls st σ (fun _ h => seek_sub h) hw
