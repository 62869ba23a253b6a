/-! THE LOGIC over the machine: small values, a state of numbers, cells by their places, and a predicate 'Tri' at a frame. -/
abbrev MV : Type := Int ⊕ (BitVec 64 ⊕ Nat)
abbrev vi (x : Int) : MV := Sum.inl x
abbrev vl (x : BitVec 64) : MV := Sum.inr (Sum.inl x)
abbrev vr (x : Nat) : MV := Sum.inr (Sum.inr x)
/-- what all cells hold: whole numbers, longs, references, by cell and place -/
abbrev MS : Type := (Nat → Nat → Int) × (Nat → Nat → BitVec 64) × (Nat → Nat → Nat)
abbrev ML : Type := List (Option MV)
abbrev MP : Type := Option MV → MS → Prop
def u2 {α : Type} (f : Nat → Nat → α) (k j : Nat) (x : α) : Nat → Nat → α := fun a b => if a = k ∧ b = j then x else f a b
def u1 {α : Type} (f : Nat → Nat → α) (k : Nat) (g : Nat → α) : Nat → Nat → α := fun a b => if a = k then g b else f a b
abbrev sI (σ : MS) (k j : Nat) (x : Int) : MS := (u2 σ.1 k j x, σ.2)
abbrev sJ (σ : MS) (k j : Nat) (x : BitVec 64) : MS := (σ.1, u2 σ.2.1 k j x, σ.2.2)
abbrev sP (σ : MS) (k j : Nat) (x : Nat) : MS := (σ.1, σ.2.1, u2 σ.2.2 k j x)
/-- a cell that is new -/
abbrev sN (σ : MS) (k : Nat) : MS := (u1 σ.1 k (fun _ => 0), u1 σ.2.1 k (fun _ => 0), u1 σ.2.2 k (fun _ => 1000))
/-- a row copied: from src at sp to dst at dp, so many -/
abbrev sC (σ : MS) (src sp dst dp len : Nat) : MS := (u1 σ.1 dst (fun j => if dp ≤ j ∧ j < dp + len then σ.1 src (sp + (j - dp)) else σ.1 dst j), σ.2)
def inR (x : Int) : Prop := -2147483648 ≤ x ∧ x < 2147483648
def w32 (x : Int) : Int := x.bmod 4294967296
def w8 (x : Int) : Int := (Int32.ofInt x).toInt8.toInt
def i2c (x : Int) : Int := ((Int32.ofInt x).toUInt32 % 65536).toInt32.toInt
def iDiv (a b : Int) : Int := (Int32.ofInt a / Int32.ofInt b).toInt
def iRem (a b : Int) : Int := (Int32.ofInt a - Int32.ofInt a / Int32.ofInt b * Int32.ofInt b).toInt
def iAnd (a b : Int) : Int := (Int32.ofInt a &&& Int32.ofInt b).toInt
def iOr (a b : Int) : Int := (Int32.ofInt a ||| Int32.ofInt b).toInt
def iXor (a b : Int) : Int := (Int32.ofInt a ^^^ Int32.ofInt b).toInt
def iShl (a b : Int) : Int := (Int32.ofInt a <<< (Int32.ofInt b &&& 31)).toInt
def iShr (a b : Int) : Int := (Int32.ofInt a >>> (Int32.ofInt b &&& 31)).toInt
def iUsh (a b : Int) : Int := ((Int32.ofInt a).toUInt32 >>> ((Int32.ofInt b).toUInt32 &&& Int32.toUInt32 31)).toInt32.toInt
def lShl (a : BitVec 64) (b : Int) : BitVec 64 := (Int64.ofBitVec a <<< ((Int32.ofInt b).toInt64 &&& 63)).toBitVec
def lUsh (a : BitVec 64) (b : Int) : BitVec 64 := ((Int64.ofBitVec a).toUInt64 >>> ((Int32.ofInt b).toInt64.toUInt64 &&& Int64.toUInt64 63)).toInt64.toBitVec
def lDiv (a b : BitVec 64) : BitVec 64 := (Int64.ofBitVec a / Int64.ofBitVec b).toBitVec
def lCmp (a b : BitVec 64) : Int := (lg_cmp (Int64.ofBitVec a) (Int64.ofBitVec b)).toInt
def i2l (x : Int) : BitVec 64 := (Int32.ofInt x).toInt64.toBitVec
def l2i (x : BitVec 64) : Int := (Int64.ofBitVec x).toInt32.toInt
/-- the shapes of the cells: 0 int[], 1 long[], 2 byte[], 3 boolean[], 4 + c an object of class c; how long -/
def shT : List (Nat × Nat) := [(15, 13), (14, 9), (13, 7), (0, 60), (0, 60), (0, 60), (0, 144), (4, 8), (0, 720), (0, 120), (0, 120), (0, 120), (2, 960), (12, 4), (0, 400), (0, 32), (12, 4), (0, 400), (0, 32), (12, 4), (0, 400), (0, 32), (10, 3), (0, 24), (0, 24), (6, 6), (0, 5), (0, 6), (3, 20), (0, 24), (0, 7), (14, 9), (13, 7), (0, 60), (0, 60), (0, 60), (0, 144), (4, 8), (0, 720), (0, 120), (0, 120), (0, 120), (2, 960), (12, 4), (0, 400), (0, 32), (12, 4), (0, 400), (0, 32), (12, 4), (0, 400), (0, 32), (10, 3), (0, 24), (0, 24), (6, 6), (0, 5), (0, 6), (3, 20), (0, 24), (0, 7), (2, 400), (8, 10), (0, 400), (0, 401), (0, 401), (0, 401), (7, 5), (0, 7), (0, 9), (1, 224), (1, 224), (9, 14), (0, 120), (0, 120), (0, 120), (0, 120), (1, 120), (0, 120), (1, 240), (0, 120), (0, 120), (5, 3), (0, 10), (1, 3616), (11, 5), (1, 1563), (1, 1563), (0, 5), (0, 5), (0, 5), (16, 43), (0, 5120), (0, 5120), (0, 48), (0, 820), (0, 400), (0, 420), (0, 13), (0, 9), (0, 9), (0, 120), (0, 120), (0, 120), (0, 4), (0, 120), (0, 120), (3, 120), (3, 14400), (1, 3721), (0, 120), (0, 10), (1, 3616), (1, 3616), (3, 60), (0, 5), (3, 100000), (3, 100000), (0, 60)]
def sh (k : Nat) : Nat × Nat := shT.getD k (99, 0)
def NC : Nat := 119
/-- how many slots the first n cells have -/
def slT : List Nat := [0, 13, 22, 29, 89, 149, 209, 353, 361, 1081, 1201, 1321, 1441, 2401, 2405, 2805, 2837, 2841, 3241, 3273, 3277, 3677, 3709, 3712, 3736, 3760, 3766, 3771, 3777, 3797, 3821, 3828, 3837, 3844, 3904, 3964, 4024, 4168, 4176, 4896, 5016, 5136, 5256, 6216, 6220, 6620, 6652, 6656, 7056, 7088, 7092, 7492, 7524, 7527, 7551, 7575, 7581, 7586, 7592, 7612, 7636, 7643, 8043, 8053, 8453, 8854, 9255, 9656, 9661, 9668, 9677, 9901, 10125, 10139, 10259, 10379, 10499, 10619, 10739, 10859, 11099, 11219, 11339, 11342, 11352, 14968, 14973, 16536, 18099, 18104, 18109, 18114, 18157, 23277, 28397, 28445, 29265, 29665, 30085, 30098, 30107, 30116, 30236, 30356, 30476, 30480, 30600, 30720, 30840, 45240, 48961, 49081, 49091, 52707, 56323, 56383, 56388, 156388, 256388, 256448]
def slt (n : Nat) : Nat := slT.getD n 0
/-- kinds of the fields: 0 a number, 1 a reference, 2 a boolean -/
def fkT : List (List Nat) := [[0, 0, 0, 1, 1, 1, 1, 1], [1, 1, 1], [0, 0, 1, 1, 1, 1], [1, 1, 1, 1, 1], [0, 0, 0, 0, 1, 1, 1, 1, 0, 0], [0, 1, 1, 2, 1, 1, 1, 1, 1, 1, 0, 1, 1, 1], [0, 1, 1], [1, 1, 1, 1, 0], [0, 1, 0, 1], [0, 0, 0, 1, 1, 1, 1], [0, 1, 1, 1, 1, 1, 1, 1, 1], [1, 1, 2, 1, 0, 0, 0, 1, 1, 1, 1, 1, 1], [1, 1, 2, 1, 1, 1, 1, 1, 0, 0, 0, 0, 0, 0, 0, 0, 0, 0, 0, 0, 0, 1, 1, 1, 1, 1, 0, 1, 1, 1, 1, 1, 1, 1, 1, 0, 1, 1, 1, 1, 1, 1, 1]]
def fk (c j : Nat) : Nat := (fkT.getD c []).getD j 9
/-- the Strings: how long, their bytes; whose they are -/
def stO : List Nat := [4, 4, 4, 12, 12, 12, 12, 12, 12, 12, 12, 12, 12, 12, 12, 12, 12, 12, 12, 12, 12, 12]
def stI : List Nat := [43, 45, 74, 179, 181, 183, 185, 147, 153, 155, 157, 159, 161, 163, 164, 166, 168, 170, 172, 174, 175, 177]
def stX : List String := ["home away when or and not hour day street number kind", "like - when or and not letters first ages near days book house", ";+-*/()<=>", "when", "or", "and", "not", "like", "letters", "first", "ages", "near", "days", "book", "house", "home", "away", "hour", "day", "street", "number", "kind"]
def stN : List Nat := [53, 62, 10, 4, 2, 3, 3, 4, 7, 5, 4, 4, 4, 4, 5, 4, 4, 4, 3, 6, 6, 4]
def stB : List (List Int32) := [[104, 111, 109, 101, 32, 97, 119, 97, 121, 32, 119, 104, 101, 110, 32, 111, 114, 32, 97, 110, 100, 32, 110, 111, 116, 32, 104, 111, 117, 114, 32, 100, 97, 121, 32, 115, 116, 114, 101, 101, 116, 32, 110, 117, 109, 98, 101, 114, 32, 107, 105, 110, 100], [108, 105, 107, 101, 32, 45, 32, 119, 104, 101, 110, 32, 111, 114, 32, 97, 110, 100, 32, 110, 111, 116, 32, 108, 101, 116, 116, 101, 114, 115, 32, 102, 105, 114, 115, 116, 32, 97, 103, 101, 115, 32, 110, 101, 97, 114, 32, 100, 97, 121, 115, 32, 98, 111, 111, 107, 32, 104, 111, 117, 115, 101], [59, 43, 45, 42, 47, 40, 41, 60, 61, 62], [119, 104, 101, 110], [111, 114], [97, 110, 100], [110, 111, 116], [108, 105, 107, 101], [108, 101, 116, 116, 101, 114, 115], [102, 105, 114, 115, 116], [97, 103, 101, 115], [110, 101, 97, 114], [100, 97, 121, 115], [98, 111, 111, 107], [104, 111, 117, 115, 101], [104, 111, 109, 101], [97, 119, 97, 121], [104, 111, 117, 114], [100, 97, 121], [115, 116, 114, 101, 101, 116], [110, 117, 109, 98, 101, 114], [107, 105, 110, 100]]
abbrev Ctx : Type := Launch × (Nat → ClassId) × (Nat → Nat → Nat) × Nat × (Nat → ClassId) × (Nat → Nat) × (Nat → Nat) × Nat × Value × Nat × (Nat → Int32)
abbrev cL (G : Ctx) : Launch := G.1
abbrev cC (G : Ctx) : Nat → ClassId := G.2.1
abbrev cI (G : Ctx) : Nat → Nat → Nat := G.2.2.1
abbrev cB (G : Ctx) : Nat := G.2.2.2.1
abbrev cA (G : Ctx) : Nat → ClassId := G.2.2.2.2.1
abbrev cK (G : Ctx) : Nat → Nat := G.2.2.2.2.2.1
abbrev cV (G : Ctx) : Nat → Nat := G.2.2.2.2.2.2.1
abbrev cS (G : Ctx) : Nat := G.2.2.2.2.2.2.2.1
abbrev cF (G : Ctx) : Value := G.2.2.2.2.2.2.2.2.1
abbrev cNn (G : Ctx) : Nat := G.2.2.2.2.2.2.2.2.2.1
abbrev cX (G : Ctx) : Nat → Int32 := G.2.2.2.2.2.2.2.2.2.2
/-- a reference: below 1000 a cell; 1000 null; 2000 and on a String; 3000 and on its bytes; 4000 the script; else the formatter -/
def trR (G : Ctx) (r : Nat) : Value := if r < 1000 then .ref (cB G + r) else if r = 1000 then .null else if r < 3000 then .ref (cK G (r - 2000)) else if r < 4000 then .ref (cV G (r - 3000)) else if r = 4000 then .ref (cS G) else cF G
def trV (G : Ctx) : MV → Value
  | .inl x => .int (Int32.ofInt x)
  | .inr (.inl b) => .long (Int64.ofBitVec b)
  | .inr (.inr r) => trR G r
def okV : MV → Prop
  | .inl x => inR x
  | _ => True
def okC (t : Nat) (x : Int) : Prop := if t = 2 then -128 ≤ x ∧ x < 128 else if t = 3 then x = 0 ∨ x = 1 else inR x
def okS (σ : MS) : Prop := ∀ k j, okC (sh k).1 (σ.1 k j)
def fldV (G : Ctx) (σ : MS) (k c j : Nat) : Value := if fk c j = 1 then trR G (σ.2.2 k j) else .int (Int32.ofInt (σ.1 k j))
def flds (G : Ctx) (σ : MS) (k c : Nat) : List Value := (List.range (cN c)).map (fldV G σ k c)
def celE (G : Ctx) (σ : MS) (k : Nat) : va_E := if (sh k).1 = 1 then .inl (cA G 1, (sh k).2, .inr (.inl (fun j => Int64.ofBitVec (σ.2.1 k j)))) else if (sh k).1 < 4 then .inl (cA G (sh k).1, (sh k).2, .inl (fun j => Int32.ofInt (σ.1 k j))) else .inr ((sh k).1 - 4, flds G σ k ((sh k).1 - 4))
def wsO (G : Ctx) (n : Nat) (σ : MS) : va_W := (List.range n).map (fun k => (cB G + k, celE G σ k))
def AO (G : Ctx) : Nat → Prop := fun q => cB G ≤ q
def tyA (G : Ctx) : List (ClassId × FieldType) := [(cA G 0, .int), (cA G 1, .long), (cA G 2, .byte), (cA G 3, .boolean)]
/-- what the tables say, at a state -/
def KW (G : Ctx) (U : State) : Prop := va_K (cC G, cI G) vwCl (tyA G) U ∧ (∀ i, i < 22 → vk_R (RC (stO.getD i 0)) (stI.getD i 0) (stX.getD i "") (cK G i) U) ∧ (∀ q ∈ nlT, va_Nw (nlC q) U) ∧ (cF G = .null ∨ ∃ t, cF G = .ref t)
/-- what the heap holds that nobody writes -/
def HW (G : Ctx) (U : State) (H : Heap) : Prop := vk_S 22 stN stB (cK G) (cV G) (AO G) U H ∧ va_Z "java/lang/String" "COMPACT_STRINGS" "Z" (.int 1) (AO G) U H ∧ va_Z "jdk/internal/util/Preconditions" "SIOOBE_FORMATTER" "Ljava/util/function/BiFunction;" (cF G) (AO G) U H ∧ (va_X (cS G) (cNn G) (cX G) U H ∧ ¬ AO G (cS G) ∧ cNn G < 2147483648)
def aslF (G : Ctx) : Nat → ML → List (Nat × Value)
  | _, [] => []
  | i, none :: r => aslF G (i + 1) r
  | i, some v :: r => (i, trV G v) :: aslF G (i + 1) r
/-- a method's frame: what is fixed -/
def Fix (G : Ctx) (h mi nf n0 : Nat) (p : Program) (R : Room) (s : State) (m : MethodId) (args : Array Value) (meth : Method) (c : Code) : Prop :=
  p.tables.exec = Jvm.exec ∧ c.code = bM mi ∧ c.maxLocals = lM mi ∧ meth.sig.returnType = rM mi ∧ s.vm.findClass (RC (oc mi)) = some m.cls ∧ (∀ w ∈ lw_good, w.before args s = true) ∧ meth.locks = false ∧ meth.name = (yM mi).name ∧ KW G s ∧ HW G s s.heap ∧ s.heap.size = cB G + n0 ∧ n0 ≤ nf ∧ h ≤ R.frames ∧ 64 * h ≤ R.locals ∧ nf - n0 ≤ R.cells ∧ slt nf - slt n0 ≤ R.slots ∧ nf ≤ NC
/-- which answer a return instruction gives -/
def retI (mi pc : Nat) : Option MV → Prop
  | none => decode (bM mi) pc = .ok (.return_, 1) ∧ rM mi = none
  | some (.inl x) => decode (bM mi) pc = .ok (.ireturn, 1) ∧ ∃ ty, rM mi = some ty ∧ narrow ty (.int (Int32.ofInt x)) = .int (Int32.ofInt x)
  | some (.inr (.inl _)) => decode (bM mi) pc = .ok (.lreturn, 1) ∧ rM mi = some .long
  | some (.inr (.inr _)) => decode (bM mi) pc = .ok (.areturn, 1) ∧ ∃ C, rM mi = some (.object C)
def retS (G : Ctx) : Option MV → List Value
  | none => []
  | some v => [trV G v]
def RetOK (G : Ctx) (mi nf n0 : Nat) (p : Program) (e : Env) (R : Room) (s : State) (m : MethodId) (args : Array Value) (below : List Frame) (meth : Method) (c : Code) (Z : State → Prop) (Q : MP) : Prop :=
  ∀ (H : Heap) (locs : List Loc) (als : Array Slot) (σ : MS) (pc : Nat) (r : Option MV), retI mi pc r → va_P (cC G, cI G) vwCl (wsO G nf σ) H → va_S (AO G) s.heap H locs → okS σ → (∀ v, r = some v → okV v) → Q r σ →
    W p (cL G) e R s m args below meth c H locs (nf - n0) (slt nf - slt n0) Z (F0 m pc als (retS G r))
/-- from this frame, with this state, the method comes to its end, with Q of its answer and the state -/
def Tri (G : Ctx) (h mi nf n pc : Nat) (ls : ML) (st : List MV) (σ : MS) (Q : MP) : Prop :=
  ∀ (p : Program) (e : Env) (R : Room) (s : State) (m : MethodId) (args : Array Value) (below : List Frame) (meth : Method) (c : Code) (n0 : Nat) (Z : State → Prop) (H : Heap) (locs : List Loc) (als : Array Slot),
    Fix G h mi nf n0 p R s m args meth c → RetOK G mi nf n0 p e R s m args below meth c Z Q →
    n0 ≤ n → n ≤ nf → va_P (cC G, cI G) vwCl (wsO G n σ) H → va_S (AO G) s.heap H locs → okS σ → (∀ v ∈ st, okV v) → (∀ v, some v ∈ ls → okV v) → lv_has als (lM mi) (aslF G 0 ls) →
    W p (cL G) e R s m args below meth c H locs (n - n0) (slt n - slt n0) Z (F0 m pc als (st.map (trV G)))
def rmO (h mc ms : Nat) : Room := { frames := h, cells := mc, slots := ms, locals := 64 * h }
def PcO (G : Ctx) (n : Nat) (av : List MV) (σ : MS) : Array Value → State → Prop := fun v U => v = (av.map (trV G)).toArray ∧ U.heap.size = cB G + n ∧ va_P (cC G, cI G) vwCl (wsO G n σ) U.heap ∧ KW G U ∧ HW G U U.heap ∧ okS σ ∧ ∀ v ∈ av, okV v
def QcO (G : Ctx) (nf : Nat) (Q : MP) : Array Value → State → Outcome → State → Prop := fun _ st o t => (∃ (r : Option MV) (σ : MS), o = .returned (r.map (trV G)) ∧ (∀ v, r = some v → okV v) ∧ okS σ ∧ Q r σ ∧ va_P (cC G, cI G) vwCl (wsO G nf σ) t.heap) ∧ va_F (AO G) st t
/-- a call of method mi from a frame that has room for h more -/
def TriM (G : Ctx) (h mi n nf : Nat) (av : List MV) (σ : MS) (Q : MP) : Prop :=
  ∃ h', h' < h ∧ Met (cL G) (yM mi) (wM mi :: lw_good) (rmO h' (nf - n) (slt nf - slt n)) (PcO G n av σ) (QcO G nf Q) (nf - n) (slt nf - slt n) (AO G)
/-- an answer of a kind -/
def cI' (K : Int → MS → Prop) : MP := fun r σ => ∃ x, r = some (vi x) ∧ (inR x → K x σ)
def cJ' (K : BitVec 64 → MS → Prop) : MP := fun r σ => ∃ x, r = some (vl x) ∧ K x σ
def cR' (K : Nat → MS → Prop) : MP := fun r σ => ∃ x, r = some (vr x) ∧ K x σ
def cV' (K : MS → Prop) : MP := fun r σ => r = none ∧ K σ
/-! numbers -/
theorem inR_to (x : Int32) : inR x.toInt := ⟨x.le_toInt, x.toInt_lt⟩
theorem w32_eq {x : Int} (h : inR x) : w32 x = x := by unfold w32; unfold inR at h; exact Int.bmod_eq_of_le (by omega) (by omega)
theorem w32_in (x : Int) : inR (w32 x) := by
  unfold w32 inR
  have h1 := Int.le_bmod (x := x) (m := 4294967296) (by omega)
  have h2 := Int.bmod_lt (x := x) (m := 4294967296) (by omega)
  omega
theorem toI {x : Int} (h : inR x) : (Int32.ofInt x).toInt = x := by
  rw [Int32.toInt_ofInt]
  exact w32_eq h
theorem ofI_w32 (x : Int) : Int32.ofInt (w32 x) = Int32.ofInt x := by
  rw [← Int32.toInt_inj, toI (w32_in x), Int32.toInt_ofInt]; rfl
theorem okV_to (x : Int32) : okV (vi x.toInt) := inR_to x
