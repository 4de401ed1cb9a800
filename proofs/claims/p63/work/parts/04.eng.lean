/-! The abstract heap: what lies at an address (kind), its ints, its longs, its references, its length; and the heap's size. -/
abbrev MH : Type := Nat × (Nat → Nat) × (Nat → Nat → Int32) × (Nat → Nat → Int64) × (Nat → Nat → Nat) × (Nat → Nat)
def mZ (h : MH) : Nat := h.1
def mK (h : MH) (a : Nat) : Nat := h.2.1 a
def mI (h : MH) (a k : Nat) : Int32 := h.2.2.1 a k
def mJ (h : MH) (a k : Nat) : Int64 := h.2.2.2.1 a k
def mP (h : MH) (a k : Nat) : Nat := h.2.2.2.2.1 a k
def mL (h : MH) (a : Nat) : Nat := h.2.2.2.2.2 a
def sI (h : MH) (a k : Nat) (v : Int32) : MH := (h.1, h.2.1, fun b j => if b = a ∧ j = k then v else h.2.2.1 b j, h.2.2.2)
def sJ (h : MH) (a k : Nat) (v : Int64) : MH := (h.1, h.2.1, h.2.2.1, fun b j => if b = a ∧ j = k then v else h.2.2.2.1 b j, h.2.2.2.2)
def sP (h : MH) (a k : Nat) (v : Nat) : MH := (h.1, h.2.1, h.2.2.1, h.2.2.2.1, fun b j => if b = a ∧ j = k then v else h.2.2.2.2.1 b j, h.2.2.2.2.2)
/-- a whole row of ints at once -/
def sR (h : MH) (a : Nat) (f : Nat → Int32) : MH := (h.1, h.2.1, fun b j => if b = a then f j else h.2.2.1 b j, h.2.2.2)
def sZ (h : MH) (n : Nat) : MH := (n, h.2)
/-- a new thing at the heap's end -/
def sN (h : MH) (kd n : Nat) : MH := (h.1 + 1, fun b => if b = h.1 then kd else h.2.1 b, fun b j => if b = h.1 then 0 else h.2.2.1 b j, fun b j => if b = h.1 then 0 else h.2.2.2.1 b j, fun b j => if b = h.1 then 0 else h.2.2.2.2.1 b j, fun b => if b = h.1 then n else h.2.2.2.2.2 b)
/-- n new rows of k ints each, behind the row of them -/
def sM (h : MH) (n k : Nat) : MH := (h.1 + 1 + n, fun b => if b = h.1 then 15 else if h.1 < b ∧ b < h.1 + 1 + n then 11 else h.2.1 b, fun b j => if h.1 ≤ b ∧ b < h.1 + 1 + n then 0 else h.2.2.1 b j, h.2.2.2.1, fun b j => if b = h.1 then (if j < n then h.1 + 1 + j else 0) else h.2.2.2.2.1 b j, fun b => if b = h.1 then n else if h.1 < b ∧ b < h.1 + 1 + n then k else h.2.2.2.2.2 b)
def rv (p : Nat) : Value := if p = 0 then .null else .ref p
/-- is a field a reference -/
def isRf (t : FieldType) : Bool := match t with
  | .object _ => true
  | .array _ => true
  | _ => false
def eRef (c k : Nat) : Bool := isRf (eTy c k)
def fvE (c : Nat) (h : MH) (a k : Nat) : Value := if eRef c k = true then rv (mP h a k) else .int (mI h a k)
def aTy : Nat → FieldType := fun t => match t with
  | 0 => .int
  | 1 => .byte
  | 2 => .long
  | 3 => .object "PetriNet$Net"
  | _ => .array .int
def avE (t : Nat) (h : MH) (a j : Nat) : Value := match t with
  | 0 => .int (mI h a j)
  | 1 => .int (mI h a j)
  | 2 => .long (mJ h a j)
  | _ => rv (mP h a j)
/-- the String constants: the own class, the index, the text -/
def eS : List (Nat × Nat × String) := [(3, 54, "net"), (3, 105, "tokens"), (3, 107, "capacity"), (3, 109, "in"), (3, 111, "out"), (3, 113, "inhibit"), (3, 115, "fire"), (3, 117, "run"), (4, 299, "the value is out of its range"), (4, 292, "there is no such place"), (4, 126, "the place has more tokens"), (4, 295, "there is no such transition"), (4, 141, "the transition is not enabled"), (4, 297, "there is no such reachable marking"), (6, 126, "net "), (6, 140, "in "), (6, 145, " "), (6, 151, "out "), (6, 153, "tokens ")]
def sByt (t : String) : List Int32 := t.toList.map fun c => Int32.ofNat c.toNat
def lenS : List Nat := eS.map fun q => (sByt q.2.2).length
def bytS : List (List Int32) := eS.map fun q => sByt q.2.2
/-- launch, base, class numbers, slots, array classes, where the Strings lie and their bytes -/
abbrev CX : Type := Launch × Nat × (Nat → ClassId) × (Nat → Nat → Nat) × (Nat → ClassId) × (Nat → Nat) × (Nat → Nat) × Nat × Nat × Nat × (Nat → Int32)
def xz (x : CX) : Nat := x.2.1
def xA (x : CX) : Nat → Prop := fun q => x.2.1 ≤ q
def xC (x : CX) : Nat → ClassId := x.2.2.1
def xS (x : CX) : Nat → Nat → Nat := x.2.2.2.1
def xT (x : CX) : Nat → ClassId := x.2.2.2.2.1
def xK (x : CX) : Nat → Nat := x.2.2.2.2.2.1
def xV (x : CX) : Nat → Nat := x.2.2.2.2.2.2.1
/-- where Integer's row of digits lies; where the script lies, its length, its ints -/
def xD (x : CX) : Nat := x.2.2.2.2.2.2.2.1
def xB (x : CX) : Nat := x.2.2.2.2.2.2.2.2.1
def xN (x : CX) : Nat := x.2.2.2.2.2.2.2.2.2.1
def xF (x : CX) : Nat → Int32 := x.2.2.2.2.2.2.2.2.2.2
def dgT (j : Nat) : Int32 := nI (48 + j % 10)
/-- the real heap is as the abstract one says -/
def RP (x : CX) (h : MH) (H : Heap) : Prop := H.size = mZ h ∧ (∀ a, mK h a ≠ 0 → xz x ≤ a) ∧ (∀ a c, c < 7 → mK h a = c + 1 → t_OB a (xC x c) (eN c) (xS x c) H (fvE c h a)) ∧ (∀ a t, t < 5 → mK h a = t + 11 → H[a]? = some (arrV (xT x t) (mL h a) (avE t h a)))
def xAO (U : State) : Prop := (Cond.arrayOver (.array .int)).before #[] U = true
theorem xAO.moved {u U : State} (hvm : u.vm.Alike U.vm) (h : xAO u) : xAO U := by
  obtain ⟨comp, c, k, h1, h2, h3, h4, h5⟩ := arrayOverA_spec h
  obtain ⟨k', hk', he⟩ := hvm.2.2 _ _ h3
  have hi : (U.vm.classes.findIdx? fun (x : Class) => match x.kind with | .array component _ => component == comp | _ => false) = some c := by
    refine (va_idx_bare U.vm comp).symm.trans ?_
    first | rw [hvm.bare_eq] | rw [← hvm.bare_eq]
    exact (va_idx_bare u.vm comp).trans h2
  have hkind : k'.kind = .array comp (.array .int) := by rw [he]; exact h4
  have f1 : U.vm.findClass (FieldType.array .int).toString = some comp := by rw [hvm.findClass]; exact h1
  have f2 : U.vm.findClass ("[" ++ (FieldType.array .int).toString) = some c := by rw [hvm.findClass]; exact h5
  unfold xAO Cond.before Cond.holds
  simp only [Cond.value]
  rw [f1, Option.bind_some]
  refine (congrArg (fun o : Option Nat => (o.bind (fun c => (U.vm.classes[c]?).map fun (k : Class) => match k.kind with | .array _ ty => decide (ty = FieldType.array .int) && decide (U.vm.findClass ("[" ++ (FieldType.array .int).toString) = some c) | _ => false) == some true)) hi).trans ?_
  simp [hk', hkind, f2]
/-- words that the tables alone decide, but no good ones; classes that aren't one another's -/
def wNG : List Cond := [.castable "java/lang/IllegalArgumentException" "java/lang/IllegalArgumentException", .castable "java/lang/IndexOutOfBoundsException" "java/lang/IndexOutOfBoundsException", .castable "java/lang/IllegalStateException" "java/lang/IllegalStateException", .castable "java/util/NoSuchElementException" "java/util/NoSuchElementException", .declares ⟨"java/lang/RuntimeException", "<init>", "(Ljava/lang/String;)V"⟩, .declares ⟨"java/lang/Exception", "<init>", "(Ljava/lang/String;)V"⟩, .declares ⟨"java/lang/Throwable", "<init>", "(Ljava/lang/String;)V"⟩]
def ncP : List (String × String) := [("java/lang/IllegalArgumentException", "java/lang/IndexOutOfBoundsException"), ("java/lang/IllegalArgumentException", "java/lang/IllegalStateException"), ("java/lang/IllegalArgumentException", "java/util/NoSuchElementException"), ("java/lang/IndexOutOfBoundsException", "java/lang/IllegalArgumentException"), ("java/lang/IndexOutOfBoundsException", "java/lang/IllegalStateException"), ("java/lang/IndexOutOfBoundsException", "java/util/NoSuchElementException"), ("java/lang/IllegalStateException", "java/lang/IllegalArgumentException"), ("java/lang/IllegalStateException", "java/lang/IndexOutOfBoundsException"), ("java/lang/IllegalStateException", "java/util/NoSuchElementException"), ("java/util/NoSuchElementException", "java/lang/IllegalArgumentException"), ("java/util/NoSuchElementException", "java/lang/IndexOutOfBoundsException"), ("java/util/NoSuchElementException", "java/lang/IllegalStateException")]
/-- the String constants, each with its text (the same text in two constant pools is the same String: their addresses need not be apart) -/
def sS (x : CX) (U : State) (H : Heap) : Prop := ∀ i : Nat, i < 19 → va_O "java/lang/String" (xK x i) (xA x) U H ∧ va_OF "java/lang/String" "coder" "B" (.int 0) (xK x i) (xA x) U H ∧ va_OF "java/lang/String" "value" "[B" (.ref (xV x i)) (xK x i) (xA x) U H ∧ va_T .byte (xV x i) (lenS.getD i 0) (fun j => .int ((bytS.getD i []).getD j 0)) (xA x) U H
theorem sS.moved {x : CX} {u U : State} {H : Heap} (hvm : u.vm.Alike U.vm) (h : sS x u H) : sS x U H :=
  fun i hi => ⟨va_O.moved hvm (h i hi).1, va_OF.moved hvm (h i hi).2.1, va_OF.moved hvm (h i hi).2.2.1, va_T.moved hvm (h i hi).2.2.2⟩
theorem sS.kept {x : CX} {U : State} {H H1 : Heap} (h : sS x U H) (hq : ∀ a : Nat, a < H.size → ¬ xA x a → H1[a]? = H[a]?) : sS x U H1 :=
  fun i hi => ⟨(h i hi).1.kept hq, (h i hi).2.1.kept hq, (h i hi).2.2.1.kept hq, (h i hi).2.2.2.kept hq⟩
theorem sS.recv {x : CX} {s : State} {H : Heap} {locs : List Loc} {i : Nat} (hE : sS x s s.heap) (hi : i < 19) (hS : va_S (xA x) s.heap H locs) : ∃ cell : Cell, H[xK x i]? = some cell ∧ cell.vm.isStatics = false ∧ s.vm.findClass "java/lang/String" = some cell.cls := by
  obtain ⟨cell, h1, h2, h3, -⟩ := (hE i hi).1.kept hS.2.1
  exact ⟨cell, h1, h2, h3⟩
/-- what stays: classes, array classes, the statics that a throw looks at, the Strings -/
def GF (x : CX) (U : State) (H : Heap) : Prop :=
  (∀ c, c < 7 → u_Kn U (eR c) (eT c) (eN c) (xC x c) (xS x c)) ∧ (∀ t, t < 5 → ArrOfT U (xT x t) (aTy t) ∧ va_RA U (xT x t) (aTy t)) ∧
  vx_Zq Bundle.tN "UNASSIGNED_STACK" Bundle.steD (xA x) U H ∧ vx_Zq Bundle.tN "SUPPRESSED_SENTINEL" Bundle.listD (xA x) U H ∧
  (∀ i, i < 19 → vk_R (oR (eS.getD i (0, 0, "")).1) (eS.getD i (0, 0, "")).2.1 (eS.getD i (0, 0, "")).2.2 (xK x i) U) ∧
  sS x U H ∧
  va_Z "java/lang/String" "COMPACT_STRINGS" "Z" (.int 1) (xA x) U H ∧
  va_Zq "jdk/internal/util/Preconditions" "SIOOBE_FORMATTER" "Ljava/util/function/BiFunction;" (xA x) U H ∧
  (∃ kA : Class, U.vm.classes[xT x 4]? = some kA ∧ kA.kind = .array (xT x 0) (.array .int)) ∧ x.1.stackTraces = false ∧ xz x ≤ H.size ∧ (∀ w ∈ wNG, va_Nw w U) ∧ (∀ c ∈ ncP, va_Nc c.1 c.2 U) ∧ va_AO "PetriNet$Net" U ∧ xAO U ∧ (va_X (xB x) (xN x) (xF x) U H ∧ xB x < xz x ∧ xN x < 2 ^ 31) ∧ va_Z "java/lang/Integer" "DigitOnes" "[B" (.ref (xD x)) (xA x) U H ∧ va_T .byte (xD x) 100 (fun j => .int (dgT j)) (xA x) U H
def rmE (q : MS) : Room := { frames := q.2.2.2.2.2.2.1 + 1, cells := q.2.2.2.2.2.2.2.1, slots := q.2.2.2.2.2.2.2.2, locals := 40 * (q.2.2.2.2.2.2.1 + 1) }
def wsE (q : MS) : List Cond := .code q.1 q.2.1 q.2.2.1 q.2.2.2.1 :: WS
def QcE (x : CX) (post : Option Value → MH → Prop) : Array Value → State → Outcome → State → Prop := fun _ st oc t => (∃ (v : Option Value) (h' : MH), oc = .returned v ∧ post v h' ∧ RP x h' t.heap) ∧ va_F (xA x) st t
def XcE (x : CX) (xp : String → MH → Prop) : String → State → State → Prop := fun E st t => (∃ h' : MH, xp E h' ∧ RP x h' t.heap) ∧ va_F (xA x) st t
def PcE (x : CX) (as : List Value) (h : MH) : Array Value → State → Prop := fun v U => v = as.toArray ∧ RP x h U.heap ∧ GF x U U.heap
/-- A CONTRACT: called with as over h, q returns or throws, and the abstract heap is then as post or xp says -/
def CT (x : CX) (q : MS) (as : List Value) (h : MH) (post : Option Value → MH → Prop) (xp : String → MH → Prop) : Prop :=
  vx_Met x.1 q.1 (wsE q) (rmE q) (PcE x as h) (QcE x post) (XcE x xp) q.2.2.2.2.2.2.2.1 q.2.2.2.2.2.2.2.2 (xA x)
def wsW (q : MS) (hh : List (Nat × Nat × Nat × Nat)) : List Cond := Cond.codeWith q.1 q.2.1 q.2.2.1 q.2.2.2.1 hh :: WS
/-- a contract of a method with handlers -/
def CTW (x : CX) (q : MS) (hh : List (Nat × Nat × Nat × Nat)) (as : List Value) (h : MH) (post : Option Value → MH → Prop) (xp : String → MH → Prop) : Prop :=
  vx_Met x.1 q.1 (wsW q hh) (rmE q) (PcE x as h) (QcE x post) (XcE x xp) q.2.2.2.2.2.2.2.1 q.2.2.2.2.2.2.2.2 (xA x)
/-- a row of bytes that can be read: a String constant's, one of our own, the digits; a String and where its bytes lie; a row of ints: one of our own, the script -/
def BV (x : CX) (h : MH) (v n : Nat) (f : Nat → Int32) : Prop := (∃ i, i < 19 ∧ v = xV x i ∧ n = lenS.getD i 0 ∧ f = fun j => (bytS.getD i []).getD j 0) ∨ (mK h v = 12 ∧ n = mL h v ∧ f = mI h v) ∨ (v = xD x ∧ n = 100 ∧ f = dgT)
def SV (x : CX) (h : MH) (a v : Nat) : Prop := (∃ i, i < 19 ∧ a = xK x i ∧ v = xV x i) ∨ (mK h a = 7 ∧ mI h a 1 = 0 ∧ v = mP h a 0 ∧ v ≠ 0)
def IV (x : CX) (h : MH) (v n : Nat) (f : Nat → Int32) : Prop := (mK h v = 11 ∧ n = mL h v ∧ f = mI h v) ∨ (v = xB x ∧ n = xN x ∧ f = xF x)
def pI (p : Int32 → MH → Prop) : Option Value → MH → Prop := fun v h => ∃ r, v = some (.int r) ∧ p r h
def pJ (p : Int64 → MH → Prop) : Option Value → MH → Prop := fun v h => ∃ r, v = some (.long r) ∧ p r h
def pR (p : Nat → MH → Prop) : Option Value → MH → Prop := fun v h => ∃ r, v = some (.ref r) ∧ p r h
def pV (p : MH → Prop) : Option Value → MH → Prop := fun v h => v = none ∧ p h
def xNo : String → MH → Prop := fun _ _ => False
/-- the locals: a list, .null where nothing is known -/
def nthV : List Value → Nat → Value
  | [], _ => .null
  | v :: _, 0 => v
  | _ :: t, n + 1 => nthV t n
def setV : List Value → Nat → Value → List Value
  | [], _, _ => []
  | _ :: t, 0, v => v :: t
  | w :: t, n + 1, v => w :: setV t n v
def lvF : List Value → Nat → List (Nat × Value)
  | [], _ => []
  | v :: t, k => if v = .null then lvF t (k + 1) else (k, v) :: lvF t (k + 1)
def LR (ls : Array Slot) (n : Nat) (L : List Value) : Prop := lv_has ls n (lvF L 0) ∧ L.length = n
/-- the body's facts -/
def BD (x : CX) (q : MS) (o : Nat) (p : Program) (s : State) (m : MethodId) (args : Array Value) (meth : Method) (c : Code) : Prop :=
  p.tables.exec = Jvm.exec ∧ c.code = q.2.1 ∧ c.maxLocals = q.2.2.1 ∧ meth.sig.returnType = q.2.2.2.1 ∧ (∀ w ∈ WS, w.before args s = true) ∧ s.vm.findClass (oR o) = some m.cls ∧ meth.locks = false ∧ meth.name = q.1.name ∧ (∀ y ∈ c.exceptionTable.toList, False) ∧ GF x s s.heap
/-- in q's body (of own class o), at pc with locals L, stack st, abstract heap h and the budget b left: it comes to its end as post and xp say -/
def MW (x : CX) (q : MS) (o : Nat) (post : Option Value → MH → Prop) (xp : String → MH → Prop) (pc : Nat) (b : Nat × Nat) (L st : List Value) (h : MH) : Prop :=
  ∀ (p : Program) (e : Env) (s : State) (m : MethodId) (args : Array Value) (below : List Frame) (meth : Method) (c : Code) (H : Heap) (locs : List Loc) (cells slots : Nat) (ls : Array Slot),
    BD x q o p s m args meth c → RP x h H → va_S (xA x) s.heap H locs → LR ls q.2.2.1 L → cells + b.1 ≤ q.2.2.2.2.2.2.2.1 → slots + b.2 ≤ q.2.2.2.2.2.2.2.2 →
    W p x.1 e (rmE q) s m args below meth c H locs cells slots (vx_MQ below (QcE x post) (XcE x xp) args s q.2.2.2.2.2.2.2.1 q.2.2.2.2.2.2.2.2 (xA x)) (F0 m pc ls st)
/-- .. with something thrown over it -/
def asI (v : Value) (k : Int32 → Prop) : Prop := match v with
  | .int i => k i
  | _ => False
def asJ (v : Value) (k : Int64 → Prop) : Prop := match v with
  | .long i => k i
  | _ => False
def asR (v : Value) (k : Nat → Prop) : Prop := match v with
  | .ref i => k i
  | _ => False
def asD (v : Value) (k : UInt64 → Prop) : Prop := match v with
  | .double i => k i
  | _ => False
def asF (v : Value) (k : UInt32 → Prop) : Prop := match v with
  | .float i => k i
  | _ => False
def pop1 (st : List Value) (k : Value → List Value → Prop) : Prop := match st with
  | v :: r => k v r
  | [] => False
def popI (st : List Value) (k : Int32 → List Value → Prop) : Prop := match st with
  | .int i :: r => k i r
  | _ => False
def popJ (st : List Value) (k : Int64 → List Value → Prop) : Prop := match st with
  | .long i :: r => k i r
  | _ => False
def popR (st : List Value) (k : Nat → List Value → Prop) : Prop := match st with
  | .ref i :: r => k i r
  | _ => False
def popD (st : List Value) (k : UInt64 → List Value → Prop) : Prop := match st with
  | .double i :: r => k i r
  | _ => False
def popF (st : List Value) (k : UInt32 → List Value → Prop) : Prop := match st with
  | .float i :: r => k i r
  | _ => False
def popA : Nat → List Value → List Value → (List Value → List Value → Prop) → Prop
  | 0, st, acc, k => k acc st
  | n + 1, v :: st, acc, k => popA n st (v :: acc) k
  | _ + 1, [], _, _ => False
/-- before a store at k: the local ahead of it is no long -/
def okSt (L : List Value) (k : Nat) : Prop := match k with
  | 0 => True
  | j + 1 => (nthV L j).category = 1
def cI (n : Int) : Int32 := Int32.ofInt n
def cL (n : Fin 2) : Int64 := Int64.ofNat (n : Nat)
/-- which member of the JDK a call is of: 1 Math.max, 2 Math.min, 3 System.arraycopy, 4 Object's constructor -/
def spL : List ((Nat × Nat) × Nat) := [((0, 3), 4), ((1, 3), 4), ((1, 29), 2), ((2, 3), 4), ((2, 37), 3), ((3, 3), 4), ((3, 128), 1), ((4, 3), 4), ((6, 195), 1), ((6, 239), 2), ((8, 1), 4), ((8, 212), 5), ((11, 3), 4), ((11, 138), 2), ((12, 150), 5), ((12, 304), 2), ((13, 194), 1)]
def spT (o k : Nat) : Nat := ((spL.find? fun q => q.1.1 == o && q.1.2 == k).map Prod.snd).getD 0
/-- ints of constant pools -/
def kIL : List ((Nat × Nat) × Int) := [((11, 38), 2147483631), ((11, 39), 2147483647), ((13, 200), 2147483639), ((6, 138), 2147483647), ((7, 265), 1431655765), ((7, 266), 858993459), ((7, 267), 252645135)]
def kIT (o k : Nat) : Option Int := (kIL.find? fun q => q.1.1 == o && q.1.2 == k).map Prod.snd
def sIx (o k : Nat) : Nat := eS.findIdx fun q => q.1 == o && q.2.1 == k
def hL_setTokens : List (Nat × Nat × Nat × Nat) := [(0, 6, 7, 24), (0, 6, 12, 26)]
def hL_setCapacity : List (Nat × Nat × Nat × Nat) := [(0, 6, 7, 24), (0, 6, 12, 26), (0, 6, 17, 31)]
def hL_setInput : List (Nat × Nat × Nat × Nat) := [(0, 7, 8, 24), (0, 7, 14, 26)]
def hL_setOutput : List (Nat × Nat × Nat × Nat) := [(0, 7, 8, 24), (0, 7, 14, 26)]
def hL_setInhibitor : List (Nat × Nat × Nat × Nat) := [(0, 7, 8, 24), (0, 7, 14, 26)]
def hL_fire : List (Nat × Nat × Nat × Nat) := [(0, 5, 6, 24), (0, 5, 11, 31)]
def hL_run : List (Nat × Nat × Nat × Nat) := [(0, 5, 6, 26)]
def hL_moveToMarking : List (Nat × Nat × Nat × Nat) := [(0, 5, 6, 53)]
def hL_tokens : List (Nat × Nat × Nat × Nat) := [(0, 5, 6, 24)]
def hL_capacity : List (Nat × Nat × Nat × Nat) := [(0, 5, 6, 24)]
def hL_whyNotEnabled : List (Nat × Nat × Nat × Nat) := [(0, 5, 6, 24)]
def hL_blockingPlace : List (Nat × Nat × Nat × Nat) := [(0, 5, 6, 24)]
def hL_firesInRow : List (Nat × Nat × Nat × Nat) := [(0, 5, 6, 24)]
def hL_firings : List (Nat × Nat × Nat × Nat) := [(0, 5, 6, 24)]
def hL_effect : List (Nat × Nat × Nat × Nat) := [(0, 6, 7, 24)]
def hL_markingTokens : List (Nat × Nat × Nat × Nat) := [(0, 6, 7, 24), (0, 6, 12, 53)]
def hL_markingDistance : List (Nat × Nat × Nat × Nat) := [(0, 5, 6, 53)]
def hL_markingTransition : List (Nat × Nat × Nat × Nat) := [(0, 5, 6, 53)]
/-- the law's methods that catch; the class's and the JDK's methods called by super; those found in a class below -/
def wL : List (Nat × MS × List (Nat × Nat × Nat × Nat)) := [(175, sL_setTokens, hL_setTokens), (178, sL_setCapacity, hL_setCapacity), (180, sL_setInput, hL_setInput), (183, sL_setOutput, hL_setOutput), (185, sL_setInhibitor, hL_setInhibitor), (187, sL_fire, hL_fire), (190, sL_run, hL_run), (198, sL_moveToMarking, hL_moveToMarking), (206, sL_tokens, hL_tokens), (208, sL_capacity, hL_capacity), (210, sL_whyNotEnabled, hL_whyNotEnabled), (212, sL_blockingPlace, hL_blockingPlace), (214, sL_firesInRow, hL_firesInRow), (229, sL_firings, hL_firings), (234, sL_effect, hL_effect), (244, sL_markingTokens, hL_markingTokens), (246, sL_markingDistance, hL_markingDistance), (248, sL_markingTransition, hL_markingTransition)]
def sL : List (Nat × MS) := [(29, sJ5_append_cf1ce), (50, sJ5_append_3fe6f), (53, sJ5_append_c97b9), (329, sJ5_charAt_5068e), (343, sJ5_length_8abf5)]
def uE : Nat → MS × MethodName × String := fun j => match j with
  | 0 => (sJ4_append_cf1ce, ⟨"java/lang/AbstractStringBuilder", "append", "(Ljava/lang/String;)Ljava/lang/AbstractStringBuilder;"⟩, "java/lang/AbstractStringBuilder")
  | _ => (sJ4_length_8abf5, ⟨"java/lang/AbstractStringBuilder", "length", "()I"⟩, "java/lang/AbstractStringBuilder")
def wT (o k : Nat) : Option (MS × List (Nat × Nat × Nat × Nat)) := if o = 6 then tfind wL k else none
def sT (o k : Nat) : Option MS := if o = 5 then tfind sL k else none
def uT (o k : Nat) : Option (MS × MethodName × String) := if o = 11 ∧ k = 43 then some (uE 0) else if o = 8 ∧ k = 549 then some (uE 1) else none
/-- an instruction in one form: locals by number, constants as numbers, jumps by their goals, the JDK's few members and the Strings as signs of their own -/
def canon (o pc : Nat) (i : Instr) : Instr := match i with
  | .iload_n k => .iload k.val
  | .lload_n k => .lload k.val
  | .fload_n k => .fload k.val
  | .dload_n k => .dload k.val
  | .aload_n k => .aload k.val
  | .istore_n k => .istore k.val
  | .lstore_n k => .lstore k.val
  | .dstore_n k => .dstore k.val
  | .astore_n k => .astore k.val
  | .iload k => .iload k
  | .lload k => .lload k
  | .aload k => .aload k
  | .istore k => .istore k
  | .lstore k => .lstore k
  | .astore k => .astore k
  | .iinc k n => .iinc k n
  | .iconst n => .iconst n
  | .bipush n => if (Int8.ofInt n).toInt32 = Int32.ofInt n then .iconst n else .nop
  | .sipush n => if (Int16.ofInt n).toInt32 = Int32.ofInt n then .iconst n else .nop
  | .ldc_w k => match kIT o k with
    | some n => .iconst n
    | none => if sIx o k < 19 then .ldc (sIx o k) else .nop
  | .lconst n => .lconst n
  | .ldc2_w k => .ldc2_w k
  | .ldc k => match kIT o k with
    | some n => .iconst n
    | none => if sIx o k < 19 then .ldc (sIx o k) else .nop
  | .iadd => .iadd
  | .isub => .isub
  | .imul => .imul
  | .idiv => .idiv
  | .irem => .irem
  | .iand => .iand
  | .ior => .ior
  | .ishl => .ishl
  | .ishr => .ishr
  | .iushr => .iushr
  | .ladd => .ladd
  | .lmul => .lmul
  | .lshl => .lshl
  | .lushr => .lushr
  | .lcmp => .lcmp
  | .i2l => .i2l
  | .l2i => .l2i
  | .i2b => .i2b
  | .i2c => .i2c
  | .i2d => .i2d
  | .i2f => .i2f
  | .ddiv => .ddiv
  | .fdiv => .fdiv
  | .dconst n => .dconst n
  | .fconst n => .fconst n
  | .dup => .dup
  | .dup_x1 => .dup_x1
  | .ineg => .ineg
  | .ixor => .ixor
  | .aconst_null => .aconst_null
  | .ifnonnull off => .ifnonnull ((pc : Int) + off)
  | .dup2 => .dup2
  | .pop => .pop
  | .goto off => .goto ((pc : Int) + off)
  | .if_icmp c off => .if_icmp c ((pc : Int) + off)
  | .ifCond c off => .ifCond c ((pc : Int) + off)
  | .tableswitch d lo hi offs => .tableswitch ((pc : Int) + d) lo hi (offs.map fun z => (pc : Int) + z)
  | .lookupswitch d ps => .lookupswitch ((pc : Int) + d) (ps.map fun z => (z.1, (pc : Int) + z.2))
  | .iaload => if o = 6 then .caload else .iaload
  | .baload => if o = 7 ∨ o = 9 ∨ o = 11 then .saload else .baload
  | .laload => .laload
  | .aaload => .aaload
  | .iastore => .iastore
  | .bastore => .bastore
  | .lastore => .lastore
  | .aastore => .aastore
  | .arraylength => if o = 6 then .d2i else if o = 8 ∨ o = 9 ∨ o = 11 ∨ o = 12 then .faload else .nop
  | .getfield k => if o = 8 then (if k = 9 then .jsr 0 else if k = 15 then .jsr 1 else .nop) else .getfield k
  | .putfield k => .putfield k
  | .getstatic k => if o = 8 then (if k = 38 then .iconst 1 else if k = 1053 then .getstatic k else .nop) else if o = 11 ∧ k = 18 then .iconst 1 else if o = 7 ∧ k = 83 then .d2f else .nop
  | .invokevirtual k => match uT o k with
    | some _ => .instanceof k
    | none => .invokevirtual k
  | .invokespecial k => if spT o k = 4 then .monitorenter else (match sT o k with
    | some _ => .checkcast k
    | none => .invokespecial k)
  | .invokestatic k => match spT o k with
    | 1 => .frem
    | 2 => .drem
    | 3 => .monitorexit
    | 5 => .castore
    | _ => match wT o k with
      | some _ => .invokedynamic k
      | none => .invokestatic k
  | .new k => .new k
  | .newarray t => .newarray t
  | .anewarray k => .anewarray k
  | .multianewarray k d => .multianewarray k d
  | .ireturn => .ireturn
  | .lreturn => .lreturn
  | .areturn => .areturn
  | .dreturn => .dreturn
  | .freturn => .freturn
  | .return_ => .return_
  | _ => .nop
/-- the throws of PetriNet: new, dup, ldc, invokespecial, athrow: the class, its entries for new and <init> -/
def xL : Nat → String × Nat × Nat := fun n => match n with
  | 0 => ("java/lang/IllegalArgumentException", 268, 272)
  | 1 => ("java/lang/IndexOutOfBoundsException", 290, 294)
  | 2 => ("java/lang/IllegalStateException", 124, 128)
  | _ => ("java/util/NoSuchElementException", 189, 193)
abbrev TB : Type := Nat → Option (Instr × Nat × Bool)
/-- an entry of a method's table is what stands in its code; a throw is one entry -/
def thr1 (cc : ByteArray) (pc n t : Nat) : Bool := decide (decode cc pc = .ok (.new (xL n).2.1, 3)) && decide (decode cc (pc + 3) = .ok (.dup, 1)) && decide (decode cc (pc + 4) = .ok (.ldc (eS.getD t (0, 0, "")).2.1, 2)) && decide (decode cc (pc + 6) = .ok (.invokespecial (xL n).2.2, 3)) && decide (decode cc (pc + 9) = .ok (.athrow, 1))
def thr2 (cc : ByteArray) (pc n t : Nat) : Bool := decide (decode cc pc = .ok (.new (xL n).2.1, 3)) && decide (decode cc (pc + 3) = .ok (.dup, 1)) && decide (decode cc (pc + 4) = .ok (.ldc_w (eS.getD t (0, 0, "")).2.1, 3)) && decide (decode cc (pc + 7) = .ok (.invokespecial (xL n).2.2, 3)) && decide (decode cc (pc + 10) = .ok (.athrow, 1))
/-- the lengths of the instructions -/
def lenB (i : Instr) (len : Nat) : Bool := match i with
  | .iload _ => len == 2
  | .lload _ => len == 2
  | .aload _ => len == 2
  | .istore _ => len == 2
  | .lstore _ => len == 2
  | .astore _ => len == 2
  | .bipush _ => len == 2
  | .ldc _ => len == 2
  | .newarray _ => len == 2
  | .sipush _ => len == 3
  | .goto _ => len == 3
  | .if_icmp _ _ => len == 3
  | .ifCond _ _ => len == 3
  | .ifnonnull _ => len == 3
  | .getfield _ => len == 3
  | .putfield _ => len == 3
  | .getstatic _ => len == 3
  | .invokevirtual _ => len == 3
  | .invokespecial _ => len == 3
  | .invokestatic _ => len == 3
  | .new _ => len == 3
  | .anewarray _ => len == 3
  | .iinc _ _ => len == 3
  | .ldc_w _ => len == 3
  | .ldc2_w _ => len == 3
  | .multianewarray _ _ => len == 4
  | .tableswitch _ _ _ _ => true
  | .lookupswitch _ ps => ((ps.toList.zip (ps.toList.drop 1)).all (fun (a, next) => a.1 < next.1))
  | _ => len == 1
def limB (i : Instr) (nL : Nat) : Bool := match i with
  | .istore k => decide (k < nL)
  | .astore k => decide (k < nL)
  | .iinc k _ => decide (k < nL)
  | .lstore k => decide (k + 1 < nL)
  | _ => true
/-- the goals of jumps aren't below 0 -/
def tgtB (i : Instr) : Bool := match i with
  | .goto t => decide (0 ≤ t)
  | .if_icmp _ t => decide (0 ≤ t)
  | .ifCond _ t => decide (0 ≤ t)
  | .ifnonnull t => decide (0 ≤ t)
  | .tableswitch d lo hi offs => decide (0 ≤ d) && offs.toList.all (fun t => decide (0 ≤ t)) && decide (hi = lo + offs.size - 1)
  | .lookupswitch d ps => decide (0 ≤ d) && ps.toList.all (fun t => decide (0 ≤ t.2))
  | _ => true
def dpB (i : Instr) (d : Nat) : Bool := match i with
  | .monitorenter => decide (0 < d)
  | .monitorexit => decide (0 < d)
  | .castore => decide (0 < d)
  | _ => true
def chkI (o : Nat) (cc : ByteArray) (nL d pc : Nat) (v : Instr × Nat × Bool) : Bool := match v.1 with
  | .invokeinterface n t => decide (n < 4) && decide (8 ≤ t) && decide (t < 14) && decide (o = 4) && decide (5 ≤ d) && (thr1 cc pc n t || thr2 cc pc n t)
  | j => match decode cc pc with
    | .ok (i0, len) => decide (canon o pc i0 = j) && decide (len = v.2.1) && lenB i0 len && limB j nL && tgtB j && dpB j d
    | .error _ => false
abbrev TL : Type := List (Nat × Instr × Nat × Bool)
def okT (o : Nat) (q : MS) (l : TL) : Prop := o < 15 ∧ ∀ v ∈ l, chkI o q.2.1 q.2.2.1 q.2.2.2.2.2.2.1 v.1 v.2 = true
theorem okT_of {o : Nat} {q : MS} {l : TL} (ho : o < 15) (h : l.all (fun v => chkI o q.2.1 q.2.2.1 q.2.2.2.2.2.2.1 v.1 v.2) = true) : okT o q l := ⟨ho, fun v hv => List.all_eq_true.mp h v hv⟩
/-- the classes that are made: own class, entry, class number -/
def cTL : List ((Nat × Nat) × Nat) := [((0, 31), 2), ((1, 9), 2), ((3, 19), 2), ((4, 17), 2), ((4, 30), 1), ((4, 37), 3), ((4, 44), 0), ((5, 18), 6), ((6, 20), 4), ((6, 124), 5)]
def cT (o k : Nat) : Option Nat := (cTL.find? fun q => q.1.1 == o && q.1.2 == k).map Prod.snd
