def cmpE (c : ClassFile.Cond) (x y : Int32) : Prop := match c with
  | .eq => x = y
  | .ne => ¬ x = y
  | .lt => x < y
  | .ge => y ≤ x
  | .gt => y < x
  | .le => x ≤ y
def swT : List Int → Int → Int32 → (Nat → Prop) → Prop
  | [], _, _, _ => True
  | t :: r, n, v, k => (v.toInt = n → k t.toNat) ∧ swT r (n + 1) v k
def swL : List (Int × Int) → Int → Int32 → (Nat → Prop) → Prop
  | [], d, _, k => k d.toNat
  | (a, t) :: r, d, v, k => (v.toInt = a → k t.toNat) ∧ (¬ v.toInt = a → swL r d v k)
/-- the words of a stack -/
def catS : List Value → Nat
  | [] => 0
  | v :: r => v.category + catS r
abbrev KT : Type := Nat → Nat × Nat → List Value → List Value → MH → Prop
/-- a call that answers an int, a long, a reference, nothing -/
def CALLI (x : CX) (q : MS) (as : List Value) (h : MH) (xk : String → MH → Prop) (k : Int32 → MH → Prop) : Prop := ∃ p xp, CT x q as h (pI p) xp ∧ (∀ E h', xp E h' → xk E h') ∧ ∀ r h', p r h' → k r h'
def CALLJ (x : CX) (q : MS) (as : List Value) (h : MH) (xk : String → MH → Prop) (k : Int64 → MH → Prop) : Prop := ∃ p xp, CT x q as h (pJ p) xp ∧ (∀ E h', xp E h' → xk E h') ∧ ∀ r h', p r h' → k r h'
def CALLR (x : CX) (q : MS) (as : List Value) (h : MH) (xk : String → MH → Prop) (k : Nat → MH → Prop) : Prop := ∃ p xp, CT x q as h (pR p) xp ∧ (∀ E h', xp E h' → xk E h') ∧ ∀ r h', p r h' → k r h'
def CALLV (x : CX) (q : MS) (as : List Value) (h : MH) (xk : String → MH → Prop) (k : MH → Prop) : Prop := ∃ p xp, CT x q as h (pV p) xp ∧ (∀ E h', xp E h' → xk E h') ∧ ∀ h', p h' → k h'
/-- the receiver is an object of class c (or a String constant, c = 8) -/
def rcvE (x : CX) (h : MH) (b c : Nat) : Prop := (c < 6 ∧ mK h b = c + 1) ∨ (c = 8 ∧ ((∃ i, i < 19 ∧ b = xK x i) ∨ mK h b = 7))
def msN (y : MS) : Nat := y.2.2.2.2.1
def msR (y : MS) : Nat := y.2.2.2.2.2.1
def msD (y : MS) : Nat := y.2.2.2.2.2.2.1
def isIn (y : MS) : Prop := y.1.name = "<init>"
def noV (y : MS) : Prop := y.1.name = "<init>" ∨ isSup y.1 = true
def callE (x : CX) (q y : MS) (as : List Value) (rest : List Value) (h : MH) (xk : String → MH → Prop) (b : Nat × Nat) (K : Nat × Nat → List Value → MH → Prop) : Prop :=
  catS rest ≤ 8 ∧ msD y < msD q ∧ y.2.2.1 ≤ 21 ∧ y.2.2.2.2.2.2.2.1 ≤ b.1 ∧ y.2.2.2.2.2.2.2.2 ≤ b.2 ∧ match y.2.2.2.1 with
  | none => CALLV x y as h xk fun h' => K (b.1 - y.2.2.2.2.2.2.2.1, b.2 - y.2.2.2.2.2.2.2.2) rest h'
  | some .long => CALLJ x y as h xk fun r h' => K (b.1 - y.2.2.2.2.2.2.2.1, b.2 - y.2.2.2.2.2.2.2.2) (.long r :: rest) h'
  | some (.object _) => CALLR x y as h xk fun r h' => K (b.1 - y.2.2.2.2.2.2.2.1, b.2 - y.2.2.2.2.2.2.2.2) (.ref r :: rest) h'
  | some (.array _) => CALLR x y as h xk fun r h' => K (b.1 - y.2.2.2.2.2.2.2.1, b.2 - y.2.2.2.2.2.2.2.2) (.ref r :: rest) h'
  | some .int => CALLI x y as h xk fun r h' => K (b.1 - y.2.2.2.2.2.2.2.1, b.2 - y.2.2.2.2.2.2.2.2) (.int r :: rest) h'
  | some .boolean => CALLI x y as h xk fun r h' => K (b.1 - y.2.2.2.2.2.2.2.1, b.2 - y.2.2.2.2.2.2.2.2) (.int r :: rest) h'
  | some .byte => CALLI x y as h xk fun r h' => K (b.1 - y.2.2.2.2.2.2.2.1, b.2 - y.2.2.2.2.2.2.2.2) (.int r :: rest) h'
  | some .char => CALLI x y as h xk fun r h' => K (b.1 - y.2.2.2.2.2.2.2.1, b.2 - y.2.2.2.2.2.2.2.2) (.int r :: rest) h'
  | some _ => False
/-- which kind of array -/
def arK (t : ArrayType) : Nat := match t with
  | .int => 11
  | .byte => 12
  | .long => 13
  | _ => 0
/-- ONE STEP: what has to hold so that the instruction leads on to K, or ends as post and xp say -/
def stepE (x : CX) (q : MS) (o : Nat) (post : Option Value → MH → Prop) (xp : String → MH → Prop) (i : Instr) (len pc : Nat) (b : Nat × Nat) (L st : List Value) (h : MH) (K : KT) : Prop := match i with
  | .iconst n => K (pc + len) b L (.int (cI n) :: st) h
  | .lconst n => K (pc + len) b L (.long (cL n) :: st) h
  | .ldc2_w k => o = 0 ∧ k = 84 ∧ K (pc + len) b L (.long (-7046029254386353131) :: st) h
  | .ldc t => K (pc + len) b L (.ref (xK x t) :: st) h
  | .iload k => asI (nthV L k) fun v => K (pc + len) b L (.int v :: st) h
  | .lload k => asJ (nthV L k) fun v => K (pc + len) b L (.long v :: st) h
  | .aload k => asR (nthV L k) fun v => K (pc + len) b L (.ref v :: st) h
  | .istore k => popI st fun v r => okSt L k ∧ K (pc + len) b (setV L k (.int v)) r h
  | .astore k => popR st fun v r => okSt L k ∧ K (pc + len) b (setV L k (.ref v)) r h
  | .lstore k => popJ st fun v r => okSt L k ∧ K (pc + len) b (setV (setV L k (.long v)) (k + 1) .null) r h
  | .iinc k n => asI (nthV L k) fun v => okSt L k ∧ K (pc + len) b (setV L k (.int (v + cI n))) st h
  | .iadd => popI st fun u r => popI r fun v r => K (pc + len) b L (.int (v + u) :: r) h
  | .isub => popI st fun u r => popI r fun v r => K (pc + len) b L (.int (v - u) :: r) h
  | .imul => popI st fun u r => popI r fun v r => K (pc + len) b L (.int (v * u) :: r) h
  | .idiv => popI st fun u r => popI r fun v r => ¬ u = 0 ∧ K (pc + len) b L (.int (v / u) :: r) h
  | .irem => popI st fun u r => popI r fun v r => ¬ u = 0 ∧ K (pc + len) b L (.int (v - v / u * u) :: r) h
  | .iand => popI st fun u r => popI r fun v r => K (pc + len) b L (.int (v &&& u) :: r) h
  | .ior => popI st fun u r => popI r fun v r => K (pc + len) b L (.int (v ||| u) :: r) h
  | .ishl => popI st fun u r => popI r fun v r => K (pc + len) b L (.int (v <<< (u &&& 31)) :: r) h
  | .ishr => popI st fun u r => popI r fun v r => K (pc + len) b L (.int (v >>> (u &&& 31)) :: r) h
  | .iushr => popI st fun u r => popI r fun v r => K (pc + len) b L (.int (v.toUInt32 >>> (u.toUInt32 &&& Int32.toUInt32 31)).toInt32 :: r) h
  | .ladd => popJ st fun u r => popJ r fun v r => K (pc + len) b L (.long (v + u) :: r) h
  | .lmul => popJ st fun u r => popJ r fun v r => K (pc + len) b L (.long (v * u) :: r) h
  | .lshl => popI st fun u r => popJ r fun v r => K (pc + len) b L (.long (v <<< (u.toInt64 &&& 63)) :: r) h
  | .lushr => popI st fun u r => popJ r fun v r => K (pc + len) b L (.long (v.toUInt64 >>> (u.toInt64.toUInt64 &&& Int64.toUInt64 63)).toInt64 :: r) h
  | .lcmp => popJ st fun u r => popJ r fun v r => K (pc + len) b L (.int (lg_cmp v u) :: r) h
  | .i2l => popI st fun v r => K (pc + len) b L (.long v.toInt64 :: r) h
  | .l2i => popJ st fun v r => K (pc + len) b L (.int v.toInt32 :: r) h
  | .i2b => popI st fun v r => K (pc + len) b L (.int v.toInt8.toInt32 :: r) h
  | .i2c => popI st fun v r => K (pc + len) b L (.int (v.toUInt32 % 65536).toInt32 :: r) h
  | .i2d => popI st fun v r => K (pc + len) b L (.double (FP.i2d v) :: r) h
  | .i2f => popI st fun v r => K (pc + len) b L (.float (FP.i2f v) :: r) h
  | .dconst n => n = 0 ∧ K (pc + len) b L (.double FP.dconst0 :: st) h
  | .fconst n => n = 0 ∧ K (pc + len) b L (.float FP.fconst0 :: st) h
  | .ddiv => popD st fun u r => popD r fun v r => vf_n64 (FP.ddiv v u) ∧ K (pc + len) b L (.double (FP.ddiv v u) :: r) h
  | .fdiv => popF st fun u r => popF r fun v r => vf_n32 (FP.fdiv v u) ∧ K (pc + len) b L (.float (FP.fdiv v u) :: r) h
  | .dup => pop1 st fun v r => v.category = 1 ∧ K (pc + len) b L (v :: v :: r) h
  | .dup2 => pop1 st fun v r => pop1 r fun w r => v.category = 1 ∧ w.category = 1 ∧ K (pc + len) b L (v :: w :: v :: w :: r) h
  | .pop => pop1 st fun v r => v.category = 1 ∧ K (pc + len) b L r h
  | .goto t => K t.toNat b L st h
  | .if_icmp c t => popI st fun u r => popI r fun v r => (cmpE c v u → K t.toNat b L r h) ∧ (¬ cmpE c v u → K (pc + len) b L r h)
  | .ifCond c t => popI st fun v r => (cmpE c v 0 → K t.toNat b L r h) ∧ (¬ cmpE c v 0 → K (pc + len) b L r h)
  | .tableswitch d lo hi offs => popI st fun v r => (v.toInt < lo ∨ hi < v.toInt → K d.toNat b L r h) ∧ swT offs.toList lo v fun t => K t b L r h
  | .lookupswitch d ps => popI st fun v r => swL ps.toList d v fun t => K t b L r h
  | .iaload => popI st fun j r => popR r fun a r => mK h a = 11 ∧ vp_in j (mL h a) ∧ K (pc + len) b L (.int (mI h a j.toNatClampNeg) :: r) h
  | .baload => popI st fun j r => popR r fun a r => mK h a = 12 ∧ vp_in j (mL h a) ∧ K (pc + len) b L (.int (mI h a j.toNatClampNeg) :: r) h
  | .laload => popI st fun j r => popR r fun a r => mK h a = 13 ∧ vp_in j (mL h a) ∧ K (pc + len) b L (.long (mJ h a j.toNatClampNeg) :: r) h
  | .aaload => popI st fun j r => popR r fun a r => (mK h a = 14 ∨ mK h a = 15) ∧ vp_in j (mL h a) ∧ mP h a j.toNatClampNeg ≠ 0 ∧ K (pc + len) b L (.ref (mP h a j.toNatClampNeg) :: r) h
  | .iastore => popI st fun v r => popI r fun j r => popR r fun a r => mK h a = 11 ∧ vp_in j (mL h a) ∧ K (pc + len) b L r (sI h a j.toNatClampNeg v)
  | .bastore => popI st fun v r => popI r fun j r => popR r fun a r => mK h a = 12 ∧ vp_in j (mL h a) ∧ K (pc + len) b L r (sI h a j.toNatClampNeg (vp_nar .byte v))
  | .lastore => popJ st fun v r => popI r fun j r => popR r fun a r => mK h a = 13 ∧ vp_in j (mL h a) ∧ K (pc + len) b L r (sJ h a j.toNatClampNeg v)
  | .aastore => popR st fun v r => popI r fun j r => popR r fun a r => (mK h a = 14 ∧ mK h v = 3 ∨ mK h a = 15 ∧ mK h v = 11) ∧ vp_in j (mL h a) ∧ v ≠ 0 ∧ K (pc + len) b L r (sP h a j.toNatClampNeg v)
  | .saload => popI st fun j r => popR r fun a r => ∃ n f, BV x h a n f ∧ vp_in j n ∧ n < 2 ^ 31 ∧ K (pc + len) b L (.int (f j.toNatClampNeg) :: r) h
  | .faload => popR st fun a r => ∃ n f, BV x h a n f ∧ K (pc + len) b L (.int (nI n) :: r) h
  | .jsr f => popR st fun a r => ∃ v, SV x h a v ∧ K (pc + len) b L ((if f = 0 then .ref v else .int 0) :: r) h
  | .caload => popI st fun j r => popR r fun a r => ∃ n f, IV x h a n f ∧ vp_in j n ∧ K (pc + len) b L (.int (f j.toNatClampNeg) :: r) h
  | .d2i => popR st fun a r => ∃ n f, IV x h a n f ∧ K (pc + len) b L (.int (nI n) :: r) h
  | .d2f => K (pc + len) b L (.ref (xD x) :: st) h
  | .ineg => popI st fun v r => K (pc + len) b L (.int (-v) :: r) h
  | .ixor => popI st fun u r => popI r fun v r => K (pc + len) b L (.int (v ^^^ u) :: r) h
  | .dup_x1 => pop1 st fun v r => pop1 r fun w r => v.category = 1 ∧ w.category = 1 ∧ K (pc + len) b L (v :: w :: v :: r) h
  | .aconst_null => K (pc + len) b L (.null :: st) h
  | .ifnonnull t => popR st fun _ r => K t.toNat b L r h
  | .castore => popI st fun n r => popI r fun dp r => popR r fun a r => popI r fun sp r => popR r fun s r => ∃ m f, catS r ≤ 8 ∧ BV x h s m f ∧ mK h a = 12 ∧ ¬ sp < 0 ∧ ¬ dp < 0 ∧ ¬ n < 0 ∧ sp.toNatClampNeg + n.toNatClampNeg ≤ m ∧ dp.toNatClampNeg + n.toNatClampNeg ≤ mL h a ∧ (∀ j, j < n.toNatClampNeg → fits .byte (.int (f (sp.toNatClampNeg + j))) = true) ∧ K (pc + len) b L r (sR h a (va_cpy f (mI h a) sp.toNatClampNeg dp.toNatClampNeg n.toNatClampNeg))
  | .invokedynamic k => match wT o k with
    | some (y, hh) => popA (msN y) st [] fun as r => catS r ≤ 8 ∧ msD y < msD q ∧ y.2.2.1 ≤ 21 ∧ y.2.2.2.2.2.2.2.1 ≤ b.1 ∧ y.2.2.2.2.2.2.2.2 ≤ b.2 ∧ ∃ p, CTW x y hh as h (pI p) xNo ∧ ∀ r' h', p r' h' → K (pc + len) (b.1 - y.2.2.2.2.2.2.2.1, b.2 - y.2.2.2.2.2.2.2.2) L (.int r' :: r) h'
    | none => False
  | .instanceof k => match uT o k with
    | some (y, _, _) => popA (msN y + 1) st [] fun as r => match as with
      | .ref a :: _ => mK h a = 6 ∧ callE x q y as r h xp b fun b' st' h' => K (pc + len) b' L st' h'
      | _ => False
    | none => False
  | .checkcast k => match sT o k with
    | some y => popA (msN y + 1) st [] fun as r => match as with
      | .ref a :: _ => mK h a = 6 ∧ callE x q y as r h xp b fun b' st' h' => K (pc + len) b' L st' h'
      | _ => False
    | none => False
  | .getstatic _ => ∀ v : Value, v.isRef = true → K (pc + len) b L (v :: st) h
  | .getfield k => match fT o k with
    | some (c, j) => popR st fun a r => mK h a = c + 1 ∧ (match eRef c j with
      | true => mP h a j ≠ 0 ∧ K (pc + len) b L (.ref (mP h a j) :: r) h
      | false => K (pc + len) b L (.int (mI h a j) :: r) h)
    | none => False
  | .putfield k => match fT o k with
    | some (c, j) => pop1 st fun v r => popR r fun a r => mK h a = c + 1 ∧ ((eT c j).2.2.2 = true → q.1.name = "<init>" ∧ oR o = eR c) ∧ (match eRef c j with
      | true => asR v fun u => u ≠ 0 ∧ K (pc + len) b L r (sP h a j u)
      | false => asI v fun u => (eTy c j = .boolean → u = 0 ∨ u = 1) ∧ (eTy c j = .byte → u = 0) ∧ K (pc + len) b L r (sI h a j u))
    | none => False
  | .frem => popI st fun u r => popI r fun v r => catS r ≤ 8 ∧ K (pc + len) b L (.int (if v < u then u else v) :: r) h
  | .drem => popI st fun u r => popI r fun v r => catS r ≤ 8 ∧ K (pc + len) b L (.int (if u < v then u else v) :: r) h
  | .monitorexit => popI st fun n r => popI r fun dp r => popR r fun a r => popI r fun sp r => popR r fun s r => catS r ≤ 8 ∧ mK h s = 11 ∧ mK h a = 11 ∧ ¬ sp < 0 ∧ ¬ dp < 0 ∧ ¬ n < 0 ∧ sp.toNatClampNeg + n.toNatClampNeg ≤ mL h s ∧ dp.toNatClampNeg + n.toNatClampNeg ≤ mL h a ∧ s ≠ a ∧ K (pc + len) b L r (sR h a (va_cpy (mI h s) (mI h a) sp.toNatClampNeg dp.toNatClampNeg n.toNatClampNeg))
  | .monitorenter => popR st fun _ r => catS r ≤ 8 ∧ K (pc + len) b L r h
  | .invokevirtual k => match mT o k with
    | some y => popA (msN y + 1) st [] fun as r => match as with
      | .ref a :: _ => rcvE x h a (msR y) ∧ ¬ noV y ∧ callE x q y as r h xp b fun b' st' h' => K (pc + len) b' L st' h'
      | _ => False
    | none => False
  | .invokespecial k => match mT o k with
    | some y => popA (msN y + 1) st [] fun as r => match as with
      | .ref _ :: _ => isIn y ∧ y.2.2.2.1 = none ∧ ¬ msR y = 99 ∧ callE x q y as r h xp b fun b' st' h' => K (pc + len) b' L st' h'
      | _ => False
    | none => False
  | .invokestatic k => match mT o k with
    | some y => popA (msN y) st [] fun as r => msR y = 99 ∧ callE x q y as r h xp b fun b' st' h' => K (pc + len) b' L st' h'
    | none => False
  | .invokeinterface n _ => catS st ≤ 8 ∧ 1 ≤ b.1 ∧ 6 ≤ b.2 ∧ ∀ z, mZ h ≤ z → xp (xL n).1 (sZ h z)
  | .new k => match cT o k with
    | some c => 1 ≤ b.1 ∧ eN c ≤ b.2 ∧ K (pc + len) (b.1 - 1, b.2 - eN c) L (.ref (mZ h) :: st) (sN h (c + 1) 0)
    | none => False
  | .newarray t => popI st fun n r => arK t ≠ 0 ∧ ¬ n < 0 ∧ n.toNatClampNeg ≤ 10000 ∧ 1 ≤ b.1 ∧ n.toNatClampNeg ≤ b.2 ∧ K (pc + len) (b.1 - 1, b.2 - n.toNatClampNeg) L (.ref (mZ h) :: r) (sN h (arK t) n.toNatClampNeg)
  | .anewarray k => popI st fun n r => o = 1 ∧ k = 9 ∧ ¬ n < 0 ∧ n.toNatClampNeg ≤ 10000 ∧ 1 ≤ b.1 ∧ n.toNatClampNeg ≤ b.2 ∧ K (pc + len) (b.1 - 1, b.2 - n.toNatClampNeg) L (.ref (mZ h) :: r) (sN h 14 n.toNatClampNeg)
  | .multianewarray k d => popI st fun u r => popI r fun n r => o = 6 ∧ k = 242 ∧ d = 2 ∧ ¬ n < 0 ∧ ¬ u < 0 ∧ n.toNatClampNeg ≤ 10000 ∧ u.toNatClampNeg ≤ 10000 ∧ 1 + n.toNatClampNeg ≤ b.1 ∧ n.toNatClampNeg + n.toNatClampNeg * u.toNatClampNeg ≤ b.2 ∧ K (pc + len) (b.1 - (1 + n.toNatClampNeg), b.2 - (n.toNatClampNeg + n.toNatClampNeg * u.toNatClampNeg)) L (.ref (mZ h) :: r) (sM h n.toNatClampNeg u.toNatClampNeg)
  | .ireturn => match st with
    | [.int v] => (q.2.2.2.1 = some .int ∨ (q.2.2.2.1 = some .boolean ∧ (v = 0 ∨ v = 1)) ∨ (q.2.2.2.1 = some .byte ∧ v = 0) ∨ (q.2.2.2.1 = some .char ∧ narrow .char (.int v) = .int v)) ∧ post (some (.int v)) h
    | _ => False
  | .lreturn => match st with
    | [.long v] => q.2.2.2.1 = some .long ∧ post (some (.long v)) h
    | _ => False
  | .dreturn => match st with
    | [.double v] => q.2.2.2.1 = some .double ∧ post (some (.double v)) h
    | _ => False
  | .freturn => match st with
    | [.float v] => q.2.2.2.1 = some .float ∧ post (some (.float v)) h
    | _ => False
  | .areturn => match st with
    | [.ref v] => (match q.2.2.2.1 with
      | some (.object _) => True
      | some (.array _) => True
      | _ => False) ∧ post (some (.ref v)) h
    | _ => False
  | .return_ => q.2.2.2.1 = none ∧ st = [] ∧ post none h
  | _ => False
/-- as many steps as n, or up to a cut, by a method's table -/
def evE (x : CX) (q : MS) (o : Nat) (tab : Nat → Option (Instr × Nat × Bool)) (post : Option Value → MH → Prop) (xp : String → MH → Prop) : Nat → Nat → Nat × Nat → List Value → List Value → MH → Prop
  | 0, pc, b, L, st, h => MW x q o post xp pc b L st h
  | n + 1, pc, b, L, st, h => match tab pc with
    | some (i, len, false) => stepE x q o post xp i len pc b L st h (evE x q o tab post xp n)
    | some (_, _, true) => MW x q o post xp pc b L st h
    | none => False
/-- the first step, cut or not -/
def evS (x : CX) (q : MS) (o : Nat) (tab : Nat → Option (Instr × Nat × Bool)) (post : Option Value → MH → Prop) (xp : String → MH → Prop) (n : Nat) (pc : Nat) (b : Nat × Nat) (L st : List Value) (h : MH) : Prop :=
  match tab pc with
    | some (i, len, _) => stepE x q o post xp i len pc b L st h (evE x q o tab post xp n)
    | none => False
