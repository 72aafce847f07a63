/-! A small machine of our own: values, cells by their numbers 1 .. n (0 is the script), the twelve kinds of arrays by tags. 'go' runs a method of this claim on it. -/
abbrev Hp : Type := Nat × (Nat → va_E)
abbrev Out : Type := Option Value ⊕ Nat
abbrev Cfg : Type := Nat × List Value × List Value × Nat × Nat × Hp
abbrev Act : Type := Cfg ⊕ (Out ⊕ (Nat × List Value × List Value))
def mRow (k : Nat) : MRow := methT.getD k MX0_init
def mO (k : Nat) : Nat := (mRow k).1
def mY (k : Nat) : MethodName := (mRow k).2.1
def mB (k : Nat) : ByteArray := (mRow k).2.2.1
def mL (k : Nat) : Nat := (mRow k).2.2.2.1
def mR (k : Nat) : Option FieldType := (mRow k).2.2.2.2.1
def mH (k : Nat) : List (Nat × Nat × Nat × Nat) := (mRow k).2.2.2.2.2
def mA (k : Nat) : Nat := ((parseMethodDescriptor (mY k).desc).map (fun d => d.parameters.length)).getD 0
def hgt (k : Nat) : Nat := hgtT.getD k 0
def mcT (k : Nat) : Nat := (budT.getD k (0, 0)).1
def msT (k : Nat) : Nat := (budT.getD k (0, 0)).2
def ins (k pc : Nat) : Option Instr := (codeT.getD k []).lookup pc
def fldOf (k x : Nat) : Option (Nat × Nat) := (fldT.getD (mO k) []).lookup x
def calOf (k x : Nat) : Option (Nat × Nat) := (calT.getD (mO k) []).lookup x
def newOf (k x : Nat) : Option (Nat × Nat) := (newT.getD (mO k) []).lookup x
def ldcOf (k x : Nat) : Option Value := (ldcT.getD (mO k) []).lookup x
def strOf (k x : Nat) : Option String := (strT.getD (mO k) []).lookup x
def nF (ci : Nat) : Nat := (vw9.map fun r => r.2.2).getD ci 0
def tF (ci : Nat) : u_T := (vw9.map fun r => r.2.1).getD ci TX0
def rF (ci : Nat) : String := (vw9.map fun r => r.1).getD ci RX0
def yF (ci : Nat) : Nat → FieldType := [tyX0, tyX1, tyX2, tyX3, tyX4, tyX5, tyX6, tyX7, tyX8].getD ci tyX0
def dflt (ci : Nat) : List Value := (List.range (nF ci)).map fun j => defaultValue (yF ci j)
def tagTy : List FieldType := [.int, .float, .boolean, .long, .double, .object RX5, .object RX1, .object RX3, .object RX0]
def arTag (ci : Nat) : Option Nat := [(5, 5), (1, 6), (3, 7), (0, 8)].lookup ci
/-- a cell's content: an object's fields, an array by its tag -/
def isObj (hp : Hp) (a ci : Nat) : Option (List Value) := match hp.2 a with
  | .inr (c, fs) => if c = ci ∧ 1 ≤ a ∧ a ≤ hp.1 then some fs else none
  | .inl _ => none
def setHp (hp : Hp) (a : Nat) (e : va_E) : Hp := (hp.1, va_up hp.2 a e)
def addHp (hp : Hp) (e : va_E) : Hp := (hp.1 + 1, va_up hp.2 (hp.1 + 1) e)
def nx (pc : Nat) (ls st : List Value) (bc bs : Nat) (hp : Hp) : Option Act := some (.inl (pc, ls, st, bc, bs, hp))
def jmp (pc : Nat) (off : Int) : Option Nat := match (pc : Int) + off with
  | .ofNat t => some t
  | .negSucc _ => none
def pok (ls : List Value) (j : Nat) : Bool := match j with
  | 0 => true
  | j + 1 => decide ((ls.getD j .null).category = 1)
def st1 (ls : List Value) (j : Nat) (v : Value) : Option (List Value) := if j < ls.length ∧ pok ls j = true then some (ls.set j v) else none
def st2 (ls : List Value) (j : Nat) (v : Value) : Option (List Value) := if j + 1 < ls.length ∧ pok ls j = true then some ((ls.set j v).set (j + 1) .null) else none
def br (c : Prop) [Decidable c] (pc : Nat) (off : Int) (ls st : List Value) (bc bs : Nat) (hp : Hp) : Option Act := match jmp pc off with
  | some t => if c then nx t ls st bc bs hp else nx (pc + 3) ls st bc bs hp
  | none => none
def icnd (c : ClassFile.Cond) (x y : Int32) : Prop := match c with
  | .eq => x = y
  | .ne => ¬ x = y
  | .lt => x < y
  | .ge => y ≤ x
  | .gt => y < x
  | .le => x ≤ y
def icndB (c : ClassFile.Cond) (x y : Int32) : Bool := match c with
  | .eq => decide (x = y)
  | .ne => decide (¬ x = y)
  | .lt => decide (x < y)
  | .ge => decide (y ≤ x)
  | .gt => decide (y < x)
  | .le => decide (x ≤ y)
def nsum (st : List Value) : Nat := (st.map fun v => v.category).sum
def nn32 (r : UInt32) : Bool := decide (r &&& 0x7fffffff ≤ 0x7f800000)
def nn64 (r : UInt64) : Bool := decide (r &&& 0x7fffffffffffffff ≤ 0x7ff0000000000000)
def thrB (k x c : Nat) : Bool := decide (mO k = 7) && decide ((x, c) ∈ [(23, 27), (327, 331), (223, 227), (129, 133), (144, 148), (308, 312)])
/-- 'throw new E("..")' from its first instruction on -/
def throwAt (k pc x : Nat) : Bool := match ins k (pc + 3), ins k (pc + 4) with
  | some .dup, some (.ldc s) => (strOf k s).isSome && (match ins k (pc + 6), ins k (pc + 9) with
    | some (.invokespecial c), some .athrow => thrB k x c
    | _, _ => false)
  | some .dup, some (.ldc_w s) => (strOf k s).isSome && (match ins k (pc + 7), ins k (pc + 10) with
    | some (.invokespecial c), some .athrow => thrB k x c
    | _, _ => false)
  | _, _ => false
def newA (t N : Nat) : Option vp_A := match t with
  | 0 => some (N, .inl fun _ => 0)
  | 1 => some (N, .inr (.inr (.inl fun _ => 0)))
  | 2 => some (N, .inl fun _ => 0)
  | 3 => some (N, .inr (.inl fun _ => 0))
  | 4 => some (N, .inr (.inr (.inr (.inl fun _ => 0))))
  | _ => none
def atTag : ArrayType → Nat
  | .int => 0
  | .float => 1
  | .boolean => 2
  | .long => 3
  | .double => 4
  | _ => 9
def outI (k : Nat) (x : Int32) : Bool := match mR k with
  | some .int => true
  | some .boolean => decide (narrow .boolean (.int x) = .int x)
  | _ => false
def retO (o : Option Value) : Option Act := some (.inr (.inl (.inl o)))
def callO (k : Nat) (as rest : List Value) : Option Act := some (.inr (.inr (k, as, rest)))
def putOK (k ci j : Nat) (v : Value) : Bool := (decide ((tF ci j).2.2.2 = false) || (decide ((mY k).name = "<init>") && decide ((tF ci j).1 = ownT.getD (mO k) ""))) && decide (narrow (yF ci j) v = v) && fits (yF ci j) v
def isRefB : Value → Bool
  | .ref _ => true
  | _ => false
def act (k : Nat) (i : Instr) (pc : Nat) (ls st : List Value) (bc bs : Nat) (hp : Hp) : Option Act :=
  match i, st with
  | .aload_n j, st => (match ls[(j : Nat)]? with | some (.ref a) => nx (pc + 1) ls (.ref a :: st) bc bs hp | _ => none)
  | .aload j, st => (match ls[j]? with | some (.ref a) => nx (pc + 2) ls (.ref a :: st) bc bs hp | _ => none)
  | .iload_n j, st => (match ls[(j : Nat)]? with | some (.int a) => nx (pc + 1) ls (.int a :: st) bc bs hp | _ => none)
  | .iload j, st => (match ls[j]? with | some (.int a) => nx (pc + 2) ls (.int a :: st) bc bs hp | _ => none)
  | .lload_n j, st => (match ls[(j : Nat)]? with | some (.long a) => nx (pc + 1) ls (.long a :: st) bc bs hp | _ => none)
  | .fload_n j, st => (match ls[(j : Nat)]? with | some (.float a) => nx (pc + 1) ls (.float a :: st) bc bs hp | _ => none)
  | .fload j, st => (match ls[j]? with | some (.float a) => nx (pc + 2) ls (.float a :: st) bc bs hp | _ => none)
  | .dload_n j, st => (match ls[(j : Nat)]? with | some (.double a) => nx (pc + 1) ls (.double a :: st) bc bs hp | _ => none)
  | .dload j, st => (match ls[j]? with | some (.double a) => nx (pc + 2) ls (.double a :: st) bc bs hp | _ => none)
  | .istore_n j, .int x :: st => (match st1 ls j (.int x) with | some ls' => nx (pc + 1) ls' st bc bs hp | none => none)
  | .istore j, .int x :: st => (match st1 ls j (.int x) with | some ls' => nx (pc + 2) ls' st bc bs hp | none => none)
  | .astore_n j, .ref x :: st => (match st1 ls j (.ref x) with | some ls' => nx (pc + 1) ls' st bc bs hp | none => none)
  | .astore j, .ref x :: st => (match st1 ls j (.ref x) with | some ls' => nx (pc + 2) ls' st bc bs hp | none => none)
  | .fstore_n j, .float x :: st => (match st1 ls j (.float x) with | some ls' => nx (pc + 1) ls' st bc bs hp | none => none)
  | .fstore j, .float x :: st => (match st1 ls j (.float x) with | some ls' => nx (pc + 2) ls' st bc bs hp | none => none)
  | .lstore_n j, .long x :: st => (match st2 ls j (.long x) with | some ls' => nx (pc + 1) ls' st bc bs hp | none => none)
  | .dstore_n j, .double x :: st => (match st2 ls j (.double x) with | some ls' => nx (pc + 1) ls' st bc bs hp | none => none)
  | .dstore j, .double x :: st => (match st2 ls j (.double x) with | some ls' => nx (pc + 2) ls' st bc bs hp | none => none)
  | .iinc j n, st => (match ls[j]? with | some (.int x) => (match st1 ls j (.int (x + Int32.ofInt n)) with | some ls' => nx (pc + 3) ls' st bc bs hp | none => none) | _ => none)
  | .iconst n, st => nx (pc + 1) ls (.int (Int32.ofInt n) :: st) bc bs hp
  | .bipush n, st => nx (pc + 2) ls (.int (Int8.ofInt n).toInt32 :: st) bc bs hp
  | .sipush n, st => nx (pc + 3) ls (.int (Int16.ofInt n).toInt32 :: st) bc bs hp
  | .lconst n, st => nx (pc + 1) ls (.long (Int64.ofNat (n : Nat)) :: st) bc bs hp
  | .fconst 0, st => nx (pc + 1) ls (.float FP.fconst0 :: st) bc bs hp
  | .fconst 2, st => nx (pc + 1) ls (.float FP.fconst2 :: st) bc bs hp
  | .dconst 0, st => nx (pc + 1) ls (.double FP.dconst0 :: st) bc bs hp
  | .dconst 1, st => nx (pc + 1) ls (.double FP.dconst1 :: st) bc bs hp
  | .ldc x, st => (match ldcOf k x with | some (.float v) => nx (pc + 2) ls (.float v :: st) bc bs hp | some (.int v) => nx (pc + 2) ls (.int v :: st) bc bs hp | _ => none)
  | .ldc2_w x, st => (match ldcOf k x with | some (.double v) => nx (pc + 3) ls (.double v :: st) bc bs hp | _ => none)
  | .dup, v :: st => if v.category = 1 then nx (pc + 1) ls (v :: v :: st) bc bs hp else none
  | .pop, v :: st => if v.category = 1 then nx (pc + 1) ls st bc bs hp else none
  | .dup2, v :: w :: st => if v.category = 1 ∧ w.category = 1 then nx (pc + 1) ls (v :: w :: v :: w :: st) bc bs hp else none
  | .iadd, .int y :: .int x :: st => nx (pc + 1) ls (.int (x + y) :: st) bc bs hp
  | .isub, .int y :: .int x :: st => nx (pc + 1) ls (.int (x - y) :: st) bc bs hp
  | .imul, .int y :: .int x :: st => nx (pc + 1) ls (.int (x * y) :: st) bc bs hp
  | .iand, .int y :: .int x :: st => nx (pc + 1) ls (.int (x &&& y) :: st) bc bs hp
  | .ishl, .int y :: .int x :: st => nx (pc + 1) ls (.int (x <<< (y &&& 31)) :: st) bc bs hp
  | .idiv, .int y :: .int x :: st => if y = 0 then none else nx (pc + 1) ls (.int (x / y) :: st) bc bs hp
  | .irem, .int y :: .int x :: st => if y = 0 then none else nx (pc + 1) ls (.int (x - x / y * y) :: st) bc bs hp
  | .ineg, .int x :: st => nx (pc + 1) ls (.int (-x) :: st) bc bs hp
  | .ladd, .long y :: .long x :: st => nx (pc + 1) ls (.long (x + y) :: st) bc bs hp
  | .lcmp, .long y :: .long x :: st => nx (pc + 1) ls (.int (lg_cmp x y) :: st) bc bs hp
  | .i2l, .int x :: st => nx (pc + 1) ls (.long x.toInt64 :: st) bc bs hp
  | .i2c, .int x :: st => nx (pc + 1) ls (.int (x.toUInt32 % 65536).toInt32 :: st) bc bs hp
  | .i2f, .int x :: st => nx (pc + 1) ls (.float (FP.i2f x) :: st) bc bs hp
  | .i2d, .int x :: st => nx (pc + 1) ls (.double (FP.i2d x) :: st) bc bs hp
  | .f2i, .float x :: st => nx (pc + 1) ls (.int (FP.f2i x) :: st) bc bs hp
  | .d2i, .double x :: st => nx (pc + 1) ls (.int (FP.d2i x) :: st) bc bs hp
  | .f2d, .float x :: st => if nn64 (FP.f2d x) = true then nx (pc + 1) ls (.double (FP.f2d x) :: st) bc bs hp else none
  | .fadd, .float y :: .float x :: st => if nn32 (FP.fadd x y) = true then nx (pc + 1) ls (.float (FP.fadd x y) :: st) bc bs hp else none
  | .fsub, .float y :: .float x :: st => if nn32 (FP.fsub x y) = true then nx (pc + 1) ls (.float (FP.fsub x y) :: st) bc bs hp else none
  | .fmul, .float y :: .float x :: st => if nn32 (FP.fmul x y) = true then nx (pc + 1) ls (.float (FP.fmul x y) :: st) bc bs hp else none
  | .fdiv, .float y :: .float x :: st => if nn32 (FP.fdiv x y) = true then nx (pc + 1) ls (.float (FP.fdiv x y) :: st) bc bs hp else none
  | .dmul, .double y :: .double x :: st => if nn64 (FP.dmul x y) = true then nx (pc + 1) ls (.double (FP.dmul x y) :: st) bc bs hp else none
  | .ddiv, .double y :: .double x :: st => if nn64 (FP.ddiv x y) = true then nx (pc + 1) ls (.double (FP.ddiv x y) :: st) bc bs hp else none
  | .fcmp o, .float y :: .float x :: st => nx (pc + 1) ls (.int (Op.cmpValue (FP.fcmp x y) o) :: st) bc bs hp
  | .dcmp o, .double y :: .double x :: st => nx (pc + 1) ls (.int (Op.cmpValue (FP.dcmp x y) o) :: st) bc bs hp
  | .goto off, st => (match jmp pc off with | some t => nx t ls st bc bs hp | none => none)
  | .ifCond c off, .int x :: st => br (icndB c x 0 = true) pc off ls st bc bs hp
  | .if_icmp c off, .int y :: .int x :: st => br (icndB c x y = true) pc off ls st bc bs hp
  | .tableswitch d lo hi offs, .int x :: st =>
    if x.toInt < lo ∨ hi < x.toInt then (match jmp pc d with | some t => nx t ls st bc bs hp | none => none)
    else (match offs[(x.toInt - lo).toNat]? with | some off => (match jmp pc off with | some t => nx t ls st bc bs hp | none => none) | none => none)
  | .getfield x, .ref a :: st => (match fldOf k x with
    | some (ci, j) => (match isObj hp a ci with
      | some fs => (match fs[j]? with | some v => nx (pc + 3) ls (v :: st) bc bs hp | none => none)
      | none => none)
    | none => none)
  | .putfield x, v :: .ref a :: st => (match fldOf k x with
    | some (ci, j) => (match isObj hp a ci with
      | some fs => if j < fs.length ∧ putOK k ci j v = true then nx (pc + 3) ls st bc bs (setHp hp a (.inr (ci, fs.set j v))) else none
      | none => none)
    | none => none)
  | .iaload, .int i :: .ref a :: st => (match hp.2 a with
    | .inl (t, n, .inl f) => if t = 0 ∧ a ≤ hp.1 ∧ ¬ (i < 0 ∨ n ≤ i.toNatClampNeg) then nx (pc + 1) ls (.int (f i.toNatClampNeg) :: st) bc bs hp else none
    | _ => none)
  | .baload, .int i :: .ref a :: st => (match hp.2 a with
    | .inl (t, n, .inl f) => if t = 2 ∧ 1 ≤ a ∧ a ≤ hp.1 ∧ ¬ (i < 0 ∨ n ≤ i.toNatClampNeg) then nx (pc + 1) ls (.int (f i.toNatClampNeg) :: st) bc bs hp else none
    | _ => none)
  | .faload, .int i :: .ref a :: st => (match hp.2 a with
    | .inl (t, n, .inr (.inr (.inl f))) => if t = 1 ∧ 1 ≤ a ∧ a ≤ hp.1 ∧ ¬ (i < 0 ∨ n ≤ i.toNatClampNeg) then nx (pc + 1) ls (.float (f i.toNatClampNeg) :: st) bc bs hp else none
    | _ => none)
  | .laload, .int i :: .ref a :: st => (match hp.2 a with
    | .inl (t, n, .inr (.inl f)) => if t = 3 ∧ 1 ≤ a ∧ a ≤ hp.1 ∧ ¬ (i < 0 ∨ n ≤ i.toNatClampNeg) then nx (pc + 1) ls (.long (f i.toNatClampNeg) :: st) bc bs hp else none
    | _ => none)
  | .daload, .int i :: .ref a :: st => (match hp.2 a with
    | .inl (t, n, .inr (.inr (.inr (.inl f)))) => if t = 4 ∧ 1 ≤ a ∧ a ≤ hp.1 ∧ ¬ (i < 0 ∨ n ≤ i.toNatClampNeg) then nx (pc + 1) ls (.double (f i.toNatClampNeg) :: st) bc bs hp else none
    | _ => none)
  | .aaload, .int i :: .ref a :: st => (match hp.2 a with
    | .inl (t, n, .inr (.inr (.inr (.inr f)))) => if (5 ≤ t ∧ t ≤ 8) ∧ 1 ≤ a ∧ a ≤ hp.1 ∧ ¬ (i < 0 ∨ n ≤ i.toNatClampNeg) then (match f i.toNatClampNeg with | some r => nx (pc + 1) ls (.ref r :: st) bc bs hp | none => none) else none
    | _ => none)
  | .iastore, .int x :: .int i :: .ref a :: st => (match hp.2 a with
    | .inl (t, n, .inl f) => if t = 0 ∧ 1 ≤ a ∧ a ≤ hp.1 ∧ ¬ (i < 0 ∨ n ≤ i.toNatClampNeg) then nx (pc + 1) ls st bc bs (setHp hp a (.inl (t, n, .inl (upd f i.toNatClampNeg x)))) else none
    | _ => none)
  | .bastore, .int x :: .int i :: .ref a :: st => (match hp.2 a with
    | .inl (t, n, .inl f) => if t = 2 ∧ 1 ≤ a ∧ a ≤ hp.1 ∧ ¬ (i < 0 ∨ n ≤ i.toNatClampNeg) then nx (pc + 1) ls st bc bs (setHp hp a (.inl (t, n, .inl (upd f i.toNatClampNeg (vp_nar .boolean x))))) else none
    | _ => none)
  | .fastore, .float x :: .int i :: .ref a :: st => (match hp.2 a with
    | .inl (t, n, .inr (.inr (.inl f))) => if t = 1 ∧ 1 ≤ a ∧ a ≤ hp.1 ∧ ¬ (i < 0 ∨ n ≤ i.toNatClampNeg) then nx (pc + 1) ls st bc bs (setHp hp a (.inl (t, n, .inr (.inr (.inl (vf_upd f i.toNatClampNeg x)))))) else none
    | _ => none)
  | .lastore, .long x :: .int i :: .ref a :: st => (match hp.2 a with
    | .inl (t, n, .inr (.inl f)) => if t = 3 ∧ 1 ≤ a ∧ a ≤ hp.1 ∧ ¬ (i < 0 ∨ n ≤ i.toNatClampNeg) then nx (pc + 1) ls st bc bs (setHp hp a (.inl (t, n, .inr (.inl (vp_updL f i.toNatClampNeg x))))) else none
    | _ => none)
  | .dastore, .double x :: .int i :: .ref a :: st => (match hp.2 a with
    | .inl (t, n, .inr (.inr (.inr (.inl f)))) => if t = 4 ∧ 1 ≤ a ∧ a ≤ hp.1 ∧ ¬ (i < 0 ∨ n ≤ i.toNatClampNeg) then nx (pc + 1) ls st bc bs (setHp hp a (.inl (t, n, .inr (.inr (.inr (.inl (vf_upd f i.toNatClampNeg x))))))) else none
    | _ => none)
  | .aastore, .ref v :: .int i :: .ref a :: st => (match hp.2 a, hp.2 v with
    | .inl (t, n, .inr (.inr (.inr (.inr f)))), .inr (ci, _) => if arTag ci = some t ∧ (1 ≤ v ∧ v ≤ hp.1) ∧ 1 ≤ a ∧ a ≤ hp.1 ∧ ¬ (i < 0 ∨ n ≤ i.toNatClampNeg) then nx (pc + 1) ls st bc bs (setHp hp a (.inl (t, n, .inr (.inr (.inr (.inr (va_up f i.toNatClampNeg (some v)))))))) else none
    | _, _ => none)
  | .arraylength, .ref a :: st => (match hp.2 a with
    | .inl (t, n, _) => if t ≤ 8 ∧ (a = 0 → t = 0) ∧ a ≤ hp.1 then nx (pc + 1) ls (.int (Int32.ofNat n) :: st) bc bs hp else none
    | _ => none)
  | .new x, st => (match newOf k x with
    | some (0, ci) => if ci < 9 ∧ 1 ≤ bc ∧ nF ci ≤ bs then nx (pc + 3) ls (.ref (hp.1 + 1) :: st) (bc - 1) (bs - nF ci) (addHp hp (.inr (ci, dflt ci))) else none
    | some (1, e) => if throwAt k pc x = true ∧ mH k = [] ∧ 1 ≤ bc ∧ 6 ≤ bs ∧ nsum st ≤ 8 then some (.inr (.inl (.inr e))) else none
    | _ => none)
  | .newarray ty, .int n :: st => (match newA (atTag ty) n.toNatClampNeg with
    | some a0 => if ¬ n < 0 ∧ n.toNatClampNeg ≤ 65536 ∧ 1 ≤ bc ∧ n.toNatClampNeg ≤ bs then nx (pc + 2) ls (.ref (hp.1 + 1) :: st) (bc - 1) (bs - n.toNatClampNeg) (addHp hp (.inl (atTag ty, a0))) else none
    | none => none)
  | .anewarray x, .int n :: st => (match newOf k x with
    | some (0, ci) => (match arTag ci with
      | some t => if ¬ n < 0 ∧ n.toNatClampNeg ≤ 65536 ∧ 1 ≤ bc ∧ n.toNatClampNeg ≤ bs then nx (pc + 3) ls (.ref (hp.1 + 1) :: st) (bc - 1) (bs - n.toNatClampNeg) (addHp hp (.inl (t, n.toNatClampNeg, .inr (.inr (.inr (.inr (fun _ => none))))))) else none
      | none => none)
    | _ => none)
  | .ireturn, [.int x] => if outI k x = true then retO (some (.int x)) else none
  | .lreturn, [.long x] => if mR k = some .long then retO (some (.long x)) else none
  | .freturn, [.float x] => if mR k = some .float then retO (some (.float x)) else none
  | .dreturn, [.double x] => if mR k = some .double then retO (some (.double x)) else none
  | .areturn, [.ref x] => (match mR k with | some (.object _) => retO (some (.ref x)) | _ => none)
  | .return_, [] => if mR k = none then retO none else none
  | .invokevirtual x, st => (match calOf k x with
    | some (0, k') => (match st[mA k']? with
      | some (.ref b) => if (isObj hp b (mO k')).isSome = true then callO k' (st.take (mA k' + 1)).reverse (st.drop (mA k' + 1)) else none
      | _ => none)
    | _ => none)
  | .invokespecial x, st => (match calOf k x with
    | some (3, k') => (match st[mA k']? with | some (.ref _) => callO k' (st.take (mA k' + 1)).reverse (st.drop (mA k' + 1)) | _ => none)
    | some (4, k') => (match st[mA k']? with | some (.ref _) => callO k' (st.take (mA k' + 1)).reverse (st.drop (mA k' + 1)) | _ => none)
    | some (6, _) => (match st with | .ref _ :: st => if nsum st ≤ 8 then nx (pc + 3) ls st bc bs hp else none | _ => none)
    | _ => none)
  | .invokestatic x, st => (match calOf k x with
    | some (1, k') => if mA k' ≤ st.length then callO k' (st.take (mA k')).reverse (st.drop (mA k')) else none
    | some (2, k') => if mA k' ≤ st.length then callO k' (st.take (mA k')).reverse (st.drop (mA k')) else none
    | some (5, k') => if mA k' ≤ st.length then callO k' (st.take (mA k')).reverse (st.drop (mA k')) else none
    | some (7, _) => (match st with | .int a :: st => if nsum st ≤ 8 then nx (pc + 3) ls (.int (if 0 ≤ a then a else 0 - a) :: st) bc bs hp else none | _ => none)
    | some (8, _) => (match st with
      | .int n :: .int dp :: .ref a :: .int sp :: .ref a0 :: st => (match hp.2 a0, hp.2 a with
        | .inl (t0, n0, .inl f), .inl (t1, n1, .inl g) => if (t0 = 0 ∧ t1 = 0) ∧ (1 ≤ a0 ∧ a0 ≤ hp.1) ∧ (1 ≤ a ∧ a ≤ hp.1) ∧ ¬ sp < 0 ∧ ¬ dp < 0 ∧ ¬ n < 0 ∧ sp.toNatClampNeg + n.toNatClampNeg ≤ n0 ∧ dp.toNatClampNeg + n.toNatClampNeg ≤ n1 ∧ nsum st ≤ 8 then nx (pc + 3) ls st bc bs (setHp hp a (.inl (t1, n1, .inl (va_cpy f g sp.toNatClampNeg dp.toNatClampNeg n.toNatClampNeg)))) else none
        | _, _ => none)
      | _ => none)
    | some (9, _) => (match st with | .float b :: st => if nsum st ≤ 8 then nx (pc + 3) ls (.int b.toInt32 :: st) bc bs hp else none | _ => none)
    | _ => none)
  | _, _ => none
def iniL (k : Nat) (as : List Value) : List Value := as ++ List.replicate (mL k - as.length) .null
def callOK (k k' : Nat) (as rest : List Value) (bc bs : Nat) : Bool := decide (hgt k' < hgt k) && (decide (k' < 233) && (decide (mcT k' ≤ bc) && (decide (msT k' ≤ bs) && (decide (nsum rest ≤ 8) && (as.all (fun v => decide (v.category = 1)) && decide (as.length ≤ mL k'))))))
def hndF (k pc e : Nat) : List (Nat × Nat × Nat × Nat) → Option Nat
  | [] => none
  | r :: rs => if r.1 ≤ pc ∧ pc < r.2.1 then (match newOf k r.2.2.2 with | some (1, e') => if e' = e then some r.2.2.1 else hndF k pc e rs | _ => none) else hndF k pc e rs
def hst (k h : Nat) : Option (Nat × Nat) := match ins k h with
  | some (.astore_n j) => some (h + 1, (j : Nat))
  | some (.astore j) => some (h + 2, j)
  | _ => none
def go : Nat → Nat → Nat → List Value → List Value → Nat → Nat → Hp → Option (Out × Hp)
  | 0, _, _, _, _, _, _, _ => none
  | n + 1, k, pc, ls, st, bc, bs, hp => match ins k pc with
    | none => none
    | some i => (match act k i pc ls st bc bs hp with
      | none => none
      | some (.inl (pc', ls', st', bc', bs', hp')) => go n k pc' ls' st' bc' bs' hp'
      | some (.inr (.inl o)) => some (o, hp)
      | some (.inr (.inr (k', as, rest))) => if callOK k k' as rest bc bs = true then (match go n k' 0 (iniL k' as) [] (mcT k') (msT k') hp with
          | none => none
          | some (.inl v, hp') => go n k (pc + 3) ls (v.toList ++ rest) (bc - mcT k') (bs - msT k') hp'
          | some (.inr e, hp') => (match mH k with
            | [] => some (.inr e, hp')
            | r :: rs => (match hndF k pc e (r :: rs) with
              | none => none
              | some h => (match hst k h with
                | none => none
                | some (pc2, j) => if j < ls.length ∧ pok ls j = true then go n k pc2 (ls.set j .null) [] (bc - mcT k') (bs - msT k') hp' else none))))
        else none)
