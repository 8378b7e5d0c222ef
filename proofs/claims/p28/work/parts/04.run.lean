/-! A small machine over relative addresses: cell 0 is the script; objects and arrays behind it in the order of their making. -/
def fe : List EN → Nat → Option (Instr × Nat × Nat × Nat × Nat × Nat × Nat)
  | [], _ => none
  | e :: r, pc => match Nat.beq e.1 pc with
    | true => some e.2
    | false => fe r pc
def lget : LV → Nat → Option Value
  | [], _ => none
  | q :: r, k => match Nat.beq q.1 k with
    | true => some q.2
    | false => lget r k
def cat2 : Value → Bool
  | .long _ => true
  | .double _ => true
  | _ => false
def ldel1 (i : Nat) : LV → LV
  | [] => []
  | q :: r => match Nat.beq q.1 i || (Nat.beq (q.1 + 1) i && cat2 q.2) with
    | true => ldel1 i r
    | false => q :: ldel1 i r
def ldel2 (i : Nat) : LV → LV
  | [] => []
  | q :: r => match Nat.beq q.1 i || (Nat.beq q.1 (i + 1) || (Nat.beq (q.1 + 1) i && cat2 q.2)) with
    | true => ldel2 i r
    | false => q :: ldel2 i r
def lst1 (i : Nat) (v : Value) (lv : LV) : LV := (i, v) :: ldel1 i lv
def lst2 (i : Nat) (v : Value) (lv : LV) : LV := (i, v) :: ldel2 i lv
def wR : Option Value → Option Value
  | some (.ref a) => some (.ref a)
  | _ => none
def wI : Option Value → Option Value
  | some (.int a) => some (.int a)
  | _ => none
def wL : Option Value → Option Value
  | some (.long a) => some (.long a)
  | _ => none
def wF : Option Value → Option Value
  | some (.float a) => some (.float a)
  | _ => none
def wD : Option Value → Option Value
  | some (.double a) => some (.double a)
  | _ => none
/-- loads -/
def gA (i : Instr) (lv : LV) : Option Value := match i with
  | .aload_n k => wR (lget lv k.val)
  | .aload k => wR (lget lv k)
  | .iload_n k => wI (lget lv k.val)
  | .iload k => wI (lget lv k)
  | .lload_n k => wL (lget lv k.val)
  | .lload k => wL (lget lv k)
  | .fload_n k => wF (lget lv k.val)
  | .dload_n k => wD (lget lv k.val)
  | .dload k => wD (lget lv k)
  | _ => none
/-- stores -/
def gB (i : Instr) (lv : LV) (sk : List Value) : Option (LV × List Value) := match i with
  | .istore_n k => match sk with
    | .int x :: r => some (lst1 k.val (.int x) lv, r)
    | _ => none
  | .istore k => match sk with
    | .int x :: r => some (lst1 k (.int x) lv, r)
    | _ => none
  | .lstore k => match sk with
    | .long x :: r => some (lst2 k (.long x) lv, r)
    | _ => none
  | .dstore k => match sk with
    | .double x :: r => some (lst2 k (.double x) lv, r)
    | _ => none
  | .fstore_n k => match sk with
    | .float x :: r => some (lst1 k.val (.float x) lv, r)
    | _ => none
  | .astore_n k => match sk with
    | .ref x :: r => some (lst1 k.val (.ref x) lv, r)
    | _ => none
  | .astore k => match sk with
    | .ref x :: r => some (lst1 k (.ref x) lv, r)
    | _ => none
  | .iinc k n => match lget lv k with
    | some (.int x) => some (lst1 k (.int (x + Int32.ofInt n)) lv, sk)
    | _ => none
  | _ => none
/-- constants, the stack -/
def gC (i : Instr) (r1 r2 : Nat) (sk : List Value) : Option (List Value) := match i with
  | .iconst n => some (.int (Int32.ofInt n) :: sk)
  | .bipush n => some (.int (Int32.ofInt n) :: sk)
  | .sipush n => some (.int (Int32.ofInt n) :: sk)
  | .lconst n => some (.long (Int64.ofNat n.val) :: sk)
  | .ldc2_w _ => match r1 with
    | 1 => some (.long (Int64.ofNat r2) :: sk)
    | 2 => some (.double (UInt64.ofNat r2) :: sk)
    | _ => none
  | .ldc _ => match r1 with
    | 3 => some (.int (Int32.ofNat r2) :: sk)
    | _ => none
  | .dconst n => match n.val with
    | 0 => some (.double FP.dconst0 :: sk)
    | _ => some (.double FP.dconst1 :: sk)
  | .dup => match sk with
    | v :: r => match cat2 v with
      | false => some (v :: v :: r)
      | true => none
    | _ => none
  | .dup2 => match sk with
    | v :: w :: r => match cat2 v || cat2 w with
      | false => some (v :: w :: v :: w :: r)
      | true => none
    | _ => none
  | .pop => match sk with
    | v :: r => match cat2 v with
      | false => some r
      | true => none
    | _ => none
  | _ => none
def jI (f : Int32 → Int32 → Int32) : List Value → Option (List Value)
  | .int y :: .int x :: r => some (.int (f x y) :: r)
  | _ => none
def jL (f : Int64 → Int64 → Int64) : List Value → Option (List Value)
  | .long y :: .long x :: r => some (.long (f x y) :: r)
  | _ => none
def jS (f : Int64 → Int32 → Int64) : List Value → Option (List Value)
  | .int y :: .long x :: r => some (.long (f x y) :: r)
  | _ => none
/-- whole numbers -/
def gD (i : Instr) (sk : List Value) : Option (List Value) := match i with
  | .iadd => jI (fun x y => x + y) sk
  | .isub => jI (fun x y => x - y) sk
  | .imul => jI (fun x y => x * y) sk
  | .iand => jI (fun x y => x &&& y) sk
  | .ixor => jI (fun x y => x ^^^ y) sk
  | .ishr => jI (fun x y => x >>> (y &&& 31)) sk
  | .idiv => match sk with
    | .int y :: .int x :: r => match decide (y = 0) with
      | false => some (.int (x / y) :: r)
      | true => none
    | _ => none
  | .irem => match sk with
    | .int y :: .int x :: r => match decide (y = 0) with
      | false => some (.int (x - x / y * y) :: r)
      | true => none
    | _ => none
  | .ladd => jL (fun x y => x + y) sk
  | .lsub => jL (fun x y => x - y) sk
  | .land => jL (fun x y => x &&& y) sk
  | .lor => jL (fun x y => x ||| y) sk
  | .lshl => jS (fun x y => x <<< (y.toInt64 &&& 63)) sk
  | .lushr => jS (fun x y => (x.toUInt64 >>> (y.toInt64.toUInt64 &&& Int64.toUInt64 63)).toInt64) sk
  | .lcmp => match sk with
    | .long y :: .long x :: r => some (.int (lg_cmp x y) :: r)
    | _ => none
  | .i2l => match sk with
    | .int x :: r => some (.long x.toInt64 :: r)
    | _ => none
  | .l2i => match sk with
    | .long x :: r => some (.int x.toInt32 :: r)
    | _ => none
  | _ => none
/-- floats and doubles -/
def gE (i : Instr) (sk : List Value) : Option (List Value) := match i with
  | .i2d => match sk with
    | .int x :: r => some (.double (FP.i2d x) :: r)
    | _ => none
  | .i2f => match sk with
    | .int x :: r => some (.float (FP.i2f x) :: r)
    | _ => none
  | .l2d => match sk with
    | .long x :: r => some (.double (FP.l2d x) :: r)
    | _ => none
  | .d2l => match sk with
    | .double x :: r => some (.long (FP.d2l x) :: r)
    | _ => none
  | .f2d => match sk with
    | .float x :: r => match decide (FP.f2d x &&& 0x7fffffffffffffff ≤ 0x7ff0000000000000) with
      | true => some (.double (FP.f2d x) :: r)
      | false => none
    | _ => none
  | .ddiv => match sk with
    | .double y :: .double x :: r => match decide (FP.ddiv x y &&& 0x7fffffffffffffff ≤ 0x7ff0000000000000) with
      | true => some (.double (FP.ddiv x y) :: r)
      | false => none
    | _ => none
  | .dmul => match sk with
    | .double y :: .double x :: r => match decide (FP.dmul x y &&& 0x7fffffffffffffff ≤ 0x7ff0000000000000) with
      | true => some (.double (FP.dmul x y) :: r)
      | false => none
    | _ => none
  | .fdiv => match sk with
    | .float y :: .float x :: r => match decide (FP.fdiv x y &&& 0x7fffffff ≤ 0x7f800000) with
      | true => some (.float (FP.fdiv x y) :: r)
      | false => none
    | _ => none
  | .dcmp op => match sk with
    | .double y :: .double x :: r => some (.int (Op.cmpValue (FP.dcmp x y) op) :: r)
    | _ => none
  | .fcmp op => match sk with
    | .float y :: .float x :: r => some (.int (Op.cmpValue (FP.fcmp x y) op) :: r)
    | _ => none
  | _ => none
def kI (f : Int32 → Int32 → Bool) : List Value → Option (Bool × List Value)
  | .int y :: .int x :: r => some (f x y, r)
  | _ => none
def k0 (f : Int32 → Bool) : List Value → Option (Bool × List Value)
  | .int x :: r => some (f x, r)
  | _ => none
/-- branches: whether it is taken, and the stack then -/
def gG (i : Instr) (sk : List Value) : Option (Bool × List Value) := match i with
  | .goto _ => some (true, sk)
  | .ifCond .eq _ => k0 (fun x => decide (x = 0)) sk
  | .ifCond .ne _ => k0 (fun x => decide (¬ x = 0)) sk
  | .ifCond .lt _ => k0 (fun x => decide (x < 0)) sk
  | .ifCond .ge _ => k0 (fun x => decide (0 ≤ x)) sk
  | .ifCond .gt _ => k0 (fun x => decide (0 < x)) sk
  | .ifCond .le _ => k0 (fun x => decide (x ≤ 0)) sk
  | .if_icmp .eq _ => kI (fun x y => decide (x = y)) sk
  | .if_icmp .ne _ => kI (fun x y => decide (¬ x = y)) sk
  | .if_icmp .lt _ => kI (fun x y => decide (x < y)) sk
  | .if_icmp .ge _ => kI (fun x y => decide (y ≤ x)) sk
  | .if_icmp .gt _ => kI (fun x y => decide (y < x)) sk
  | .if_icmp .le _ => kI (fun x y => decide (x ≤ y)) sk
  | _ => none
def jTo (pc : Nat) (off : Int) (r : List Value) : Option (Nat × List Value) := match decide (0 ≤ (pc : Int) + off) with
  | true => some (((pc : Int) + off).toNat, r)
  | false => none
/-- switches -/
def gS (i : Instr) (pc : Nat) (sk : List Value) : Option (Nat × List Value) := match i with
  | .tableswitch d lo hi offs => match sk with
    | .int x :: r => match decide (x.toInt < lo ∨ hi < x.toInt) with
      | true => jTo pc d r
      | false => match offs[(x.toInt - lo).toNat]? with
        | some off => jTo pc off r
        | none => none
    | _ => none
  | .lookupswitch d ps => match sk with
    | .int x :: r => jTo pc (Op.lookupswitch.offset ps.toList d x.toInt) r
    | _ => none
  | _ => none
def okV (b : Bool) (v : Value) : Bool := match b, v with
  | true, .int _ => true
  | false, .ref _ => true
  | _, _ => false
abbrev aI (n : Nat) (f : Nat → Int32) : PC := .inl (0, n, .inl f)
abbrev aZ (n : Nat) (f : Nat → Int32) : PC := .inl (1, n, .inl f)
abbrev aQ (t n : Nat) (f : Nat → Option Nat) : PC := .inl (t, n, .inr (.inr (.inr (.inr f))))
abbrev ob (c : Nat) (fs : List Value) : PC := .inr (c, fs)
/-- fields -/
def gF (i : Instr) (r1 r2 : Nat) (sk : List Value) (M : PM) : Option (List Value × PM) := match i with
  | .getfield _ => match sk with
    | .ref a :: r => match M[a]? with
      | some (.inr (c, fs)) => match Nat.beq c r1 with
        | true => match fs[r2]? with
          | some v => some (v :: r, M)
          | none => none
        | false => none
      | _ => none
    | _ => none
  | .putfield _ => match sk with
    | v :: .ref a :: r => match M[a]? with
      | some (.inr (c, fs)) => match Nat.beq c r1 && (Nat.blt r2 fs.length && okV (nth false (nth [] fkl r1) r2) v) with
        | true => some (r, M.set a (.inr (c, fs.set r2 v)))
        | false => none
      | _ => none
    | _ => none
  | .new _ => some (.ref M.length :: sk, M ++ [.inr (r1, nth [] dfl r1)])
  | _ => none
def inA (x : Int32) (n : Nat) : Bool := decide (¬ (x < 0 ∨ n ≤ x.toNatClampNeg))
/-- arrays -/
def gM (i : Instr) (r1 : Nat) (sk : List Value) (M : PM) : Option (List Value × PM) := match i with
  | .iaload => match sk with
    | .int x :: .ref a :: r => match M[a]? with
      | some (.inl (0, n, .inl f)) => match inA x n with
        | true => some (.int (f x.toNatClampNeg) :: r, M)
        | false => none
      | _ => none
    | _ => none
  | .baload => match sk with
    | .int x :: .ref a :: r => match M[a]? with
      | some (.inl (1, n, .inl f)) => match inA x n with
        | true => some (.int (f x.toNatClampNeg) :: r, M)
        | false => none
      | _ => none
    | _ => none
  | .aaload => match sk with
    | .int x :: .ref a :: r => match M[a]? with
      | some (.inl (t, n, .inr (.inr (.inr (.inr f))))) => match (Nat.beq t 2 || Nat.beq t 3) && inA x n with
        | true => match f x.toNatClampNeg with
          | some b => some (.ref b :: r, M)
          | none => none
        | false => none
      | _ => none
    | _ => none
  | .iastore => match sk with
    | .int v :: .int x :: .ref a :: r => match M[a]? with
      | some (.inl (0, n, .inl f)) => match inA x n && Nat.blt 0 a with
        | true => some (r, M.set a (.inl (0, n, .inl (upd f x.toNatClampNeg v))))
        | false => none
      | _ => none
    | _ => none
  | .bastore => match sk with
    | .int v :: .int x :: .ref a :: r => match M[a]? with
      | some (.inl (1, n, .inl f)) => match inA x n && (decide (v = 0) || decide (v = 1)) with
        | true => some (r, M.set a (.inl (1, n, .inl (upd f x.toNatClampNeg v))))
        | false => none
      | _ => none
    | _ => none
  | .aastore => match sk with
    | .ref v :: .int x :: .ref a :: r => match M[a]?, M[v]? with
      | some (.inl (t, n, .inr (.inr (.inr (.inr f))))), some (.inr (c, _)) => match ((Nat.beq t 2 && Nat.beq c 6) || (Nat.beq t 3 && Nat.beq c 0)) && inA x n with
        | true => some (r, M.set a (.inl (t, n, .inr (.inr (.inr (.inr (va_up f x.toNatClampNeg (some v))))))))
        | false => none
      | _, _ => none
    | _ => none
  | .arraylength => match sk with
    | .ref a :: r => match M[a]? with
      | some (.inl (t, n, _)) => match Nat.blt t 4 with
        | true => some (.int (Int32.ofInt n) :: r, M)
        | false => none
      | _ => none
    | _ => none
  | .newarray t => match sk with
    | .int x :: r => match decide (x < 0) || Nat.blt 134217728 x.toNatClampNeg with
      | true => none
      | false => match t with
        | .int => some (.ref M.length :: r, M ++ [.inl (0, x.toNatClampNeg, .inl (fun _ => 0))])
        | .boolean => some (.ref M.length :: r, M ++ [.inl (1, x.toNatClampNeg, .inl (fun _ => 0))])
        | _ => none
    | _ => none
  | .anewarray _ => match sk with
    | .int x :: r => match decide (x < 0) || Nat.blt 134217728 x.toNatClampNeg with
      | true => none
      | false => some (.ref M.length :: r, M ++ [.inl (r1, x.toNatClampNeg, .inr (.inr (.inr (.inr (fun _ => none)))))])
    | _ => none
  | _ => none
def catS (sk : List Value) : Nat := (sk.map fun v => v.category).sum
/-- calls that the machine makes by itself -/
def gN (i : Instr) (kd : Nat) (sk : List Value) (M : PM) : Option (List Value × PM) := match i with
  | .invokespecial _ => match kd with
    | 4 => match sk with
      | .ref _ :: r => match Nat.ble (catS r) 8 with
        | true => some (r, M)
        | false => none
      | _ => none
    | _ => none
  | .invokestatic _ => match kd with
    | 5 => match sk with
      | .int n :: .int dp :: .ref a :: .int sp :: .ref a0 :: r => match M[a0]?, M[a]? with
        | some (.inl (0, n0, .inl f)), some (.inl (0, n1, .inl g)) =>
          match decide (sp < 0) || decide (dp < 0) || decide (n < 0) || Nat.blt n0 (sp.toNatClampNeg + n.toNatClampNeg) || Nat.blt n1 (dp.toNatClampNeg + n.toNatClampNeg) || Nat.beq a 0 || Nat.beq a0 0 || Nat.blt 8 (catS r) with
          | true => none
          | false => some (r, M.set a (.inl (0, n1, .inl (va_cpy f g sp.toNatClampNeg dp.toNatClampNeg n.toNatClampNeg))))
        | _, _ => none
      | _ => none
    | 6 => match sk with
      | .double x :: r => match Nat.ble (catS r) 8 with
        | true => some (.long x.toInt64 :: r, M)
        | false => none
      | _ => none
    | 7 => match sk with
      | .float x :: r => match Nat.ble (catS r) 8 with
        | true => some (.int x.toInt32 :: r, M)
        | false => none
      | _ => none
    | _ => none
  | _ => none
/-- a call: what is handed, and the stack that stays -/
def gI (i : Instr) (kd n rc : Nat) (sk : List Value) (M : PM) : Option (List Value × List Value) :=
  match Nat.ble n sk.length && Nat.ble (catS (sk.drop n)) 8 with
  | false => none
  | true => match i with
    | .invokestatic _ => match Nat.beq kd 0 || Nat.beq kd 8 with
      | true => some ((sk.take n).reverse, sk.drop n)
      | false => none
    | .invokespecial _ => match Nat.beq kd 2 || Nat.beq kd 3 with
      | true => match (sk.take n).reverse with
        | .ref a :: As => some (.ref a :: As, sk.drop n)
        | _ => none
      | false => none
    | .invokevirtual _ => match Nat.beq kd 1 with
      | true => match (sk.take n).reverse with
        | .ref a :: As => match M[a]? with
          | some (.inr (c, _)) => match Nat.beq c rc with
            | true => some (.ref a :: As, sk.drop n)
            | false => none
          | _ => none
        | _ => none
      | false => none
    | _ => none
/-- answers -/
def gR (ret : Option FieldType) (i : Instr) (sk : List Value) : Option (Option Value) := match i with
  | .ireturn => match sk, ret with
    | [.int v], some .int => some (some (.int v))
    | [.int v], some .boolean => match decide (v = 0) || decide (v = 1) with
      | true => some (some (.int v))
      | false => none
    | _, _ => none
  | .lreturn => match sk, ret with
    | [.long v], some .long => some (some (.long v))
    | _, _ => none
  | .areturn => match sk, ret with
    | [.ref v], some (.object _) => some (some (.ref v))
    | _, _ => none
  | .return_ => match sk, ret with
    | [], none => some none
    | _, _ => none
  | _ => none
abbrev CF : Type := Nat × LV × List Value × PM
/-- what the stack becomes of an instruction that touches neither locals nor the heap -/
def gK (i : Instr) (lv : LV) (r1 r2 : Nat) (sk : List Value) : Option (List Value) :=
  match gA i lv with
  | some v => some (v :: sk)
  | none => match gC i r1 r2 sk with
    | some x => some x
    | none => match gD i sk with
      | some x => some x
      | none => gE i sk
def gH (i : Instr) (tg r1 r2 : Nat) (sk : List Value) (M : PM) : Option (List Value × PM) :=
  match gF i r1 r2 sk M with
  | some x => some x
  | none => match gM i r1 sk M with
    | some x => some x
    | none => gN i tg sk M
/-- one step: on, an answer, or a call -/
def stp (c : MM) (x : CF) : Option (CF ⊕ Option Value ⊕ (Nat × List Value × List Value × Nat)) :=
  match x with
  | (pc, lv, sk, M) => match fe c.2 pc with
    | none => none
    | some (i, _, nx, tg, r1, r2, r3) => match gK i lv r1 r2 sk with
      | some sk' => some (.inl (nx, lv, sk', M))
      | none => match gB i lv sk with
        | some (lv', sk') => some (.inl (nx, lv', sk', M))
        | none => match gG i sk with
          | some (b, sk') => some (.inl (cond b tg nx, lv, sk', M))
          | none => match gH i tg r1 r2 sk M with
            | some (sk', M') => some (.inl (nx, lv, sk', M'))
            | none => match gS i pc sk with
              | some (pc', sk') => some (.inl (pc', lv, sk', M))
              | none => match gR c.1 i sk with
                | some r => some (.inr (.inl r))
                | none => match gI i tg r2 r3 sk M with
                  | some (as, r) => some (.inr (.inr (r1, as, r, nx)))
                  | none => none
def lvs : Nat → List Value → LV
  | _, [] => []
  | k, v :: l => (k, v) :: lvs (match cat2 v with | true => k + 2 | false => k + 1) l
def run : Nat → MM → CF → Option (Option Value × PM)
  | 0, _, _ => none
  | n + 1, c, x => match stp c x with
    | none => none
    | some (.inl x') => run n c x'
    | some (.inr (.inl r)) => some (r, x.2.2.2)
    | some (.inr (.inr (y, as, r, nx))) => match Nat.ble (catS as) (mi y).2.2.1 with
      | false => none
      | true => match run n (mm y) (0, lvs 0 as, [], x.2.2.2) with
        | none => none
        | some (v, M') => run n c (nx, x.2.1, v.toList ++ r, M')
