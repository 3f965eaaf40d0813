/-! A SMALLER MACHINE: the same instructions over a memory that is a function of cell and place; every cell was made before. A method's meaning is the least predicate that its instructions keep ('rnP'); 'wp d' has calls at most d deep. -/
abbrev Mem := Nat → Nat → Int32
def upM (s : Mem) (a k : Nat) (x : Int32) : Mem := fun b j => if b = a then (if j = k then x else s b j) else s b j
def cpM (s : Mem) (src sp dst dp n : Nat) : Mem := fun b j => if b = dst then (if dp ≤ j ∧ j < dp + n then s src (sp + (j - dp)) else s b j) else s b j
abbrev uV : Value := .float 0
def lget : List Value → Nat → Value
  | [], _ => uV
  | v :: _, 0 => v
  | _ :: r, n + 1 => lget r n
/-- the list with x at place n, handed on: so that a list is always written out -/
def lsetK : List Value → Nat → Value → (List Value → Prop) → Prop
  | [], _, _, k => k []
  | _ :: r, 0, x, k => k (x :: r)
  | v :: r, n + 1, x, k => lsetK r n x (fun r' => k (v :: r'))
/-- a long that the place behind it would cut in two is gone -/
def cutK (v : Value) (k : Value → Prop) : Prop := match v with | .long _ => k uV | .double _ => k uV | v => k v
def lst1K : List Value → Nat → Value → (List Value → Prop) → Prop
  | [], _, _, k => k []
  | _ :: r, 0, x, k => k (x :: r)
  | v :: r, 1, x, k => cutK v (fun v' => lsetK r 0 x (fun r' => k (v' :: r')))
  | v :: r, n + 2, x, k => lst1K r (n + 1) x (fun r' => k (v :: r'))
def lst2K (l : List Value) (n : Nat) (x : Value) (k : List Value → Prop) : Prop := lst1K l n x (fun l' => lsetK l' (n + 1) uV k)
def layA : List Value → List Value
  | [] => []
  | .long x :: r => .long x :: uV :: layA r
  | .double x :: r => .double x :: uV :: layA r
  | v :: r => v :: layA r
def padL : Nat → List Value → List Value
  | 0, _ => []
  | n + 1, [] => uV :: padL n []
  | n + 1, v :: r => v :: padL n r
def entK (m : Nat) (as : List Value) (k : List Value → Prop) : Prop := bif Nat.ble (layA as).length (pmeta m).2.1 then k (padL (pmeta m).2.1 (layA as)) else False
def frgK : List Nat → List Value → (List Value → Prop) → Prop
  | [], l, k => k l
  | n :: r, l, k => lsetK l n uV (fun l' => frgK r l' k)
def catL : List Value → Nat
  | [] => 0
  | v :: r => v.category + catL r
/-- n of the stack, in the order in which they were laid, and the rest -/
def takK : Nat → List Value → List Value → (List Value → List Value → Prop) → Prop
  | 0, st, a, k => k a st
  | _ + 1, [], _, _ => False
  | n + 1, v :: st, a, k => takK n st (v :: a) k
/-- a switch, key by key -/
def swP (k : Nat → Prop) (x : Int32) (d : Nat) : List (Int × Nat) → Prop
  | [] => k d
  | (v, o) :: r => if x = Int32.ofInt v then k o else swP k x d r
abbrev Post := Option Value → Mem → Prop
abbrev Cont := Nat → List Value → List Value → Mem → Prop
abbrev Call := Nat → List Value → Mem → Post → Prop
def liV (k : Mem → Prop) : Post := fun r s => match r with | none => k s | _ => False
def liI (k : Int32 → Mem → Prop) : Post := fun r s => match r with | some (.int x) => k x s | _ => False
def liL (k : Int64 → Mem → Prop) : Post := fun r s => match r with | some (.long x) => k x s | _ => False
def liR (k : Nat → Mem → Prop) (n : Mem → Prop) : Post := fun r s => match r with | some (.ref q) => k q s | some .null => n s | _ => False
def wV (c : Call) (m : Nat) (as : List Value) (s : Mem) (k : Mem → Prop) : Prop := c m as s (liV k)
def wI (c : Call) (m : Nat) (as : List Value) (s : Mem) (k : Int32 → Mem → Prop) : Prop := c m as s (liI k)
def wL (c : Call) (m : Nat) (as : List Value) (s : Mem) (k : Int64 → Mem → Prop) : Prop := c m as s (liL k)
def wR (c : Call) (m : Nat) (as : List Value) (s : Mem) (k : Nat → Mem → Prop) (n : Mem → Prop) : Prop := c m as s (liR k n)
/-- behind a call: by what the callee answers -/
def bhC (c : Call) (m rk : Nat) (as : List Value) (s : Mem) (k : Cont) (np : Nat) (loc r : List Value) : Prop :=
  match rk with
  | 0 => wV c m as s (fun s' => k np loc r s')
  | 1 => wI c m as s (fun x s' => k np loc (.int x :: r) s')
  | 2 => wI c m as s (fun x s' => k np loc (.int x :: r) s')
  | 3 => wL c m as s (fun x s' => k np loc (.long x :: r) s')
  | _ => wR c m as s (fun q s' => k np loc (.ref q :: r) s') (fun s' => k np loc (.null :: r) s')
def ldI (k : Cont) (np : Nat) (loc stk : List Value) (s : Mem) (n : Nat) : Prop :=
  match lget loc n with | .int x => k np loc (.int x :: stk) s | _ => False
def ldL (k : Cont) (np : Nat) (loc stk : List Value) (s : Mem) (n : Nat) : Prop :=
  match lget loc n with | .long x => k np loc (.long x :: stk) s | _ => False
def ldA (k : Cont) (np : Nat) (loc stk : List Value) (s : Mem) (n : Nat) : Prop :=
  match lget loc n with | .ref x => k np loc (.ref x :: stk) s | .null => k np loc (.null :: stk) s | _ => False
def stI (k : Cont) (np : Nat) (loc stk : List Value) (s : Mem) (n : Nat) : Prop :=
  match stk with | .int x :: r => lst1K loc n (.int x) (fun l => k np l r s) | _ => False
def stL (k : Cont) (np : Nat) (loc stk : List Value) (s : Mem) (n : Nat) : Prop :=
  match stk with | .long x :: r => lst2K loc n (.long x) (fun l => k np l r s) | _ => False
def stA (k : Cont) (np : Nat) (loc stk : List Value) (s : Mem) (n : Nat) : Prop :=
  match stk with | .ref x :: r => lst1K loc n (.ref x) (fun l => k np l r s) | .null :: r => lst1K loc n .null (fun l => k np l r s) | _ => False
def br2 (c : Jvm.ClassFile.Cond) (x y : Int32) (t f : Prop) : Prop :=
  match c with
  | .eq => if x = y then t else f
  | .ne => if x = y then f else t
  | .lt => if x < y then t else f
  | .ge => if x < y then f else t
  | .gt => if y < x then t else f
  | .le => if y < x then f else t
def ii (k : Cont) (np : Nat) (loc stk : List Value) (s : Mem) (f : Int32 → Int32 → Int32) : Prop :=
  match stk with | .int y :: .int x :: r => k np loc (.int (f x y) :: r) s | _ => False
def ll (k : Cont) (np : Nat) (loc stk : List Value) (s : Mem) (f : Int64 → Int64 → Int64) : Prop :=
  match stk with | .long y :: .long x :: r => k np loc (.long (f x y) :: r) s | _ => False
def getF (k : Cont) (np : Nat) (loc stk : List Value) (s : Mem) (e : Option (Nat × Nat × Nat × Nat)) : Prop :=
  match e with
  | none => False
  | some (ci, j, fk, off) =>
    match stk with
    | .ref a :: r =>
      bif Nat.beq (shp a).1 ci then
        (match fk with
        | 0 => k np loc (.int (s a j) :: r) s
        | 1 => k np loc (.int (s a j) :: r) s
        | 2 => if s a j = 0 then k np loc (.null :: r) s else k np loc (.ref ((s a j).toNatClampNeg - 1) :: r) s
        | _ => k np loc (.ref (a + off) :: r) s)
      else False
    | _ => False
def putF (k : Cont) (np : Nat) (loc stk : List Value) (s : Mem) (e : Option (Nat × Nat × Nat × Nat)) : Prop :=
  match e with
  | none => False
  | some (ci, j, fk, _) =>
    match fk with
    | 0 => (match stk with
      | .int x :: .ref a :: r => bif Nat.beq (shp a).1 ci then k np loc r (upM s a j x) else False
      | _ => False)
    | 1 => (match stk with
      | .int x :: .ref a :: r => bif Nat.beq (shp a).1 ci then (if x &&& 1 = x then k np loc r (upM s a j x) else False) else False
      | _ => False)
    | 2 => (match stk with
      | .ref q :: .ref a :: r => bif Nat.beq (shp a).1 ci then (if q < 2000 then k np loc r (upM s a j (Int32.ofNat (q + 1))) else False) else False
      | _ => False)
    | _ => False
def arL (k : Cont) (np : Nat) (loc stk : List Value) (s : Mem) (kd : Nat) : Prop :=
  match stk with
  | .int i :: .ref a :: r => bif Nat.beq (shp a).1 kd then (if i < 0 ∨ (shp a).2 ≤ i.toNatClampNeg then False else k np loc (.int (s a i.toNatClampNeg) :: r) s) else False
  | _ => False
def arB (k : Cont) (np : Nat) (loc stk : List Value) (s : Mem) : Prop :=
  match stk with
  | .int i :: .ref a :: r => bif (Nat.beq (shp a).1 21 || Nat.beq (shp a).1 22) then (if i < 0 ∨ (shp a).2 ≤ i.toNatClampNeg then False else k np loc (.int (s a i.toNatClampNeg) :: r) s) else False
  | _ => False
def asI (k : Cont) (np : Nat) (loc stk : List Value) (s : Mem) : Prop :=
  match stk with
  | .int x :: .int i :: .ref a :: r => bif (Nat.beq (shp a).1 20 && Nat.ble a 999) then (if i < 0 ∨ (shp a).2 ≤ i.toNatClampNeg then False else k np loc r (upM s a i.toNatClampNeg x)) else False
  | _ => False
def asB (k : Cont) (np : Nat) (loc stk : List Value) (s : Mem) : Prop :=
  match stk with
  | .int x :: .int i :: .ref a :: r => bif Nat.beq (shp a).1 21 then (if i < 0 ∨ (shp a).2 ≤ i.toNatClampNeg then False else k np loc r (upM s a i.toNatClampNeg x.toInt8.toInt32)) else
      bif Nat.beq (shp a).1 22 then (if i < 0 ∨ (shp a).2 ≤ i.toNatClampNeg then False else k np loc r (upM s a i.toNatClampNeg (x &&& 1))) else False
  | _ => False
def cpyP (k : Cont) (np : Nat) (loc stk : List Value) (s : Mem) : Prop :=
  match stk with
  | .int n :: .int dp :: .ref dst :: .int sp :: .ref src :: r =>
    bif (Nat.beq (shp src).1 20 && Nat.beq (shp dst).1 20 && Nat.ble dst 999 && Nat.ble src 999 && Nat.ble (catL r) 8) then
      (if ¬ sp < 0 ∧ ¬ dp < 0 ∧ ¬ n < 0 ∧ sp.toNatClampNeg + n.toNatClampNeg ≤ (shp src).2 ∧ dp.toNatClampNeg + n.toNatClampNeg ≤ (shp dst).2 then
        k np loc r (cpM s src sp.toNatClampNeg dst dp.toNatClampNeg n.toNatClampNeg) else False) else False
  | _ => False
def ivS (c : Call) (k : Cont) (np : Nat) (loc stk : List Value) (s : Mem) (e : Option (Nat × Nat × Nat × Nat)) : Prop :=
  match e with
  | none => False
  | some (m, n, _, rk) => bif Nat.beq m 999 then cpyP k np loc stk s else
      takK n stk [] (fun as r => bif Nat.ble (catL r) 8 then bhC c m rk as s k np loc r else False)
def ivV (c : Call) (k : Cont) (np : Nat) (loc stk : List Value) (s : Mem) (e : Option (Nat × Nat × Nat × Nat)) : Prop :=
  match e with
  | none => False
  | some (m, n, ci, rk) =>
    takK n stk [] (fun as r => match r with
      | .ref a :: r => bif (Nat.ble (catL r) 8 && Nat.beq (shp a).1 ci) then bhC c m rk (.ref a :: as) s k np loc r else False
      | _ => False)
/-- the law's script: cell 1000, its length at 1008 -/
def scL (k : Cont) (np : Nat) (loc stk : List Value) (s : Mem) : Prop :=
  match stk with
  | .int i :: .ref a :: r => bif Nat.beq a 1000 then (if i < 0 ∨ (s 1008 0).toNatClampNeg ≤ i.toNatClampNeg then False else k np loc (.int (s 1000 i.toNatClampNeg) :: r) s) else False
  | _ => False
def scN (k : Cont) (np : Nat) (loc stk : List Value) (s : Mem) : Prop :=
  match stk with
  | .ref a :: r => bif Nat.beq a 1000 then (if s 1008 0 < 0 then False else k np loc (.int (s 1008 0) :: r) s) else False
  | _ => False
def arN (k : Cont) (np : Nat) (loc stk : List Value) (s : Mem) : Prop :=
  match stk with
  | .ref a :: r => bif (Nat.ble 20 (shp a).1 && Nat.ble (shp a).1 24) then k np loc (.int (Int32.ofNat (shp a).2) :: r) s else False
  | _ => False
/-- one instruction: c runs callees, k goes on, q takes the answer -/
def stepI (c : Call) (m : Nat) (k : Cont) (q : Post) (np tp : Nat) (sw : List (Int × Nat)) (loc stk : List Value) (s : Mem) (ins : Instr) : Prop :=
  match ins with
  | .iconst n => k np loc (.int (Int32.ofInt n) :: stk) s
  | .bipush n => k np loc (.int (Int32.ofInt n) :: stk) s
  | .sipush n => k np loc (.int (Int32.ofInt n) :: stk) s
  | .lconst n => k np loc (.long (Int64.ofNat n.val) :: stk) s
  | .ldc i => (match cpi (pmeta m).1 i with | some v => k np loc (v :: stk) s | none => False)
  | .ldc_w i => (match cpi (pmeta m).1 i with | some v => k np loc (v :: stk) s | none => False)
  | .ldc2_w i => (match cpl (pmeta m).1 i with | some v => k np loc (.long v :: stk) s | none => False)
  | .iload n => ldI k np loc stk s n
  | .iload_n n => ldI k np loc stk s n.val
  | .lload n => ldL k np loc stk s n
  | .lload_n n => ldL k np loc stk s n.val
  | .aload n => ldA k np loc stk s n
  | .aload_n n => ldA k np loc stk s n.val
  | .istore n => stI k np loc stk s n
  | .istore_n n => stI k np loc stk s n.val
  | .lstore n => stL k np loc stk s n
  | .lstore_n n => stL k np loc stk s n.val
  | .astore n => stA k np loc stk s n
  | .astore_n n => stA k np loc stk s n.val
  | .iinc n d => (match lget loc n with | .int x => lst1K loc n (.int (x + Int32.ofInt d)) (fun l => k np l stk s) | _ => False)
  | .iadd => ii k np loc stk s (fun x y => x + y)
  | .isub => ii k np loc stk s (fun x y => x - y)
  | .imul => ii k np loc stk s (fun x y => x * y)
  | .iand => ii k np loc stk s (fun x y => x &&& y)
  | .ior => ii k np loc stk s (fun x y => x ||| y)
  | .ixor => ii k np loc stk s (fun x y => x ^^^ y)
  | .ishl => ii k np loc stk s (fun x y => x <<< (y &&& 31))
  | .ishr => ii k np loc stk s (fun x y => x >>> (y &&& 31))
  | .iushr => ii k np loc stk s (fun x y => (x.toUInt32 >>> (y.toUInt32 &&& Int32.toUInt32 31)).toInt32)
  | .idiv => (match stk with | .int y :: .int x :: r => (if y = 0 then False else k np loc (.int (x / y) :: r) s) | _ => False)
  | .irem => (match stk with | .int y :: .int x :: r => (if y = 0 then False else k np loc (.int (x - x / y * y) :: r) s) | _ => False)
  | .ineg => (match stk with | .int x :: r => k np loc (.int (-x) :: r) s | _ => False)
  | .ladd => ll k np loc stk s (fun x y => x + y)
  | .lsub => ll k np loc stk s (fun x y => x - y)
  | .lmul => ll k np loc stk s (fun x y => x * y)
  | .land => ll k np loc stk s (fun x y => x &&& y)
  | .lor => ll k np loc stk s (fun x y => x ||| y)
  | .ldiv => (match stk with | .long y :: .long x :: r => (if y = 0 then False else k np loc (.long (x / y) :: r) s) | _ => False)
  | .lrem => (match stk with | .long y :: .long x :: r => (if y = 0 then False else k np loc (.long (x - x / y * y) :: r) s) | _ => False)
  | .lshl => (match stk with | .int y :: .long x :: r => k np loc (.long (x <<< (y.toInt64 &&& 63)) :: r) s | _ => False)
  | .lushr => (match stk with | .int y :: .long x :: r => k np loc (.long ((x.toUInt64 >>> (y.toInt64.toUInt64 &&& Int64.toUInt64 63)).toInt64) :: r) s | _ => False)
  | .lcmp => (match stk with | .long y :: .long x :: r => k np loc (.int (lg_cmp x y) :: r) s | _ => False)
  | .i2l => (match stk with | .int x :: r => k np loc (.long x.toInt64 :: r) s | _ => False)
  | .l2i => (match stk with | .long x :: r => k np loc (.int x.toInt32 :: r) s | _ => False)
  | .i2b => (match stk with | .int x :: r => k np loc (.int x.toInt8.toInt32 :: r) s | _ => False)
  | .dup => (match stk with | .int x :: r => k np loc (.int x :: .int x :: r) s | .ref x :: r => k np loc (.ref x :: .ref x :: r) s | _ => False)
  | .dup2 => (match stk with | .int y :: .ref x :: r => k np loc (.int y :: .ref x :: .int y :: .ref x :: r) s | _ => False)
  | .pop => (match stk with | .int _ :: r => k np loc r s | _ => False)
  | .ifCond cd off => (match stk with | .int x :: r => br2 cd x 0 (k tp loc r s) (k np loc r s) | _ => False)
  | .if_icmp cd off => (match stk with | .int y :: .int x :: r => br2 cd x y (k tp loc r s) (k np loc r s) | _ => False)
  | .ifnull off => (match stk with | .ref _ :: r => k np loc r s | .null :: r => k tp loc r s | _ => False)
  | .goto off => k tp loc stk s
  | .tableswitch _ _ _ _ => (match stk with | .int x :: r => swP (fun t => k t loc r s) x tp sw | _ => False)
  | .lookupswitch _ _ => (match stk with | .int x :: r => swP (fun t => k t loc r s) x tp sw | _ => False)
  | .aconst_null => k np loc (.null :: stk) s
  | .getfield i => getF k np loc stk s (cpf (pmeta m).1 i)
  | .putfield i => putF k np loc stk s (cpf (pmeta m).1 i)
  | .getstatic i => (match cps (pmeta m).1 i with | some a => k np loc (.ref a :: stk) s | none => False)
  | .iaload => bif Nat.beq m 258 then scL k np loc stk s else arL k np loc stk s 20
  | .baload => arB k np loc stk s
  | .aaload => (match stk with
      | .int i :: .ref a :: r => bif Nat.beq (shp a).1 24 then (if i < 0 ∨ (shp a).2 ≤ i.toNatClampNeg then False else k np loc (.ref (a + 1 + 3 * i.toNatClampNeg) :: r) s) else False
      | _ => False)
  | .laload => (match stk with
      | .int i :: .ref a :: r => bif Nat.beq (shp a).1 23 then (if i < 0 ∨ (shp a).2 ≤ i.toNatClampNeg then False else k np loc (.long (s a i.toNatClampNeg).toInt64 :: r) s) else False
      | _ => False)
  | .iastore => asI k np loc stk s
  | .bastore => asB k np loc stk s
  | .arraylength => bif Nat.beq m 258 then scN k np loc stk s else arN k np loc stk s
  | .invokestatic i => ivS c k np loc stk s (cpm (pmeta m).1 i)
  | .invokevirtual i => ivV c k np loc stk s (cpm (pmeta m).1 i)
  | .return_ => (match stk with | [] => q none s | _ => False)
  | .ireturn => (match stk with | [.int x] => (bif Nat.beq (pmeta m).2.2 2 then (if x &&& 1 = x then q (some (.int x)) s else False) else q (some (.int x)) s) | _ => False)
  | .lreturn => (match stk with | [.long x] => q (some (.long x)) s | _ => False)
  | .areturn => (match stk with | [.ref x] => q (some (.ref x)) s | [.null] => q (some .null) s | _ => False)
  | _ => False
def stP (c : Call) (m : Nat) (k : Cont) (q : Post) (pc : Nat) (loc stk : List Value) (s : Mem) : Prop :=
  match pcode m pc with
  | some (ins, np, tp, fs, sw) => frgK fs loc (fun l => stepI c m k q np tp sw l stk s ins)
  | none => False
def rnP (c : Call) (m : Nat) (q : Post) (pc : Nat) (loc stk : List Value) (s : Mem) : Prop :=
  ∀ X : Cont, (∀ pc loc stk s, stP c m X q pc loc stk s → X pc loc stk s) → X pc loc stk s
/-- the texts' signs -/
def strS (a : Nat) : List Int32 :=
  bif Nat.beq a 1010 then [121] else bif Nat.beq a 1011 then [112, 102, 104, 107, 119] else bif Nat.beq a 1012 then [110] else bif Nat.beq a 1013 then [107, 114, 99, 102, 117, 112] else []
def idxS (x : Int32) : Nat → List Int32 → Int32
  | _, [] => -1
  | n, y :: r => if y = x then Int32.ofNat n else idxS x (n + 1) r
/-- whether source() has an answer at these arguments -/
def srcOk (s : Mem) (a b : Int32) : Prop := ¬ a < 0 ∧ a < s ((s 0 1).toNatClampNeg - 1) 2 ∧ ¬ b < 0 ∧ ¬ 6 < b
/-- methods that are not run here: the law's own helper (it catches), and two that read texts -/
def primP (c : Call) (m : Nat) (as : List Value) (s : Mem) (q : Post) : Prop :=
  bif Nat.beq m 900 then
    (match as with
    | [.ref x, .int a, .int b, .ref o] => x = 0 ∧ o = 56 ∧ (srcOk s a b → wI c m_X_source [.ref x, .int a, .int b] s (fun r s' => q (some (.int 0)) (upM s' o 0 r))) ∧ (¬ srcOk s a b → q (some (.int 1)) s)
    | _ => False)
  else bif Nat.beq m 901 then
    (match as with
    | [.ref t, .int x] => if 1010 ≤ t ∧ t < 1014 then q (some (.int (if x ∈ strS t then 1 else 0))) s else False
    | _ => False)
  else bif Nat.beq m 902 then
    (match as with
    | [.ref t, .int x] => if 1010 ≤ t ∧ t < 1014 then q (some (.int (idxS x 0 (strS t)))) s else False
    | _ => False)
  else bif Nat.beq m 910 then
    (match as with | [.int x, .int y] => q (some (.int (if x < y then y else x))) s | _ => False)
  else bif Nat.beq m 911 then
    (match as with | [.int x, .int y] => q (some (.int (if y < x then y else x))) s | _ => False)
  else bif Nat.beq m 912 then
    (match as with | [.long x, .long y] => q (some (.long (if x < y then y else x))) s | _ => False)
  else bif Nat.beq m 913 then
    (match as with | [.long x, .long y] => q (some (.long (if y < x then y else x))) s | _ => False)
  else False
def wp : Nat → Call
  | 0, _, _, _, _ => False
  | d + 1, m, as, s, q => bif Nat.ble 900 m then primP (wp d) m as s q else entK m as (fun l => rnP (wp d) m q 0 l [] s)
/-- the run of a method's body, calls at most d deep -/
def Rn (d m : Nat) (q : Post) (pc : Nat) (loc stk : List Value) (s : Mem) : Prop := rnP (wp d) m q pc loc stk s
def RnV (d m : Nat) (k : Mem → Prop) (pc : Nat) (loc stk : List Value) (s : Mem) : Prop := Rn d m (liV k) pc loc stk s
def RnI (d m : Nat) (k : Int32 → Mem → Prop) (pc : Nat) (loc stk : List Value) (s : Mem) : Prop := Rn d m (liI k) pc loc stk s
def RnL (d m : Nat) (k : Int64 → Mem → Prop) (pc : Nat) (loc stk : List Value) (s : Mem) : Prop := Rn d m (liL k) pc loc stk s
def RnR (d m : Nat) (k : Nat → Mem → Prop) (n : Mem → Prop) (pc : Nat) (loc stk : List Value) (s : Mem) : Prop := Rn d m (liR k n) pc loc stk s
