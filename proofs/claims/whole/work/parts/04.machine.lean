/-! THE FLAT INTERPRETER: the bytecode of the claim's methods over one flat store: the cells in the order in which they are made, ints and longs by cell and place; references are numbers of cells -/
abbrev Vs := List Value
abbrev Sto := Nat × (Nat → Nat → Bool) × (Nat → Nat → Int32) × (Nat → Nat → Int64)
abbrev Res := Option Value × Sto
abbrev Rec := Nat → Nat → Vs → Vs → Sto → Option Res
def lget (ls : Vs) (i : Nat) : Value := ls.getD i .null
def kl1 (ls : Vs) (i : Nat) (v : Value) : Vs := match v with
  | .int _ => ls
  | .ref _ => ls
  | .null => ls
  | _ => ls.set i .null
def kil (ls : Vs) (i : Nat) : Vs := match i with
  | 0 => ls
  | j + 1 => kl1 ls j (lget ls j)
def sto1 (ls : Vs) (i : Nat) (v : Value) : Vs := (kil ls i).set i v
def sto2 (ls : Vs) (i : Nat) (v : Value) : Vs := ((kil ls i).set (i + 1) .null).set i v
/-- the locals with which a method begins -/
def lcv (vs : Vs) : Vs := vs.flatMap (fun v => match v with
  | .long x => [.long x, .null]
  | .double _ => [.null, .null]
  | v => [v])
def lcs (n : Nat) (vs : Vs) : Vs := lcv vs ++ List.replicate (n - (lcv vs).length) .null
def inb (i : Int32) (n : Nat) : Prop := ¬ (i < 0 ∨ n ≤ i.toNatClampNeg)
def inbB (i : Int32) (n : Nat) : Bool := !(decide (i < 0) || decide (n ≤ i.toNatClampNeg))
theorem inb_iff (i : Int32) (n : Nat) : inbB i n = true ↔ inb i n := by simp [inb, inbB]
/-- is the cell an own one, of this kind -/
def isA (σ : Sto) (a k : Nat) : Bool := decide (a < σ.1) && decide ((tg a).1 = k)
def jt (pc : Nat) (off : Int) : Option Nat := if 0 ≤ (pc : Int) + off then some ((pc : Int) + off).toNat else none
def cz (c : Jvm.ClassFile.Cond) (x : Int32) : Bool := match c with
  | .eq => decide (x = 0)
  | .ne => decide (¬ x = 0)
  | .lt => decide (x < 0)
  | .ge => decide (0 ≤ x)
  | .gt => decide (0 < x)
  | .le => decide (x ≤ 0)
def cc2 (c : Jvm.ClassFile.Cond) (x y : Int32) : Bool := match c with
  | .eq => decide (x = y)
  | .ne => decide (¬ x = y)
  | .lt => decide (x < y)
  | .ge => decide (y ≤ x)
  | .gt => decide (y < x)
  | .le => decide (x ≤ y)
def fval (σ : Sto) (a c k : Nat) : Option Value := match ft c k with
  | 0 => some (.int (σ.2.2.1 a k))
  | 1 => some (.long (σ.2.2.2 a k))
  | 2 => if σ.2.1 a k = true then some (.ref (rf a k)) else none
  | _ => none
def sI (σ : Sto) (a k : Nat) (x : Int32) : Sto := (σ.1, σ.2.1, va_up σ.2.2.1 a (upd (σ.2.2.1 a) k x), σ.2.2.2)
def sL (σ : Sto) (a k : Nat) (x : Int64) : Sto := (σ.1, σ.2.1, σ.2.2.1, va_up σ.2.2.2 a (va_up (σ.2.2.2 a) k x))
def sB (σ : Sto) (a k : Nat) : Sto := (σ.1, va_up σ.2.1 a (va_up (σ.2.1 a) k true), σ.2.2.1, σ.2.2.2)
/-- a new cell, of 0s and nulls -/
def sN (σ : Sto) : Sto := (σ.1 + 1, va_up σ.2.1 σ.1 (fun _ => false), va_up σ.2.2.1 σ.1 (fun _ => 0), va_up σ.2.2.2 σ.1 (fun _ => 0))
def newc (σ : Sto) (k n : Nat) : Bool := decide (tg σ.1 = (k, n)) && decide (σ.1 < 100)
def fput (σ : Sto) (a c k : Nat) (v : Value) : Option Sto := match v with
  | .int x => if ft c k = 0 then some (sI σ a k x) else none
  | .long x => if ft c k = 1 then some (sL σ a k x) else none
  | .ref r => if ft c k = 2 ∧ r = rf a k then some (sB σ a k) else none
  | _ => none
/-- old int arrays: the script's length is at 999, its ints at 1000; Reader's tables -/
def olen (σ : Sto) (a : Nat) : Option Nat := if a = 1000 ∧ σ.2.1 999 0 = true then some (σ.2.2.1 999 0).toNatClampNeg else if 1001 ≤ a ∧ a ≤ 1003 then some (otb.getD (a - 1001) []).length else none
def oval (σ : Sto) (a i : Nat) : Int32 := if a = 1000 then σ.2.2.1 1000 i else (otb.getD (a - 1001) []).getD i 0
def pop (st : Vs) (n : Nat) : Vs := (st.take n).reverse
def goM (rec : Rec) (t : Nat) (as : Vs) (m pc : Nat) (ls st : Vs) (σ : Sto) : Option Res := if st.length ≤ 4 ∧ (lcv as).length ≤ mml t ∧ mhg t < mhg m then (rec t 0 (lcs (mml t) as) [] σ).bind (fun q => rec m (pc + 3) ls (q.1.toList ++ st) q.2) else none
def doV (rec : Rec) (i m pc : Nat) (ls st : Vs) (σ : Sto) : Option Res := match ck (mcl m) i with
  | some (0, t, n) => (match lget (pop st (n + 1)) 0 with
    | .ref a => if (isA σ a (mcl t) = true ∨ (mcl t = 13 ∧ 1010 ≤ a ∧ a < 1015)) ∧ n < st.length then goM rec t (pop st (n + 1)) m pc ls (st.drop (n + 1)) σ else none
    | _ => none)
  | some (7, _, n) => (match lget (pop st (n + 1)) 0 with
    | .ref a => if a < σ.1 ∧ n < st.length then (match pk (tg a).1 with
      | some t => goM rec t (pop st (n + 1)) m pc ls (st.drop (n + 1)) σ
      | none => none) else none
    | _ => none)
  | _ => none
def cpy (σ : Sto) (a0 a1 : Nat) (sp dp n : Int32) : Sto := (σ.1, σ.2.1, va_up σ.2.2.1 a1 (va_cpy (σ.2.2.1 a0) (σ.2.2.1 a1) sp.toNatClampNeg dp.toNatClampNeg n.toNatClampNeg), σ.2.2.2)
def doS (rec : Rec) (i m pc : Nat) (ls st : Vs) (σ : Sto) : Option Res := match ck (mcl m) i with
  | some (1, t, n) => if n ≤ st.length then goM rec t (pop st n) m pc ls (st.drop n) σ else none
  | some (2, t, n) => if n ≤ st.length then goM rec t (pop st n) m pc ls (st.drop n) σ else none
  | some (8, _, _) => (match st with
    | .int n :: .int dp :: .ref a1 :: .int sp :: .ref a0 :: r => if isA σ a0 20 = true ∧ isA σ a1 20 = true ∧ ¬ sp < 0 ∧ ¬ dp < 0 ∧ ¬ n < 0 ∧ sp.toNatClampNeg + n.toNatClampNeg ≤ (tg a0).2 ∧ dp.toNatClampNeg + n.toNatClampNeg ≤ (tg a1).2 ∧ r.length ≤ 4 then rec m (pc + 3) ls r (cpy σ a0 a1 sp dp n) else none
    | _ => none)
  | _ => none
def doI (rec : Rec) (i m pc : Nat) (ls st : Vs) (σ : Sto) : Option Res := match ck (mcl m) i with
  | some (3, t, n) => (match lget (pop st (n + 1)) 0 with
    | .ref a => if a < σ.1 ∧ n < st.length then goM rec t (pop st (n + 1)) m pc ls (st.drop (n + 1)) σ else none
    | _ => none)
  | some (4, t, n) => (match lget (pop st (n + 1)) 0 with
    | .ref a => if a < σ.1 ∧ n < st.length then goM rec t (pop st (n + 1)) m pc ls (st.drop (n + 1)) σ else none
    | _ => none)
  | some (5, t, n) => (match lget (pop st (n + 1)) 0 with
    | .ref a => if a < σ.1 ∧ (tg a).1 < 13 ∧ n < st.length then goM rec t (pop st (n + 1)) m pc ls (st.drop (n + 1)) σ else none
    | _ => none)
  | some (6, _, _) => (match st with
    | .ref a :: r => if a < σ.1 ∧ r.length ≤ 4 then rec m (pc + 3) ls r σ else none
    | _ => none)
  | _ => none
def ldI (rec : Rec) (n k m pc : Nat) (ls st : Vs) (σ : Sto) : Option Res := match lget ls n with
  | .int x => rec m (pc + k) ls (.int x :: st) σ
  | _ => none
def ldL (rec : Rec) (n k m pc : Nat) (ls st : Vs) (σ : Sto) : Option Res := match lget ls n with
  | .long x => rec m (pc + k) ls (.long x :: st) σ
  | _ => none
/-- a reference that may be loaded, doubled, stored -/
abbrev isR (x : Nat) : Prop := x < 1000 ∨ x = 1000 ∨ (1001 ≤ x ∧ x < 1004) ∨ (1010 ≤ x ∧ x < 1015) ∨ (1020 ≤ x ∧ x < 1025)
def ldA (rec : Rec) (n k m pc : Nat) (ls st : Vs) (σ : Sto) : Option Res := match lget ls n with
  | .ref x => if isR x then rec m (pc + k) ls (.ref x :: st) σ else none
  | _ => none
def stI (rec : Rec) (n k m pc : Nat) (ls st : Vs) (σ : Sto) : Option Res := match st with
  | .int x :: r => if n < mml m then rec m (pc + k) (sto1 ls n (.int x)) r σ else none
  | _ => none
def stL (rec : Rec) (n k m pc : Nat) (ls st : Vs) (σ : Sto) : Option Res := match st with
  | .long x :: r => if n + 1 < mml m then rec m (pc + k) (sto2 ls n (.long x)) r σ else none
  | _ => none
def stA (rec : Rec) (n k m pc : Nat) (ls st : Vs) (σ : Sto) : Option Res := match st with
  | .ref x :: r => if n < mml m ∧ isR x then rec m (pc + k) (sto1 ls n (.ref x)) r σ else none
  | _ => none
def b2I (rec : Rec) (f : Int32 → Int32 → Int32) (m pc : Nat) (ls st : Vs) (σ : Sto) : Option Res := match st with
  | .int y :: .int x :: r => rec m (pc + 1) ls (.int (f x y) :: r) σ
  | _ => none
def b2L (rec : Rec) (f : Int64 → Int64 → Int64) (m pc : Nat) (ls st : Vs) (σ : Sto) : Option Res := match st with
  | .long y :: .long x :: r => rec m (pc + 1) ls (.long (f x y) :: r) σ
  | _ => none
def brn (rec : Rec) (b : Bool) (off : Int) (m pc : Nat) (ls st : Vs) (σ : Sto) : Option Res := (jt pc off).bind (fun t => if b = true then rec m t ls st σ else rec m (pc + 3) ls st σ)
def psh (rec : Rec) (k : Nat) (v : Value) (m pc : Nat) (ls st : Vs) (σ : Sto) : Option Res := rec m (pc + k) ls (v :: st) σ
/-- one instruction; k is its length -/
def stp (rec : Rec) (i : Instr) (k m pc : Nat) (ls st : Vs) (σ : Sto) : Option Res := match i with
  | .iload_n n => if k = 1 then ldI rec n 1 m pc ls st σ else none
  | .iload n => if k = 2 then ldI rec n 2 m pc ls st σ else none
  | .lload_n n => if k = 1 then ldL rec n 1 m pc ls st σ else none
  | .lload n => if k = 2 then ldL rec n 2 m pc ls st σ else none
  | .aload_n n => if k = 1 then ldA rec n 1 m pc ls st σ else none
  | .aload n => if k = 2 then ldA rec n 2 m pc ls st σ else none
  | .istore_n n => if k = 1 then stI rec n 1 m pc ls st σ else none
  | .istore n => if k = 2 then stI rec n 2 m pc ls st σ else none
  | .lstore_n n => if k = 1 then stL rec n 1 m pc ls st σ else none
  | .lstore n => if k = 2 then stL rec n 2 m pc ls st σ else none
  | .astore_n n => if k = 1 then stA rec n 1 m pc ls st σ else none
  | .astore n => if k = 2 then stA rec n 2 m pc ls st σ else none
  | .iconst n => if k = 1 then psh rec 1 (.int (Int32.ofInt n)) m pc ls st σ else none
  | .bipush n => if k = 2 then psh rec 2 (.int (Int8.ofInt n).toInt32) m pc ls st σ else none
  | .sipush n => if k = 3 then psh rec 3 (.int (Int16.ofInt n).toInt32) m pc ls st σ else none
  | .lconst n => if k = 1 then psh rec 1 (.long (Int64.ofNat (n : Nat))) m pc ls st σ else none
  | .ldc n => if k = 2 then (match cs (mcl m) n with
    | some (.int x) => psh rec 2 (.int x) m pc ls st σ
    | some (.ref x) => psh rec 2 (.ref x) m pc ls st σ
    | _ => none) else none
  | .ldc_w n => if k = 3 then (match cs (mcl m) n with
    | some (.int x) => psh rec 3 (.int x) m pc ls st σ
    | _ => none) else none
  | .ldc2_w n => if k = 3 then (match cs (mcl m) n with
    | some (.long x) => psh rec 3 (.long x) m pc ls st σ
    | _ => none) else none
  | .iinc n d => if k = 3 then (match lget ls n with
    | .int x => if n < mml m then rec m (pc + 3) (sto1 ls n (.int (x + Int32.ofInt d))) st σ else none
    | _ => none) else none
  | .iadd => if k = 1 then b2I rec (fun x y => x + y) m pc ls st σ else none
  | .isub => if k = 1 then b2I rec (fun x y => x - y) m pc ls st σ else none
  | .imul => if k = 1 then b2I rec (fun x y => x * y) m pc ls st σ else none
  | .iand => if k = 1 then b2I rec (fun x y => x &&& y) m pc ls st σ else none
  | .ior => if k = 1 then b2I rec (fun x y => x ||| y) m pc ls st σ else none
  | .ixor => if k = 1 then b2I rec (fun x y => x ^^^ y) m pc ls st σ else none
  | .ishl => if k = 1 then b2I rec (fun x y => x <<< (y &&& 31)) m pc ls st σ else none
  | .ishr => if k = 1 then b2I rec (fun x y => x >>> (y &&& 31)) m pc ls st σ else none
  | .iushr => if k = 1 then b2I rec (fun x y => (x.toUInt32 >>> (y.toUInt32 &&& Int32.toUInt32 31)).toInt32) m pc ls st σ else none
  | .irem => if k = 1 then (match st with
    | .int y :: .int x :: r => if ¬ y = 0 then rec m (pc + 1) ls (.int (x - x / y * y) :: r) σ else none
    | _ => none) else none
  | .ladd => if k = 1 then b2L rec (fun x y => x + y) m pc ls st σ else none
  | .lmul => if k = 1 then b2L rec (fun x y => x * y) m pc ls st σ else none
  | .ldiv => if k = 1 then (match st with
    | .long y :: .long x :: r => if ¬ y = 0 then rec m (pc + 1) ls (.long (x / y) :: r) σ else none
    | _ => none) else none
  | .lrem => if k = 1 then (match st with
    | .long y :: .long x :: r => if ¬ y = 0 then rec m (pc + 1) ls (.long (x - x / y * y) :: r) σ else none
    | _ => none) else none
  | .lcmp => if k = 1 then (match st with
    | .long y :: .long x :: r => rec m (pc + 1) ls (.int (lg_cmp x y) :: r) σ
    | _ => none) else none
  | .i2l => if k = 1 then (match st with
    | .int x :: r => rec m (pc + 1) ls (.long x.toInt64 :: r) σ
    | _ => none) else none
  | .i2b => if k = 1 then (match st with
    | .int x :: r => rec m (pc + 1) ls (.int x.toInt8.toInt32 :: r) σ
    | _ => none) else none
  | .i2c => if k = 1 then (match st with
    | .int x :: r => rec m (pc + 1) ls (.int (x.toUInt32 % 65536).toInt32 :: r) σ
    | _ => none) else none
  | .dup => if k = 1 then (match st with
    | .int x :: r => rec m (pc + 1) ls (.int x :: .int x :: r) σ
    | .ref x :: r => if isR x then rec m (pc + 1) ls (.ref x :: .ref x :: r) σ else none
    | _ => none) else none
  | .dup2 => if k = 1 then (match st with
    | .int x :: .ref y :: r => if isR y then rec m (pc + 1) ls (.int x :: .ref y :: .int x :: .ref y :: r) σ else none
    | _ => none) else none
  | .pop => if k = 1 then (match st with
    | .int _ :: r => rec m (pc + 1) ls r σ
    | _ => none) else none
  | .ifCond c off => if k = 3 then (match st with
    | .int x :: r => brn rec (cz c x) off m pc ls r σ
    | _ => none) else none
  | .if_icmp c off => if k = 3 then (match st with
    | .int y :: .int x :: r => brn rec (cc2 c x y) off m pc ls r σ
    | _ => none) else none
  | .goto off => if k = 3 then (jt pc off).bind (fun t => rec m t ls st σ) else none
  | .tableswitch d lo hi os => (match st with
    | .int x :: r => if x.toInt < lo ∨ hi < x.toInt then (jt pc d).bind (fun t => rec m t ls r σ) else (os[(x.toInt - lo).toNat]?).bind (fun off => (jt pc off).bind (fun t => rec m t ls r σ))
    | _ => none)
  | .getfield n => if k = 3 then (match st with
    | .ref a :: r => (match fl (mcl m) n with
      | some (0, c, j) => if isA σ a c = true ∧ j < nf c then (fval σ a c j).bind (fun v => rec m (pc + 3) ls (v :: r) σ) else none
      | some (1, 0, _) => if 1010 ≤ a ∧ a < 1015 then rec m (pc + 3) ls (.ref (a + 10) :: r) σ else none
      | some (1, _, _) => if 1010 ≤ a ∧ a < 1015 then rec m (pc + 3) ls (.int 0 :: r) σ else none
      | _ => none)
    | _ => none) else none
  | .putfield n => if k = 3 then (match st with
    | v :: .ref a :: r => (match fl (mcl m) n with
      | some (0, c, j) => if isA σ a c = true ∧ j < nf c ∧ ((Tc c j).2.2.2 = true → (mna m).name = "<init>" ∧ mcl m = c) then (fput σ a c j v).bind (fun σ1 => rec m (pc + 3) ls r σ1) else none
      | _ => none)
    | _ => none) else none
  | .getstatic n => if k = 3 then (match fl (mcl m) n with
    | some (2, 1, _) => rec m (pc + 3) ls (.int 1 :: st) σ
    | some (2, w, _) => rec m (pc + 3) ls (.ref w :: st) σ
    | _ => none) else none
  | .iaload => if k = 1 then (match st with
    | .int i :: .ref a :: r => if isA σ a 20 = true ∧ inbB i (tg a).2 = true then rec m (pc + 1) ls (.int (σ.2.2.1 a i.toNatClampNeg) :: r) σ else (match olen σ a with
      | some n => if inbB i n = true then rec m (pc + 1) ls (.int (oval σ a i.toNatClampNeg) :: r) σ else none
      | none => none)
    | _ => none) else none
  | .baload => if k = 1 then (match st with
    | .int i :: .ref a :: r => if (isA σ a 21 = true ∨ isA σ a 22 = true) ∧ inbB i (tg a).2 = true then rec m (pc + 1) ls (.int (σ.2.2.1 a i.toNatClampNeg) :: r) σ else if 1020 ≤ a ∧ a < 1025 ∧ inbB i (stb.getD (a - 1020) []).length = true then rec m (pc + 1) ls (.int ((stb.getD (a - 1020) []).getD i.toNatClampNeg 0) :: r) σ else none
    | _ => none) else none
  | .iastore => if k = 1 then (match st with
    | .int x :: .int i :: .ref a :: r => if isA σ a 20 = true ∧ inbB i (tg a).2 = true then rec m (pc + 1) ls r (sI σ a i.toNatClampNeg x) else none
    | _ => none) else none
  | .bastore => if k = 1 then (match st with
    | .int x :: .int i :: .ref a :: r => if isA σ a 21 = true ∧ inbB i (tg a).2 = true then rec m (pc + 1) ls r (sI σ a i.toNatClampNeg (vp_nar .byte x)) else if isA σ a 22 = true ∧ inbB i (tg a).2 = true then rec m (pc + 1) ls r (sI σ a i.toNatClampNeg (vp_nar .boolean x)) else none
    | _ => none) else none
  | .aaload => if k = 1 then (match st with
    | .int i :: .ref a :: r => if (isA σ a 23 = true ∨ isA σ a 24 = true ∨ isA σ a 25 = true) ∧ inbB i (tg a).2 = true ∧ σ.2.1 a i.toNatClampNeg = true then rec m (pc + 1) ls (.ref (rf a i.toNatClampNeg) :: r) σ else none
    | _ => none) else none
  | .aastore => if k = 1 then (match st with
    | .ref x :: .int i :: .ref a :: r => if ((isA σ a 23 = true ∧ (tg x).1 ≤ 8 ∧ (pk (tg x).1).isSome = true) ∨ (isA σ a 24 = true ∧ (tg x).1 = 9)) ∧ x < σ.1 ∧ inbB i (tg a).2 = true ∧ rf a i.toNatClampNeg = x then rec m (pc + 1) ls r (sB σ a i.toNatClampNeg) else none
    | _ => none) else none
  | .arraylength => if k = 1 then (match st with
    | .ref a :: r => if a < σ.1 ∧ 20 ≤ (tg a).1 ∧ (tg a).1 < 23 then rec m (pc + 1) ls (.int (Int32.ofNat (tg a).2) :: r) σ else if 1020 ≤ a ∧ a < 1025 then rec m (pc + 1) ls (.int (Int32.ofNat (stb.getD (a - 1020) []).length) :: r) σ else if a = 1000 ∧ σ.2.1 999 0 = true then rec m (pc + 1) ls (.int (σ.2.2.1 999 0) :: r) σ else none
    | _ => none) else none
  | .new n => if k = 3 then (match nwc (mcl m) n with
    | some c => if newc σ c (nf c) = true then rec m (pc + 3) ls (.ref σ.1 :: st) (sN σ) else none
    | none => none) else none
  | .newarray ty => if k = 2 then (match st with
    | .int n :: r => (match ty with
      | .int => if newc σ 20 n.toNatClampNeg = true ∧ ¬ n < 0 then rec m (pc + 2) ls (.ref σ.1 :: r) (sN σ) else none
      | .byte => if newc σ 21 n.toNatClampNeg = true ∧ ¬ n < 0 then rec m (pc + 2) ls (.ref σ.1 :: r) (sN σ) else none
      | .boolean => if newc σ 22 n.toNatClampNeg = true ∧ ¬ n < 0 then rec m (pc + 2) ls (.ref σ.1 :: r) (sN σ) else none
      | _ => none)
    | _ => none) else none
  | .anewarray n => if k = 3 then (match st with
    | .int x :: r => (match nwc (mcl m) n with
      | some 5 => if newc σ 23 x.toNatClampNeg = true ∧ ¬ x < 0 then rec m (pc + 3) ls (.ref σ.1 :: r) (sN σ) else none
      | some 9 => if newc σ 24 x.toNatClampNeg = true ∧ ¬ x < 0 then rec m (pc + 3) ls (.ref σ.1 :: r) (sN σ) else none
      | _ => none)
    | _ => none) else none
  | .multianewarray n d => if k = 4 ∧ d = 2 ∧ n = 60 ∧ mcl m = 11 then (match st with
    | .int 8 :: .int 6 :: r => if σ.1 = 79 then rec m (pc + 4) ls (.ref σ.1 :: r) (sB (sB (sB (sB (sB (sB (sN (sN (sN (sN (sN (sN (sN σ))))))) 79 0) 79 1) 79 2) 79 3) 79 4) 79 5) else none
    | _ => none) else none
  | .invokevirtual i => if k = 3 then doV rec i m pc ls st σ else none
  | .invokestatic i => if k = 3 then doS rec i m pc ls st σ else none
  | .invokespecial i => if k = 3 then doI rec i m pc ls st σ else none
  | .ireturn => if k = 1 then (match st with
    | [.int x] => (match mre m with
      | some .int => some (some (.int x), σ)
      | some .boolean => if x = 0 ∨ x = 1 then some (some (.int x), σ) else none
      | some .byte => if narrow .byte (.int x) = .int x then some (some (.int x), σ) else none
      | some .char => if narrow .char (.int x) = .int x then some (some (.int x), σ) else none
      | _ => none)
    | _ => none) else none
  | .lreturn => if k = 1 then (match st with
    | [.long x] => if mre m = some .long then some (some (.long x), σ) else none
    | _ => none) else none
  | .areturn => if k = 1 then (match st with
    | [.ref x] => if mre m = some (.object RX9) ∧ x < 1000 then some (some (.ref x), σ) else none
    | _ => none) else none
  | .return_ => if k = 1 then (match st with
    | [] => if mre m = none then some (none, σ) else none
    | _ => none) else none
  | _ => none
def run : Nat → Rec
  | 0 => fun _ _ _ _ _ => none
  | f + 1 => fun m pc ls st σ => match decode (mco m) pc with
    | .ok (i, k) => stp (run f) i k m pc ls st σ
    | .error _ => none
