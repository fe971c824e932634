/-! THE PURE MACHINE: cells by numbers (0 is the script), whole numbers in two maps, references in a third; one method's code as a list of rows. -/
abbrev pm_M : Type := List (Nat × Nat) × (Nat → Nat → Option Nat) × (Nat → Nat → Int32) × (Nat → Nat → Int64)
abbrev pm_E : Type := Instr × Nat × Nat × Nat × Int × Nat
abbrev pm_R : Type := Value × pm_M
abbrev pm_Rw : Type := MethodName × ByteArray × Nat × Option FieldType × Nat × Nat × Nat × Nat × Nat
def pm_lk {α : Type} : List (Nat × α) → Nat → Option α
  | [], _ => none
  | (p, x) :: t, q => bif Nat.beq p q then some x else pm_lk t q
def pm_kd (M : pm_M) (ci r : Nat) : Bool := match M.1[r]? with
  | some (c, _) => Nat.beq c ci
  | none => false
def pm_gI (M : pm_M) (ci k r : Nat) : Option Int32 := bif pm_kd M ci r then some (M.2.2.1 r k) else none
def pm_gL (M : pm_M) (ci k r : Nat) : Option Int64 := bif pm_kd M ci r then some (M.2.2.2 r k) else none
def pm_gR (M : pm_M) (ci k r : Nat) : Option Nat := bif pm_kd M ci r then M.2.1 r k else none
def pm_pI (M : pm_M) (ci k r : Nat) (v : Int32) : Option pm_M := bif pm_kd M ci r then some (M.1, M.2.1, va_up M.2.2.1 r (va_up (M.2.2.1 r) k v), M.2.2.2) else none
def pm_pL (M : pm_M) (ci k r : Nat) (v : Int64) : Option pm_M := bif pm_kd M ci r then some (M.1, M.2.1, M.2.2.1, va_up M.2.2.2 r (va_up (M.2.2.2 r) k v)) else none
def pm_pR (M : pm_M) (ci k r : Nat) (v : Nat) : Option pm_M := bif pm_kd M ci r then some (M.1, va_up M.2.1 r (va_up (M.2.1 r) k (some v)), M.2.2.1, M.2.2.2) else none
def pm_ln (M : pm_M) (kd r : Nat) : Option Nat := match M.1[r]? with
  | some (c, n) => bif Nat.beq c kd then some n else none
  | none => none
def pm_aI (M : pm_M) (r : Nat) (i : Int32) : Option Int32 := (pm_ln M 8 r).bind fun n => if i < 0 ∨ n ≤ i.toNatClampNeg then none else some (M.2.2.1 r i.toNatClampNeg)
def pm_aL (M : pm_M) (r : Nat) (i : Int32) : Option Int64 := (pm_ln M 9 r).bind fun n => if i < 0 ∨ n ≤ i.toNatClampNeg then none else some (M.2.2.2 r i.toNatClampNeg)
def pm_aR (M : pm_M) (r : Nat) (i : Int32) : Option Nat := (pm_ln M 10 r).bind fun n => if i < 0 ∨ n ≤ i.toNatClampNeg then none else M.2.1 r i.toNatClampNeg
def pm_sI (M : pm_M) (r : Nat) (i v : Int32) : Option pm_M := bif Nat.beq r 0 then none else (pm_ln M 8 r).bind fun n => if i < 0 ∨ n ≤ i.toNatClampNeg then none else some (M.1, M.2.1, va_up M.2.2.1 r (va_up (M.2.2.1 r) i.toNatClampNeg v), M.2.2.2)
def pm_sL (M : pm_M) (r : Nat) (i : Int32) (v : Int64) : Option pm_M := (pm_ln M 9 r).bind fun n => if i < 0 ∨ n ≤ i.toNatClampNeg then none else some (M.1, M.2.1, M.2.2.1, va_up M.2.2.2 r (va_up (M.2.2.2 r) i.toNatClampNeg v))
def pm_sR (M : pm_M) (r : Nat) (i : Int32) (v : Nat) : Option pm_M := bif pm_kd M 5 v then (pm_ln M 10 r).bind fun n => if i < 0 ∨ n ≤ i.toNatClampNeg then none else some (M.1, va_up M.2.1 r (va_up (M.2.1 r) i.toNatClampNeg (some v)), M.2.2.1, M.2.2.2) else none
def pm_al (M : pm_M) (r : Nat) : Option Int32 := match M.1[r]? with
  | some (c, n) => bif Nat.blt 7 c && Nat.blt c 11 then some (Int32.ofNat n) else none
  | none => none
def pm_cp (M : pm_M) (s0 : Nat) (sp : Int32) (d : Nat) (dp n : Int32) : Option pm_M := bif Nat.beq d 0 || Nat.beq s0 0 then none else (pm_ln M 8 s0).bind fun n0 => (pm_ln M 8 d).bind fun n1 =>
  if sp < 0 ∨ dp < 0 ∨ n < 0 ∨ n0 < sp.toNatClampNeg + n.toNatClampNeg ∨ n1 < dp.toNatClampNeg + n.toNatClampNeg then none else
  some (M.1, M.2.1, va_up M.2.2.1 d (va_cpy (M.2.2.1 s0) (M.2.2.1 d) sp.toNatClampNeg dp.toNatClampNeg n.toNatClampNeg), M.2.2.2)
def pm_new (M : pm_M) (q : Nat × Nat) : pm_M := (M.1 ++ [q], va_up M.2.1 M.1.length (fun _ => none), va_up M.2.2.1 M.1.length (fun _ => 0), va_up M.2.2.2 M.1.length (fun _ => 0))
def pm_c2 (v : Value) : Bool := Nat.beq v.category 2
/-- the locals: places with values, the newest first; a long is gone when its second place is written, and what stood in a long's second place is gone -/
abbrev pm_V : Type := List (Nat × Value)
def pm_ll : pm_V → Nat → Option Value
  | [], _ => none
  | (i, v) :: t, j => bif Nat.beq i j then some v else match pm_ll t j with
    | some w => bif (Nat.beq (j + 1) i && pm_c2 w) || (Nat.beq (i + 1) j && pm_c2 v) then none else some w
    | none => none
/-- only these places are kept -/
def pm_mk : List Nat → pm_V → pm_V
  | [], _ => []
  | i :: t, ls => match pm_ll ls i with
    | some v => (i, v) :: pm_mk t ls
    | none => pm_mk t ls
def pm_ent : Nat → List Value → pm_V
  | _, [] => []
  | i, v :: vs => (i, v) :: pm_ent (bif pm_c2 v then i + 2 else i + 1) vs
def pm_tg (pc : Nat) (off : Int) : Nat := (Int.ofNat pc + off).toNat
def pm_max (x y : Int32) : Int32 := if x < y then y else x
def pm_min (x y : Int32) : Int32 := if y < x then y else x
def pm_absL (x : Int64) : Int64 := if 0 < x then x else -x
def pm_maxL (x y : Int64) : Int64 := if y < x then x else y
def pm_rem (x y : Int32) : Int32 := x - x / y * y
def pm_remL (x y : Int64) : Int64 := x - x / y * y
/-- a divisor that is 0 ends the run -/
def pm_nz {β : Type} (z : Bool) (x : Option β) : Option β := match z with
  | true => none
  | false => x
def pm_sw {β : Type} (x : Int32) (k : Nat → Option β) (pc : Nat) (dflt : Int) : Int → List Int → Option β
  | _, [] => k (pm_tg pc dflt)
  | lo, o :: os => if x = Int32.ofInt lo then k (pm_tg pc o) else pm_sw x k pc dflt (lo + 1) os
def pm_cs (st : List Value) : Nat := (st.map fun v => v.category).sum
/-- one instruction that is no call and no return -/
def pm_st {β : Type} (E : pm_E) (pc : Nat) (ls : pm_V) (stk : List Value) (M : pm_M) (k : Nat → pm_V → List Value → pm_M → Option β) : Option β := match E with
  | (ins, len, a, b, v, _) => match ins with
    | .iconst n => k (pc + len) ls (.int (Int32.ofInt n) :: stk) M
    | .lconst n => k (pc + len) ls (.long (Int64.ofNat n) :: stk) M
    | .bipush n => k (pc + len) ls (.int (Int8.ofInt n).toInt32 :: stk) M
    | .sipush n => k (pc + len) ls (.int (Int16.ofInt n).toInt32 :: stk) M
    | .ldc _ => k (pc + len) ls (.int (Int32.ofInt v) :: stk) M
    | .ldc_w _ => k (pc + len) ls (.int (Int32.ofInt v) :: stk) M
    | .ldc2_w _ => k (pc + len) ls (.long (Int64.ofInt v) :: stk) M
    | .iload i => match pm_ll ls i with
      | some (.int x) => k (pc + len) ls (.int x :: stk) M
      | _ => none
    | .iload_n i => match pm_ll ls i.val with
      | some (.int x) => k (pc + len) ls (.int x :: stk) M
      | _ => none
    | .lload i => match pm_ll ls i with
      | some (.long x) => k (pc + len) ls (.long x :: stk) M
      | _ => none
    | .lload_n i => match pm_ll ls i.val with
      | some (.long x) => k (pc + len) ls (.long x :: stk) M
      | _ => none
    | .aload i => match pm_ll ls i with
      | some (.ref x) => k (pc + len) ls (.ref x :: stk) M
      | _ => none
    | .aload_n i => match pm_ll ls i.val with
      | some (.ref x) => k (pc + len) ls (.ref x :: stk) M
      | _ => none
    | .istore i => match stk with
      | .int x :: st => k (pc + len) ((i, .int x) :: ls) st M
      | _ => none
    | .istore_n i => match stk with
      | .int x :: st => k (pc + len) ((i.val, .int x) :: ls) st M
      | _ => none
    | .lstore i => match stk with
      | .long x :: st => k (pc + len) ((i, .long x) :: ls) st M
      | _ => none
    | .lstore_n i => match stk with
      | .long x :: st => k (pc + len) ((i.val, .long x) :: ls) st M
      | _ => none
    | .astore i => match stk with
      | .ref x :: st => k (pc + len) ((i, .ref x) :: ls) st M
      | _ => none
    | .astore_n i => match stk with
      | .ref x :: st => k (pc + len) ((i.val, .ref x) :: ls) st M
      | _ => none
    | .iinc i n => match pm_ll ls i with
      | some (.int x) => k (pc + len) ((i, .int (x + Int32.ofInt n)) :: ls) stk M
      | _ => none
    | .iadd => match stk with
      | .int y :: .int x :: st => k (pc + len) ls (.int (x + y) :: st) M
      | _ => none
    | .isub => match stk with
      | .int y :: .int x :: st => k (pc + len) ls (.int (x - y) :: st) M
      | _ => none
    | .imul => match stk with
      | .int y :: .int x :: st => k (pc + len) ls (.int (x * y) :: st) M
      | _ => none
    | .idiv => match stk with
      | .int y :: .int x :: st => pm_nz (decide (y = 0)) (k (pc + len) ls (.int (x / y) :: st) M)
      | _ => none
    | .irem => match stk with
      | .int y :: .int x :: st => pm_nz (decide (y = 0)) (k (pc + len) ls (.int (pm_rem x y) :: st) M)
      | _ => none
    | .ineg => match stk with
      | .int x :: st => k (pc + len) ls (.int (-x) :: st) M
      | _ => none
    | .iand => match stk with
      | .int y :: .int x :: st => k (pc + len) ls (.int (x &&& y) :: st) M
      | _ => none
    | .ixor => match stk with
      | .int y :: .int x :: st => k (pc + len) ls (.int (x ^^^ y) :: st) M
      | _ => none
    | .ishl => match stk with
      | .int y :: .int x :: st => k (pc + len) ls (.int (x <<< (y &&& 31)) :: st) M
      | _ => none
    | .ishr => match stk with
      | .int y :: .int x :: st => k (pc + len) ls (.int (x >>> (y &&& 31)) :: st) M
      | _ => none
    | .ladd => match stk with
      | .long y :: .long x :: st => k (pc + len) ls (.long (x + y) :: st) M
      | _ => none
    | .lsub => match stk with
      | .long y :: .long x :: st => k (pc + len) ls (.long (x - y) :: st) M
      | _ => none
    | .lmul => match stk with
      | .long y :: .long x :: st => k (pc + len) ls (.long (x * y) :: st) M
      | _ => none
    | .ldiv => match stk with
      | .long y :: .long x :: st => pm_nz (decide (y = 0)) (k (pc + len) ls (.long (x / y) :: st) M)
      | _ => none
    | .lrem => match stk with
      | .long y :: .long x :: st => pm_nz (decide (y = 0)) (k (pc + len) ls (.long (pm_remL x y) :: st) M)
      | _ => none
    | .lneg => match stk with
      | .long x :: st => k (pc + len) ls (.long (-x) :: st) M
      | _ => none
    | .lcmp => match stk with
      | .long y :: .long x :: st => k (pc + len) ls (.int (lg_cmp x y) :: st) M
      | _ => none
    | .i2l => match stk with
      | .int x :: st => k (pc + len) ls (.long x.toInt64 :: st) M
      | _ => none
    | .l2i => match stk with
      | .long x :: st => k (pc + len) ls (.int x.toInt32 :: st) M
      | _ => none
    | .dup => match stk with
      | .int x :: st => k (pc + len) ls (.int x :: .int x :: st) M
      | .ref x :: st => k (pc + len) ls (.ref x :: .ref x :: st) M
      | _ => none
    | .dup2 => match stk with
      | .int y :: .ref x :: st => k (pc + len) ls (.int y :: .ref x :: .int y :: .ref x :: st) M
      | _ => none
    | .getfield _ => match stk with
      | .ref r :: st => if v = 0 then (pm_gI M a b r).bind fun x => k (pc + len) ls (.int x :: st) M
        else if v = 1 then (pm_gL M a b r).bind fun x => k (pc + len) ls (.long x :: st) M
        else (pm_gR M a b r).bind fun x => k (pc + len) ls (.ref x :: st) M
      | _ => none
    | .putfield _ => match stk with
      | .int x :: .ref r :: st => if v = 0 then (pm_pI M a b r x).bind fun M1 => k (pc + len) ls st M1 else none
      | .long x :: .ref r :: st => if v = 1 then (pm_pL M a b r x).bind fun M1 => k (pc + len) ls st M1 else none
      | .ref x :: .ref r :: st => if v = 2 then (pm_pR M a b r x).bind fun M1 => k (pc + len) ls st M1 else none
      | _ => none
    | .arraylength => match stk with
      | .ref r :: st => (pm_al M r).bind fun x => k (pc + len) ls (.int x :: st) M
      | _ => none
    | .iaload => match stk with
      | .int i :: .ref r :: st => (pm_aI M r i).bind fun x => k (pc + len) ls (.int x :: st) M
      | _ => none
    | .laload => match stk with
      | .int i :: .ref r :: st => (pm_aL M r i).bind fun x => k (pc + len) ls (.long x :: st) M
      | _ => none
    | .aaload => match stk with
      | .int i :: .ref r :: st => (pm_aR M r i).bind fun x => k (pc + len) ls (.ref x :: st) M
      | _ => none
    | .iastore => match stk with
      | .int x :: .int i :: .ref r :: st => (pm_sI M r i x).bind fun M1 => k (pc + len) ls st M1
      | _ => none
    | .lastore => match stk with
      | .long x :: .int i :: .ref r :: st => (pm_sL M r i x).bind fun M1 => k (pc + len) ls st M1
      | _ => none
    | .aastore => match stk with
      | .ref x :: .int i :: .ref r :: st => (pm_sR M r i x).bind fun M1 => k (pc + len) ls st M1
      | _ => none
    | .new _ => k (pc + len) ls (.ref M.1.length :: stk) (pm_new M (a, b))
    | .newarray _ => match stk with
      | .int n :: st => if n < 0 ∨ 100000 < n.toNatClampNeg then none else k (pc + len) ls (.ref M.1.length :: st) (pm_new M (a, n.toNatClampNeg))
      | _ => none
    | .anewarray _ => match stk with
      | .int n :: st => if n < 0 ∨ 100000 < n.toNatClampNeg then none else k (pc + len) ls (.ref M.1.length :: st) (pm_new M (10, n.toNatClampNeg))
      | _ => none
    | .goto off => k (pm_tg pc off) ls stk M
    | .ifCond c off => match stk with
      | .int x :: st => match c with
        | .eq => if x = 0 then k (pm_tg pc off) ls st M else k (pc + len) ls st M
        | .ne => if x = 0 then k (pc + len) ls st M else k (pm_tg pc off) ls st M
        | .lt => if x < 0 then k (pm_tg pc off) ls st M else k (pc + len) ls st M
        | .ge => if 0 ≤ x then k (pm_tg pc off) ls st M else k (pc + len) ls st M
        | .gt => if 0 < x then k (pm_tg pc off) ls st M else k (pc + len) ls st M
        | .le => if x ≤ 0 then k (pm_tg pc off) ls st M else k (pc + len) ls st M
      | _ => none
    | .if_icmp c off => match stk with
      | .int y :: .int x :: st => match c with
        | .eq => if x = y then k (pm_tg pc off) ls st M else k (pc + len) ls st M
        | .ne => if x = y then k (pc + len) ls st M else k (pm_tg pc off) ls st M
        | .lt => if x < y then k (pm_tg pc off) ls st M else k (pc + len) ls st M
        | .ge => if y ≤ x then k (pm_tg pc off) ls st M else k (pc + len) ls st M
        | .gt => if y < x then k (pm_tg pc off) ls st M else k (pc + len) ls st M
        | .le => if x ≤ y then k (pm_tg pc off) ls st M else k (pc + len) ls st M
      | _ => none
    | .tableswitch dflt lo _ offs => match stk with
      | .int x :: st => pm_sw x (fun q => k q ls st M) pc dflt lo offs.toList
      | _ => none
    | .invokespecial _ => match stk with
      | .ref _ :: st => pm_nz (!(Nat.beq (a / 10) 6 && Nat.ble (pm_cs st) 8)) (k (pc + len) ls st M)
      | _ => none
    | .invokestatic _ => match b, stk with
      | 0, .int y :: .int x :: st => pm_nz (!(Nat.beq (a / 10) 8 && Nat.ble (pm_cs st) 8)) (k (pc + len) ls (.int (pm_max x y) :: st) M)
      | 1, .int y :: .int x :: st => pm_nz (!(Nat.beq (a / 10) 8 && Nat.ble (pm_cs st) 8)) (k (pc + len) ls (.int (pm_min x y) :: st) M)
      | 2, .long x :: st => pm_nz (!(Nat.beq (a / 10) 8 && Nat.ble (pm_cs st) 8)) (k (pc + len) ls (.long (pm_absL x) :: st) M)
      | 3, .long y :: .long x :: st => pm_nz (!(Nat.beq (a / 10) 8 && Nat.ble (pm_cs st) 8)) (k (pc + len) ls (.long (pm_maxL x y) :: st) M)
      | 4, .int n :: .int dp :: .ref d :: .int sp :: .ref s0 :: st => pm_nz (!(Nat.beq (a / 10) 7 && Nat.ble (pm_cs st) 8)) ((pm_cp M s0 sp d dp n).bind fun M1 => k (pc + len) ls st M1)
      | _, _ => none
    | _ => none
/-- what a call gives back, by its kind -/
def pm_oI (o : Option pm_R) : Option (Int32 × pm_M) := o.bind fun q => match q.1 with
  | .int x => some (x, q.2)
  | _ => none
def pm_oL (o : Option pm_R) : Option (Int64 × pm_M) := o.bind fun q => match q.1 with
  | .long x => some (x, q.2)
  | _ => none
def pm_oR (o : Option pm_R) : Option (Nat × pm_M) := o.bind fun q => match q.1 with
  | .ref x => some (x, q.2)
  | _ => none
def pm_oV (o : Option pm_R) : Option pm_M := o.bind fun q => match q.1 with
  | .null => some q.2
  | _ => none
/-- is the first value an object of the class ci -/
def pm_rc (M : pm_M) (ci : Nat) (vs : List Value) : Bool := match vs with
  | .ref r :: _ => pm_kd M ci r
  | _ => false
/-- a call of method b with n values; rt: 0 nothing, 1 int, 2 long, 3 a reference -/
def pm_ca (rc : Nat → List Value → pm_M → Option pm_R) (k : List Value → pm_M → Option pm_R) (ok : List Value → Bool) (b ml n rt : Nat) (stk : List Value) (M : pm_M) : Option pm_R :=
  bif Nat.ble n stk.length && (Nat.ble (pm_cs (stk.drop n)) 8 && (Nat.ble (pm_cs (stk.take n)) ml && ok (stk.take n).reverse)) then
    match rt with
    | 0 => (pm_oV (rc b (stk.take n).reverse M)).bind fun M1 => k (stk.drop n) M1
    | 1 => (pm_oI (rc b (stk.take n).reverse M)).bind fun q => k (.int q.1 :: stk.drop n) q.2
    | 2 => (pm_oL (rc b (stk.take n).reverse M)).bind fun q => k (.long q.1 :: stk.drop n) q.2
    | _ => (pm_oR (rc b (stk.take n).reverse M)).bind fun q => k (.ref q.1 :: stk.drop n) q.2
  else none
/-- one instruction: rc calls, k goes on. Of a call: a is 10 * kind (0 virtual, 1 static, 2 a constructor; 3 .. 5 the same of a nest mate; 6 Object's own, 7 arraycopy, 8 those of Math: b 0 .. 3) + what comes back, b the method, v 10000 * the method's locals + 100 * the receiver's class + how many values -/
def pm_ex (rc : Nat → List Value → pm_M → Option pm_R) (k : Nat → pm_V → List Value → pm_M → Option pm_R) (E : pm_E) (pc : Nat) (ls : pm_V) (stk : List Value) (M : pm_M) : Option pm_R := match E with
  | (ins, len, a, b, v, pl) => match ins with
    | .ireturn => match stk with
      | [.int x] => if v = 1 then (if x = 0 ∨ x = 1 then some (.int x, M) else none) else some (.int x, M)
      | _ => none
    | .lreturn => match stk with
      | [.long x] => some (.long x, M)
      | _ => none
    | .areturn => match stk with
      | [.ref x] => some (.ref x, M)
      | _ => none
    | .return_ => match stk with
      | [] => some (.null, M)
      | _ => none
    | .invokevirtual _ => pm_ca rc (fun st M1 => k (pc + len) ls st M1) (pm_rc M (v.toNat % 10000 / 100)) b (v.toNat / 10000) (v.toNat % 100) (a % 10) stk M
    | .invokestatic _ => bif Nat.ble 7 (a / 10) then pm_st (ins, len, a, b, v, pl) pc ls stk M k else pm_ca rc (fun st M1 => k (pc + len) ls st M1) (fun _ => true) b (v.toNat / 10000) (v.toNat % 100) (a % 10) stk M
    | .invokespecial _ => bif Nat.beq (a / 10) 6 then pm_st (ins, len, a, b, v, pl) pc ls stk M k else pm_ca rc (fun st M1 => k (pc + len) ls st M1) (pm_rc M (v.toNat % 10000 / 100)) b (v.toNat / 10000) (v.toNat % 100) (a % 10) stk M
    | _ => pm_st (ins, len, a, b, v, pl) pc ls stk M k
