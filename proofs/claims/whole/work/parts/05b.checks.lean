/-! WHAT IS CHECKED OF THE TABLES, once, by the kernel: each row decodes, its numbers fit the words of lw_tbl. -/
def pm_y (mi : Nat) : MethodName := (pm_row mi).1
def pm_by (mi : Nat) : ByteArray := (pm_row mi).2.1
def pm_rt (mi : Nat) : Option FieldType := (pm_row mi).2.2.2.1
def pm_kn (mi : Nat) : Nat := (pm_row mi).2.2.2.2.1
def pm_kc (mi : Nat) : Nat := (pm_row mi).2.2.2.2.2.1
def pm_fr (mi : Nat) : Nat := (pm_row mi).2.2.2.2.2.2.1
def pm_lo (mi : Nat) : Nat := (pm_row mi).2.2.2.2.2.2.2.1
def pm_pl (mi : Nat) : Nat := (pm_row mi).2.2.2.2.2.2.2.2
def pm_nst (w : Cond) : Bool := match w with
  | .methodLinkNest _ _ _ _ => true
  | .arrayOver _ => true
  | _ => false
def pm_need (w : Cond) : Bool := goodWord w || pm_nst w
def pm_wd (pl : Nat) (w : Cond) : Bool := decide (lw_tbl[pl]? = some w) && pm_need w
def pm_jp (pc : Nat) (off : Int) : Bool := decide (0 ≤ (pc : Int) + off)
def pm_isR (t : Option FieldType) : Bool := match t with
  | some (.object _) => true
  | some (.array _) => true
  | _ => false
/-- a field's row: class a, field b, kind v -/
def pm_fl (mi idx a b : Nat) (v : Int) (pl : Nat) (wr : Bool) : Bool := Nat.blt a 8 && match pm_cl[a]? with
  | some (C, T, N) => Nat.beq N (pm_ft a).length && Nat.blt b N && decide (((pm_ft a).getD b 9 : Int) = v) && pm_wd pl (.fieldLink (pm_y mi).cls idx (T b).1 (T b).2.1 (T b).2.2.1)
    && (if v = 0 then decide (parseFieldDescriptor (T b).2.2.1 = some .int) else if v = 1 then decide (parseFieldDescriptor (T b).2.2.1 = some .long) else pm_isR (parseFieldDescriptor (T b).2.2.1))
    && (!wr || (!(T b).2.2.2 || (Nat.beq (pm_kn mi) 2 && decide ((T b).1 = (pm_y mi).cls))))
  | none => false
def pm_rk (rt : Nat) (t : Option FieldType) : Bool := match rt with
  | 0 => decide (t = none)
  | 1 => decide (t = some .int) || decide (t = some .boolean)
  | 2 => decide (t = some .long)
  | _ => pm_isR t
/-- a call's row -/
def pm_cl2 (mi idx a b : Nat) (v : Int) (pl kd : Nat) : Bool :=
  Nat.blt b 207 && Nat.beq (v.toNat / 10000) (pm_ml b) && pm_rk (a % 10) (pm_rt b) && Nat.ble (pm_fr b + 1) (pm_fr mi) && Nat.ble (8 + (pm_ml b + 11) + pm_lo b) (pm_lo mi) && Nat.beq (pm_kn b) kd
  && decide ((parseMethodDescriptor (pm_y b).desc).map (fun d => d.parameters.length) = some (v.toNat % 100 - (if kd = 0 then 0 else 1)))
  && (if kd = 0 then true else Nat.ble 1 (v.toNat % 100) && Nat.beq (v.toNat % 10000 / 100) (pm_kc b) && Nat.blt (pm_kc b) 8)
  && (if 3 ≤ a / 10 then pm_wd pl (.methodLinkNest (pm_y mi).cls idx (pm_y b) "FarPairs") else pm_wd pl (.methodLink (pm_y mi).cls idx (pm_y b)))
def pm_bn (b : Nat) : MethodName := ([Lib.Math.max.name, Lib.Math.min.name, Lib.MathLoose.abs_long.x, Lib.MathLoose.max_long.x] : List MethodName).getD b arraycopyName
def pm_chI (mi pc : Nat) (E : pm_E) : Bool := match E with
  | (ins, len, a, b, v, pl) => match ins with
    | .iconst _ => Nat.beq len 1
    | .lconst _ => Nat.beq len 1
    | .bipush _ => Nat.beq len 2
    | .sipush _ => Nat.beq len 3
    | .ldc idx => Nat.beq len 2 && pm_wd pl (.constant (pm_y mi).cls idx (Int32.ofInt v))
    | .ldc_w idx => Nat.beq len 3 && pm_wd pl (.constant (pm_y mi).cls idx (Int32.ofInt v))
    | .ldc2_w idx => Nat.beq len 3 && pm_wd pl (.constantLong (pm_y mi).cls idx (Int64.ofInt v))
    | .iload _ => Nat.beq len 2
    | .iload_n _ => Nat.beq len 1
    | .lload _ => Nat.beq len 2
    | .lload_n _ => Nat.beq len 1
    | .aload _ => Nat.beq len 2
    | .aload_n _ => Nat.beq len 1
    | .istore i => Nat.beq len 2 && Nat.blt i (pm_ml mi)
    | .istore_n i => Nat.beq len 1 && Nat.blt i.val (pm_ml mi)
    | .lstore i => Nat.beq len 2 && Nat.blt (i + 1) (pm_ml mi)
    | .lstore_n i => Nat.beq len 1 && Nat.blt (i.val + 1) (pm_ml mi)
    | .astore i => Nat.beq len 2 && Nat.blt i (pm_ml mi)
    | .astore_n i => Nat.beq len 1 && Nat.blt i.val (pm_ml mi)
    | .iinc i _ => Nat.beq len 3 && Nat.blt i (pm_ml mi)
    | .getfield idx => Nat.beq len 3 && pm_fl mi idx a b v pl false
    | .putfield idx => Nat.beq len 3 && pm_fl mi idx a b v pl true
    | .new idx => Nat.beq len 3 && Nat.blt a 8 && (match pm_cl[a]? with
      | some (C, _, N) => Nat.beq N (pm_ft a).length && Nat.beq b N && pm_wd pl (.classLink (pm_y mi).cls idx C)
      | none => false)
    | .newarray t => Nat.beq len 2 && ((Nat.beq a 8 && decide (t = .int)) || (Nat.beq a 9 && decide (t = .long)))
    | .anewarray idx => Nat.beq len 3 && pm_wd pl (.classLink (pm_y mi).cls idx RX5)
    | .goto off => Nat.beq len 3 && pm_jp pc off
    | .ifCond _ off => Nat.beq len 3 && pm_jp pc off
    | .if_icmp _ off => Nat.beq len 3 && pm_jp pc off
    | .tableswitch dflt lo hi offs => pm_jp pc dflt && offs.toList.all (fun o => pm_jp pc o) && decide (0 ≤ lo) && decide (hi < 1000) && decide (hi + 1 = lo + offs.toList.length)
    | .ireturn => Nat.beq len 1 && (if v = 1 then decide (pm_rt mi = some .boolean) else decide (pm_rt mi = some .int))
    | .lreturn => Nat.beq len 1 && decide (pm_rt mi = some .long)
    | .areturn => Nat.beq len 1 && pm_isR (pm_rt mi)
    | .return_ => Nat.beq len 1 && decide (pm_rt mi = none)
    | .invokevirtual idx => Nat.beq len 3 && pm_cl2 mi idx a b v pl 1 && (Nat.beq (a / 10) 0 || Nat.beq (a / 10) 3)
    | .invokestatic idx => Nat.beq len 3 && (if 7 ≤ a / 10 then pm_wd pl (.methodLink (pm_y mi).cls idx (pm_bn b)) && Nat.ble 1 (pm_fr mi) && Nat.ble 26 (pm_lo mi) else pm_cl2 mi idx a b v pl 0 && (Nat.beq (a / 10) 1 || Nat.beq (a / 10) 4))
    | .invokespecial idx => Nat.beq len 3 && (if a / 10 = 6 then pm_wd pl (.methodLink (pm_y mi).cls idx objectInit) && Nat.ble 1 (pm_fr mi) && Nat.ble 20 (pm_lo mi) else pm_cl2 mi idx a b v pl 2 && (Nat.beq (a / 10) 2 || Nat.beq (a / 10) 5))
    | _ => Nat.beq len 1
def pm_dc (mi pc : Nat) (E : pm_E) : Bool := match decode (pm_by mi) pc with
  | .ok (i, l) => decide (i = E.1) && Nat.beq l E.2.1
  | _ => false
def pm_chk (mi : Nat) (q : Nat × pm_E) : Bool := pm_dc mi q.1 q.2 && pm_chI mi q.1 q.2
def pm_okm (mi : Nat) : Bool := (pm_cod mi).all (pm_chk mi)
/-- of a method that is called: its words -/
def pm_okw (b : Nat) : Bool := plainName (pm_y b).cls && decide ((pm_y b).cls ≠ "java/lang/invoke/MethodHandle" ∧ (pm_y b).cls ≠ "java/lang/invoke/VarHandle") && pm_wd (pm_pw.getD b (0, 0, 0)).2.2 (Cond.initialized (pm_y b).cls)
  && (if pm_kn b = 0 then pm_wd (pm_pw.getD b (0, 0, 0)).1 (Cond.static (pm_y b)) else pm_wd (pm_pw.getD b (0, 0, 0)).1 (Cond.instanceMethod (pm_y b)))
  && (if pm_kn b = 1 then pm_wd (pm_pw.getD b (0, 0, 0)).2.1 (Cond.selects (pm_y b).cls (pm_y b) (pm_y b)) else true)
  && (if pm_kn b = 2 then decide ((pm_y b).name = "<init>") && decide (pm_rt b = none) else true)
  && (if pm_kn b = 0 then true else decide ((pm_cl[pm_kc b]?).map (fun q => q.1) = some (pm_y b).cls))
theorem pm_wd_spec {pl : Nat} {w : Cond} (h : pm_wd pl w = true) : w ∈ lw_tbl ∧ pm_need w = true := by
  unfold pm_wd at h
  rw [Bool.and_eq_true, decide_eq_true_eq] at h
  exact ⟨List.mem_of_getElem? h.1, h.2⟩
theorem pm_grp {f : Nat → Bool} {k n : Nat} (h : (List.range' k n).all f = true) {i : Nat} (h1 : k ≤ i) (h2 : i < k + n) : f i = true := List.all_eq_true.mp h i (List.mem_range'.mpr ⟨i - k, by omega, by omega⟩)
