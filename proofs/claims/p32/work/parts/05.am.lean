/-! THE CLASS'S OWN RUNNING, AS A FUNCTION: objects and arrays by numbers, ints in one table D, references fixed in a skeleton SK; am_run is proved of the machine once (part 06), all else speaks of am_run alone. -/
abbrev am_DD : Type := Nat → Nat → Int32
abbrev am_SC : Type := (Nat × List (Option Value)) ⊕ (Nat × Nat × List (Option Nat))
abbrev am_LL : Type := List (Option Value)
def am_upd (D : am_DD) (a k : Nat) (v : Int32) : am_DD := fun a' k' => if a' = a then (if k' = k then v else D a' k') else D a' k'
def am_at (SK : List am_SC) (k : Nat) : Option am_SC := if k < 1000000 then SK[k]? else none
def am_cls (ci : Nat) : String × u_T × Nat := vwCl.getD ci ("", fun _ => ("", "", "", false), 0)
def am_tys : List (Nat → FieldType) := [tyX0, tyX1, tyX2, tyX3, tyX4, tyX5, tyX6, tyX7, tyX8, tyX9, tyX10]
def am_ty (ci : Nat) : Nat → FieldType := am_tys.getD ci (fun _ => .int)
/-- what stands on the stack alone -/
def am_stk : Instr → List Value → Option (List Value)
  | .iconst n, S => some (.int (Int32.ofInt n) :: S)
  | .bipush n, S => some (.int (Int8.ofInt n).toInt32 :: S)
  | .sipush n, S => some (.int (Int16.ofInt n).toInt32 :: S)
  | .fconst k, S => if k = 0 then some (.float FP.fconst0 :: S) else none
  | .iadd, .int y :: .int x :: S => some (.int (x + y) :: S)
  | .isub, .int y :: .int x :: S => some (.int (x - y) :: S)
  | .imul, .int y :: .int x :: S => some (.int (x * y) :: S)
  | .idiv, .int y :: .int x :: S => if y = 0 then none else some (.int (x / y) :: S)
  | .irem, .int y :: .int x :: S => if y = 0 then none else some (.int (x - x / y * y) :: S)
  | .iand, .int y :: .int x :: S => some (.int (x &&& y) :: S)
  | .ior, .int y :: .int x :: S => some (.int (x ||| y) :: S)
  | .ishl, .int y :: .int x :: S => some (.int (x <<< (y &&& 31)) :: S)
  | .ishr, .int y :: .int x :: S => some (.int (x >>> (y &&& 31)) :: S)
  | .fcmp op, .float y :: .float x :: S => some (.int (Op.cmpValue (FP.fcmp x y) op) :: S)
  | .iushr, .int y :: .int x :: S => some (.int (x.toUInt32 >>> (y.toUInt32 &&& Int32.toUInt32 31)).toInt32 :: S)
  | .i2l, .int x :: S => some (.long x.toInt64 :: S)
  | .i2f, .int x :: S => some (.float (FP.i2f x) :: S)
  | .f2d, .float x :: S => if FP.f2d x &&& 0x7fffffffffffffff ≤ 0x7ff0000000000000 then some (.double (FP.f2d x) :: S) else none
  | .fdiv, .float y :: .float x :: S => if FP.fdiv x y &&& 0x7fffffff ≤ 0x7f800000 then some (.float (FP.fdiv x y) :: S) else none
  | .lcmp, .long y :: .long x :: S => some (.int (lg_cmp x y) :: S)
  | .dcmp op, .double y :: .double x :: S => some (.int (Op.cmpValue (FP.dcmp x y) op) :: S)
  | .dup, v :: S => if v.category = 1 then some (v :: v :: S) else none
  | .dup2, v :: w :: S => if v.category = 1 ∧ w.category = 1 then some (v :: w :: v :: w :: S) else none
  | .pop, v :: S => if v.category = 1 then some S else none
  | _, _ => none
def am_clear (L : am_LL) (i : Nat) : Bool := match i with
  | 0 => true
  | j + 1 => match L.getD j none with
    | some w => decide (w.category = 1)
    | none => true
def am_st1 (L : am_LL) (i : Nat) (v : Value) : Option am_LL := if i < L.length ∧ v.category = 1 ∧ am_clear L i = true then some (L.set i (some v)) else none
def am_st2 (L : am_LL) (i : Nat) (v : Value) : Option am_LL := if i + 1 < L.length ∧ v.category = 2 ∧ am_clear L i = true then some ((L.set i (some v)).set (i + 1) none) else none
def am_isI : Value → Bool
  | .int _ => true
  | _ => false
def am_isR : Value → Bool
  | .ref _ => true
  | _ => false
def am_isD : Value → Bool
  | .double _ => true
  | _ => false
def am_ld (f : Value → Bool) (L : am_LL) (i : Nat) (S : List Value) : Option (am_LL × List Value) := match L.getD i none with
  | some v => if f v = true then some (L, v :: S) else none
  | none => none
def am_loc : Instr → am_LL → List Value → Option (am_LL × List Value)
  | .iload_n k, L, S => am_ld am_isI L k S
  | .iload i, L, S => am_ld am_isI L i S
  | .aload_n k, L, S => am_ld am_isR L k S
  | .aload i, L, S => am_ld am_isR L i S
  | .dload_n k, L, S => am_ld am_isD L k S
  | .dload i, L, S => am_ld am_isD L i S
  | .istore_n k, L, .int x :: S => (am_st1 L k (.int x)).map (fun L' => (L', S))
  | .istore i, L, .int x :: S => (am_st1 L i (.int x)).map (fun L' => (L', S))
  | .astore_n k, L, .ref x :: S => (am_st1 L k (.ref x)).map (fun L' => (L', S))
  | .astore i, L, .ref x :: S => (am_st1 L i (.ref x)).map (fun L' => (L', S))
  | .dstore_n k, L, .double x :: S => (am_st2 L k (.double x)).map (fun L' => (L', S))
  | .dstore i, L, .double x :: S => (am_st2 L i (.double x)).map (fun L' => (L', S))
  | .iinc i n, L, S => match L.getD i none with
    | some (.int x) => (am_st1 L i (.int (x + Int32.ofInt n))).map (fun L' => (L', S))
    | _ => none
  | _, _, _ => none
def am_go (c : Bool) (a pc : Nat) (S : List Value) : Option (Nat × List Value) := some (if c = true then a else pc + 3, S)
def am_jump (pc : Nat) (off : Int) (S : List Value) : Option (Nat × List Value) := if 0 ≤ (pc : Int) + off then some (((pc : Int) + off).toNat, S) else none
def am_br : Instr → Nat → Nat → List Value → Option (Nat × List Value)
  | .goto _, a, _, S => some (a, S)
  | .ifCond .eq _, a, pc, .int x :: S => am_go (decide (x = 0)) a pc S
  | .ifCond .ne _, a, pc, .int x :: S => am_go (decide (¬ x = 0)) a pc S
  | .ifCond .lt _, a, pc, .int x :: S => am_go (decide (x < 0)) a pc S
  | .ifCond .ge _, a, pc, .int x :: S => am_go (decide (0 ≤ x)) a pc S
  | .ifCond .gt _, a, pc, .int x :: S => am_go (decide (0 < x)) a pc S
  | .ifCond .le _, a, pc, .int x :: S => am_go (decide (x ≤ 0)) a pc S
  | .if_icmp .eq _, a, pc, .int y :: .int x :: S => am_go (decide (x = y)) a pc S
  | .if_icmp .ne _, a, pc, .int y :: .int x :: S => am_go (decide (¬ x = y)) a pc S
  | .if_icmp .lt _, a, pc, .int y :: .int x :: S => am_go (decide (x < y)) a pc S
  | .if_icmp .ge _, a, pc, .int y :: .int x :: S => am_go (decide (y ≤ x)) a pc S
  | .if_icmp .gt _, a, pc, .int y :: .int x :: S => am_go (decide (y < x)) a pc S
  | .if_icmp .le _, a, pc, .int y :: .int x :: S => am_go (decide (x ≤ y)) a pc S
  | .ifnull _, _, pc, .ref _ :: S => some (pc + 3, S)
  | .ifnull _, a, _, .null :: S => some (a, S)
  | .tableswitch d lo hi offs, _, pc, .int x :: S => if x.toInt < lo ∨ hi < x.toInt then am_jump pc d S else match offs[(x.toInt - lo).toNat]? with
    | some off => am_jump pc off S
    | none => none
  | .lookupswitch d ps, _, pc, .int x :: S => am_jump pc (Op.lookupswitch.offset ps.toList d x.toInt) S
  | _, _, _, _ => none
def am_scr : Nat := 1000000
/-- reads of the heap; scr: the frame's own array: its length -/
def am_rd (scr : Option Nat) : Instr → Nat → Nat → List Value → List am_SC → am_DD → Option (List Value)
  | .getfield _, a, b, .ref r :: S, SK, D => match am_at SK r with
    | some (.inl (ci, fs)) => if ci = a % 100 ∧ b < (am_cls (a % 100)).2.2 then match fs[b]? with
      | some (some v) => some (v :: S)
      | some none => some (.int (D r b) :: S)
      | none => none else none
    | _ => none
  | .iaload, _, _, .int i :: .ref r :: S, SK, D => if r = am_scr then match scr with
      | some n => if i < 0 ∨ n ≤ i.toNatClampNeg then none else some (.int (D am_scr i.toNatClampNeg) :: S)
      | none => none
    else match am_at SK r with
    | some (.inr (0, n, _)) => if i < 0 ∨ n ≤ i.toNatClampNeg then none else some (.int (D r i.toNatClampNeg) :: S)
    | _ => none
  | .aaload, _, _, .int i :: .ref r :: S, SK, _ => match am_at SK r with
    | some (.inr (3, n, rs)) => if i < 0 ∨ n ≤ i.toNatClampNeg then none else some ((match rs.getD i.toNatClampNeg none with
      | some q => .ref q
      | none => .null) :: S)
    | _ => none
  | .arraylength, _, _, .ref r :: S, SK, _ => match am_at SK r with
    | some (.inr (_, n, _)) => some (.int (Int32.ofNat n) :: S)
    | _ => none
  | _, _, _, _, _, _ => none
/-- writes; references only while al: while things are made -/
def am_wr (al : Bool) (scr : Option Nat) : Instr → Nat → Nat → List Value → List am_SC → am_DD → Option (List Value × List am_SC × am_DD)
  | .putfield _, a, b, v :: .ref r :: S, SK, D => match am_at SK r with
    | some (.inl (ci, fs)) => if ci = a % 100 ∧ b < (am_cls (a % 100)).2.2 then match v, fs[b]? with
      | .int x, some none => if am_ty (a % 100) b = .int then some (S, SK, am_upd D r b x) else none
      | .ref q, some (some _) => if refKind (am_ty (a % 100) b) = true ∧ al = true then some (S, SK.set r (.inl (ci, fs.set b (some (.ref q)))), D) else none
      | _, _ => none else none
    | _ => none
  | .iastore, _, _, .int x :: .int i :: .ref r :: S, SK, D => if r = am_scr then match scr with
      | some n => if i < 0 ∨ n ≤ i.toNatClampNeg then none else some (S, SK, am_upd D am_scr i.toNatClampNeg x)
      | none => none
    else match am_at SK r with
    | some (.inr (0, n, _)) => if i < 0 ∨ n ≤ i.toNatClampNeg then none else some (S, SK, am_upd D r i.toNatClampNeg x)
    | _ => none
  | .aastore, _, _, .ref q :: .int i :: .ref r :: S, SK, D => match am_at SK r, am_at SK q with
    | some (.inr (3, n, rs)), some (.inl (7, _)) => if i < 0 ∨ n ≤ i.toNatClampNeg ∨ ¬ n = rs.length ∨ al = false then none else some (S, SK.set r (.inr (3, n, rs.set i.toNatClampNeg (some q))), D)
    | _, _ => none
  | _, _, _, _, _, _ => none
def am_dflt (ci : Nat) : List (Option Value) := (List.range (am_cls ci).2.2).map (fun j => if am_ty ci j = .int then none else some .null)
/-- what makes a thing: the new stack, the new skeleton, its slots -/
def am_nw (al : Bool) : Instr → Nat → List Value → List am_SC → Option (List Value × List am_SC × Nat)
  | .new _, a, S, SK => if al = true ∧ SK.length < 1000000 ∧ a < 11 then some (.ref SK.length :: S, SK ++ [.inl (a, am_dflt a)], (am_cls a).2.2) else none
  | .newarray .int, _, .int n :: S, SK => if al = true ∧ SK.length < 1000000 ∧ ¬ n < 0 ∧ n.toNatClampNeg ≤ 100000 then some (.ref SK.length :: S, SK ++ [.inr (0, n.toNatClampNeg, [])], n.toNatClampNeg) else none
  | .anewarray _, _, .int n :: S, SK => if al = true ∧ SK.length < 1000000 ∧ ¬ n < 0 ∧ n.toNatClampNeg ≤ 100000 then some (.ref SK.length :: S, SK ++ [.inr (3, n.toNatClampNeg, List.replicate n.toNatClampNeg none)], n.toNatClampNeg) else none
  | _, _, _, _ => none
def am_words (S : List Value) : Nat := (S.map fun v => v.category).sum
def am_cpy (D : am_DD) (q sp r dp n : Nat) : am_DD := fun a k => if a = r then va_cpy (D q) (D r) sp dp n k else D a k
/-- calls of the JDK's own: Object(), Math.max, Math.min, arraycopy; a number out of the pool -/
def am_lib : Nat → Nat → List Value → List am_SC → am_DD → Option (List Value × am_DD)
  | 1, _, .ref _ :: S, _, D => if am_words S ≤ 8 then some (S, D) else none
  | 2, _, .int y :: .int x :: S, _, D => if am_words S ≤ 8 then some (.int (if x < y then y else x) :: S, D) else none
  | 3, _, .int y :: .int x :: S, _, D => if am_words S ≤ 8 then some (.int (if y < x then y else x) :: S, D) else none
  | 4, _, .int n :: .int dp :: .ref r :: .int sp :: .ref q :: S, SK, D => match am_at SK q, am_at SK r with
    | some (.inr (0, n0, _)), some (.inr (0, n1, _)) => if am_words S ≤ 8 ∧ ¬ sp < 0 ∧ ¬ dp < 0 ∧ ¬ n < 0 ∧ sp.toNatClampNeg + n.toNatClampNeg ≤ n0 ∧ dp.toNatClampNeg + n.toNatClampNeg ≤ n1 then some (S, am_cpy D q sp.toNatClampNeg r dp.toNatClampNeg n.toNatClampNeg) else none
    | _, _ => none
  | 5, b, S, _, D => some (.int (Int32.ofNat b) :: S, D)
  | _, _, _, _, _ => none
/-- one instruction that is no call and no end: pc, locals, stack, skeleton, ints, cells made, slots made -/
def am_step (al : Bool) (scr : Option Nat) (ins : Instr) (len g a b pc : Nat) (L : am_LL) (S : List Value) (SK : List am_SC) (D : am_DD) : Option (Nat × am_LL × List Value × List am_SC × am_DD × Nat × Nat) :=
  match g with
  | 0 => match am_stk ins S with
    | some S' => some (pc + len, L, S', SK, D, 0, 0)
    | none => none
  | 1 => match am_loc ins L S with
    | some (L', S') => some (pc + len, L', S', SK, D, 0, 0)
    | none => none
  | 2 => match am_br ins a pc S with
    | some (pc', S') => some (pc', L, S', SK, D, 0, 0)
    | none => none
  | 3 => match am_rd scr ins a b S SK D with
    | some S' => some (pc + len, L, S', SK, D, 0, 0)
    | none => none
  | 4 => match am_wr al scr ins a b S SK D with
    | some (S', SK', D') => some (pc + len, L, S', SK', D', 0, 0)
    | none => none
  | 5 => match am_nw al ins a S SK with
    | some (S', SK', k) => some (pc + len, L, S', SK', D, 1, k)
    | none => none
  | 6 => match am_lib a b S SK D with
    | some (S', D') => some (pc + len, L, S', SK, D', 0, 0)
    | none => none
  | _ => none
abbrev am_R : Type := Nat × am_LL × List Value
/-- how a method has ended: with an answer, or with an exception of this number -/
def am_end (j : Nat) (r : am_R) : Option (Option Value ⊕ Nat) := match am_fetch j r.1 with
  | some (ins, _, g, a, _) => if g = 9 then (if am_words r.2.2 ≤ 8 then some (.inr a) else none) else if g = 8 then match ins, r.2.2 with
      | .ireturn, [.int v] => match am_ret j with
        | some ty => if narrow ty (.int v) = .int v then some (.inl (some (.int v))) else none
        | none => none
      | .freturn, [.float v] => if am_ret j = some .float then some (.inl (some (.float v))) else none
      | .return_, [] => if am_ret j = none then some (.inl none) else none
      | _, _ => none
    else none
  | none => none
def am_args (j : Nat) (S : List Value) : Option (List Value × List Value) :=
  if am_np j ≤ S.length ∧ am_words (S.drop (am_np j)) ≤ 8 ∧ (∀ v ∈ S.take (am_np j), v.category = 1) ∧ am_np j ≤ am_mL j then some ((S.take (am_np j)).reverse, S.drop (am_np j)) else none
def am_L0 (j : Nat) (As : List Value) : am_LL := As.map some ++ List.replicate (am_mL j - As.length) none
/-- the handler in method i of exception E thrown by the call at pc: where its code goes on behind its 'astore', and the local that is written -/
def am_hnd (i pc E : Nat) : Option (Nat × Nat) := match (am_hh i).find? (fun q => decide (q.1 ≤ pc) && decide (pc < q.2.1) && decide (q.2.2.2 = [16, 18, 99999].getD E 0)) with
  | some q => match am_fetch i q.2.2.1 with
    | some (.astore_n k, _, _, _, _) => some (q.2.2.1 + 1, k)
    | some (.astore k, _, _, _, _) => some (q.2.2.1 + 2, k)
    | _ => none
  | none => none
/-- the thing that a method is called on: of its class; a constructor's: any -/
def am_rcv : Instr → Nat → List Value → List am_SC → Bool
  | .invokevirtual _, j, .ref r :: _, SK => match am_at SK r with
    | some (.inl (ci, _)) => decide (ci = am_ci j)
    | _ => false
  | .invokespecial _, _, .ref _ :: _, _ => true
  | .invokestatic _, _, _, _ => true
  | _, _, _, _ => false
def am_run (al : Bool) : Nat → Option Nat → Nat → Nat → am_LL → List Value → List am_SC → am_DD → Option (am_R × List am_SC × am_DD × Nat × Nat)
  | 0, _, _, _, _, _, _, _ => none
  | n + 1, scr, i, pc, L, S, SK, D => match am_fetch i pc with
    | none => none
    | some (ins, len, g, a, b) =>
      if 8 ≤ g then some ((pc, L, S), SK, D, 0, 0)
      else if g = 7 then match am_args a S with
        | none => none
        | some (As, S1) => if am_rcv ins a As SK = false then none else match am_run al n scr a 0 (am_L0 a As) [] SK D with
          | none => none
          | some (r, SK1, D1, c1, s1) => match am_end a r with
            | none => none
            | some (.inl v) => match am_run al n scr i (pc + 3) L (v.toList ++ S1) SK1 D1 with
              | none => none
              | some (r2, SK2, D2, c2, s2) => some (r2, SK2, D2, c1 + c2, s1 + s2)
            | some (.inr E) => if al = true then none else match am_hnd i pc E with
              | none => none
              | some (t, k) => if am_clear L k = false then none else match am_run al n scr i t (L.set k none) [] SK1 D1 with
                | none => none
                | some (r2, SK2, D2, c2, s2) => some (r2, SK2, D2, c1 + 1 + c2, s1 + 6 + s2)
      else match am_step al scr ins len g a b pc L S SK D with
        | none => none
        | some (pc', L', S', SK', D', c1, s1) => match am_run al n scr i pc' L' S' SK' D' with
          | none => none
          | some (r2, SK2, D2, c2, s2) => some (r2, SK2, D2, c1 + c2, s1 + s2)
