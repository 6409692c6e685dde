/-! what a row of the code tables rests on: its instruction, its words of the tables, its targets -/
def am_GW : List Cond := lw_tbl.filter goodWord
def am_nestW : Cond → Bool
  | .fieldLinkNest .. => true
  | .methodLinkNest .. => true
  | .declares _ => true
  | .castable .. => true
  | _ => false
def am_NW : List Cond := lw_tbl.filter am_nestW
def am_own (i : Nat) : String := (am_y i).cls
def am_code (j : Nat) : Cond := if am_hh j = [] then .code (am_y j) (am_b j) (am_mL j) (am_ret j) else .codeWith (am_y j) (am_b j) (am_mL j) (am_ret j) (am_hh j)
/-- methods whose bytes are not compared row by row -/
def am_big : List Nat := [45, 48, 66, 104, 105]
def am_cw (a : Nat) : List Cond := if am_big.contains a = true then [] else [am_code a]
def am_en : List String := ["java/lang/IllegalArgumentException", "java/lang/IllegalStateException", "java/lang/IndexOutOfBoundsException"]
def am_ename (E : Nat) : String := am_en.getD E ""
def am_up2 : List String := ["java/lang/RuntimeException", "java/lang/Exception"]
def am_ic (E : Nat) : Nat := [73, 86, 106].getD E 0
def am_word (i : Nat) : Nat × Instr × Nat × Nat × Nat × Nat → List Cond
  | (_, .getfield idx, _, 3, a, b) => let C := (am_cls (a % 100)).2.1 b; if a < 100 then [.fieldLink (am_own i) idx C.1 C.2.1 C.2.2.1] else []
  | (_, .putfield idx, _, 4, a, b) => let C := (am_cls (a % 100)).2.1 b; if a < 100 then [.fieldLink (am_own i) idx C.1 C.2.1 C.2.2.1] else []
  | (_, .new idx, _, 5, a, _) => [.classLink (am_own i) idx (am_cls a).1, .instantiable (am_cls a).1 (am_cls a).2.2, .initialized (am_cls a).1]
  | (_, .newarray t, _, 5, _, _) => [.arrayClass (newarray.typeOf t)]
  | (_, .anewarray idx, _, 5, _, _) => [.classLink (am_own i) idx RX7]
  | (_, .invokespecial idx, _, 6, 1, _) => [.methodLink (am_own i) idx Lib.objectInit, .instanceMethod Lib.objectInit, .code Lib.objectInit ⟨#[0xb1]⟩ 1 none]
  | (_, .invokestatic idx, _, 6, 2, _) => [.methodLink (am_own i) idx Lib.Math.max.name, .static Lib.Math.max.name, .initialized "java/lang/Math", .code Lib.Math.max.name Lib.Math.max.code 2 (some .int)]
  | (_, .invokestatic idx, _, 6, 3, _) => [.methodLink (am_own i) idx Lib.Math.min.name, .static Lib.Math.min.name, .initialized "java/lang/Math", .code Lib.Math.min.name Lib.Math.min.code 2 (some .int)]
  | (_, .invokestatic idx, _, 6, 4, _) => [.methodLink (am_own i) idx arraycopyName, .native arraycopyName, .static arraycopyName, .initialized "java/lang/System"]
  | (_, .ldc idx, _, 6, 5, b) => [.constant (am_own i) idx (Int32.ofNat b)]
  | (_, .ldc_w idx, _, 6, 5, b) => [.constant (am_own i) idx (Int32.ofNat b)]
  | (_, .invokevirtual idx, _, 7, a, _) => [.methodLink (am_own i) idx (am_y a), .instanceMethod (am_y a), .selects (am_own a) (am_y a) (am_y a), .initialized (am_own a)] ++ am_cw a
  | (_, .invokespecial idx, _, 7, a, 0) => [.methodLink (am_own i) idx (am_y a), .instanceMethod (am_y a), .initialized (am_own a)] ++ am_cw a
  | (_, .invokespecial _, _, 7, a, _) => [.instanceMethod (am_y a), .initialized (am_own a)] ++ am_cw a
  | (_, .invokestatic idx, _, 7, a, _) => [.methodLink (am_own i) idx (am_y a), .static (am_y a), .initialized (am_own a)] ++ am_cw a
  | (_, .invokestatic idx, _, 12, a, _) => [.methodLink (am_own i) idx (am_y a), .static (am_y a), .initialized (am_own a)] ++ am_cw a
  | (_, .new ik, _, 9, a, _) => [.classLink (am_own i) ik (am_ename a), .initialized (am_ename a)]
  | _ => []
def am_nword (i : Nat) : Nat × Instr × Nat × Nat × Nat × Nat → List Cond
  | (_, .getfield idx, _, 3, a, b) => let C := (am_cls (a % 100)).2.1 b; if a < 100 then [] else [.fieldLinkNest (am_own i) idx C.1 C.2.1 C.2.2.1 RX10]
  | (_, .putfield idx, _, 4, a, b) => let C := (am_cls (a % 100)).2.1 b; if a < 100 then [] else [.fieldLinkNest (am_own i) idx C.1 C.2.1 C.2.2.1 RX10]
  | (_, .invokespecial idx, _, 7, a, 1) => [.methodLinkNest (am_own i) idx (am_y a) RX10]
  | _ => []
def am_chk (i : Nat) : Nat × Instr × Nat × Nat × Nat × Nat → Bool
  | (_, .iload_n _, l, 1, _, _) => l == 1
  | (_, .aload_n _, l, 1, _, _) => l == 1
  | (_, .dload_n _, l, 1, _, _) => l == 1
  | (_, .istore_n _, l, 1, _, _) => l == 1
  | (_, .astore_n _, l, 1, _, _) => l == 1
  | (_, .dstore_n _, l, 1, _, _) => l == 1
  | (_, .iload _, l, 1, _, _) => l == 2
  | (_, .aload _, l, 1, _, _) => l == 2
  | (_, .dload _, l, 1, _, _) => l == 2
  | (_, .istore _, l, 1, _, _) => l == 2
  | (_, .astore _, l, 1, _, _) => l == 2
  | (_, .dstore _, l, 1, _, _) => l == 2
  | (_, .iinc _ _, l, 1, _, _) => l == 3
  | (_, .bipush _, l, 0, _, _) => l == 2
  | (_, .sipush _, l, 0, _, _) => l == 3
  | (_, _, l, 0, _, _) => l == 1
  | (pc, .goto off, l, 2, a, _) => decide ((pc : Int) + off = (a : Int)) && l == 3
  | (pc, .ifCond _ off, l, 2, a, _) => decide ((pc : Int) + off = (a : Int)) && l == 3
  | (pc, .if_icmp _ off, l, 2, a, _) => decide ((pc : Int) + off = (a : Int)) && l == 3
  | (pc, .ifnull off, l, 2, a, _) => decide ((pc : Int) + off = (a : Int)) && l == 3
  | (_, .tableswitch .., _, 2, _, _) => true
  | (_, .lookupswitch _ ps, _, 2, _, _) => (ps.toList.zip (ps.toList.drop 1)).all (fun (a, next) => a.1 < next.1)
  | (_, .getfield _, l, 3, a, b) => l == 3 && decide (a % 100 < 11) && decide (((am_cls (a % 100)).2.1 b).1 = (am_cls (a % 100)).1)
  | (_, .arraylength, l, 3, _, _) => l == 1
  | (_, .iaload, l, 3, _, _) => l == 1
  | (_, .aaload, l, 3, _, _) => l == 1
  | (_, .putfield _, l, 4, a, b) => l == 3 && decide (a % 100 < 11) && decide (((am_cls (a % 100)).2.1 b).1 = (am_cls (a % 100)).1) && (!((am_cls (a % 100)).2.1 b).2.2.2 || (decide (a < 100) && decide ((am_y i).name = "<init>") && decide (((am_cls a).2.1 b).1 = am_own i)))
  | (_, .iastore, l, 4, _, _) => l == 1
  | (_, .aastore, l, 4, _, _) => l == 1
  | (_, .new _, l, 5, a, _) => l == 3 && decide (a < 11)
  | (_, .newarray _, l, 5, _, _) => l == 2
  | (_, .anewarray _, l, 5, _, _) => l == 3
  | (_, .invokespecial _, l, 6, 1, _) => l == 3 && decide (1 ≤ am_fr i) && decide (20 ≤ am_lo i)
  | (_, .invokestatic _, l, 6, 2, _) => l == 3 && decide (1 ≤ am_fr i) && decide (21 ≤ am_lo i)
  | (_, .invokestatic _, l, 6, 3, _) => l == 3 && decide (1 ≤ am_fr i) && decide (21 ≤ am_lo i)
  | (_, .invokestatic _, l, 6, 4, _) => l == 3 && decide (1 ≤ am_fr i) && decide (26 ≤ am_lo i)
  | (_, .ldc_w _, l, 6, 5, _) => l == 3
  | (_, .ldc _, l, 6, 5, _) => l == 2
  | (_, .invokevirtual _, l, 7, a, _) => l == 3 && decide (am_fr a + 1 ≤ am_fr i) && decide (8 + (am_mL a + 11) + am_lo a ≤ am_lo i) && decide ((am_y a).cls ≠ "java/lang/invoke/MethodHandle") && decide ((am_y a).cls ≠ "java/lang/invoke/VarHandle") && decide ((parseMethodDescriptor (am_y a).desc).map (fun d => d.parameters.length + 1) = some (am_np a)) && decide (am_hh a = []) && decide (am_ci a < 11) && decide ((am_cls (am_ci a)).1 = am_own a)
  | (_, .invokespecial _, l, 7, a, b) => l == 3 && decide (am_fr a + 1 ≤ am_fr i) && decide (8 + (am_mL a + 11) + am_lo a ≤ am_lo i) && decide ((am_y a).cls ≠ "java/lang/invoke/MethodHandle") && decide ((am_y a).cls ≠ "java/lang/invoke/VarHandle") && decide ((parseMethodDescriptor (am_y a).desc).map (fun d => d.parameters.length + 1) = some (am_np a)) && decide (am_hh a = []) && decide ((am_y a).name = "<init>") && decide (am_ret a = none) && decide (b ≤ 1)
  | (_, .invokestatic _, l, 7, a, _) => l == 3 && decide (am_fr a + 1 ≤ am_fr i) && decide (8 + (am_mL a + 11) + am_lo a ≤ am_lo i) && decide ((am_y a).cls ≠ "java/lang/invoke/MethodHandle") && decide ((am_y a).cls ≠ "java/lang/invoke/VarHandle") && decide ((parseMethodDescriptor (am_y a).desc).map (fun d => d.parameters.length) = some (am_np a))
  | (_, .invokestatic _, l, 12, a, _) => l == 3 && decide (am_fr a + 1 ≤ am_fr i) && decide (8 + (am_mL a + 11) + am_lo a ≤ am_lo i) && decide ((am_y a).cls ≠ "java/lang/invoke/MethodHandle") && decide ((am_y a).cls ≠ "java/lang/invoke/VarHandle") && decide ((parseMethodDescriptor (am_y a).desc).map (fun d => d.parameters.length) = some (am_np a)) && decide (am_hh a = [])
  | (_, .ireturn, _, 8, _, _) => true
  | (_, .freturn, _, 8, _, _) => true
  | (_, .return_, _, 8, _, _) => true
  | (_, _, _, 9, _, _) => true
  | (_, _, _, 10, _, _) => true
  | (_, _, _, 11, _, _) => true
  | _ => false
/-- a row of the table of method i stands as it should -/
def am_rowok (i : Nat) (q : Nat × Instr × Nat × Nat × Nat × Nat) : Bool :=
  decide (decode (am_b i) q.1 = .ok (q.2.1, q.2.2.1)) && am_chk i q
