section
-- ===== PART A: goes FIRST, ahead of the names: the tables' words, and 'selects' of the private methods out of them =====
/-- a private method of a class that the tables say can be made, by its rows of tables_1 -/
def lw_okq (q : MethodName × Nat) : Prop := (q.1.cls ≠ "java/lang/invoke/MethodHandle" ∧ q.1.cls ≠ "java/lang/invoke/VarHandle") ∧ Cond.instantiable q.1.cls q.2 ∈ tables_1 ∧ Cond.privateMethod q.1 ∈ tables_1 ∧ Cond.instanceMethod q.1 ∈ tables_1
theorem lw_p0 : lw_okq (⟨"MarbleGates$OrderText", "take", "(I)Z"⟩, 8) := ⟨⟨by decide +kernel, by decide +kernel⟩, List.mem_of_getElem? (i := 234) (by decide +kernel), List.mem_of_getElem? (i := 344) (by decide +kernel), List.mem_of_getElem? (i := 345) (by decide +kernel)⟩
theorem lw_p1 : lw_okq (⟨"MarbleGates$OrderText", "takeSeparator", "()Z"⟩, 8) := ⟨⟨by decide +kernel, by decide +kernel⟩, List.mem_of_getElem? (i := 234) (by decide +kernel), List.mem_of_getElem? (i := 348) (by decide +kernel), List.mem_of_getElem? (i := 349) (by decide +kernel)⟩
theorem lw_p2 : lw_okq (⟨"MarbleGates$OrderText", "mayEnd", "()Z"⟩, 8) := ⟨⟨by decide +kernel, by decide +kernel⟩, List.mem_of_getElem? (i := 234) (by decide +kernel), List.mem_of_getElem? (i := 352) (by decide +kernel), List.mem_of_getElem? (i := 353) (by decide +kernel)⟩
theorem lw_p3 : lw_okq (⟨"MarbleGates$OrderText", "takeKind", "(I)Z"⟩, 8) := ⟨⟨by decide +kernel, by decide +kernel⟩, List.mem_of_getElem? (i := 234) (by decide +kernel), List.mem_of_getElem? (i := 356) (by decide +kernel), List.mem_of_getElem? (i := 357) (by decide +kernel)⟩
theorem lw_p4 : lw_okq (⟨"MarbleGates$OrderText", "takeNumber", "(I)Z"⟩, 8) := ⟨⟨by decide +kernel, by decide +kernel⟩, List.mem_of_getElem? (i := 234) (by decide +kernel), List.mem_of_getElem? (i := 364) (by decide +kernel), List.mem_of_getElem? (i := 365) (by decide +kernel)⟩
theorem lw_p5 : lw_okq (⟨"MarbleGates$OrderText", "takeMoreOfNumber", "(I)Z"⟩, 8) := ⟨⟨by decide +kernel, by decide +kernel⟩, List.mem_of_getElem? (i := 234) (by decide +kernel), List.mem_of_getElem? (i := 371) (by decide +kernel), List.mem_of_getElem? (i := 372) (by decide +kernel)⟩
theorem lw_p6 : lw_okq (⟨"MarbleGates$OrderText", "takeExit", "(I)Z"⟩, 8) := ⟨⟨by decide +kernel, by decide +kernel⟩, List.mem_of_getElem? (i := 234) (by decide +kernel), List.mem_of_getElem? (i := 378) (by decide +kernel), List.mem_of_getElem? (i := 379) (by decide +kernel)⟩
theorem lw_p7 : lw_okq (⟨"MarbleGates$OrderText", "takeTarget", "(I)Z"⟩, 8) := ⟨⟨by decide +kernel, by decide +kernel⟩, List.mem_of_getElem? (i := 234) (by decide +kernel), List.mem_of_getElem? (i := 382) (by decide +kernel), List.mem_of_getElem? (i := 383) (by decide +kernel)⟩
theorem lw_p8 : lw_okq (⟨"MarbleGates$OrderText", "takeMoreOfTarget", "(I)Z"⟩, 8) := ⟨⟨by decide +kernel, by decide +kernel⟩, List.mem_of_getElem? (i := 234) (by decide +kernel), List.mem_of_getElem? (i := 386) (by decide +kernel), List.mem_of_getElem? (i := 387) (by decide +kernel)⟩
theorem lw_p9 : lw_okq (⟨"MarbleGates$OrderText", "takeBin", "(I)Z"⟩, 8) := ⟨⟨by decide +kernel, by decide +kernel⟩, List.mem_of_getElem? (i := 234) (by decide +kernel), List.mem_of_getElem? (i := 390) (by decide +kernel), List.mem_of_getElem? (i := 391) (by decide +kernel)⟩
theorem lw_p10 : lw_okq (⟨"MarbleGates$Rung", "placeOf", "(I)I"⟩, 6) := ⟨⟨by decide +kernel, by decide +kernel⟩, List.mem_of_getElem? (i := 112) (by decide +kernel), List.mem_of_getElem? (i := 406) (by decide +kernel), List.mem_of_getElem? (i := 407) (by decide +kernel)⟩
theorem lw_p11 : lw_okq (⟨"MarbleGates$Rolling", "begin", "()V"⟩, 4) := ⟨⟨by decide +kernel, by decide +kernel⟩, List.mem_of_getElem? (i := 192) (by decide +kernel), List.mem_of_getElem? (i := 423) (by decide +kernel), List.mem_of_getElem? (i := 424) (by decide +kernel)⟩
theorem lw_p12 : lw_okq (⟨"MarbleGates$Rolling", "rollOne", "()I"⟩, 4) := ⟨⟨by decide +kernel, by decide +kernel⟩, List.mem_of_getElem? (i := 192) (by decide +kernel), List.mem_of_getElem? (i := 441) (by decide +kernel), List.mem_of_getElem? (i := 442) (by decide +kernel)⟩
theorem lw_p13 : lw_okq (⟨"java/lang/Throwable", "fillInStackTrace", "(I)Ljava/lang/Throwable;"⟩, 6) := ⟨⟨by decide +kernel, by decide +kernel⟩, List.mem_of_getElem? (i := 521) (by decide +kernel), List.mem_of_getElem? (i := 519) (by decide +kernel), List.mem_of_getElem? (i := 520) (by decide +kernel)⟩
theorem lw_p14 : lw_okq (⟨"MarbleGates$History", "placeOf", "(I)I"⟩, 3) := ⟨⟨by decide +kernel, by decide +kernel⟩, List.mem_of_getElem? (i := 268) (by decide +kernel), List.mem_of_getElem? (i := 575) (by decide +kernel), List.mem_of_getElem? (i := 576) (by decide +kernel)⟩
theorem lw_p15 : lw_okq (⟨"MarbleGates$Run", "passGates", "()V"⟩, 11) := ⟨⟨by decide +kernel, by decide +kernel⟩, List.mem_of_getElem? (i := 31) (by decide +kernel), List.mem_of_getElem? (i := 716) (by decide +kernel), List.mem_of_getElem? (i := 717) (by decide +kernel)⟩
def lw_privs_1 : List (MethodName × Nat) := [(⟨"MarbleGates$OrderText", "take", "(I)Z"⟩, 8), (⟨"MarbleGates$OrderText", "takeSeparator", "()Z"⟩, 8), (⟨"MarbleGates$OrderText", "mayEnd", "()Z"⟩, 8), (⟨"MarbleGates$OrderText", "takeKind", "(I)Z"⟩, 8), (⟨"MarbleGates$OrderText", "takeNumber", "(I)Z"⟩, 8), (⟨"MarbleGates$OrderText", "takeMoreOfNumber", "(I)Z"⟩, 8), (⟨"MarbleGates$OrderText", "takeExit", "(I)Z"⟩, 8), (⟨"MarbleGates$OrderText", "takeTarget", "(I)Z"⟩, 8), (⟨"MarbleGates$OrderText", "takeMoreOfTarget", "(I)Z"⟩, 8), (⟨"MarbleGates$OrderText", "takeBin", "(I)Z"⟩, 8), (⟨"MarbleGates$Rung", "placeOf", "(I)I"⟩, 6), (⟨"MarbleGates$Rolling", "begin", "()V"⟩, 4), (⟨"MarbleGates$Rolling", "rollOne", "()I"⟩, 4), (⟨"java/lang/Throwable", "fillInStackTrace", "(I)Ljava/lang/Throwable;"⟩, 6), (⟨"MarbleGates$History", "placeOf", "(I)I"⟩, 3), (⟨"MarbleGates$Run", "passGates", "()V"⟩, 11)]
theorem lw_r1 : ∀ q ∈ lw_privs_1, lw_okq q := List.forall_mem_cons.mpr ⟨lw_p0, List.forall_mem_cons.mpr ⟨lw_p1, List.forall_mem_cons.mpr ⟨lw_p2, List.forall_mem_cons.mpr ⟨lw_p3, List.forall_mem_cons.mpr ⟨lw_p4, List.forall_mem_cons.mpr ⟨lw_p5, List.forall_mem_cons.mpr ⟨lw_p6, List.forall_mem_cons.mpr ⟨lw_p7, List.forall_mem_cons.mpr ⟨lw_p8, List.forall_mem_cons.mpr ⟨lw_p9, List.forall_mem_cons.mpr ⟨lw_p10, List.forall_mem_cons.mpr ⟨lw_p11, List.forall_mem_cons.mpr ⟨lw_p12, List.forall_mem_cons.mpr ⟨lw_p13, List.forall_mem_cons.mpr ⟨lw_p14, List.forall_mem_cons.mpr ⟨lw_p15, fun _ h => absurd h List.not_mem_nil⟩⟩⟩⟩⟩⟩⟩⟩⟩⟩⟩⟩⟩⟩⟩⟩
theorem lw_p16 : lw_okq (⟨"MarbleGates$Run", "dropIfDue", "()V"⟩, 11) := ⟨⟨by decide +kernel, by decide +kernel⟩, List.mem_of_getElem? (i := 31) (by decide +kernel), List.mem_of_getElem? (i := 738) (by decide +kernel), List.mem_of_getElem? (i := 739) (by decide +kernel)⟩
theorem lw_p17 : lw_okq (⟨"MarbleGates$Run", "liftIfDue", "()V"⟩, 11) := ⟨⟨by decide +kernel, by decide +kernel⟩, List.mem_of_getElem? (i := 31) (by decide +kernel), List.mem_of_getElem? (i := 747) (by decide +kernel), List.mem_of_getElem? (i := 748) (by decide +kernel)⟩
theorem lw_p18 : lw_okq (⟨"MarbleGates", "obey", "(I)Z"⟩, 6) := ⟨⟨by decide +kernel, by decide +kernel⟩, List.mem_of_getElem? (i := 23) (by decide +kernel), List.mem_of_getElem? (i := 801) (by decide +kernel), List.mem_of_getElem? (i := 802) (by decide +kernel)⟩
theorem lw_p19 : lw_okq (⟨"MarbleGates", "mayObey", "(II)Z"⟩, 6) := ⟨⟨by decide +kernel, by decide +kernel⟩, List.mem_of_getElem? (i := 23) (by decide +kernel), List.mem_of_getElem? (i := 809) (by decide +kernel), List.mem_of_getElem? (i := 810) (by decide +kernel)⟩
theorem lw_p20 : lw_okq (⟨"MarbleGates$Music", "tallyPitches", "()V"⟩, 4) := ⟨⟨by decide +kernel, by decide +kernel⟩, List.mem_of_getElem? (i := 213) (by decide +kernel), List.mem_of_getElem? (i := 966) (by decide +kernel), List.mem_of_getElem? (i := 967) (by decide +kernel)⟩
theorem lw_p21 : lw_okq (⟨"MarbleGates$Music", "gatherChords", "()V"⟩, 4) := ⟨⟨by decide +kernel, by decide +kernel⟩, List.mem_of_getElem? (i := 213) (by decide +kernel), List.mem_of_getElem? (i := 981) (by decide +kernel), List.mem_of_getElem? (i := 982) (by decide +kernel)⟩
theorem lw_p22 : lw_okq (⟨"MarbleGates$Music", "isFirstOfItsKind", "(I)Z"⟩, 4) := ⟨⟨by decide +kernel, by decide +kernel⟩, List.mem_of_getElem? (i := 213) (by decide +kernel), List.mem_of_getElem? (i := 986) (by decide +kernel), List.mem_of_getElem? (i := 987) (by decide +kernel)⟩
theorem lw_p23 : lw_okq (⟨"MarbleGatesModel", "gateError", "(I)I"⟩, 13) := ⟨⟨by decide +kernel, by decide +kernel⟩, List.mem_of_getElem? (i := 1062) (by decide +kernel), List.mem_of_getElem? (i := 1117) (by decide +kernel), List.mem_of_getElem? (i := 1118) (by decide +kernel)⟩
theorem lw_p24 : lw_okq (⟨"MarbleGatesModel", "holds", "(I)Z"⟩, 13) := ⟨⟨by decide +kernel, by decide +kernel⟩, List.mem_of_getElem? (i := 1062) (by decide +kernel), List.mem_of_getElem? (i := 1127) (by decide +kernel), List.mem_of_getElem? (i := 1128) (by decide +kernel)⟩
theorem lw_p25 : lw_okq (⟨"MarbleGatesModel", "save", "()V"⟩, 13) := ⟨⟨by decide +kernel, by decide +kernel⟩, List.mem_of_getElem? (i := 1062) (by decide +kernel), List.mem_of_getElem? (i := 1131) (by decide +kernel), List.mem_of_getElem? (i := 1132) (by decide +kernel)⟩
theorem lw_p26 : lw_okq (⟨"MarbleGatesModel", "doGate", "(I)I"⟩, 13) := ⟨⟨by decide +kernel, by decide +kernel⟩, List.mem_of_getElem? (i := 1062) (by decide +kernel), List.mem_of_getElem? (i := 1138) (by decide +kernel), List.mem_of_getElem? (i := 1139) (by decide +kernel)⟩
theorem lw_p27 : lw_okq (⟨"MarbleGatesModel", "put", "(III)V"⟩, 13) := ⟨⟨by decide +kernel, by decide +kernel⟩, List.mem_of_getElem? (i := 1062) (by decide +kernel), List.mem_of_getElem? (i := 1142) (by decide +kernel), List.mem_of_getElem? (i := 1143) (by decide +kernel)⟩
theorem lw_p28 : lw_okq (⟨"MarbleGatesModel", "leadError", "(III)I"⟩, 13) := ⟨⟨by decide +kernel, by decide +kernel⟩, List.mem_of_getElem? (i := 1062) (by decide +kernel), List.mem_of_getElem? (i := 1150) (by decide +kernel), List.mem_of_getElem? (i := 1151) (by decide +kernel)⟩
theorem lw_p29 : lw_okq (⟨"MarbleGatesModel", "isGate", "(I)Z"⟩, 13) := ⟨⟨by decide +kernel, by decide +kernel⟩, List.mem_of_getElem? (i := 1062) (by decide +kernel), List.mem_of_getElem? (i := 1154) (by decide +kernel), List.mem_of_getElem? (i := 1155) (by decide +kernel)⟩
theorem lw_p30 : lw_okq (⟨"MarbleGatesModel", "isTarget", "(I)Z"⟩, 13) := ⟨⟨by decide +kernel, by decide +kernel⟩, List.mem_of_getElem? (i := 1062) (by decide +kernel), List.mem_of_getElem? (i := 1158) (by decide +kernel), List.mem_of_getElem? (i := 1159) (by decide +kernel)⟩
theorem lw_p31 : lw_okq (⟨"MarbleGatesModel", "doLead", "(III)I"⟩, 13) := ⟨⟨by decide +kernel, by decide +kernel⟩, List.mem_of_getElem? (i := 1062) (by decide +kernel), List.mem_of_getElem? (i := 1165) (by decide +kernel), List.mem_of_getElem? (i := 1166) (by decide +kernel)⟩
def lw_privs_2 : List (MethodName × Nat) := [(⟨"MarbleGates$Run", "dropIfDue", "()V"⟩, 11), (⟨"MarbleGates$Run", "liftIfDue", "()V"⟩, 11), (⟨"MarbleGates", "obey", "(I)Z"⟩, 6), (⟨"MarbleGates", "mayObey", "(II)Z"⟩, 6), (⟨"MarbleGates$Music", "tallyPitches", "()V"⟩, 4), (⟨"MarbleGates$Music", "gatherChords", "()V"⟩, 4), (⟨"MarbleGates$Music", "isFirstOfItsKind", "(I)Z"⟩, 4), (⟨"MarbleGatesModel", "gateError", "(I)I"⟩, 13), (⟨"MarbleGatesModel", "holds", "(I)Z"⟩, 13), (⟨"MarbleGatesModel", "save", "()V"⟩, 13), (⟨"MarbleGatesModel", "doGate", "(I)I"⟩, 13), (⟨"MarbleGatesModel", "put", "(III)V"⟩, 13), (⟨"MarbleGatesModel", "leadError", "(III)I"⟩, 13), (⟨"MarbleGatesModel", "isGate", "(I)Z"⟩, 13), (⟨"MarbleGatesModel", "isTarget", "(I)Z"⟩, 13), (⟨"MarbleGatesModel", "doLead", "(III)I"⟩, 13)]
theorem lw_r2 : ∀ q ∈ lw_privs_2, lw_okq q := List.forall_mem_cons.mpr ⟨lw_p16, List.forall_mem_cons.mpr ⟨lw_p17, List.forall_mem_cons.mpr ⟨lw_p18, List.forall_mem_cons.mpr ⟨lw_p19, List.forall_mem_cons.mpr ⟨lw_p20, List.forall_mem_cons.mpr ⟨lw_p21, List.forall_mem_cons.mpr ⟨lw_p22, List.forall_mem_cons.mpr ⟨lw_p23, List.forall_mem_cons.mpr ⟨lw_p24, List.forall_mem_cons.mpr ⟨lw_p25, List.forall_mem_cons.mpr ⟨lw_p26, List.forall_mem_cons.mpr ⟨lw_p27, List.forall_mem_cons.mpr ⟨lw_p28, List.forall_mem_cons.mpr ⟨lw_p29, List.forall_mem_cons.mpr ⟨lw_p30, List.forall_mem_cons.mpr ⟨lw_p31, fun _ h => absurd h List.not_mem_nil⟩⟩⟩⟩⟩⟩⟩⟩⟩⟩⟩⟩⟩⟩⟩⟩
theorem lw_p32 : lw_okq (⟨"MarbleGatesModel", "of", "(II)I"⟩, 13) := ⟨⟨by decide +kernel, by decide +kernel⟩, List.mem_of_getElem? (i := 1062) (by decide +kernel), List.mem_of_getElem? (i := 1169) (by decide +kernel), List.mem_of_getElem? (i := 1170) (by decide +kernel)⟩
theorem lw_p33 : lw_okq (⟨"MarbleGatesModel", "doFlip", "(I)I"⟩, 13) := ⟨⟨by decide +kernel, by decide +kernel⟩, List.mem_of_getElem? (i := 1062) (by decide +kernel), List.mem_of_getElem? (i := 1181) (by decide +kernel), List.mem_of_getElem? (i := 1182) (by decide +kernel)⟩
theorem lw_p34 : lw_okq (⟨"MarbleGatesModel", "dropError", "(I)I"⟩, 13) := ⟨⟨by decide +kernel, by decide +kernel⟩, List.mem_of_getElem? (i := 1062) (by decide +kernel), List.mem_of_getElem? (i := 1193) (by decide +kernel), List.mem_of_getElem? (i := 1194) (by decide +kernel)⟩
theorem lw_p35 : lw_okq (⟨"MarbleGatesModel", "doDrop", "(I)I"⟩, 13) := ⟨⟨by decide +kernel, by decide +kernel⟩, List.mem_of_getElem? (i := 1062) (by decide +kernel), List.mem_of_getElem? (i := 1197) (by decide +kernel), List.mem_of_getElem? (i := 1198) (by decide +kernel)⟩
theorem lw_p36 : lw_okq (⟨"MarbleGatesModel", "doPlay", "(I)I"⟩, 13) := ⟨⟨by decide +kernel, by decide +kernel⟩, List.mem_of_getElem? (i := 1062) (by decide +kernel), List.mem_of_getElem? (i := 1205) (by decide +kernel), List.mem_of_getElem? (i := 1206) (by decide +kernel)⟩
theorem lw_p37 : lw_okq (⟨"MarbleGatesModel", "beat", "()V"⟩, 13) := ⟨⟨by decide +kernel, by decide +kernel⟩, List.mem_of_getElem? (i := 1062) (by decide +kernel), List.mem_of_getElem? (i := 1209) (by decide +kernel), List.mem_of_getElem? (i := 1210) (by decide +kernel)⟩
theorem lw_p38 : lw_okq (⟨"MarbleGatesModel", "passGate", "(I)I"⟩, 13) := ⟨⟨by decide +kernel, by decide +kernel⟩, List.mem_of_getElem? (i := 1062) (by decide +kernel), List.mem_of_getElem? (i := 1213) (by decide +kernel), List.mem_of_getElem? (i := 1214) (by decide +kernel)⟩
theorem lw_p39 : lw_okq (⟨"MarbleGatesModel", "ring", "(I)V"⟩, 13) := ⟨⟨by decide +kernel, by decide +kernel⟩, List.mem_of_getElem? (i := 1062) (by decide +kernel), List.mem_of_getElem? (i := 1217) (by decide +kernel), List.mem_of_getElem? (i := 1218) (by decide +kernel)⟩
theorem lw_p40 : lw_okq (⟨"MarbleGatesModel", "takeOut", "(I)V"⟩, 13) := ⟨⟨by decide +kernel, by decide +kernel⟩, List.mem_of_getElem? (i := 1062) (by decide +kernel), List.mem_of_getElem? (i := 1221) (by decide +kernel), List.mem_of_getElem? (i := 1222) (by decide +kernel)⟩
theorem lw_p41 : lw_okq (⟨"MarbleGatesModel", "dropOne", "()V"⟩, 13) := ⟨⟨by decide +kernel, by decide +kernel⟩, List.mem_of_getElem? (i := 1062) (by decide +kernel), List.mem_of_getElem? (i := 1225) (by decide +kernel), List.mem_of_getElem? (i := 1226) (by decide +kernel)⟩
theorem lw_p42 : lw_okq (⟨"MarbleGatesModel", "lift", "()V"⟩, 13) := ⟨⟨by decide +kernel, by decide +kernel⟩, List.mem_of_getElem? (i := 1062) (by decide +kernel), List.mem_of_getElem? (i := 1229) (by decide +kernel), List.mem_of_getElem? (i := 1230) (by decide +kernel)⟩
theorem lw_p43 : lw_okq (⟨"MarbleGatesModel", "readText", "(Z)Z"⟩, 13) := ⟨⟨by decide +kernel, by decide +kernel⟩, List.mem_of_getElem? (i := 1062) (by decide +kernel), List.mem_of_getElem? (i := 1249) (by decide +kernel), List.mem_of_getElem? (i := 1250) (by decide +kernel)⟩
theorem lw_p44 : lw_okq (⟨"MarbleGatesModel", "readOrder", "()Z"⟩, 13) := ⟨⟨by decide +kernel, by decide +kernel⟩, List.mem_of_getElem? (i := 1062) (by decide +kernel), List.mem_of_getElem? (i := 1253) (by decide +kernel), List.mem_of_getElem? (i := 1254) (by decide +kernel)⟩
theorem lw_p45 : lw_okq (⟨"MarbleGatesModel", "readNumber", "(III)Z"⟩, 13) := ⟨⟨by decide +kernel, by decide +kernel⟩, List.mem_of_getElem? (i := 1062) (by decide +kernel), List.mem_of_getElem? (i := 1257) (by decide +kernel), List.mem_of_getElem? (i := 1258) (by decide +kernel)⟩
theorem lw_p46 : lw_okq (⟨"MarbleGatesModel", "isNext", "(II)Z"⟩, 13) := ⟨⟨by decide +kernel, by decide +kernel⟩, List.mem_of_getElem? (i := 1062) (by decide +kernel), List.mem_of_getElem? (i := 1261) (by decide +kernel), List.mem_of_getElem? (i := 1262) (by decide +kernel)⟩
theorem lw_p47 : lw_okq (⟨"MarbleGatesModel", "readLead", "()Z"⟩, 13) := ⟨⟨by decide +kernel, by decide +kernel⟩, List.mem_of_getElem? (i := 1062) (by decide +kernel), List.mem_of_getElem? (i := 1265) (by decide +kernel), List.mem_of_getElem? (i := 1266) (by decide +kernel)⟩
def lw_privs_3 : List (MethodName × Nat) := [(⟨"MarbleGatesModel", "of", "(II)I"⟩, 13), (⟨"MarbleGatesModel", "doFlip", "(I)I"⟩, 13), (⟨"MarbleGatesModel", "dropError", "(I)I"⟩, 13), (⟨"MarbleGatesModel", "doDrop", "(I)I"⟩, 13), (⟨"MarbleGatesModel", "doPlay", "(I)I"⟩, 13), (⟨"MarbleGatesModel", "beat", "()V"⟩, 13), (⟨"MarbleGatesModel", "passGate", "(I)I"⟩, 13), (⟨"MarbleGatesModel", "ring", "(I)V"⟩, 13), (⟨"MarbleGatesModel", "takeOut", "(I)V"⟩, 13), (⟨"MarbleGatesModel", "dropOne", "()V"⟩, 13), (⟨"MarbleGatesModel", "lift", "()V"⟩, 13), (⟨"MarbleGatesModel", "readText", "(Z)Z"⟩, 13), (⟨"MarbleGatesModel", "readOrder", "()Z"⟩, 13), (⟨"MarbleGatesModel", "readNumber", "(III)Z"⟩, 13), (⟨"MarbleGatesModel", "isNext", "(II)Z"⟩, 13), (⟨"MarbleGatesModel", "readLead", "()Z"⟩, 13)]
theorem lw_r3 : ∀ q ∈ lw_privs_3, lw_okq q := List.forall_mem_cons.mpr ⟨lw_p32, List.forall_mem_cons.mpr ⟨lw_p33, List.forall_mem_cons.mpr ⟨lw_p34, List.forall_mem_cons.mpr ⟨lw_p35, List.forall_mem_cons.mpr ⟨lw_p36, List.forall_mem_cons.mpr ⟨lw_p37, List.forall_mem_cons.mpr ⟨lw_p38, List.forall_mem_cons.mpr ⟨lw_p39, List.forall_mem_cons.mpr ⟨lw_p40, List.forall_mem_cons.mpr ⟨lw_p41, List.forall_mem_cons.mpr ⟨lw_p42, List.forall_mem_cons.mpr ⟨lw_p43, List.forall_mem_cons.mpr ⟨lw_p44, List.forall_mem_cons.mpr ⟨lw_p45, List.forall_mem_cons.mpr ⟨lw_p46, List.forall_mem_cons.mpr ⟨lw_p47, fun _ h => absurd h List.not_mem_nil⟩⟩⟩⟩⟩⟩⟩⟩⟩⟩⟩⟩⟩⟩⟩⟩
theorem lw_p48 : lw_okq (⟨"MarbleGatesModel", "takes", "(I)Z"⟩, 13) := ⟨⟨by decide +kernel, by decide +kernel⟩, List.mem_of_getElem? (i := 1062) (by decide +kernel), List.mem_of_getElem? (i := 1269) (by decide +kernel), List.mem_of_getElem? (i := 1270) (by decide +kernel)⟩
theorem lw_p49 : lw_okq (⟨"MarbleGatesModel", "canDo", "()Z"⟩, 13) := ⟨⟨by decide +kernel, by decide +kernel⟩, List.mem_of_getElem? (i := 1062) (by decide +kernel), List.mem_of_getElem? (i := 1273) (by decide +kernel), List.mem_of_getElem? (i := 1274) (by decide +kernel)⟩
theorem lw_p50 : lw_okq (⟨"MarbleGatesModel", "does", "()I"⟩, 13) := ⟨⟨by decide +kernel, by decide +kernel⟩, List.mem_of_getElem? (i := 1062) (by decide +kernel), List.mem_of_getElem? (i := 1277) (by decide +kernel), List.mem_of_getElem? (i := 1278) (by decide +kernel)⟩
theorem lw_p51 : lw_okq (⟨"MarbleGatesModel", "ballsAt", "(I)I"⟩, 13) := ⟨⟨by decide +kernel, by decide +kernel⟩, List.mem_of_getElem? (i := 1062) (by decide +kernel), List.mem_of_getElem? (i := 1304) (by decide +kernel), List.mem_of_getElem? (i := 1305) (by decide +kernel)⟩
theorem lw_p52 : lw_okq (⟨"MarbleGatesModel", "ofBall", "(II)I"⟩, 13) := ⟨⟨by decide +kernel, by decide +kernel⟩, List.mem_of_getElem? (i := 1062) (by decide +kernel), List.mem_of_getElem? (i := 1308) (by decide +kernel), List.mem_of_getElem? (i := 1309) (by decide +kernel)⟩
theorem lw_p53 : lw_okq (⟨"MarbleGatesModel", "wayFrom", "(IZ)I"⟩, 13) := ⟨⟨by decide +kernel, by decide +kernel⟩, List.mem_of_getElem? (i := 1062) (by decide +kernel), List.mem_of_getElem? (i := 1316) (by decide +kernel), List.mem_of_getElem? (i := 1317) (by decide +kernel)⟩
theorem lw_p54 : lw_okq (⟨"MarbleGatesModel", "exitsTo", "(I)I"⟩, 13) := ⟨⟨by decide +kernel, by decide +kernel⟩, List.mem_of_getElem? (i := 1062) (by decide +kernel), List.mem_of_getElem? (i := 1324) (by decide +kernel), List.mem_of_getElem? (i := 1325) (by decide +kernel)⟩
theorem lw_p55 : lw_okq (⟨"MarbleGatesModel", "ofNote", "(II)I"⟩, 13) := ⟨⟨by decide +kernel, by decide +kernel⟩, List.mem_of_getElem? (i := 1062) (by decide +kernel), List.mem_of_getElem? (i := 1336) (by decide +kernel), List.mem_of_getElem? (i := 1337) (by decide +kernel)⟩
theorem lw_p56 : lw_okq (⟨"MarbleGatesModel", "chordOf", "(I)I"⟩, 13) := ⟨⟨by decide +kernel, by decide +kernel⟩, List.mem_of_getElem? (i := 1062) (by decide +kernel), List.mem_of_getElem? (i := 1344) (by decide +kernel), List.mem_of_getElem? (i := 1345) (by decide +kernel)⟩
theorem lw_p57 : lw_okq (⟨"MarbleGatesModel", "pitches", "()I"⟩, 13) := ⟨⟨by decide +kernel, by decide +kernel⟩, List.mem_of_getElem? (i := 1062) (by decide +kernel), List.mem_of_getElem? (i := 1352) (by decide +kernel), List.mem_of_getElem? (i := 1353) (by decide +kernel)⟩
theorem lw_p58 : lw_okq (⟨"MarbleGatesModel", "notesOf", "(I)I"⟩, 13) := ⟨⟨by decide +kernel, by decide +kernel⟩, List.mem_of_getElem? (i := 1062) (by decide +kernel), List.mem_of_getElem? (i := 1356) (by decide +kernel), List.mem_of_getElem? (i := 1357) (by decide +kernel)⟩
theorem lw_p59 : lw_okq (⟨"MarbleGatesModel", "commonest", "()I"⟩, 13) := ⟨⟨by decide +kernel, by decide +kernel⟩, List.mem_of_getElem? (i := 1062) (by decide +kernel), List.mem_of_getElem? (i := 1360) (by decide +kernel), List.mem_of_getElem? (i := 1361) (by decide +kernel)⟩
theorem lw_p60 : lw_okq (⟨"MarbleGatesModel", "chords", "()I"⟩, 13) := ⟨⟨by decide +kernel, by decide +kernel⟩, List.mem_of_getElem? (i := 1062) (by decide +kernel), List.mem_of_getElem? (i := 1364) (by decide +kernel), List.mem_of_getElem? (i := 1365) (by decide +kernel)⟩
theorem lw_p61 : lw_okq (⟨"MarbleGatesModel", "isNewChord", "(I)Z"⟩, 13) := ⟨⟨by decide +kernel, by decide +kernel⟩, List.mem_of_getElem? (i := 1062) (by decide +kernel), List.mem_of_getElem? (i := 1368) (by decide +kernel), List.mem_of_getElem? (i := 1369) (by decide +kernel)⟩
theorem lw_p62 : lw_okq (⟨"MarbleGatesModel", "widestChord", "()I"⟩, 13) := ⟨⟨by decide +kernel, by decide +kernel⟩, List.mem_of_getElem? (i := 1062) (by decide +kernel), List.mem_of_getElem? (i := 1372) (by decide +kernel), List.mem_of_getElem? (i := 1373) (by decide +kernel)⟩
theorem lw_p63 : lw_okq (⟨"MarbleGatesModel", "steps", "(Z)I"⟩, 13) := ⟨⟨by decide +kernel, by decide +kernel⟩, List.mem_of_getElem? (i := 1062) (by decide +kernel), List.mem_of_getElem? (i := 1376) (by decide +kernel), List.mem_of_getElem? (i := 1377) (by decide +kernel)⟩
def lw_privs_4 : List (MethodName × Nat) := [(⟨"MarbleGatesModel", "takes", "(I)Z"⟩, 13), (⟨"MarbleGatesModel", "canDo", "()Z"⟩, 13), (⟨"MarbleGatesModel", "does", "()I"⟩, 13), (⟨"MarbleGatesModel", "ballsAt", "(I)I"⟩, 13), (⟨"MarbleGatesModel", "ofBall", "(II)I"⟩, 13), (⟨"MarbleGatesModel", "wayFrom", "(IZ)I"⟩, 13), (⟨"MarbleGatesModel", "exitsTo", "(I)I"⟩, 13), (⟨"MarbleGatesModel", "ofNote", "(II)I"⟩, 13), (⟨"MarbleGatesModel", "chordOf", "(I)I"⟩, 13), (⟨"MarbleGatesModel", "pitches", "()I"⟩, 13), (⟨"MarbleGatesModel", "notesOf", "(I)I"⟩, 13), (⟨"MarbleGatesModel", "commonest", "()I"⟩, 13), (⟨"MarbleGatesModel", "chords", "()I"⟩, 13), (⟨"MarbleGatesModel", "isNewChord", "(I)Z"⟩, 13), (⟨"MarbleGatesModel", "widestChord", "()I"⟩, 13), (⟨"MarbleGatesModel", "steps", "(Z)I"⟩, 13)]
theorem lw_r4 : ∀ q ∈ lw_privs_4, lw_okq q := List.forall_mem_cons.mpr ⟨lw_p48, List.forall_mem_cons.mpr ⟨lw_p49, List.forall_mem_cons.mpr ⟨lw_p50, List.forall_mem_cons.mpr ⟨lw_p51, List.forall_mem_cons.mpr ⟨lw_p52, List.forall_mem_cons.mpr ⟨lw_p53, List.forall_mem_cons.mpr ⟨lw_p54, List.forall_mem_cons.mpr ⟨lw_p55, List.forall_mem_cons.mpr ⟨lw_p56, List.forall_mem_cons.mpr ⟨lw_p57, List.forall_mem_cons.mpr ⟨lw_p58, List.forall_mem_cons.mpr ⟨lw_p59, List.forall_mem_cons.mpr ⟨lw_p60, List.forall_mem_cons.mpr ⟨lw_p61, List.forall_mem_cons.mpr ⟨lw_p62, List.forall_mem_cons.mpr ⟨lw_p63, fun _ h => absurd h List.not_mem_nil⟩⟩⟩⟩⟩⟩⟩⟩⟩⟩⟩⟩⟩⟩⟩⟩
theorem lw_p64 : lw_okq (⟨"MarbleGatesModel", "rollOut", "(I)V"⟩, 13) := ⟨⟨by decide +kernel, by decide +kernel⟩, List.mem_of_getElem? (i := 1062) (by decide +kernel), List.mem_of_getElem? (i := 1391) (by decide +kernel), List.mem_of_getElem? (i := 1392) (by decide +kernel)⟩
theorem lw_p65 : lw_okq (⟨"MarbleGatesModel", "areAsNow", "(I)Z"⟩, 13) := ⟨⟨by decide +kernel, by decide +kernel⟩, List.mem_of_getElem? (i := 1062) (by decide +kernel), List.mem_of_getElem? (i := 1411) (by decide +kernel), List.mem_of_getElem? (i := 1412) (by decide +kernel)⟩
def lw_privs_5 : List (MethodName × Nat) := [(⟨"MarbleGatesModel", "rollOut", "(I)V"⟩, 13), (⟨"MarbleGatesModel", "areAsNow", "(I)Z"⟩, 13)]
theorem lw_r5 : ∀ q ∈ lw_privs_5, lw_okq q := List.forall_mem_cons.mpr ⟨lw_p64, List.forall_mem_cons.mpr ⟨lw_p65, fun _ h => absurd h List.not_mem_nil⟩⟩
def lw_privs : List (MethodName × Nat) := lw_privs_1 ++ (lw_privs_2 ++ (lw_privs_3 ++ (lw_privs_4 ++ (lw_privs_5))))
def lw_tbl : List Cond := k2_sels lw_privs ++ tables_1
theorem lw_privs_ok : ∀ q ∈ lw_privs, lw_okq q := by
  show ∀ q ∈ lw_privs_1 ++ (lw_privs_2 ++ (lw_privs_3 ++ (lw_privs_4 ++ (lw_privs_5)))), lw_okq q
  exact List.forall_mem_append.mpr ⟨lw_r1, List.forall_mem_append.mpr ⟨lw_r2, List.forall_mem_append.mpr ⟨lw_r3, List.forall_mem_append.mpr ⟨lw_r4, lw_r5⟩⟩⟩⟩
/-- the streams that the claim lets the run draw from -/
abbrev lw_cs : List Choice := [Jvm.Choice.named "NaN.bits"]
theorem lw_bits : nanBits ∈ lw_cs := by first | decide | exact List.mem_cons_self | simp [lw_cs, nanBits]
-- ===== end of PART A; then your names; then what follows =====
end
section
/-! ===== BEGIN words of one list among another's, by their places ===== -/
theorem goodIn_r {big : List Cond} (ws : List Cond) (ps : List Nat) (hp : ws = ps.filterMap (fun i => big[i]?)) (h : ws.all goodWord = true) : GoodIn big ws := by
  intro w hw
  have h1 := List.all_eq_true.mp h w hw
  rw [hp] at hw
  obtain ⟨i, -, hi⟩ := List.mem_filterMap.mp hw
  have hm : w ∈ big := by first | exact List.mem_of_getElem? hi | exact List.getElem?_mem hi
  exact ⟨hm, good_of_word h1⟩
theorem goodIn_app {big a b : List Cond} (ha : GoodIn big a) (hb : GoodIn big b) : GoodIn big (a ++ b) := fun w h => (List.mem_append.mp h).elim (ha w) (hb w)
theorem goodIn_ca {big a b : List Cond} {c : Cond} (ha : GoodIn big (c :: a)) (hb : GoodIn big b) : GoodIn big (c :: (a ++ b)) := fun w h => (List.mem_cons.mp h).elim (fun e => ha w (List.mem_cons.mpr (Or.inl e))) (fun h => (List.mem_append.mp h).elim (fun h => ha w (List.mem_cons.mpr (Or.inr h))) (hb w))
theorem goodIn_sub {big ws : List Cond} (hm : ∀ w ∈ ws, w ∈ big) (h : ws.all goodWord = true) : GoodIn big ws := fun w hw => ⟨hm w hw, good_of_word (List.all_eq_true.mp h w hw)⟩
/-! ===== END ===== -/

/-! ===== BEGIN exceptions that leave a method, and their catching by the caller (launches without stack traces) ===== -/
section VXA
/-! The laws vx_back, vx_callV, vx_callS, vx_callSW, vx_throw0, vx_throwS follow proofs of the library, with one case more: JvmDerived/Free/Laws.lean (Back.of_free), Shelf42/LK1.lean (callV, callS), Shelf/KitTraced.lean (throwNew0V, throwNewS). -/
/-- where a method has thrown q: the class by its name, the cell, what was written, the world -/
def vx_T (XC : String → State → State → Prop) (st : State) (q : Addr) (t : State) (mc ms : Nat) (free : Addr → Prop) : Prop :=
  ∃ (E : String) (ce : Cell) (L : List Loc), XC E st t ∧ t.heap[q]? = some ce ∧ ce.vm = .none ∧ st.vm.findClass E = some ce.cls ∧ st.WarmedH t.vm ∧ st.sameButNew ({ t with vm := st.vm } : State) L mc ms ∧ ∀ z ∈ L, free z.base
def vx_Q (Qc : Array Value → State → Outcome → State → Prop) (XC : String → State → State → Prop) (mc ms : Nat) (free : Addr → Prop) : Array Value → State → Outcome → State → Prop := fun a st o t =>
  (Qc a st o t ∧ ∃ L, FrameEnd st o t L mc ms ∧ ∀ q ∈ L, free q.base) ∨ ∃ q, o = .threw q ∧ vx_T XC st q t mc ms free
/-- a callee that returns or throws -/
def vx_Met (l : Launch) (y : MethodName) (ws : List Cond) (rm : Room) (Pc : Array Value → State → Prop) (Qc : Array Value → State → Outcome → State → Prop) (XC : String → State → State → Prop) (mc ms : Nat) (free : Addr → Prop) : Prop :=
  MetFree l y (headSpec ws rm) Pc (fun _ _ _ _ _ => True) (vx_Q Qc XC mc ms free)
def vx_Post (XC : String → State → State → Prop) (mc ms : Nat) (free : Addr → Prop) : Pt → Array Value → Addr → Pt → Prop := fun A a q B =>
  ∃ (g : JFrame) (mk : MethodId) (t : State) (L : List Loc) (E : String) (ce : Cell), B.U.heap = t.heap ∧ B.U.vm = t.vm ∧ XC E (A.U.calling g mk a) t ∧ t.heap[q]? = some ce ∧ ce.vm = .none ∧ A.U.vm.findClass E = some ce.cls ∧ B.locs = A.locs ++ L ∧ (∀ z ∈ L, free z.base) ∧ B.cells = A.cells + mc ∧ B.slots = A.slots + ms
def vx_Back (l : Launch) (R : Room) (p : Program) (e : Env) (below : List Frame) (s : State) (sargs : Array Value) (y : MethodName) (len W9 : Nat)
    (Pre : Pt → Array Value → Prop) (Post : Pt → Array Value → Option Value → Pt → Prop) (PostX : Pt → Array Value → Addr → Pt → Prop) : Prop :=
  ∀ (m : MethodId) (meth : Method) (c : Code) (A : Pt) (g : JFrame) (ig : Instr) (mk : MethodId) (a : Array Value),
    Stand p l e R s m sargs below meth c A.U A.locs A.cells A.slots → g.method = m → g.locals.size = c.maxLocals → decode c.code g.pc = .ok (ig, len) →
    2 * g.monitorRoom + (g.stack.map fun v => v.category).sum ≤ W9 → A.U.methodNamed? y = some mk → Pre A a →
    (∃ (v : Option Value) (B : Pt), Stand p l e R s m sargs below meth c B.U B.locs B.cells B.slots ∧ Post A a v B ∧
      Steps p.tables e below (doInvoke e (A.U.setTop g) [] mk a).1 (B.U.setTop { g with pc := g.pc + len, stack := v.toList ++ g.stack })) ∨
    (∃ (q : Addr) (B : Pt), Stand p l e R s m sargs below meth c B.U B.locs B.cells B.slots ∧ PostX A a q B ∧
      Steps p.tables e below (doInvoke e (A.U.setTop g) [] mk a).1 ((B.U.setTop g).pushFrame (.throwing q)))
section Payer
variable {l : Launch} {R : Room} {p : Program} {e : Env} {below : List Frame} {s : State} {sargs : Array Value} {y : MethodName} {len W9 : Nat}
theorem vx_back {ws : List Cond} {rm : Room} {Pc : Array Value → State → Prop} {Qc : Array Value → State → Outcome → State → Prop} {XC : String → State → State → Prop} {mc ms : Nat} {free : Addr → Prop} {bytes : ByteArray} {maxL : Nat} {ret : Option FieldType}
    (hM : vx_Met l y ws rm Pc Qc XC mc ms free) (hblind : FrameBlind Pc) (hrc : rm.cells = mc) (hrs : rm.slots = ms)
    (hframes : rm.frames + 1 ≤ R.frames) (hlocals : W9 + (maxL + 11) + rm.locals ≤ R.locals)
    (hws : ∀ w ∈ ws, ∀ a' U, s.WarmedH U.vm → w.before a' U = true) (hcode : Cond.code y bytes maxL ret ∈ ws) (hinit : ∀ a' U, s.WarmedH U.vm → (Cond.initialized y.cls).before a' U = true) :
    vx_Back l R p e below s sargs y len W9 (PreOf R mc ms Pc) (PostOf Qc mc ms free) (vx_Post XC mc ms free) := by
  intro m meth c A g ig mk a X hg hsize hdg hW hn hp
  have h1 : (headSpec ws rm).pre.before a A.U = true := atoms_intro fun w hw => hws w hw _ _ X.warmed
  have h2 : (Cond.code y bytes maxL ret).before a A.U = true := hws _ hcode _ _ X.warmed
  have h3 : (Cond.initialized y.cls).before a A.U = true := hinit _ _ X.warmed
  have h4 : A.cells + (headSpec ws rm).room.cells ≤ R.cells := by rw [show (headSpec ws rm).room.cells = mc from hrc]; exact hp.1
  have h5 : A.slots + (headSpec ws rm).room.slots ≤ R.slots := by rw [show (headSpec ws rm).room.slots = ms from hrs]; exact hp.2.1
  have hPc : Pc a (A.U.calling g mk a) := hblind _ _ _ _ hp.2.2
  obtain ⟨U, Ls, c0, s0⟩ := A
  dsimp only [Pt.U, Pt.locs, Pt.cells, Pt.slots] at h1 h2 h3 h4 h5 X hn hPc ⊢
  obtain ⟨methY, cY, hmY, hcY, -, hlY, -, -, -, -⟩ := Cond.code_spec hn h2
  obtain ⟨kY, hkY, -⟩ := className_of_methodNamed hn
  have hinitY : kY.init = .initialized := Cond.initialized_spec (findClass_of_methodNamed hn) hkY h3
  have h : At U g.method c below := by rw [hg]; exact X.here
  have hlocals9 : W9 + (maxL + 11) + (headSpec ws rm).room.locals ≤ R.locals := hlocals
  have happ : (headSpec ws rm).appliesLoose y e.platform (U.calling g mk a) = true :=
    Spec.appliesLoose_calling (g := g) h hdg hn hkY hinitY
      (X.room_calling (g := g) (R' := (headSpec ws rm).room) hsize hmY hcY hframes (by rw [hlY]; omega) h4 h5) h1
  obtain ⟨mid, hmid⟩ := h.above
  have hfr : (U.setTop g).frames = (.java g :: mid) ++ below := by rw [State.frames_setTop' g h.top, hmid]; rfl
  obtain ⟨o, s₂, hsteps, -, hend, hq⟩ := Steps.callFree hM p X.admits X.cas X.clock (acts := []) hfr happ hPc trivial
  have hq' : vx_Q Qc XC mc ms free a (U.calling g mk a) o s₂ := hq
  rw [State.frames_setTop' g h.top] at hend
  obtain ⟨g₀, hg0⟩ := Option.isSome_iff_exists.mp h.top
  obtain ⟨r, hr⟩ := State.topJava?_eq_some.mp hg0
  have hr' : (({ U with heap := s₂.heap, slotsUsed := s₂.slotsUsed } : State).setVm s₂.vm).frames = .java g₀ :: r := hr
  rcases hq' with ⟨hqc, L, hfe, hL⟩ | ⟨q, rfl, E, ce, L, hx, hce, hcv, hcl, hW₂, hsm, hL⟩
  · obtain ⟨⟨v, rfl⟩, hW₂, e2, q2, q3, q4, q5, q6⟩ := id hfe
    have e3 : s₂ = ({ (U.calling g mk a).setFrames s₂.frames with heap := s₂.heap, slotsUsed := s₂.slotsUsed } : State).setVm s₂.vm := by
      have : s₂ = ({ s₂ with vm := (U.calling g mk a).vm } : State).setVm s₂.vm := rfl
      rw [e2] at this
      exact this
    obtain ⟨c₂, i₂, len₂, hc₂, hd₂, hf₂⟩ := hend
    have hW' : U.WarmedH s₂.vm := hW₂
    have hcc : c₂ = c := by
      have h1 : s₂.code? g.method = U.code? g.method := by
        rw [State.code?_eq, State.code?_eq, hW'.alike.method?]
      exact Option.some.inj (hc₂.symm.trans (h1.trans h.code))
    subst hcc
    have hlen : len₂ = len := by rw [hdg] at hd₂; cases hd₂; rfl
    subst hlen
    have hs₂ : s₂ = (({ U with heap := s₂.heap, slotsUsed := s₂.slotsUsed } : State).setVm s₂.vm).setTop { g with pc := g.pc + len₂, stack := v.toList ++ g.stack } := by
      refine e3.trans ?_
      rw [hf₂, State.calling_eq h.top, State.setFrames_setFrames, State.setTop_of_frames _ hr', hr]
      rfl
    have hsame : U.sameButNew ({ U with heap := s₂.heap, slotsUsed := s₂.slotsUsed } : State) L mc ms := by
      refine ⟨?_, q2, q3, q4, q5, q6⟩
      obtain ⟨t, ht, -⟩ := State.frames_cons hr
      show ({ U with heap := s₂.heap, slotsUsed := s₂.slotsUsed } : State) = { U.setFrames U.frames with heap := s₂.heap, slotsUsed := s₂.slotsUsed }
      rw [State.setFrames_self ht]
    subst hg
    refine Or.inl ⟨v, ⟨(({ U with heap := s₂.heap, slotsUsed := s₂.slotsUsed } : State).setVm s₂.vm), Ls ++ L, c0 + mc, s0 + ms⟩,
      ⟨X.admits, X.cas, X.clock, X.frames, X.room, X.hears, X.method, X.code, (X.here.setHeapUsed s₂.heap s₂.slotsUsed).setVm hW'.alike, X.tail, State.WarmedH.trans X.warmed hW', X.limits, X.bytes, X.same.trans (hsame.setVm s.vm)⟩,
      ⟨g, mk, s₂, L, rfl, rfl, hqc, rfl, hL, rfl, rfl⟩, ?_⟩
    show Steps p.tables e below _ ((({ U with heap := s₂.heap, slotsUsed := s₂.slotsUsed } : State).setVm s₂.vm).setTop { g with pc := g.pc + len₂, stack := v.toList ++ g.stack })
    rw [← hs₂]
    exact hsteps
  · obtain ⟨e2, q2, q3, q4, q5, q6⟩ := id hsm
    have e3 : s₂ = ({ (U.calling g mk a).setFrames s₂.frames with heap := s₂.heap, slotsUsed := s₂.slotsUsed } : State).setVm s₂.vm := by
      have : s₂ = ({ s₂ with vm := (U.calling g mk a).vm } : State).setVm s₂.vm := rfl
      rw [e2] at this
      exact this
    have hf₂ : s₂.frames = .throwing q :: .java g :: U.frames.tail := hend
    have hW' : U.WarmedH s₂.vm := hW₂
    have hs₂ : s₂ = ((({ U with heap := s₂.heap, slotsUsed := s₂.slotsUsed } : State).setVm s₂.vm).setTop g).pushFrame (.throwing q) := by
      refine e3.trans ?_
      rw [hf₂, State.calling_eq h.top, State.setFrames_setFrames, State.pushFrame, State.frames_setTop _ hr', State.setTop_of_frames _ hr', State.setFrames_setFrames, hr]
      rfl
    have hsame : U.sameButNew ({ U with heap := s₂.heap, slotsUsed := s₂.slotsUsed } : State) L mc ms := by
      refine ⟨?_, q2, q3, q4, q5, q6⟩
      obtain ⟨t, ht, -⟩ := State.frames_cons hr
      show ({ U with heap := s₂.heap, slotsUsed := s₂.slotsUsed } : State) = { U.setFrames U.frames with heap := s₂.heap, slotsUsed := s₂.slotsUsed }
      rw [State.setFrames_self ht]
    subst hg
    refine Or.inr ⟨q, ⟨(({ U with heap := s₂.heap, slotsUsed := s₂.slotsUsed } : State).setVm s₂.vm), Ls ++ L, c0 + mc, s0 + ms⟩,
      ⟨X.admits, X.cas, X.clock, X.frames, X.room, X.hears, X.method, X.code, (X.here.setHeapUsed s₂.heap s₂.slotsUsed).setVm hW'.alike, X.tail, State.WarmedH.trans X.warmed hW', X.limits, X.bytes, X.same.trans (hsame.setVm s.vm)⟩,
      ⟨g, mk, s₂, L, E, ce, rfl, rfl, hx, hce, hcv, hcl, rfl, hL, rfl, rfl⟩, ?_⟩
    show Steps p.tables e below _ (((({ U with heap := s₂.heap, slotsUsed := s₂.slotsUsed } : State).setVm s₂.vm).setTop g).pushFrame (.throwing q))
    rw [← hs₂]
    exact hsteps
end Payer
section Calls
variable {p : Program} {l : Launch} {e : Env} {R : Room} {s : State} {m : MethodId} {args : Array Value} {below : List Frame} {meth : Method} {c : Code} {T : State} {locs : List Loc} {cells slots : Nat}
theorem vx_callV (X : Stand p l e R s m args below meth c T locs cells slots) (hexec : p.tables.exec = Jvm.exec) {own C : String} {index : Nat} {y : MethodName} {bytes : ByteArray} {maxL : Nat} {ret : Option FieldType}
    (hown : s.vm.findClass own = some m.cls) (hlink : (Cond.methodLink own index y).before args s = true) (hinst : (Cond.instanceMethod y).before args s = true) (hsel : (Cond.selects C y y).before args s = true)
    (hcode : (Cond.code y bytes maxL ret).before args s = true) (hy : y.cls ≠ "java/lang/invoke/MethodHandle" ∧ y.cls ≠ "java/lang/invoke/VarHandle")
    {W9 : Nat} {Pre : Pt → Array Value → Prop} {Post : Pt → Array Value → Option Value → Pt → Prop} {PostX : Pt → Array Value → Addr → Pt → Prop} (hK : vx_Back l R p e below s args y 3 W9 Pre Post PostX)
    {b : Addr} {cellB : Cell} (hcell : T.heap[b]? = some cellB) (hobj : cellB.vm.isStatics = false) (hcls : s.vm.findClass C = some cellB.cls)
    {g : JFrame} (hg : g.method = m) (hsize : g.locals.size = c.maxLocals) {argsL rest : List Value} (hlen : ∀ sig, parseMethodDescriptor y.desc = some sig → argsL.length = sig.parameters.length)
    (hstack : g.stack = argsL.reverse ++ .ref b :: rest) (hW : 2 * g.monitorRoom + (rest.map fun v => v.category).sum ≤ W9) (hdg : decode c.code g.pc = .ok (.invokevirtual index, 3))
    (hpre : ∀ vm₁, s.WarmedH vm₁ → Pre ⟨T.setVm vm₁, locs, cells, slots⟩ (Value.ref b :: argsL).toArray) :
    (∃ (v : Option Value) (vm₁ : Vm) (B : Pt), s.WarmedH vm₁ ∧ Stand p l e R s m args below meth c B.U B.locs B.cells B.slots ∧ Post ⟨T.setVm vm₁, locs, cells, slots⟩ (Value.ref b :: argsL).toArray v B ∧
      ∀ target, Steps p.tables e below (B.U.setTop { g with pc := g.pc + 3, stack := v.toList ++ rest }) target → Steps p.tables e below (T.setTop g) target) ∨
    (∃ (q : Addr) (vm₁ : Vm) (B : Pt), s.WarmedH vm₁ ∧ Stand p l e R s m args below meth c B.U B.locs B.cells B.slots ∧ PostX ⟨T.setVm vm₁, locs, cells, slots⟩ (Value.ref b :: argsL).toArray q B ∧
      Steps p.tables e below (T.setTop g) ((B.U.setTop { g with stack := rest }).pushFrame (.throwing q))) := by
  obtain ⟨mk, methM, hnamed, hmethM, hstM, habM⟩ := Cond.instanceMethod_spec hinst
  obtain ⟨methM', cM, hmethM', -, -, -, -, -, -, hsigM⟩ := Cond.code_spec hnamed hcode
  cases hmethM.symm.trans hmethM'
  obtain ⟨c2, r2, m2, q1, q2, q3, q4, kP, hkP, hkPi⟩ := Cond.selects_spec hsel
  cases hcls.symm.trans q1
  cases (State.methodFound?_of_named hnamed hy).symm.trans q2
  cases hnamed.symm.trans q3
  have hselP : selectMethod e.platform s.vm cellB.cls mk = .method mk := by rw [Launch.admits_selectMethod X.admits]; exact q4
  obtain ⟨vm₁, X₁, hstep₁⟩ := X.invokevirtual hexec hown hlink hnamed hmethM hstM hkP hkPi hy (a := b) (cell := cellB) hcell
    (fun z h => by rw [h] at hobj; cases hobj) hselP hmethM habM hkP hkPi (g := g) hg (argsL := argsL) (rest := rest) (hlen _ hsigM) hstack hdg
  rcases hK m meth c ⟨T.setVm vm₁, locs, cells, slots⟩ { g with stack := rest } (.invokevirtual index) mk (Value.ref b :: argsL).toArray X₁ hg hsize hdg hW (X₁.named hnamed) (hpre vm₁ X₁.warmed) with ⟨v, B, X', hpost, hsteps⟩ | ⟨q, B, X', hpost, hsteps⟩
  · exact Or.inl ⟨v, vm₁, B, X₁.warmed, X', hpost, fun target h => hstep₁ _ fun acts => by rw [doInvoke_state]; exact hsteps.trans h⟩
  · exact Or.inr ⟨q, vm₁, B, X₁.warmed, X', hpost, hstep₁ _ fun acts => by rw [doInvoke_state]; exact hsteps⟩
theorem vx_callS (X : Stand p l e R s m args below meth c T locs cells slots) (hexec : p.tables.exec = Jvm.exec) {own : String} {index : Nat} {y : MethodName} {bytes : ByteArray} {maxL : Nat} {ret : Option FieldType}
    (hown : s.vm.findClass own = some m.cls) (hlink : (Cond.methodLink own index y).before args s = true) (hstat : (Cond.static y).before args s = true) (hinit : (Cond.initialized y.cls).before args s = true)
    (hcode : (Cond.code y bytes maxL ret).before args s = true) (hy : y.cls ≠ "java/lang/invoke/MethodHandle" ∧ y.cls ≠ "java/lang/invoke/VarHandle")
    {W9 : Nat} {Pre : Pt → Array Value → Prop} {Post : Pt → Array Value → Option Value → Pt → Prop} {PostX : Pt → Array Value → Addr → Pt → Prop} (hK : vx_Back l R p e below s args y 3 W9 Pre Post PostX)
    {g : JFrame} (hg : g.method = m) (hsize : g.locals.size = c.maxLocals) {argsL rest : List Value} (hlen : ∀ sig, parseMethodDescriptor y.desc = some sig → argsL.length = sig.parameters.length)
    (hstack : g.stack = argsL.reverse ++ rest) (hW : 2 * g.monitorRoom + (rest.map fun v => v.category).sum ≤ W9) (hdg : decode c.code g.pc = .ok (.invokestatic index, 3))
    (hpre : ∀ vm₁, s.WarmedH vm₁ → Pre ⟨T.setVm vm₁, locs, cells, slots⟩ argsL.toArray) :
    (∃ (v : Option Value) (vm₁ : Vm) (B : Pt), s.WarmedH vm₁ ∧ Stand p l e R s m args below meth c B.U B.locs B.cells B.slots ∧ Post ⟨T.setVm vm₁, locs, cells, slots⟩ argsL.toArray v B ∧
      ∀ target, Steps p.tables e below (B.U.setTop { g with pc := g.pc + 3, stack := v.toList ++ rest }) target → Steps p.tables e below (T.setTop g) target) ∨
    (∃ (q : Addr) (vm₁ : Vm) (B : Pt), s.WarmedH vm₁ ∧ Stand p l e R s m args below meth c B.U B.locs B.cells B.slots ∧ PostX ⟨T.setVm vm₁, locs, cells, slots⟩ argsL.toArray q B ∧
      Steps p.tables e below (T.setTop g) ((B.U.setTop { g with stack := rest }).pushFrame (.throwing q))) := by
  obtain ⟨mk, hnamed⟩ := Cond.code_named hcode
  obtain ⟨methM, cM, hmethM, -, -, -, -, -, -, hsigM⟩ := Cond.code_spec hnamed hcode
  have hstatic : methM.isStatic = true := Cond.static_spec hnamed hmethM hstat
  obtain ⟨kP, hkP, -⟩ := className_of_methodNamed hnamed
  have hinitP : kP.init = .initialized := Cond.initialized_spec (findClass_of_methodNamed hnamed) hkP hinit
  obtain ⟨vm₁, X₁, hstep₁⟩ := X.invokestatic hexec hown hlink hnamed hmethM hstatic hkP hinitP hy (g := g) hg (argsL := argsL) (rest := rest) (hlen _ hsigM) hstack hdg
  rcases hK m meth c ⟨T.setVm vm₁, locs, cells, slots⟩ { g with stack := rest } (.invokestatic index) mk argsL.toArray X₁ hg hsize hdg hW (X₁.named hnamed) (hpre vm₁ X₁.warmed) with ⟨v, B, X', hpost, hsteps⟩ | ⟨q, B, X', hpost, hsteps⟩
  · exact Or.inl ⟨v, vm₁, B, X₁.warmed, X', hpost, fun target h => hstep₁ _ fun acts => by rw [doInvoke_state]; exact hsteps.trans h⟩
  · exact Or.inr ⟨q, vm₁, B, X₁.warmed, X', hpost, hstep₁ _ fun acts => by rw [doInvoke_state]; exact hsteps⟩
end Calls
theorem vx_cls {s : State} {T : State} {vm₁ : Vm} {E : String} {k : ClassId} (hW : s.WarmedH vm₁) (h : (T.setVm vm₁).vm.findClass E = some k) : s.vm.findClass E = some k := by
  have h1 : vm₁.findClass E = some k := h
  rw [hW.alike.findClass] at h1
  exact h1
/-- the method's frame g, with q thrown over it -/
def vx_W (p : Program) (l : Launch) (e : Env) (R : Room) (s : State) (m : MethodId) (args : Array Value) (below : List Frame) (meth : Method) (c : Code) (H : Heap) (locs : List Loc) (cells slots : Nat) (Q : State → Prop) (g : JFrame) (q : Addr) : Prop :=
  ∀ T : State, T.heap = H → Stand p l e R s m args below meth c T locs cells slots → ∃ t, Steps p.tables e below ((T.setTop g).pushFrame (.throwing q)) t ∧ Q t
def vx_Run (p : Program) (l : Launch) (e : Env) (R : Room) (s : State) (m : MethodId) (args : Array Value) (below : List Frame) (meth : Method) (c : Code) (H : Heap) (locs : List Loc) (cells slots mc ms : Nat) (g : JFrame) (rest : List Value) (Qa : State → Outcome → State → Prop) (XC : String → State → State → Prop) (free : Addr → Prop) : Prop :=
  ∀ T : State, T.heap = H → Stand p l e R s m args below meth c T locs cells slots →
    (∃ (v : Option Value) (st₀ t T' : State) (L : List Loc), st₀.heap = H ∧ Stand p l e R s m args below meth c T' (locs ++ L) (cells + mc) (slots + ms) ∧ (∀ q ∈ L, free q.base) ∧ T'.heap = t.heap ∧ T'.vm = t.vm ∧ Qa st₀ (.returned v) t ∧
      Goes p e below T g T' { g with pc := g.pc + 3, stack := v.toList ++ rest }) ∨
    (∃ (q : Addr) (st₀ t T' : State) (L : List Loc) (E : String) (ce : Cell), st₀.heap = H ∧ Stand p l e R s m args below meth c T' (locs ++ L) (cells + mc) (slots + ms) ∧ (∀ z ∈ L, free z.base) ∧ T'.heap = t.heap ∧ T'.vm = t.vm ∧ XC E st₀ t ∧ t.heap[q]? = some ce ∧ ce.vm = .none ∧ s.vm.findClass E = some ce.cls ∧
      Steps p.tables e below (T.setTop g) ((T'.setTop { g with stack := rest }).pushFrame (.throwing q)))
def vx_X {S : Type} (px : S → Prop) (B : String → S → State → Prop) (A : Nat → Prop) : String → State → State → Prop := fun E st t => ∃ u : S, px u ∧ B E u t ∧ va_F A st t
section Runs
variable {p : Program} {l : Launch} {e : Env} {R : Room} {s : State} {m : MethodId} {args : Array Value} {below : List Frame} {meth : Method} {c : Code} {H : Heap} {locs : List Loc} {cells slots : Nat}
variable {y : MethodName} {bytes cc : ByteArray} {maxL nL mc ms n index : Nat} {ret : Option FieldType} {ws : List Cond} {rm : Room} {Pc : Array Value → State → Prop} {Qc : Array Value → State → Outcome → State → Prop} {XC : String → State → State → Prop} {free : Addr → Prop} {Ts : List Cond} {own C : String} {b : Addr} {As rest : List Value} {g : JFrame}
theorem vx_callBack (cb : CallB R s args own index y bytes maxL ret ws rm mc ms n) (hM : vx_Met l y ws rm Pc Qc XC mc ms free) (hbl : FrameBlind Pc) : vx_Back l R p e below s args y 3 8 (PreOf R mc ms Pc) (PostOf Qc mc ms free) (vx_Post XC mc ms free) := by
  obtain ⟨hrc, hrs, hfr, hlo, hws, hcw, -, hini, -⟩ := cb
  exact vx_back (bytes := bytes) (maxL := maxL) (ret := ret) hM hbl hrc hrs hfr hlo hws hcw (fun a' U hW => word_at hW (Or.inl (by first | rfl | simp [Cond.onTables, Cond.keeps, Cond.steady])) hini)
theorem vx_runV (S : CallFix p m c cc nL s args Ts own) (hM : vx_Met l y ws rm Pc Qc XC mc ms free) (cw : CallW R s args own C index y bytes maxL ret ws rm mc ms n) (hp : PreV s H C b Pc As)
    (hg : g.method = m) (hn : As.length = n) (hsize : g.locals.size = nL) (hstack : g.stack = As.reverse ++ .ref b :: rest) (hW : 2 * g.monitorRoom + (rest.map fun v => v.category).sum ≤ 8) (hdg : decode cc g.pc = .ok (.invokevirtual index, 3)) (hf : cells + mc ≤ R.cells ∧ slots + ms ≤ R.slots) :
    vx_Run p l e R s m args below meth c H locs cells slots mc ms g rest (Qc (Value.ref b :: As).toArray) XC free := by
  have hK : vx_Back l R p e below s args y 3 8 (PreOf R mc ms Pc) (PostOf Qc mc ms free) (vx_Post XC mc ms free) := vx_callBack cw.1 hM hp.1
  obtain ⟨⟨-, -, -, -, -, -, hcode, -, hy, hlen, hl⟩, hin, hse⟩ := cw
  obtain ⟨hx, hb, hml, ho, -⟩ := S
  obtain ⟨-, ⟨cellB, hcB, hoB, hclB⟩, hPc⟩ := hp
  intro T hT X
  rcases vx_callV X hx (C := C) (bytes := bytes) (maxL := maxL) (ret := ret) ho hl hin hse hcode hy hK (by rw [hT]; exact hcB) hoB hclB hg (hsize.trans hml.symm) (argsL := As) (rest := rest) (fun sig h => hn.trans (hlen sig h)) hstack hW (by rw [hb]; exact hdg)
    (fun vm₁ hW₁ => ⟨hf.1, hf.2, hPc (T.setVm vm₁) hT hW₁⟩) with ⟨v, vm₁, ⟨U', l2, c2, s2⟩, hW₁, X', ⟨g', mk, t, L, e1, e2, hq, h1, hL, h2, h3⟩, st⟩ | ⟨q, vm₁, ⟨U', l2, c2, s2⟩, hW₁, X', ⟨g', mk, t, L, E, ce, e1, e2, hq, hce, hcv, hcl, h1, hL, h2, h3⟩, st⟩
  · dsimp only [Pt.U, Pt.locs, Pt.cells, Pt.slots] at X' e1 e2 h1 h2 h3 st
    subst h1; subst h2; subst h3
    exact Or.inl ⟨v, (T.setVm vm₁).calling g' mk (Value.ref b :: As).toArray, t, U', L, hT, X', hL, e1, e2, hq, st⟩
  · dsimp only [Pt.U, Pt.locs, Pt.cells, Pt.slots] at X' e1 e2 h1 h2 h3 st hcl
    subst h1; subst h2; subst h3
    exact Or.inr ⟨q, (T.setVm vm₁).calling g' mk (Value.ref b :: As).toArray, t, U', L, E, ce, hT, X', hL, e1, e2, hq, hce, hcv, vx_cls hW₁ hcl, st⟩
theorem vx_runS (S : CallFix p m c cc nL s args Ts own) (hM : vx_Met l y ws rm Pc Qc XC mc ms free) (cw : CallB R s args own index y bytes maxL ret ws rm mc ms n ∧ (Cond.static y).before args s = true) (hp : PreS s H Pc As)
    (hg : g.method = m) (hn : As.length = n) (hsize : g.locals.size = nL) (hstack : g.stack = As.reverse ++ rest) (hW : 2 * g.monitorRoom + (rest.map fun v => v.category).sum ≤ 8) (hdg : decode cc g.pc = .ok (.invokestatic index, 3)) (hf : cells + mc ≤ R.cells ∧ slots + ms ≤ R.slots) :
    vx_Run p l e R s m args below meth c H locs cells slots mc ms g rest (Qc As.toArray) XC free := by
  have hK : vx_Back l R p e below s args y 3 8 (PreOf R mc ms Pc) (PostOf Qc mc ms free) (vx_Post XC mc ms free) := vx_callBack cw.1 hM hp.1
  obtain ⟨⟨-, -, -, -, -, -, hcode, hini, hy, hlen, hl⟩, hstt⟩ := cw
  obtain ⟨hx, hb, hml, ho, -⟩ := S
  intro T hT X
  rcases vx_callS X hx (bytes := bytes) (maxL := maxL) (ret := ret) ho hl hstt hini hcode hy hK hg (hsize.trans hml.symm) (argsL := As) (rest := rest) (fun sig h => hn.trans (hlen sig h)) hstack hW (by rw [hb]; exact hdg)
    (fun vm₁ hW₁ => ⟨hf.1, hf.2, hp.2 (T.setVm vm₁) hT hW₁⟩) with ⟨v, vm₁, ⟨U', l2, c2, s2⟩, hW₁, X', ⟨g', mk, t, L, e1, e2, hq, h1, hL, h2, h3⟩, st⟩ | ⟨q, vm₁, ⟨U', l2, c2, s2⟩, hW₁, X', ⟨g', mk, t, L, E, ce, e1, e2, hq, hce, hcv, hcl, h1, hL, h2, h3⟩, st⟩
  · dsimp only [Pt.U, Pt.locs, Pt.cells, Pt.slots] at X' e1 e2 h1 h2 h3 st
    subst h1; subst h2; subst h3
    exact Or.inl ⟨v, (T.setVm vm₁).calling g' mk As.toArray, t, U', L, hT, X', hL, e1, e2, hq, st⟩
  · dsimp only [Pt.U, Pt.locs, Pt.cells, Pt.slots] at X' e1 e2 h1 h2 h3 st hcl
    subst h1; subst h2; subst h3
    exact Or.inr ⟨q, (T.setVm vm₁).calling g' mk As.toArray, t, U', L, E, ce, hT, X', hL, e1, e2, hq, hce, hcv, vx_cls hW₁ hcl, st⟩
end Runs
section Rows
variable {p : Program} {l : Launch} {e : Env} {R : Room} {s : State} {m : MethodId} {args : Array Value} {below : List Frame} {meth : Method} {c : Code} {H : Heap} {locs : List Loc} {cells slots : Nat} {Q : State → Prop}
variable {mc ms : Nat} {free : Addr → Prop} {A0 A1 : Nat → Prop} {H0 : Heap} {a : Array Value} {pc : Nat} {ls : Array Slot} {st0 rest : List Value}
theorem vx_keep {st₀ t T' : State} {L : List Loc} (h0 : st₀.heap = H) (e1 : T'.heap = t.heap) (hS : va_S A0 H0 H locs) (hA : ∀ q, q < H.size → A1 q → A0 q) (hf : ∀ q, free q → A0 q) (hL : ∀ q ∈ L, free q.base) (hF : va_F A1 st₀ t) :
    H.size ≤ T'.heap.size ∧ (∀ q : Nat, q < H.size → ¬ A1 q → T'.heap[q]? = H[q]?) ∧ va_S A0 H0 T'.heap (locs ++ L) := by
  obtain ⟨hz, hk⟩ := hF
  rw [h0] at hz hk
  exact ⟨by rw [e1]; exact hz, fun q h1 h2 => by rw [e1]; exact hk q h1 h2,
    ⟨Nat.le_trans hS.1 (by rw [e1]; exact hz), fun q h1 h2 => by rw [e1, hk q (Nat.lt_of_lt_of_le h1 hS.1) (fun z => h2 (hA q (Nat.lt_of_lt_of_le h1 hS.1) z))]; exact hS.2.1 q h1 h2, fun q hq => by
      rcases List.mem_append.mp hq with h | h
      · exact hS.2.2 q h
      · exact hf _ (hL q h)⟩⟩
theorem vx_calli {S SX : Type} {post : Int32 → S → Prop} {px : SX → Prop} {B : S → State → Prop} {BX : String → SX → State → Prop} {AX : Nat → Prop} (hr : vx_Run p l e R s m args below meth c H locs cells slots mc ms (F0 m pc ls st0) rest (va_Qi post B A1 a) (vx_X px BX AX) free) (hS : va_S A0 H0 H locs) (hA : ∀ q, q < H.size → A1 q → A0 q) (hf : ∀ q, free q → A0 q) (hAX : ∀ q, q < H.size → AX q → A0 q)
    (kx : ∀ (E : String) (ce : Cell) (q9 : Addr) (u : SX) (t : State) (H1 : Heap) (locs1 : List Loc), t.heap = H1 → s.vm.Alike t.vm → px u → BX E u t → H.size ≤ H1.size → (∀ q : Nat, q < H.size → ¬ AX q → H1[q]? = H[q]?) → va_S A0 H0 H1 locs1 → H1[q9]? = some ce → ce.vm = .none → s.vm.findClass E = some ce.cls → vx_W p l e R s m args below meth c H1 locs1 (cells + mc) (slots + ms) Q (F0 m pc ls rest) q9)
    (kk : ∀ (r : Int32) (u : S) (t : State) (H1 : Heap) (locs1 : List Loc), t.heap = H1 → s.vm.Alike t.vm → post r u → B u t → H.size ≤ H1.size → (∀ q : Nat, q < H.size → ¬ A1 q → H1[q]? = H[q]?) → va_S A0 H0 H1 locs1 → W p l e R s m args below meth c H1 locs1 (cells + mc) (slots + ms) Q (F0 m (pc + 3) ls (.int r :: rest))) : W p l e R s m args below meth c H locs cells slots Q (F0 m pc ls st0) := by
  intro T hT X
  rcases hr T hT X with ⟨v, st₀, t, T', L, h0, X', hL, e1, e2, ⟨⟨r, u, hv, hp, hb⟩, hF⟩, st⟩ | ⟨q, st₀, t, T', L, E, ce, h0, X', hL, e1, e2, ⟨u, hp, hb, hF⟩, hce, hcv, hcl, st⟩
  · cases hv
    obtain ⟨k1, k2, k3⟩ := vx_keep h0 e1 hS hA hf hL hF
    obtain ⟨t2, a1, b1⟩ := kk r u t T'.heap (locs ++ L) e1.symm (by rw [← e2]; exact X'.warmed.alike) hp hb k1 k2 k3 T' rfl X'
    exact ⟨t2, st t2 a1, b1⟩
  · obtain ⟨k1, k2, k3⟩ := vx_keep h0 e1 hS hAX hf hL hF
    obtain ⟨t2, a1, b1⟩ := kx E ce q u t T'.heap (locs ++ L) e1.symm (by rw [← e2]; exact X'.warmed.alike) hp hb k1 k2 k3 (by rw [e1]; exact hce) hcv hcl T' rfl X'
    exact ⟨t2, st.trans a1, b1⟩
theorem vx_calll {S SX : Type} {post : Int64 → S → Prop} {px : SX → Prop} {B : S → State → Prop} {BX : String → SX → State → Prop} {AX : Nat → Prop} (hr : vx_Run p l e R s m args below meth c H locs cells slots mc ms (F0 m pc ls st0) rest (va_Ql post B A1 a) (vx_X px BX AX) free) (hS : va_S A0 H0 H locs) (hA : ∀ q, q < H.size → A1 q → A0 q) (hf : ∀ q, free q → A0 q) (hAX : ∀ q, q < H.size → AX q → A0 q)
    (kx : ∀ (E : String) (ce : Cell) (q9 : Addr) (u : SX) (t : State) (H1 : Heap) (locs1 : List Loc), t.heap = H1 → s.vm.Alike t.vm → px u → BX E u t → H.size ≤ H1.size → (∀ q : Nat, q < H.size → ¬ AX q → H1[q]? = H[q]?) → va_S A0 H0 H1 locs1 → H1[q9]? = some ce → ce.vm = .none → s.vm.findClass E = some ce.cls → vx_W p l e R s m args below meth c H1 locs1 (cells + mc) (slots + ms) Q (F0 m pc ls rest) q9)
    (kk : ∀ (r : Int64) (u : S) (t : State) (H1 : Heap) (locs1 : List Loc), t.heap = H1 → s.vm.Alike t.vm → post r u → B u t → H.size ≤ H1.size → (∀ q : Nat, q < H.size → ¬ A1 q → H1[q]? = H[q]?) → va_S A0 H0 H1 locs1 → W p l e R s m args below meth c H1 locs1 (cells + mc) (slots + ms) Q (F0 m (pc + 3) ls (.long r :: rest))) : W p l e R s m args below meth c H locs cells slots Q (F0 m pc ls st0) := by
  intro T hT X
  rcases hr T hT X with ⟨v, st₀, t, T', L, h0, X', hL, e1, e2, ⟨⟨r, u, hv, hp, hb⟩, hF⟩, st⟩ | ⟨q, st₀, t, T', L, E, ce, h0, X', hL, e1, e2, ⟨u, hp, hb, hF⟩, hce, hcv, hcl, st⟩
  · cases hv
    obtain ⟨k1, k2, k3⟩ := vx_keep h0 e1 hS hA hf hL hF
    obtain ⟨t2, a1, b1⟩ := kk r u t T'.heap (locs ++ L) e1.symm (by rw [← e2]; exact X'.warmed.alike) hp hb k1 k2 k3 T' rfl X'
    exact ⟨t2, st t2 a1, b1⟩
  · obtain ⟨k1, k2, k3⟩ := vx_keep h0 e1 hS hAX hf hL hF
    obtain ⟨t2, a1, b1⟩ := kx E ce q u t T'.heap (locs ++ L) e1.symm (by rw [← e2]; exact X'.warmed.alike) hp hb k1 k2 k3 (by rw [e1]; exact hce) hcv hcl T' rfl X'
    exact ⟨t2, st.trans a1, b1⟩
theorem vx_callf {S SX : Type} {post : UInt32 → S → Prop} {px : SX → Prop} {B : S → State → Prop} {BX : String → SX → State → Prop} {AX : Nat → Prop} (hr : vx_Run p l e R s m args below meth c H locs cells slots mc ms (F0 m pc ls st0) rest (va_Qf post B A1 a) (vx_X px BX AX) free) (hS : va_S A0 H0 H locs) (hA : ∀ q, q < H.size → A1 q → A0 q) (hf : ∀ q, free q → A0 q) (hAX : ∀ q, q < H.size → AX q → A0 q)
    (kx : ∀ (E : String) (ce : Cell) (q9 : Addr) (u : SX) (t : State) (H1 : Heap) (locs1 : List Loc), t.heap = H1 → s.vm.Alike t.vm → px u → BX E u t → H.size ≤ H1.size → (∀ q : Nat, q < H.size → ¬ AX q → H1[q]? = H[q]?) → va_S A0 H0 H1 locs1 → H1[q9]? = some ce → ce.vm = .none → s.vm.findClass E = some ce.cls → vx_W p l e R s m args below meth c H1 locs1 (cells + mc) (slots + ms) Q (F0 m pc ls rest) q9)
    (kk : ∀ (r : UInt32) (u : S) (t : State) (H1 : Heap) (locs1 : List Loc), t.heap = H1 → s.vm.Alike t.vm → post r u → B u t → H.size ≤ H1.size → (∀ q : Nat, q < H.size → ¬ A1 q → H1[q]? = H[q]?) → va_S A0 H0 H1 locs1 → W p l e R s m args below meth c H1 locs1 (cells + mc) (slots + ms) Q (F0 m (pc + 3) ls (.float r :: rest))) : W p l e R s m args below meth c H locs cells slots Q (F0 m pc ls st0) := by
  intro T hT X
  rcases hr T hT X with ⟨v, st₀, t, T', L, h0, X', hL, e1, e2, ⟨⟨r, u, hv, hp, hb⟩, hF⟩, st⟩ | ⟨q, st₀, t, T', L, E, ce, h0, X', hL, e1, e2, ⟨u, hp, hb, hF⟩, hce, hcv, hcl, st⟩
  · cases hv
    obtain ⟨k1, k2, k3⟩ := vx_keep h0 e1 hS hA hf hL hF
    obtain ⟨t2, a1, b1⟩ := kk r u t T'.heap (locs ++ L) e1.symm (by rw [← e2]; exact X'.warmed.alike) hp hb k1 k2 k3 T' rfl X'
    exact ⟨t2, st t2 a1, b1⟩
  · obtain ⟨k1, k2, k3⟩ := vx_keep h0 e1 hS hAX hf hL hF
    obtain ⟨t2, a1, b1⟩ := kx E ce q u t T'.heap (locs ++ L) e1.symm (by rw [← e2]; exact X'.warmed.alike) hp hb k1 k2 k3 (by rw [e1]; exact hce) hcv hcl T' rfl X'
    exact ⟨t2, st.trans a1, b1⟩
theorem vx_calld {S SX : Type} {post : UInt64 → S → Prop} {px : SX → Prop} {B : S → State → Prop} {BX : String → SX → State → Prop} {AX : Nat → Prop} (hr : vx_Run p l e R s m args below meth c H locs cells slots mc ms (F0 m pc ls st0) rest (va_Qd post B A1 a) (vx_X px BX AX) free) (hS : va_S A0 H0 H locs) (hA : ∀ q, q < H.size → A1 q → A0 q) (hf : ∀ q, free q → A0 q) (hAX : ∀ q, q < H.size → AX q → A0 q)
    (kx : ∀ (E : String) (ce : Cell) (q9 : Addr) (u : SX) (t : State) (H1 : Heap) (locs1 : List Loc), t.heap = H1 → s.vm.Alike t.vm → px u → BX E u t → H.size ≤ H1.size → (∀ q : Nat, q < H.size → ¬ AX q → H1[q]? = H[q]?) → va_S A0 H0 H1 locs1 → H1[q9]? = some ce → ce.vm = .none → s.vm.findClass E = some ce.cls → vx_W p l e R s m args below meth c H1 locs1 (cells + mc) (slots + ms) Q (F0 m pc ls rest) q9)
    (kk : ∀ (r : UInt64) (u : S) (t : State) (H1 : Heap) (locs1 : List Loc), t.heap = H1 → s.vm.Alike t.vm → post r u → B u t → H.size ≤ H1.size → (∀ q : Nat, q < H.size → ¬ A1 q → H1[q]? = H[q]?) → va_S A0 H0 H1 locs1 → W p l e R s m args below meth c H1 locs1 (cells + mc) (slots + ms) Q (F0 m (pc + 3) ls (.double r :: rest))) : W p l e R s m args below meth c H locs cells slots Q (F0 m pc ls st0) := by
  intro T hT X
  rcases hr T hT X with ⟨v, st₀, t, T', L, h0, X', hL, e1, e2, ⟨⟨r, u, hv, hp, hb⟩, hF⟩, st⟩ | ⟨q, st₀, t, T', L, E, ce, h0, X', hL, e1, e2, ⟨u, hp, hb, hF⟩, hce, hcv, hcl, st⟩
  · cases hv
    obtain ⟨k1, k2, k3⟩ := vx_keep h0 e1 hS hA hf hL hF
    obtain ⟨t2, a1, b1⟩ := kk r u t T'.heap (locs ++ L) e1.symm (by rw [← e2]; exact X'.warmed.alike) hp hb k1 k2 k3 T' rfl X'
    exact ⟨t2, st t2 a1, b1⟩
  · obtain ⟨k1, k2, k3⟩ := vx_keep h0 e1 hS hAX hf hL hF
    obtain ⟨t2, a1, b1⟩ := kx E ce q u t T'.heap (locs ++ L) e1.symm (by rw [← e2]; exact X'.warmed.alike) hp hb k1 k2 k3 (by rw [e1]; exact hce) hcv hcl T' rfl X'
    exact ⟨t2, st.trans a1, b1⟩
theorem vx_callv {S SX : Type} {post : S → Prop} {px : SX → Prop} {B : S → State → Prop} {BX : String → SX → State → Prop} {AX : Nat → Prop} (hr : vx_Run p l e R s m args below meth c H locs cells slots mc ms (F0 m pc ls st0) rest (va_Qv post B A1 a) (vx_X px BX AX) free) (hS : va_S A0 H0 H locs) (hA : ∀ q, q < H.size → A1 q → A0 q) (hf : ∀ q, free q → A0 q) (hAX : ∀ q, q < H.size → AX q → A0 q)
    (kx : ∀ (E : String) (ce : Cell) (q9 : Addr) (u : SX) (t : State) (H1 : Heap) (locs1 : List Loc), t.heap = H1 → s.vm.Alike t.vm → px u → BX E u t → H.size ≤ H1.size → (∀ q : Nat, q < H.size → ¬ AX q → H1[q]? = H[q]?) → va_S A0 H0 H1 locs1 → H1[q9]? = some ce → ce.vm = .none → s.vm.findClass E = some ce.cls → vx_W p l e R s m args below meth c H1 locs1 (cells + mc) (slots + ms) Q (F0 m pc ls rest) q9)
    (kk : ∀ (u : S) (t : State) (H1 : Heap) (locs1 : List Loc), t.heap = H1 → s.vm.Alike t.vm → post u → B u t → H.size ≤ H1.size → (∀ q : Nat, q < H.size → ¬ A1 q → H1[q]? = H[q]?) → va_S A0 H0 H1 locs1 → W p l e R s m args below meth c H1 locs1 (cells + mc) (slots + ms) Q (F0 m (pc + 3) ls (rest))) : W p l e R s m args below meth c H locs cells slots Q (F0 m pc ls st0) := by
  intro T hT X
  rcases hr T hT X with ⟨v, st₀, t, T', L, h0, X', hL, e1, e2, ⟨⟨u, hv, hp, hb⟩, hF⟩, st⟩ | ⟨q, st₀, t, T', L, E, ce, h0, X', hL, e1, e2, ⟨u, hp, hb, hF⟩, hce, hcv, hcl, st⟩
  · cases hv
    obtain ⟨k1, k2, k3⟩ := vx_keep h0 e1 hS hA hf hL hF
    obtain ⟨t2, a1, b1⟩ := kk u t T'.heap (locs ++ L) e1.symm (by rw [← e2]; exact X'.warmed.alike) hp hb k1 k2 k3 T' rfl X'
    exact ⟨t2, st t2 a1, b1⟩
  · obtain ⟨k1, k2, k3⟩ := vx_keep h0 e1 hS hAX hf hL hF
    obtain ⟨t2, a1, b1⟩ := kx E ce q u t T'.heap (locs ++ L) e1.symm (by rw [← e2]; exact X'.warmed.alike) hp hb k1 k2 k3 (by rw [e1]; exact hce) hcv hcl T' rfl X'
    exact ⟨t2, st.trans a1, b1⟩
/-- caught by the row x of this method's table; the rows ahead don't take it -/
theorem vx_catch {own name : String} {E : String} {ce : Cell} {q : Addr} (hown : s.vm.findClass own = some m.cls) (pre : List ExceptionTableEntry) (x : ExceptionTableEntry) (suf : List ExceptionTableEntry) (hsplit : c.exceptionTable.toList = pre ++ x :: suf)
    (hpass : ∀ z ∈ pre, covers z pc = false ∨ (z.catchType ≠ 0 ∧ ∃ nm : String, (Cond.classLink own z.catchType nm).before args s = true ∧ va_Nc E nm s)) (hx : covers x pc = true) (h0 : x.catchType ≠ 0)
    (hlink : (Cond.classLink own x.catchType name).before args s = true) (hcast : (Cond.castable E name).before args s = true) (hcell : H[q]? = some ce) (hv : ce.vm = .none) (hcl : s.vm.findClass E = some ce.cls)
    (kk : W p l e R s m args below meth c H locs cells slots Q (F0 m x.handlerPc ls [.ref q])) : vx_W p l e R s m args below meth c H locs cells slots Q (F0 m pc ls rest) q := by
  intro T hT X
  have hpl : e.platform.magicAccessors = ({} : Platform).magicAccessors := by rw [X.admits.platform]
  obtain ⟨c3, c4, hc3, hc4, hasg⟩ := Cond.castable_spec hcast
  cases Option.some.inj (hc3.symm.trans hcl)
  obtain ⟨c5, hc5, hcl5⟩ := Cond.classLink_spec hown hlink e.platform hpl
  cases Option.some.inj (hc4.symm.trans hc5)
  obtain ⟨vm', X', st⟩ := X.thenCaughtThrough q (g := F0 m pc ls rest) rfl (Steps.refl _) (by rw [hT]; exact hcell) (by rw [hv]; rfl) (by obtain ⟨k9, h9, -⟩ := Vm.findClass_spec hcl; exact ⟨k9, h9⟩) pre x suf hsplit
    (fun z hz => by
      rcases hpass z hz with h | ⟨hz0, nm, hl1, hn1⟩
      · exact Or.inl h
      · obtain ⟨c6, hc6, hcl6⟩ := Cond.classLink_spec hown hl1 e.platform hpl
        obtain ⟨a8, b8, h1, h2, h3⟩ := hn1
        cases Option.some.inj (h1.symm.trans hcl)
        cases Option.some.inj (h2.symm.trans hc6)
        exact Or.inr ⟨hz0, _, hcl6, h3⟩) hx (Or.inr ⟨h0, c4, hcl5, hasg⟩)
  obtain ⟨t, a1, b1⟩ := kk (T.setVm vm') hT X'
  exact ⟨t, st.trans a1, b1⟩
end Rows
section Ends
variable {p : Program} {l : Launch} {e : Env} {R : Room} {s : State} {m : MethodId} {args : Array Value} {below : List Frame} {meth : Method} {c : Code} {H : Heap} {locs : List Loc} {cells slots : Nat} {Q : State → Prop}
variable {mc ms : Nat} {free : Addr → Prop} {A0 A1 : Nat → Prop} {H0 : Heap} {a : Array Value} {ls : Array Slot} {st0 rest : List Value}
variable {Qc : Array Value → State → Outcome → State → Prop} {XC : String → State → State → Prop}
/-- what a body that may throw owes at its end -/
def vx_MQ (below : List Frame) (Qc : Array Value → State → Outcome → State → Prop) (XC : String → State → State → Prop) (a : Array Value) (s : State) (mc ms : Nat) (free : Addr → Prop) : State → Prop := fun t =>
  ∃ o, t.status = .running ∧ Ended t below o ∧ vx_Q Qc XC mc ms free a s o t
theorem vx_ret {g : JFrame} {mc ms : Nat} (k : W p l e R s m args below meth c H locs cells slots (MQ below Qc args s mc ms free) g) : W p l e R s m args below meth c H locs cells slots (vx_MQ below Qc XC args s mc ms free) g := by
  intro T hT X
  obtain ⟨t, a1, o, b1, b2, b3, b4⟩ := k T hT X
  exact ⟨t, a1, o, b1, b2, Or.inl ⟨b3, b4⟩⟩
/-- not caught here: it goes on to the caller -/
theorem vx_widen {g : JFrame} {q : Addr} {k n : Nat} (h1 : cells ≤ k) (h2 : slots ≤ n) (kk : vx_W p l e R s m args below meth c H locs k n Q g q) : vx_W p l e R s m args below meth c H locs cells slots Q g q := fun T hT X => kk T hT (stand_widen X h1 h2)
theorem vx_out {pc : Nat} {E : String} {ce : Cell} {q : Addr} {mc ms : Nat} (hout : ∀ x ∈ c.exceptionTable.toList, covers x pc = false) (hlocks : meth.locks = false) (hcell : H[q]? = some ce) (hv : ce.vm = .none) (hcl : s.vm.findClass E = some ce.cls)
    (hx : ∀ t : State, t.heap = H → s.vm.Alike t.vm → XC E s t) (hf : ∀ z ∈ locs, free z.base) (hc : cells ≤ mc) (hs : slots ≤ ms) :
    vx_W p l e R s m args below meth c H locs cells slots (vx_MQ below Qc XC args s mc ms free) (F0 m pc ls rest) q := by
  intro T hT X
  obtain ⟨st1, hrun, hend, hW, hsm⟩ := X.leaveThrown q (g := F0 m pc ls rest) rfl rfl rfl hout hlocks
  have hcell9 : (T.setFrames (.throwing q :: below)).heap[q]? = some ce := by
    show T.heap[q]? = some ce
    rw [hT]; exact hcell
  exact ⟨_, st1, .threw q, hrun, hend, Or.inr ⟨q, rfl, E, ce, locs, hx _ hT hW.alike, hcell9, hv, hcl, hW, hsm.mono hc hs, hf⟩⟩
theorem vx_frame {U : State} {k n : Nat} (h : s.sameButNew ({ U with vm := s.vm } : State) locs k n) : s.heap.size ≤ U.heap.size ∧ ∀ q : Nat, q < s.heap.size → (∀ z ∈ locs, z.base ≠ q) → U.heap[q]? = s.heap[q]? := by
  obtain ⟨-, h2, -, -, -, h6⟩ := h
  refine ⟨h2, fun q hq hz => ?_⟩
  obtain ⟨c9, e1, e2, e3, e4⟩ := h6 q _ (Array.getElem?_eq_getElem hq)
  have hs : c9.slots = (s.heap[q]).slots := Array.ext_getElem? fun i => e4 i fun hm => hz _ hm rfl
  have h9 : c9 = s.heap[q] := by
    rw [hs] at e2
    exact e2
  have e5 : U.heap[q]? = some c9 := e1
  rw [e5, h9, Array.getElem?_eq_getElem hq]
/-- the words of a throw but the four that speak of the heap -/
def vx_no (w : Cond) : Bool := decide (w ≠ .isRef (.static Bundle.tN "UNASSIGNED_STACK" Bundle.steD)) && decide (w ≠ .isRef (.static Bundle.tN "SUPPRESSED_SENTINEL" Bundle.listD)) && decide (w ≠ .laysStatic Bundle.tN "UNASSIGNED_STACK" Bundle.steD) && decide (w ≠ .laysStatic Bundle.tN "SUPPRESSED_SENTINEL" Bundle.listD)
def vx_at0 (own : String) (ic : Nat) (X : String) (names : List String) : List Cond := (Bundle.ownAtoms0 own ic X names).filter vx_no
def vx_atS (own : String) (ic : Nat) (X : String) (names : List String) : List Cond := (Bundle.ownAtoms own ic X names).filter vx_no
/-- a word that the tables alone decide, or a good one -/
def vx_ot (w : Cond) : Bool := w.onTables || goodWord w
theorem vx_ot_at {args a' : Array Value} {s U : State} {w : Cond} (hW : s.WarmedH U.vm) (hvm : s.vm = U.vm) (hg : vx_ot w = true) (h : w.before args s = true) : w.before a' U = true := by
  simp only [vx_ot, Bool.or_eq_true] at hg
  rcases hg with hg | hg
  · exact va_tabs hg hvm h
  · exact word_at hW (good_of_word hg) h
/-- a list's words: the good ones out of the method's own list, the others by premises of their own -/
theorem vx_hat {args : Array Value} {s : State} {L B : List Cond} (h1 : ∀ w ∈ L.filter goodWord, w.before args s = true) (h2 : ∀ w ∈ L.filter (fun w => !goodWord w), w ∈ B) (h3 : ∀ w ∈ B, w.before args s = true) : ∀ w ∈ L, w.before args s = true := by
  intro w hw
  by_cases g : goodWord w = true
  · exact h1 w (List.mem_filter.mpr ⟨hw, g⟩)
  · refine h3 w (h2 w (List.mem_filter.mpr ⟨hw, ?_⟩))
    show (!goodWord w) = true
    cases hgw : goodWord w
    · rfl
    · exact absurd hgw g
theorem vx_c {args : Array Value} {s : State} {w : Cond} {B : List Cond} (h : w.before args s = true) (t : ∀ w ∈ B, w.before args s = true) : ∀ w' ∈ w :: B, w'.before args s = true := fun w' h' => (List.mem_cons.mp h').elim (fun e => by rw [e]; exact h) (t w')
theorem vx_n {args : Array Value} {s : State} : ∀ w ∈ ([] : List Cond), w.before args s = true := fun _ h => nomatch h
theorem vx_own {args : Array Value} {s : State} {L : List Cond} (h1 : ∀ w ∈ L.filter vx_no, w.before args s = true)
    (hU : (Cond.isRef (.static Bundle.tN "UNASSIGNED_STACK" Bundle.steD)).before args s = true) (hN : (Cond.isRef (.static Bundle.tN "SUPPRESSED_SENTINEL" Bundle.listD)).before args s = true)
    (lU : (Cond.laysStatic Bundle.tN "UNASSIGNED_STACK" Bundle.steD).before args s = true) (lN : (Cond.laysStatic Bundle.tN "SUPPRESSED_SENTINEL" Bundle.listD).before args s = true) : ∀ w ∈ L, w.before args s = true := by
  intro w hw
  by_cases e1 : w = .isRef (.static Bundle.tN "UNASSIGNED_STACK" Bundle.steD)
  · rw [e1]; exact hU
  · by_cases e2 : w = .isRef (.static Bundle.tN "SUPPRESSED_SENTINEL" Bundle.listD)
    · rw [e2]; exact hN
    · by_cases e3 : w = .laysStatic Bundle.tN "UNASSIGNED_STACK" Bundle.steD
      · rw [e3]; exact lU
      · by_cases e4 : w = .laysStatic Bundle.tN "SUPPRESSED_SENTINEL" Bundle.listD
        · rw [e4]; exact lN
        · exact h1 w (List.mem_filter.mpr ⟨hw, by unfold vx_no; rw [decide_eq_true e1, decide_eq_true e2, decide_eq_true e3, decide_eq_true e4]; rfl⟩)
/-- where a static field lies, its class's statics cell in H -/
def vx_L (C n d : String) (A : Nat → Prop) (U : State) (H : Heap) : Prop := ∃ (c : ClassId) (k : Class) (i : Nat) (f : Field) (a : Nat) (cell : Cell), U.vm.findClass C = some c ∧ U.fieldFound? C n d = some (c, k, i, f) ∧ f.isStatic = true ∧ k.statics = some a ∧ H[a]? = some cell ∧ cell.vm.isStatics = true ∧ cell.cls = c ∧ f.slot < cell.slots.size ∧ k.staticTypes[f.slot]? = some f.type ∧ ¬ A a
theorem vx_L.moved {C n d : String} {A : Nat → Prop} {u U : State} {H : Heap} (hvm : u.vm.Alike U.vm) (h : vx_L C n d A u H) : vx_L C n d A U H := by
  obtain ⟨c, k, i, f, a, cell, h1, h2, h3, h4, h5, h6, h7, h8, h9, h10⟩ := h
  obtain ⟨k', hi', he⟩ := State.fieldFound?_setVm hvm h2
  exact ⟨c, k', i, f, a, cell, by rw [hvm.findClass]; exact h1, hi', h3, by rw [he]; exact h4, h5, h6, h7, h8, by rw [he]; exact h9, h10⟩
theorem vx_L.kept {C n d : String} {A : Nat → Prop} {U : State} {H H1 : Heap} (h : vx_L C n d A U H) (hq : ∀ a : Nat, a < H.size → ¬ A a → H1[a]? = H[a]?) : vx_L C n d A U H1 := by
  obtain ⟨c, k, i, f, a, cell, h1, h2, h3, h4, h5, h6, h7, h8, h9, h10⟩ := h
  exact ⟨c, k, i, f, a, cell, h1, h2, h3, h4, by rw [hq a (Array.getElem?_eq_some_iff.mp h5).1 h10]; exact h5, h6, h7, h8, h9, h10⟩
theorem vx_L.narrow {C n d : String} {A B : Nat → Prop} {U : State} {H : Heap} (h : vx_L C n d A U H) (hAB : ∀ q, B q → A q) : vx_L C n d B U H := by
  obtain ⟨c, k, i, f, a, cell, h1, h2, h3, h4, h5, h6, h7, h8, h9, h10⟩ := h
  exact ⟨c, k, i, f, a, cell, h1, h2, h3, h4, h5, h6, h7, h8, h9, fun z => h10 (hAB _ z)⟩
theorem vx_L.word {C n d : String} {A : Nat → Prop} {s : State} {args : Array Value} (h : vx_L C n d A s s.heap) : (Cond.laysStatic C n d).before args s = true := by
  obtain ⟨c, k, i, f, a, cell, h1, h2, h3, h4, h5, h6, h7, h8, h9, -⟩ := h
  show (Cond.laysStatic C n d).holds args s none s [] = true
  exact Cond.laysStatic_of h1 h2 h3 h4 h5 h6 h7 h8 h9
/-- .. and what it holds: null or some reference -/
def vx_Zq (C n d : String) (A : Nat → Prop) (U : State) (H : Heap) : Prop := va_Zq C n d A U H ∧ vx_L C n d A U H
theorem vx_Zq.moved {C n d : String} {A : Nat → Prop} {u U : State} {H : Heap} (hvm : u.vm.Alike U.vm) (h : vx_Zq C n d A u H) : vx_Zq C n d A U H := ⟨va_Zq.moved hvm h.1, vx_L.moved hvm h.2⟩
theorem vx_Zq.kept {C n d : String} {A : Nat → Prop} {U : State} {H H1 : Heap} (h : vx_Zq C n d A U H) (hq : ∀ a : Nat, a < H.size → ¬ A a → H1[a]? = H[a]?) : vx_Zq C n d A U H1 := ⟨va_Zq.kept h.1 hq, vx_L.kept h.2 hq⟩
theorem vx_Zq.narrow {C n d : String} {A B : Nat → Prop} {U : State} {H : Heap} (h : vx_Zq C n d A U H) (hAB : ∀ q, B q → A q) : vx_Zq C n d B U H := ⟨va_Zq.narrow h.1 hAB, vx_L.narrow h.2 hAB⟩
theorem vx_Zqof {args : Array Value} {s : State} {C n d : String} {A : Nat → Prop} (hl : (Cond.laysStatic C n d).before args s = true) (hini : (Cond.initialized C).before args s = true) (h : (Cond.isRef (.static C n d)).before args s = true) (hA : ∀ a : Nat, a < s.heap.size → ¬ A a) : vx_Zq C n d A s s.heap := by
  refine ⟨va_Zqof hl hini h hA, ?_⟩
  obtain ⟨c, k, i, f, a, cell, h1, h2, h3, h4, h5, h6, h7, h8, h9⟩ := Cond.laysStatic_spec hl
  exact ⟨c, k, i, f, a, cell, h1, h2, h3, h4, h5, h6, h7, h8, h9, hA a (Array.getElem?_eq_some_iff.mp h5).1⟩
theorem vx_isRef {C n d : String} {v : Value} {A : Nat → Prop} {s : State} {args : Array Value} (h : va_Z C n d v A s s.heap) (hv : v.isRef = true) : (Cond.isRef (.static C n d)).before args s = true := by
  obtain ⟨cf, kf, fi, f, a, cell, h1, h2, h3, h4, h5, h6, h7, -⟩ := h
  have he : (Term.static C n d).eval args s none [] s = some v := by
    simp [Term.eval, State.fieldNamed?, h1, h2, h4, h5, h6, h7]
  simp only [Cond.before, Cond.holds, Cond.value, he]
  cases v <;> simp_all [Value.isRef]
theorem vx_isRefq {C n d : String} {A : Nat → Prop} {s : State} {args : Array Value} (h : va_Zq C n d A s s.heap) : (Cond.isRef (.static C n d)).before args s = true := by
  rcases h with h | ⟨t, h⟩
  · exact vx_isRef h rfl
  · exact vx_isRef h rfl
/-- the same frame, seen from here: as if the method were called anew in this heap -/
theorem vx_rebase {T : State} (X : Stand p l e R s m args below meth c T locs cells slots) {R' : Room} (hf : R'.frames ≤ R.frames) (hl : R'.locals ≤ R.locals) (hc : cells + R'.cells ≤ R.cells) (hs : slots + R'.slots ≤ R.slots) :
    Stand p l e R' ((T.setVm s.vm).setFrames (.invoking m args :: below)) m args below meth c T [] 0 0 := by
  have htop : (T.setVm s.vm).topJava?.isSome := X.here.top
  have hF : ((T.setVm s.vm).setFrames (.invoking m args :: below)).frames = .invoking m args :: below := State.frames_setFrames _ (State.cur_lt_of_top htop)
  obtain ⟨g₀, hg0⟩ := Option.isSome_iff_exists.mp htop
  obtain ⟨r, hr⟩ := State.topJava?_eq_some.mp hg0
  have hl9 : e.platform.stackLimits (T.setVm s.vm).me = e.platform.stackLimits s.me := X.limits
  have hb9 : (T.setVm s.vm).me.stackBytes = s.me.stackBytes := X.bytes
  refine ⟨X.admits, X.cas, X.clock, hF, ?_, X.hears, X.method, X.code, X.here, X.tail, X.warmed, ?_, ?_, ?_⟩
  · have h := X.room
    have hU : ((T.setVm s.vm).setFrames (.invoking m args :: below)).localsInUse = s.localsInUse := by
      rw [State.localsInUse_invoking hF (meth := meth) (c := c) X.method X.code, State.localsInUse_invoking X.frames X.method X.code]
    simp only [State.hasRoom, Bool.and_eq_true, decide_eq_true_eq] at h ⊢
    obtain ⟨⟨⟨⟨h1, h2, h3, h4, h5, h6⟩, h7⟩, h8⟩, h9⟩ := h
    rw [X.frames, List.length_cons] at h2 h3
    have q1 := X.heapSize
    have q2 := X.used
    simp only [hF, hU, List.length_cons, State.stackLimits_setFrames, State.stackBytes_setFrames, hl9, hb9]
    refine ⟨⟨⟨⟨by omega, by omega, by omega, by omega, by omega, h6⟩, ?_⟩, ?_⟩, X.book⟩
    · show T.heap.size + R'.cells ≤ e.platform.maxCells
      omega
    · show T.slotsUsed + R'.slots ≤ e.platform.maxSlots
      omega
  · rw [State.stackLimits_setFrames]; rfl
  · rw [State.stackBytes_setFrames]; rfl
  · refine ⟨?_, Nat.le_refl _, Nat.le_refl _, ?_, ?_, fun a c9 h9 => ⟨c9, h9, rfl, rfl, fun _ _ => rfl⟩⟩
    · obtain ⟨t, ht, -⟩ := State.frames_cons hr
      show T.setVm s.vm = { ((T.setVm s.vm).setFrames (.invoking m args :: below)).setFrames (T.setVm s.vm).frames with heap := T.heap, slotsUsed := T.slotsUsed }
      rw [State.setFrames_setFrames, State.setFrames_self ht]
      rfl
    · show T.slotsUsed = T.slotsUsed + ((T.heap.toList.drop T.heap.size).map (·.slots.size)).sum
      rw [List.drop_eq_nil_of_le (Nat.le_of_eq Array.length_toList)]
      rfl
    · show ((T.heap.toList.drop T.heap.size).map (·.slots.size)).sum ≤ 0
      rw [List.drop_eq_nil_of_le (Nat.le_of_eq Array.length_toList)]
      exact Nat.le_refl _
/-- 'throw new E()': new; dup; invokespecial; athrow -/
theorem vx_throw0 {cc : ByteArray} {pc : Nat} (hexec : p.tables.exec = Jvm.exec) (hb : c.code = cc) (hl : l.stackTraces = false) {own cls : String} {names : List String} {ik ic mc ms : Nat} {A : Nat → Prop}
    (hown : s.vm.findClass own = some m.cls) (hcls : Bundle.fit cls = true) (hnames : ∀ n ∈ names, Bundle.fit n = true)
    (hk : (Cond.classLink own ik cls).before args s = true) (hini : (Cond.initialized cls).before args s = true) (hat : ∀ w ∈ vx_at0 own ic cls names, w.before args s = true)
    (hgood : ∀ w ∈ Cond.classLink own ik cls :: Cond.initialized cls :: vx_at0 own ic cls names, vx_ot w = true)
    (hU : vx_Zq Bundle.tN "UNASSIGNED_STACK" Bundle.steD A s s.heap) (hN : vx_Zq Bundle.tN "SUPPRESSED_SENTINEL" Bundle.listD A s s.heap) (hS : va_S A s.heap H locs) (hsize : ls.size = c.maxLocals)
    (d0 : decode cc pc = .ok (.new ik, 3)) (d3 : decode cc (pc + 3) = .ok (.dup, 1)) (d4 : decode cc (pc + 4) = .ok (.invokespecial ic, 3)) (d7 : decode cc (pc + 7) = .ok (.athrow, 1))
    (hout : ∀ x ∈ c.exceptionTable.toList, covers x (pc + 7) = false)
    (hRframes : names.length + 3 < R.frames) (hRlocals : (rest.map fun v => v.category).sum + (13 * (names.length + 1) + 42) ≤ R.locals) (hRcells : cells + 1 ≤ R.cells) (hRslots : slots + 6 ≤ R.slots) (hlocks : meth.locks = false)
    (hx : ∀ t : State, s.vm.Alike t.vm → H.size ≤ t.heap.size → (∀ q : Nat, q < H.size → t.heap[q]? = H[q]?) → XC cls s t)
    (hf : ∀ z ∈ locs, free z.base) (hc : cells + 1 ≤ mc) (hs : slots + 6 ≤ ms) :
    W p l e R s m args below meth c H locs cells slots (vx_MQ below Qc XC args s mc ms free) (F0 m pc ls rest) := by
  intro T hT X
  have htr : e.platform.stackTraces = false := (show e.platform.stackTraces = l.stackTraces by rw [X.admits.platform]).trans hl
  have Y := vx_rebase X (R' := { frames := R.frames, locals := R.locals, cells := 1, slots := 6 }) (Nat.le_refl _) (Nat.le_refl _) hRcells hRslots
  obtain ⟨s', hA⟩ : ∃ z, z = (T.setVm s.vm).setFrames (.invoking m args :: below) := ⟨_, rfl⟩
  rw [← hA] at Y
  have hvm : s'.vm = s.vm := by rw [hA]; rfl
  have hhp : s'.heap = H := by rw [hA]; exact hT
  have hW0 : s.WarmedH s'.vm := by rw [hvm]; exact State.WarmedH.refl s
  have hat' : ∀ w ∈ vx_at0 own ic cls names, w.before args s' = true := fun w hw => vx_ot_at hW0 hvm.symm (hgood w (List.mem_cons_of_mem _ (List.mem_cons_of_mem _ hw))) (hat w hw)
  have hk' : (Cond.classLink own ik cls).before args s' = true := vx_ot_at hW0 hvm.symm (hgood _ List.mem_cons_self) hk
  have hini' : (Cond.initialized cls).before args s' = true := vx_ot_at hW0 hvm.symm (hgood _ (List.mem_cons_of_mem _ List.mem_cons_self)) hini
  have hU' : vx_Zq Bundle.tN "UNASSIGNED_STACK" Bundle.steD A s' s'.heap := by rw [hhp]; exact vx_Zq.moved hW0.alike (hU.kept hS.2.1)
  have hN' : vx_Zq Bundle.tN "SUPPRESSED_SENTINEL" Bundle.listD A s' s'.heap := by rw [hhp]; exact vx_Zq.moved hW0.alike (hN.kept hS.2.1)
  have h : ∀ w ∈ Bundle.ownAtoms0 own ic cls names, w.before args s' = true := vx_own hat' (vx_isRefq hU'.1) (vx_isRefq hN'.1) hU'.2.word hN'.2.word
  have hown' : s'.vm.findClass own = some m.cls := by rw [hvm]; exact hown
  have hins : (Cond.instantiable cls 6).before args s' = true := h _ (by simp [Bundle.ownAtoms0])
  obtain ⟨vm₁, cX, kX, hfX, hkX, -, -, X₁, st1⟩ := Y.newCold hexec (own := own) (C := cls) (index := ik) (n := 6) hown' hk' hins hini'
    (g := F0 m pc ls rest) rfl (by rw [hb]; exact d0) (Nat.le_refl _) (Nat.le_refl _)
  generalize hT1 : (T.setVm vm₁).pushCell { cls := cX, slots := kX.instanceTypes.map defaultValue, vm := .none } = T1 at X₁ st1
  have hcat : (Value.ref T.heap.size).category = 1 := rfl
  have hcellA : T1.heap[T.heap.size]? = some (freshCell cX kX) := by rw [← hT1]; exact State.heap_pushCell_size _ _
  have d3' : decode c.code (pc + 3) = .ok (.dup, 1) := by rw [hb]; exact d3
  obtain ⟨U, hsteps, hrun, hend, hW, hsame, ce, hce, hO⟩ := X₁.ctorThrow0 hexec htr (own := own) (cls := cls) (names := names) (ic := ic) hown' hcls hnames h (fun x hx => nomatch hx) hfX hkX hcellA (by rw [hhp, hT]; exact Nat.le_refl _)
    (g := { method := m, pc := pc + 4, locals := ls, stack := .ref T.heap.size :: .ref T.heap.size :: rest, locked := none }) rfl hsize rfl rfl (rest := rest) rfl
    (by rw [hb]; exact d4) (by rw [hb]; exact d7) hout hRframes (by simp only [List.map_cons, List.sum_cons, hcat]; omega) hlocks
  obtain ⟨f1, f2⟩ := vx_frame hsame
  rw [hhp] at f1 f2
  have hWs : s.WarmedH U.vm := State.WarmedH.trans hW0 hW
  have hcl : s.vm.findClass cls = some ce.cls := by
    have h9 := hO.cls
    rw [hvm] at h9
    exact h9
  have hall : s.sameButNew ({ U with vm := s.vm } : State) locs mc ms := by
    subst hA
    obtain ⟨e1, e2⟩ := hsame
    rw [State.setFrames_setFrames] at e1
    have h2 : (T.setVm s.vm).sameButNew ({ U with vm := s.vm } : State) [] (0 + 1) (0 + 6) := ⟨e1, e2⟩
    have h3 := X.same.trans h2
    rw [List.append_nil] at h3
    exact h3.mono hc hs
  refine ⟨U, ?_, .threw T.heap.size, hrun, hend, Or.inr ⟨T.heap.size, rfl, cls, ce, locs, hx U hWs.alike f1 (fun q hq => f2 q hq (fun z hz => nomatch hz)), hce, hO.vm, hcl, hWs, hall, hf⟩⟩
  refine st1 _ ?_
  show Steps p.tables e below (T1.setTop { method := m, pc := pc + 3, locals := ls, stack := .ref T.heap.size :: rest, locked := none }) _
  jvm_step X₁.here [X₁.here.top, hexec, d3', Value.category]
  exact hsteps
/-- 'throw new E("text")': new; dup; ldc; invokespecial; athrow -/
theorem vx_throwS {cc : ByteArray} {pc : Nat} (hexec : p.tables.exec = Jvm.exec) (hb : c.code = cc) (hl : l.stackTraces = false) {own cls text : String} {names : List String} {ik is ic mc ms sa : Nat} {A : Nat → Prop}
    (hown : s.vm.findClass own = some m.cls) (hcls : Bundle.fit cls = true) (hnames : ∀ n ∈ names, Bundle.fit n = true)
    (hk : (Cond.classLink own ik cls).before args s = true) (hini : (Cond.initialized cls).before args s = true) (hstr : vk_R own is text sa s) (hat : ∀ w ∈ vx_atS own ic cls names, w.before args s = true)
    (hgood : ∀ w ∈ Cond.classLink own ik cls :: Cond.initialized cls :: vx_atS own ic cls names, vx_ot w = true)
    (hU : vx_Zq Bundle.tN "UNASSIGNED_STACK" Bundle.steD A s s.heap) (hN : vx_Zq Bundle.tN "SUPPRESSED_SENTINEL" Bundle.listD A s s.heap) (hS : va_S A s.heap H locs) (hsize : ls.size = c.maxLocals)
    (d0 : decode cc pc = .ok (.new ik, 3)) (d3 : decode cc (pc + 3) = .ok (.dup, 1)) (d4 : decode cc (pc + 4) = .ok (.ldc is, 2)) (d6 : decode cc (pc + 6) = .ok (.invokespecial ic, 3)) (d9 : decode cc (pc + 9) = .ok (.athrow, 1))
    (hout : ∀ x ∈ c.exceptionTable.toList, covers x (pc + 9) = false)
    (hRframes : names.length + 3 < R.frames) (hRlocals : (rest.map fun v => v.category).sum + (13 * (names.length + 1) + 43) ≤ R.locals) (hRcells : cells + 1 ≤ R.cells) (hRslots : slots + 6 ≤ R.slots) (hlocks : meth.locks = false)
    (hx : ∀ t : State, s.vm.Alike t.vm → H.size ≤ t.heap.size → (∀ q : Nat, q < H.size → t.heap[q]? = H[q]?) → XC cls s t)
    (hf : ∀ z ∈ locs, free z.base) (hc : cells + 1 ≤ mc) (hs : slots + 6 ≤ ms) :
    W p l e R s m args below meth c H locs cells slots (vx_MQ below Qc XC args s mc ms free) (F0 m pc ls rest) := by
  intro T hT X
  have htr : e.platform.stackTraces = false := (show e.platform.stackTraces = l.stackTraces by rw [X.admits.platform]).trans hl
  have Y := vx_rebase X (R' := { frames := R.frames, locals := R.locals, cells := 1, slots := 6 }) (Nat.le_refl _) (Nat.le_refl _) hRcells hRslots
  obtain ⟨s', hA⟩ : ∃ z, z = (T.setVm s.vm).setFrames (.invoking m args :: below) := ⟨_, rfl⟩
  rw [← hA] at Y
  have hvm : s'.vm = s.vm := by rw [hA]; rfl
  have hhp : s'.heap = H := by rw [hA]; exact hT
  have hW0 : s.WarmedH s'.vm := by rw [hvm]; exact State.WarmedH.refl s
  have hat' : ∀ w ∈ vx_atS own ic cls names, w.before args s' = true := fun w hw => vx_ot_at hW0 hvm.symm (hgood w (List.mem_cons_of_mem _ (List.mem_cons_of_mem _ hw))) (hat w hw)
  have hk' : (Cond.classLink own ik cls).before args s' = true := vx_ot_at hW0 hvm.symm (hgood _ List.mem_cons_self) hk
  have hini' : (Cond.initialized cls).before args s' = true := vx_ot_at hW0 hvm.symm (hgood _ (List.mem_cons_of_mem _ List.mem_cons_self)) hini
  have hU' : vx_Zq Bundle.tN "UNASSIGNED_STACK" Bundle.steD A s' s'.heap := by rw [hhp]; exact vx_Zq.moved hW0.alike (hU.kept hS.2.1)
  have hN' : vx_Zq Bundle.tN "SUPPRESSED_SENTINEL" Bundle.listD A s' s'.heap := by rw [hhp]; exact vx_Zq.moved hW0.alike (hN.kept hS.2.1)
  have h : ∀ w ∈ Bundle.ownAtoms own ic cls names, w.before args s' = true := vx_own hat' (vx_isRefq hU'.1) (vx_isRefq hN'.1) hU'.2.word hN'.2.word
  have hown' : s'.vm.findClass own = some m.cls := by rw [hvm]; exact hown
  have hins : (Cond.instantiable cls 6).before args s' = true := h _ (by simp [Bundle.ownAtoms])
  obtain ⟨vm₁, cX, kX, hfX, hkX, -, -, X₁, st1⟩ := Y.newCold hexec (own := own) (C := cls) (index := ik) (n := 6) hown' hk' hins hini'
    (g := F0 m pc ls rest) rfl (by rw [hb]; exact d0) (Nat.le_refl _) (Nat.le_refl _)
  generalize hT1 : (T.setVm vm₁).pushCell { cls := cX, slots := kX.instanceTypes.map defaultValue, vm := .none } = T1 at X₁ st1
  have hcat : (Value.ref T.heap.size).category = 1 := rfl
  have hcellA : T1.heap[T.heap.size]? = some (freshCell cX kX) := by rw [← hT1]; exact State.heap_pushCell_size _ _
  have d3' : decode c.code (pc + 3) = .ok (.dup, 1) := by rw [hb]; exact d3
  have d4' : decode c.code (pc + 4) = .ok (.ldc is, 2) := by rw [hb]; exact d4
  have hstr' : vk_R own is text sa s' := vk_R.warm hW0 hstr
  obtain ⟨U, hsteps, hrun, hend, hW, hsame, ce, hce, hO⟩ := X₁.ctorThrowS hexec htr (own := own) (cls := cls) (names := names) (ic := ic) hown' hcls hnames h (fun x hx => nomatch hx) hfX hkX hcellA (by rw [hhp, hT]; exact Nat.le_refl _) (msg := .ref sa) rfl
    (g := { method := m, pc := pc + 6, locals := ls, stack := .ref sa :: .ref T.heap.size :: .ref T.heap.size :: rest, locked := none }) rfl hsize rfl rfl (rest := rest) rfl
    (by rw [hb]; exact d6) (by rw [hb]; exact d9) hout hRframes (by simp only [List.map_cons, List.sum_cons, hcat]; omega) hlocks
  obtain ⟨f1, f2⟩ := vx_frame hsame
  rw [hhp] at f1 f2
  have hWs : s.WarmedH U.vm := State.WarmedH.trans hW0 hW
  have hcl : s.vm.findClass cls = some ce.cls := by
    have h9 := hO.cls
    rw [hvm] at h9
    exact h9
  have hall : s.sameButNew ({ U with vm := s.vm } : State) locs mc ms := by
    subst hA
    obtain ⟨e1, e2⟩ := hsame
    rw [State.setFrames_setFrames] at e1
    have h2 : (T.setVm s.vm).sameButNew ({ U with vm := s.vm } : State) [] (0 + 1) (0 + 6) := ⟨e1, e2⟩
    have h3 := X.same.trans h2
    rw [List.append_nil] at h3
    exact h3.mono hc hs
  refine ⟨U, ?_, .threw T.heap.size, hrun, hend, Or.inr ⟨T.heap.size, rfl, cls, ce, locs, hx U hWs.alike f1 (fun q hq => f2 q hq (fun z hz => nomatch hz)), hce, hO.vm, hcl, hWs, hall, hf⟩⟩
  refine st1 _ ?_
  show Steps p.tables e below (T1.setTop { method := m, pc := pc + 3, locals := ls, stack := .ref T.heap.size :: rest, locked := none }) _
  jvm_step X₁.here [X₁.here.top, hexec, d3', Value.category]
  exact X₁.ldcString hexec (own := own) (text := text) (index := is) (a := sa) hown' hstr'.1 hstr'.2
    (g := { method := m, pc := pc + 4, locals := ls, stack := .ref T.heap.size :: .ref T.heap.size :: rest, locked := none }) rfl d4' _ hsteps
/-- 'throw new E("text")', the text by a wide index -/
theorem vx_throwSW {cc : ByteArray} {pc : Nat} (hexec : p.tables.exec = Jvm.exec) (hb : c.code = cc) (hl : l.stackTraces = false) {own cls text : String} {names : List String} {ik is ic mc ms sa : Nat} {A : Nat → Prop}
    (hown : s.vm.findClass own = some m.cls) (hcls : Bundle.fit cls = true) (hnames : ∀ n ∈ names, Bundle.fit n = true)
    (hk : (Cond.classLink own ik cls).before args s = true) (hini : (Cond.initialized cls).before args s = true) (hstr : vk_R own is text sa s) (hat : ∀ w ∈ vx_atS own ic cls names, w.before args s = true)
    (hgood : ∀ w ∈ Cond.classLink own ik cls :: Cond.initialized cls :: vx_atS own ic cls names, vx_ot w = true)
    (hU : vx_Zq Bundle.tN "UNASSIGNED_STACK" Bundle.steD A s s.heap) (hN : vx_Zq Bundle.tN "SUPPRESSED_SENTINEL" Bundle.listD A s s.heap) (hS : va_S A s.heap H locs) (hsize : ls.size = c.maxLocals)
    (d0 : decode cc pc = .ok (.new ik, 3)) (d3 : decode cc (pc + 3) = .ok (.dup, 1)) (d4 : decode cc (pc + 4) = .ok (.ldc_w is, 3)) (d7 : decode cc (pc + 7) = .ok (.invokespecial ic, 3)) (d10 : decode cc (pc + 10) = .ok (.athrow, 1))
    (hout : ∀ x ∈ c.exceptionTable.toList, covers x (pc + 10) = false)
    (hRframes : names.length + 3 < R.frames) (hRlocals : (rest.map fun v => v.category).sum + (13 * (names.length + 1) + 43) ≤ R.locals) (hRcells : cells + 1 ≤ R.cells) (hRslots : slots + 6 ≤ R.slots) (hlocks : meth.locks = false)
    (hx : ∀ t : State, s.vm.Alike t.vm → H.size ≤ t.heap.size → (∀ q : Nat, q < H.size → t.heap[q]? = H[q]?) → XC cls s t)
    (hf : ∀ z ∈ locs, free z.base) (hc : cells + 1 ≤ mc) (hs : slots + 6 ≤ ms) :
    W p l e R s m args below meth c H locs cells slots (vx_MQ below Qc XC args s mc ms free) (F0 m pc ls rest) := by
  intro T hT X
  have htr : e.platform.stackTraces = false := (show e.platform.stackTraces = l.stackTraces by rw [X.admits.platform]).trans hl
  have Y := vx_rebase X (R' := { frames := R.frames, locals := R.locals, cells := 1, slots := 6 }) (Nat.le_refl _) (Nat.le_refl _) hRcells hRslots
  obtain ⟨s', hA⟩ : ∃ z, z = (T.setVm s.vm).setFrames (.invoking m args :: below) := ⟨_, rfl⟩
  rw [← hA] at Y
  have hvm : s'.vm = s.vm := by rw [hA]; rfl
  have hhp : s'.heap = H := by rw [hA]; exact hT
  have hW0 : s.WarmedH s'.vm := by rw [hvm]; exact State.WarmedH.refl s
  have hat' : ∀ w ∈ vx_atS own ic cls names, w.before args s' = true := fun w hw => vx_ot_at hW0 hvm.symm (hgood w (List.mem_cons_of_mem _ (List.mem_cons_of_mem _ hw))) (hat w hw)
  have hk' : (Cond.classLink own ik cls).before args s' = true := vx_ot_at hW0 hvm.symm (hgood _ List.mem_cons_self) hk
  have hini' : (Cond.initialized cls).before args s' = true := vx_ot_at hW0 hvm.symm (hgood _ (List.mem_cons_of_mem _ List.mem_cons_self)) hini
  have hU' : vx_Zq Bundle.tN "UNASSIGNED_STACK" Bundle.steD A s' s'.heap := by rw [hhp]; exact vx_Zq.moved hW0.alike (hU.kept hS.2.1)
  have hN' : vx_Zq Bundle.tN "SUPPRESSED_SENTINEL" Bundle.listD A s' s'.heap := by rw [hhp]; exact vx_Zq.moved hW0.alike (hN.kept hS.2.1)
  have h : ∀ w ∈ Bundle.ownAtoms own ic cls names, w.before args s' = true := vx_own hat' (vx_isRefq hU'.1) (vx_isRefq hN'.1) hU'.2.word hN'.2.word
  have hown' : s'.vm.findClass own = some m.cls := by rw [hvm]; exact hown
  have hins : (Cond.instantiable cls 6).before args s' = true := h _ (by simp [Bundle.ownAtoms])
  obtain ⟨vm₁, cX, kX, hfX, hkX, -, -, X₁, st1⟩ := Y.newCold hexec (own := own) (C := cls) (index := ik) (n := 6) hown' hk' hins hini'
    (g := F0 m pc ls rest) rfl (by rw [hb]; exact d0) (Nat.le_refl _) (Nat.le_refl _)
  generalize hT1 : (T.setVm vm₁).pushCell { cls := cX, slots := kX.instanceTypes.map defaultValue, vm := .none } = T1 at X₁ st1
  have hcat : (Value.ref T.heap.size).category = 1 := rfl
  have hcellA : T1.heap[T.heap.size]? = some (freshCell cX kX) := by rw [← hT1]; exact State.heap_pushCell_size _ _
  have d3' : decode c.code (pc + 3) = .ok (.dup, 1) := by rw [hb]; exact d3
  have d4' : decode c.code (pc + 4) = .ok (.ldc_w is, 3) := by rw [hb]; exact d4
  have hstr' : vk_R own is text sa s' := vk_R.warm hW0 hstr
  obtain ⟨U, hsteps, hrun, hend, hW, hsame, ce, hce, hO⟩ := X₁.ctorThrowS hexec htr (own := own) (cls := cls) (names := names) (ic := ic) hown' hcls hnames h (fun x hx => nomatch hx) hfX hkX hcellA (by rw [hhp, hT]; exact Nat.le_refl _) (msg := .ref sa) rfl
    (g := { method := m, pc := pc + 7, locals := ls, stack := .ref sa :: .ref T.heap.size :: .ref T.heap.size :: rest, locked := none }) rfl hsize rfl rfl (rest := rest) rfl
    (by rw [hb]; exact d7) (by rw [hb]; exact d10) hout hRframes (by simp only [List.map_cons, List.sum_cons, hcat]; omega) hlocks
  obtain ⟨f1, f2⟩ := vx_frame hsame
  rw [hhp] at f1 f2
  have hWs : s.WarmedH U.vm := State.WarmedH.trans hW0 hW
  have hcl : s.vm.findClass cls = some ce.cls := by
    have h9 := hO.cls
    rw [hvm] at h9
    exact h9
  have hall : s.sameButNew ({ U with vm := s.vm } : State) locs mc ms := by
    subst hA
    obtain ⟨e1, e2⟩ := hsame
    rw [State.setFrames_setFrames] at e1
    have h2 : (T.setVm s.vm).sameButNew ({ U with vm := s.vm } : State) [] (0 + 1) (0 + 6) := ⟨e1, e2⟩
    have h3 := X.same.trans h2
    rw [List.append_nil] at h3
    exact h3.mono hc hs
  refine ⟨U, ?_, .threw T.heap.size, hrun, hend, Or.inr ⟨T.heap.size, rfl, cls, ce, locs, hx U hWs.alike f1 (fun q hq => f2 q hq (fun z hz => nomatch hz)), hce, hO.vm, hcl, hWs, hall, hf⟩⟩
  refine st1 _ ?_
  show Steps p.tables e below (T1.setTop { method := m, pc := pc + 3, locals := ls, stack := .ref T.heap.size :: rest, locked := none }) _
  jvm_step X₁.here [X₁.here.top, hexec, d3', Value.category]
  exact X₁.ldcStringW hexec (own := own) (text := text) (index := is) (a := sa) hown' hstr'.1 hstr'.2
    (g := { method := m, pc := pc + 4, locals := ls, stack := .ref T.heap.size :: .ref T.heap.size :: rest, locked := none }) rfl d4' _ hsteps
end Ends
section Bodies
variable {l : Launch}
theorem vx_ofW {y : MethodName} {ws ws' : List Cond} {rm : Room} {Pc : Array Value → State → Prop} {Qc : Array Value → State → Outcome → State → Prop} {XC : String → State → State → Prop} {mc ms : Nat} {free : Addr → Prop} {cc : ByteArray} {maxL : Nat} {ret : Option FieldType}
    (hy : plainName y.cls = true) (hw : ws = Cond.code y cc maxL ret :: ws')
    (body : ∀ p e s m args below meth c s₁, BodyLoose p l y (headSpec ws rm) cc maxL ret e s m args below meth c s₁ → c.maxLocals = maxL → (∀ x ∈ c.exceptionTable.toList, False) → Pc args s →
      W p l e (headSpec ws rm).room s m args below meth c s.heap [] 0 0 (vx_MQ below Qc XC args s mc ms free) (entryFrame m args maxL)) : vx_Met l y ws rm Pc Qc XC mc ms free := by
  refine MetFree.of_bodyS (code := cc) (maxLocals := maxL) (ret := ret) hy ?_ ?_
  · intro args s m h hn
    obtain ⟨meth, c, h1, h2, h3, h4, h5, h6, -, -⟩ := Cond.code_spec hn (atoms_spec (ws := ws) h _ (by rw [hw]; exact List.mem_cons_self))
    exact ⟨meth, c, h1, h2, h3, h4, h5, h6⟩
  · intro p e s m args below meth c s₁ B hml hP _
    have hh0 : s₁.heap = s.heap := by rw [B.state]; rfl
    have ht : ∀ x ∈ c.exceptionTable.toList, False := by
      obtain ⟨meth9, c9, h1, h2, -, -, -, -, h7, -⟩ := Cond.code_spec B.named (atoms_spec (ws := ws) B.pre _ (by rw [hw]; exact List.mem_cons_self))
      cases Option.some.inj (h1.symm.trans B.method)
      cases Option.some.inj (h2.symm.trans (Stand.of_body B).code)
      intro x hx
      rw [Array.isEmpty_iff.mp h7] at hx
      cases hx
    obtain ⟨t, a1, o, b1, b2, b3⟩ := body p e s m args below meth c s₁ B hml ht hP s₁ hh0 (Stand.of_body B)
    exact ⟨t, o, a1, b1, b2, b3⟩
/-- the table of a body with handlers -/
theorem vx_table {p : Program} {x y : MethodName} {S : Spec} {cc bytes : ByteArray} {maxL maxL' : Nat} {ret ret' : Option FieldType} {e : Env} {s s₁ : State} {m : MethodId} {args : Array Value} {below : List Frame} {meth : Method} {c : Code} {hh : List (Nat × Nat × Nat × Nat)}
    (B : BodyLoose p l y S cc maxL ret e s m args below meth c s₁) (h : (Cond.codeWith y bytes maxL' ret' hh).before args s = true) : c.exceptionTable.toList = tableOf hh := by
  obtain ⟨m9, meth9, c9, hn9, h1, h2, -, -, h6, -⟩ := Cond.codeWith_spec h
  cases Option.some.inj (hn9.symm.trans B.named)
  cases Option.some.inj (h1.symm.trans B.method)
  cases Option.some.inj (h2.symm.trans (Stand.of_body B).code)
  rw [← h6, table_eq]
end Bodies
end VXA
/-! ===== END ===== -/
/-! ===== BEGIN a static call of a method with an exception table ===== -/
section VXS
variable {p : Program} {l : Launch} {e : Env} {R : Room} {s : State} {m : MethodId} {args : Array Value} {below : List Frame} {meth : Method} {c : Code} {T : State} {H : Heap} {locs : List Loc} {cells slots : Nat}
abbrev vx_CSW (R : Room) (s : State) (args : Array Value) (own : String) (index : Nat) (y : MethodName) (bytes : ByteArray) (maxL : Nat) (ret : Option FieldType) (hh : List (Nat × Nat × Nat × Nat)) (ws : List Cond) (rm : Room) (mc ms n : Nat) : Prop :=
  (rm.cells = mc ∧ rm.slots = ms ∧ rm.frames + 1 ≤ R.frames ∧ 8 + (maxL + 11) + rm.locals ≤ R.locals ∧ (∀ w ∈ ws, ∀ (a' : Array Value) (U : State), s.WarmedH U.vm → w.before a' U = true) ∧ Cond.codeWith y bytes maxL ret hh ∈ ws) ∧
  (Cond.codeWith y bytes maxL ret hh).before args s = true ∧ (Cond.initialized y.cls).before args s = true ∧ (y.cls ≠ "java/lang/invoke/MethodHandle" ∧ y.cls ≠ "java/lang/invoke/VarHandle") ∧
  (∀ sig, parseMethodDescriptor y.desc = some sig → n = sig.parameters.length) ∧ (Cond.methodLink own index y).before args s = true ∧ (Cond.static y).before args s = true
theorem vx_cwSW {own : String} {index maxL mc ms : Nat} {y : MethodName} {bytes : ByteArray} {ret : Option FieldType} {hh : List (Nat × Nat × Nat × Nat)} {Ts ws ws' : List Cond} {rm : Room} (n : Nat) (ht : ∀ w ∈ Ts, w.before args s = true) (hT : GoodIn Ts (va_wsS own index y ws)) (hw : ws = Cond.codeWith y bytes maxL ret hh :: ws') (hrc : rm.cells = mc) (hrs : rm.slots = ms)
    (hd : y.cls ≠ "java/lang/invoke/MethodHandle" ∧ y.cls ≠ "java/lang/invoke/VarHandle" ∧ (parseMethodDescriptor y.desc).map (fun d => d.parameters.length) = some n) (hR : rm.frames + 1 ≤ R.frames ∧ 8 + (maxL + 11) + rm.locals ≤ R.locals) :
    vx_CSW R s args own index y bytes maxL ret hh ws rm mc ms n := by
  have ok : ∀ w ∈ va_wsS own index y ws, w.before args s = true := fun w h => ht w (hT w h).1
  have hG : GoodIn Ts ws := fun w h => hT w (by unfold va_wsS; exact List.mem_append_right _ h)
  have hc : Cond.codeWith y bytes maxL ret hh ∈ ws := by rw [hw]; exact List.mem_cons_self
  refine ⟨⟨hrc, hrs, hR.1, hR.2, pay_in ht hG, hc⟩, ht _ (hG _ hc).1, ok _ (by simp [va_wsS]), ⟨hd.1, hd.2.1⟩, fun sig h => ?_, ok _ (by simp [va_wsS]), ok _ (by simp [va_wsS])⟩
  have h2 := hd.2.2
  rw [h] at h2
  exact (Option.some.inj h2).symm
theorem vx_callSW (X : Stand p l e R s m args below meth c T locs cells slots) (hexec : p.tables.exec = Jvm.exec) {own : String} {index : Nat} {y : MethodName} {bytes : ByteArray} {maxL : Nat} {ret : Option FieldType} {hh : List (Nat × Nat × Nat × Nat)}
    (hown : s.vm.findClass own = some m.cls) (hlink : (Cond.methodLink own index y).before args s = true) (hstat : (Cond.static y).before args s = true) (hinit : (Cond.initialized y.cls).before args s = true)
    (hcode : (Cond.codeWith y bytes maxL ret hh).before args s = true) (hy : y.cls ≠ "java/lang/invoke/MethodHandle" ∧ y.cls ≠ "java/lang/invoke/VarHandle")
    {W9 : Nat} {Pre : Pt → Array Value → Prop} {Post : Pt → Array Value → Option Value → Pt → Prop} (hK : Back l R p e below s args y 3 W9 Pre Post)
    {g : JFrame} (hg : g.method = m) (hsize : g.locals.size = c.maxLocals) {argsL rest : List Value} (hlen : ∀ sig, parseMethodDescriptor y.desc = some sig → argsL.length = sig.parameters.length)
    (hstack : g.stack = argsL.reverse ++ rest) (hW : 2 * g.monitorRoom + (rest.map fun v => v.category).sum ≤ W9) (hdg : decode c.code g.pc = .ok (.invokestatic index, 3))
    (hpre : ∀ vm₁, s.WarmedH vm₁ → Pre ⟨T.setVm vm₁, locs, cells, slots⟩ argsL.toArray) :
    ∃ (v : Option Value) (vm₁ : Vm) (B : Pt), s.WarmedH vm₁ ∧ Stand p l e R s m args below meth c B.U B.locs B.cells B.slots ∧ Post ⟨T.setVm vm₁, locs, cells, slots⟩ argsL.toArray v B ∧
      ∀ target, Steps p.tables e below (B.U.setTop { g with pc := g.pc + 3, stack := v.toList ++ rest }) target → Steps p.tables e below (T.setTop g) target := by
  obtain ⟨mk, methM, cM, hnamed, hmethM, -, -, -, -, -, -, hsigM⟩ := Cond.codeWith_spec hcode
  have hstatic : methM.isStatic = true := Cond.static_spec hnamed hmethM hstat
  obtain ⟨kP, hkP, -⟩ := className_of_methodNamed hnamed
  have hinitP : kP.init = .initialized := Cond.initialized_spec (findClass_of_methodNamed hnamed) hkP hinit
  obtain ⟨vm₁, X₁, hstep₁⟩ := X.invokestatic hexec hown hlink hnamed hmethM hstatic hkP hinitP hy (g := g) hg (argsL := argsL) (rest := rest) (hlen _ hsigM) hstack hdg
  obtain ⟨v, B, X', hpost, hsteps⟩ := hK m meth c ⟨T.setVm vm₁, locs, cells, slots⟩ { g with stack := rest } (.invokestatic index) mk argsL.toArray X₁ hg hsize hdg hW (X₁.named hnamed) (hpre vm₁ X₁.warmed)
  exact ⟨v, vm₁, B, X₁.warmed, X', hpost, fun target h => hstep₁ _ fun acts => by rw [doInvoke_state]; exact hsteps.trans h⟩
theorem vx_runSW {y : MethodName} {bytes cc : ByteArray} {maxL nL mc ms n index : Nat} {ret : Option FieldType} {hh : List (Nat × Nat × Nat × Nat)} {ws : List Cond} {rm : Room} {Pc : Array Value → State → Prop} {Qc : Array Value → State → Outcome → State → Prop} {free : Addr → Prop} {Ts : List Cond} {own : String} {As rest : List Value} {g : JFrame}
    (S : CallFix p m c cc nL s args Ts own) (hM : Met l y ws rm Pc Qc mc ms free) (cw : vx_CSW R s args own index y bytes maxL ret hh ws rm mc ms n) (hp : PreS s H Pc As)
    (hg : g.method = m) (hn : As.length = n) (hsize : g.locals.size = nL) (hstack : g.stack = As.reverse ++ rest) (hW : 2 * g.monitorRoom + (rest.map fun v => v.category).sum ≤ 8) (hdg : decode cc g.pc = .ok (.invokestatic index, 3)) (hf : cells + mc ≤ R.cells ∧ slots + ms ≤ R.slots) :
    va_Run p l e R s m args below meth c H locs cells slots mc ms g rest (Qc As.toArray) (free) := by
  obtain ⟨⟨hrc, hrs, hfr, hlo, hws, hcw⟩, hcode, hini, hy, hlen, hl, hstt⟩ := cw
  have hK : Back l R p e below s args y 3 8 (PreOf R mc ms Pc) (PostOf Qc mc ms free) := va_backW (hh := hh) (bytes := bytes) (maxL := maxL) (ret := ret) hM hp.1 hrc hrs hfr hlo hws hcw (fun a' U hW => word_at hW (Or.inl (by first | rfl | simp [Cond.onTables, Cond.keeps, Cond.steady])) hini)
  obtain ⟨hx, hb, hml, ho, -⟩ := S
  intro T hT X
  obtain ⟨v, vm₁, ⟨U', l2, c2, s2⟩, hW₁, X', ⟨g', mk, t, L, e1, e2, hq, h1, hL, h2, h3⟩, st⟩ := vx_callSW X hx (hh := hh) (bytes := bytes) (maxL := maxL) (ret := ret) ho hl hstt hini hcode hy hK hg (hsize.trans hml.symm) (argsL := As) (rest := rest) (fun sig h => hn.trans (hlen sig h)) hstack hW (by rw [hb]; exact hdg)
    (fun vm₁ hW₁ => ⟨hf.1, hf.2, hp.2 (T.setVm vm₁) hT hW₁⟩)
  dsimp only [Pt.U, Pt.locs, Pt.cells, Pt.slots] at X' e1 e2 h1 h2 h3 st
  subst h1; subst h2; subst h3
  exact ⟨v, (T.setVm vm₁).calling g' mk As.toArray, t, U', L, hT, X', hL, e1, e2, hq, st⟩
/-- not caught here, past rows that name other classes: it goes on to the caller -/
theorem vx_outP {p : Program} {l : Launch} {e : Env} {R : Room} {s : State} {m : MethodId} {args : Array Value} {below : List Frame} {meth : Method} {c : Code} {H : Heap} {locs : List Loc} {cells slots : Nat} {free : Addr → Prop} {ls : Array Slot} {rest : List Value} {Qc : Array Value → State → Outcome → State → Prop} {XC : String → State → State → Prop}
    {pc : Nat} {own E : String} {ce : Cell} {q : Addr} {mc ms : Nat} (hown : s.vm.findClass own = some m.cls) (hlocks : meth.locks = false)
    (hpass : ∀ z ∈ c.exceptionTable.toList, covers z pc = false ∨ (z.catchType ≠ 0 ∧ ∃ nm : String, (Cond.classLink own z.catchType nm).before args s = true ∧ va_Nc E nm s)) (hcell : H[q]? = some ce) (hv : ce.vm = .none) (hcl : s.vm.findClass E = some ce.cls)
    (hx : ∀ t : State, t.heap = H → s.vm.Alike t.vm → XC E s t) (hf : ∀ z ∈ locs, free z.base) (hc : cells ≤ mc) (hs : slots ≤ ms) :
    vx_W p l e R s m args below meth c H locs cells slots (vx_MQ below Qc XC args s mc ms free) (F0 m pc ls rest) q := by
  intro T hT X
  have hpl : e.platform.magicAccessors = ({} : Platform).magicAccessors := by rw [X.admits.platform]
  obtain ⟨vm', hW', X', st⟩ := X.outThrough hlocks q (g := F0 m pc ls rest) rfl rfl rfl (cell := ce) (by rw [hT]; exact hcell) (by rw [hv]; rfl)
    (by obtain ⟨k9, h9, -⟩ := Vm.findClass_spec hcl; exact ⟨k9, h9⟩) (fun z hz => by
      rcases hpass z hz with h | ⟨hz0, nm, hl1, hn1⟩
      · exact Or.inl h
      · obtain ⟨c6, hc6, hcl6⟩ := Cond.classLink_spec hown hl1 e.platform hpl
        obtain ⟨a8, b8, h1, h2, h3⟩ := hn1
        cases Option.some.inj (h1.symm.trans hcl)
        cases Option.some.inj (h2.symm.trans hc6)
        exact Or.inr ⟨hz0, _, hcl6, h3⟩)
  obtain ⟨g₀, hfr⟩ := X'.frames_eq
  have hcell9 : ((T.setVm vm').setFrames (.throwing q :: below)).heap[q]? = some ce := by
    show T.heap[q]? = some ce
    rw [hT]; exact hcell
  have hend : Ended ((T.setVm vm').setFrames (.throwing q :: below)) below (.threw q) := State.frames_setFrames _ (State.cur_lt_of_frames hfr)
  refine ⟨(T.setVm vm').setFrames (.throwing q :: below), ?_, .threw q, X'.here.running, hend, Or.inr ⟨q, rfl, E, ce, locs, hx _ hT (X'.ends _).1.alike, hcell9, hv, hcl, (X'.ends _).1, (X'.ends _).2.mono hc hs, hf⟩⟩
  rw [X.pushThrowing_eq]
  exact st
/-- a thing of a world lies in the heap -/
theorem vx_lt {D : va_G} {cl : List vw_C} {ws : va_W} {H1 : Heap} (h : va_P D cl ws H1) {k : Nat} {q : Nat × va_E} (hk : ws[k]? = some q) : q.1 < H1.size := (h k q hk).lt
end VXS
/-! ===== END ===== -/
/-! ===== BEGIN methods with a table of their own: called by a name, returning or throwing ===== -/
section VXH
/-! vx_backW, vx_callVX, vx_callSX, vx_callVW, vx_runVW, vx_runVX, vx_runSX, vx_ofWH follow the same proofs as their sisters above (Free/Laws.lean, Shelf42/LK1.lean); vx_outP calls Shelf42/NT130.lean (outThrough). -/
section
variable {l : Launch} {R : Room} {p : Program} {e : Env} {below : List Frame} {s : State} {sargs : Array Value} {y : MethodName} {len W9 : Nat}
theorem vx_backW {ws : List Cond} {rm : Room} {Pc : Array Value → State → Prop} {Qc : Array Value → State → Outcome → State → Prop} {XC : String → State → State → Prop} {mc ms : Nat} {free : Addr → Prop} {bytes : ByteArray} {maxL : Nat} {ret : Option FieldType} {hh : List (Nat × Nat × Nat × Nat)}
    (hM : vx_Met l y ws rm Pc Qc XC mc ms free) (hblind : FrameBlind Pc) (hrc : rm.cells = mc) (hrs : rm.slots = ms)
    (hframes : rm.frames + 1 ≤ R.frames) (hlocals : W9 + (maxL + 11) + rm.locals ≤ R.locals)
    (hws : ∀ w ∈ ws, ∀ a' U, s.WarmedH U.vm → w.before a' U = true) (hcode : Cond.codeWith y bytes maxL ret hh ∈ ws) (hinit : ∀ a' U, s.WarmedH U.vm → (Cond.initialized y.cls).before a' U = true) :
    vx_Back l R p e below s sargs y len W9 (PreOf R mc ms Pc) (PostOf Qc mc ms free) (vx_Post XC mc ms free) := by
  intro m meth c A g ig mk a X hg hsize hdg hW hn hp
  have h1 : (headSpec ws rm).pre.before a A.U = true := atoms_intro fun w hw => hws w hw _ _ X.warmed
  have h2 : (Cond.codeWith y bytes maxL ret hh).before a A.U = true := hws _ hcode _ _ X.warmed
  have h3 : (Cond.initialized y.cls).before a A.U = true := hinit _ _ X.warmed
  have h4 : A.cells + (headSpec ws rm).room.cells ≤ R.cells := by rw [show (headSpec ws rm).room.cells = mc from hrc]; exact hp.1
  have h5 : A.slots + (headSpec ws rm).room.slots ≤ R.slots := by rw [show (headSpec ws rm).room.slots = ms from hrs]; exact hp.2.1
  have hPc : Pc a (A.U.calling g mk a) := hblind _ _ _ _ hp.2.2
  obtain ⟨U, Ls, c0, s0⟩ := A
  dsimp only [Pt.U, Pt.locs, Pt.cells, Pt.slots] at h1 h2 h3 h4 h5 X hn hPc ⊢
  obtain ⟨m9, methY, cY, hn9, hmY, hcY, -, hlY, -⟩ := Cond.codeWith_spec h2
  cases Option.some.inj (hn9.symm.trans hn)
  obtain ⟨kY, hkY, -⟩ := className_of_methodNamed hn
  have hinitY : kY.init = .initialized := Cond.initialized_spec (findClass_of_methodNamed hn) hkY h3
  have h : At U g.method c below := by rw [hg]; exact X.here
  have hlocals9 : W9 + (maxL + 11) + (headSpec ws rm).room.locals ≤ R.locals := hlocals
  have happ : (headSpec ws rm).appliesLoose y e.platform (U.calling g mk a) = true :=
    Spec.appliesLoose_calling (g := g) h hdg hn hkY hinitY
      (X.room_calling (g := g) (R' := (headSpec ws rm).room) hsize hmY hcY hframes (by rw [hlY]; omega) h4 h5) h1
  obtain ⟨mid, hmid⟩ := h.above
  have hfr : (U.setTop g).frames = (.java g :: mid) ++ below := by rw [State.frames_setTop' g h.top, hmid]; rfl
  obtain ⟨o, s₂, hsteps, -, hend, hq⟩ := Steps.callFree hM p X.admits X.cas X.clock (acts := []) hfr happ hPc trivial
  have hq' : vx_Q Qc XC mc ms free a (U.calling g mk a) o s₂ := hq
  rw [State.frames_setTop' g h.top] at hend
  obtain ⟨g₀, hg0⟩ := Option.isSome_iff_exists.mp h.top
  obtain ⟨r, hr⟩ := State.topJava?_eq_some.mp hg0
  have hr' : (({ U with heap := s₂.heap, slotsUsed := s₂.slotsUsed } : State).setVm s₂.vm).frames = .java g₀ :: r := hr
  rcases hq' with ⟨hqc, L, hfe, hL⟩ | ⟨q, rfl, E, ce, L, hx, hce, hcv, hcl, hW₂, hsm, hL⟩
  · obtain ⟨⟨v, rfl⟩, hW₂, e2, q2, q3, q4, q5, q6⟩ := id hfe
    have e3 : s₂ = ({ (U.calling g mk a).setFrames s₂.frames with heap := s₂.heap, slotsUsed := s₂.slotsUsed } : State).setVm s₂.vm := by
      have : s₂ = ({ s₂ with vm := (U.calling g mk a).vm } : State).setVm s₂.vm := rfl
      rw [e2] at this
      exact this
    obtain ⟨c₂, i₂, len₂, hc₂, hd₂, hf₂⟩ := hend
    have hW' : U.WarmedH s₂.vm := hW₂
    have hcc : c₂ = c := by
      have h1 : s₂.code? g.method = U.code? g.method := by
        rw [State.code?_eq, State.code?_eq, hW'.alike.method?]
      exact Option.some.inj (hc₂.symm.trans (h1.trans h.code))
    subst hcc
    have hlen : len₂ = len := by rw [hdg] at hd₂; cases hd₂; rfl
    subst hlen
    have hs₂ : s₂ = (({ U with heap := s₂.heap, slotsUsed := s₂.slotsUsed } : State).setVm s₂.vm).setTop { g with pc := g.pc + len₂, stack := v.toList ++ g.stack } := by
      refine e3.trans ?_
      rw [hf₂, State.calling_eq h.top, State.setFrames_setFrames, State.setTop_of_frames _ hr', hr]
      rfl
    have hsame : U.sameButNew ({ U with heap := s₂.heap, slotsUsed := s₂.slotsUsed } : State) L mc ms := by
      refine ⟨?_, q2, q3, q4, q5, q6⟩
      obtain ⟨t, ht, -⟩ := State.frames_cons hr
      show ({ U with heap := s₂.heap, slotsUsed := s₂.slotsUsed } : State) = { U.setFrames U.frames with heap := s₂.heap, slotsUsed := s₂.slotsUsed }
      rw [State.setFrames_self ht]
    subst hg
    refine Or.inl ⟨v, ⟨(({ U with heap := s₂.heap, slotsUsed := s₂.slotsUsed } : State).setVm s₂.vm), Ls ++ L, c0 + mc, s0 + ms⟩,
      ⟨X.admits, X.cas, X.clock, X.frames, X.room, X.hears, X.method, X.code, (X.here.setHeapUsed s₂.heap s₂.slotsUsed).setVm hW'.alike, X.tail, State.WarmedH.trans X.warmed hW', X.limits, X.bytes, X.same.trans (hsame.setVm s.vm)⟩,
      ⟨g, mk, s₂, L, rfl, rfl, hqc, rfl, hL, rfl, rfl⟩, ?_⟩
    show Steps p.tables e below _ ((({ U with heap := s₂.heap, slotsUsed := s₂.slotsUsed } : State).setVm s₂.vm).setTop { g with pc := g.pc + len₂, stack := v.toList ++ g.stack })
    rw [← hs₂]
    exact hsteps
  · obtain ⟨e2, q2, q3, q4, q5, q6⟩ := id hsm
    have e3 : s₂ = ({ (U.calling g mk a).setFrames s₂.frames with heap := s₂.heap, slotsUsed := s₂.slotsUsed } : State).setVm s₂.vm := by
      have : s₂ = ({ s₂ with vm := (U.calling g mk a).vm } : State).setVm s₂.vm := rfl
      rw [e2] at this
      exact this
    have hf₂ : s₂.frames = .throwing q :: .java g :: U.frames.tail := hend
    have hW' : U.WarmedH s₂.vm := hW₂
    have hs₂ : s₂ = ((({ U with heap := s₂.heap, slotsUsed := s₂.slotsUsed } : State).setVm s₂.vm).setTop g).pushFrame (.throwing q) := by
      refine e3.trans ?_
      rw [hf₂, State.calling_eq h.top, State.setFrames_setFrames, State.pushFrame, State.frames_setTop _ hr', State.setTop_of_frames _ hr', State.setFrames_setFrames, hr]
      rfl
    have hsame : U.sameButNew ({ U with heap := s₂.heap, slotsUsed := s₂.slotsUsed } : State) L mc ms := by
      refine ⟨?_, q2, q3, q4, q5, q6⟩
      obtain ⟨t, ht, -⟩ := State.frames_cons hr
      show ({ U with heap := s₂.heap, slotsUsed := s₂.slotsUsed } : State) = { U.setFrames U.frames with heap := s₂.heap, slotsUsed := s₂.slotsUsed }
      rw [State.setFrames_self ht]
    subst hg
    refine Or.inr ⟨q, ⟨(({ U with heap := s₂.heap, slotsUsed := s₂.slotsUsed } : State).setVm s₂.vm), Ls ++ L, c0 + mc, s0 + ms⟩,
      ⟨X.admits, X.cas, X.clock, X.frames, X.room, X.hears, X.method, X.code, (X.here.setHeapUsed s₂.heap s₂.slotsUsed).setVm hW'.alike, X.tail, State.WarmedH.trans X.warmed hW', X.limits, X.bytes, X.same.trans (hsame.setVm s.vm)⟩,
      ⟨g, mk, s₂, L, E, ce, rfl, rfl, hx, hce, hcv, hcl, rfl, hL, rfl, rfl⟩, ?_⟩
    show Steps p.tables e below _ (((({ U with heap := s₂.heap, slotsUsed := s₂.slotsUsed } : State).setVm s₂.vm).setTop g).pushFrame (.throwing q))
    rw [← hs₂]
    exact hsteps
end
variable {p : Program} {l : Launch} {e : Env} {R : Room} {s : State} {m : MethodId} {args : Array Value} {below : List Frame} {meth : Method} {c : Code} {T : State} {H : Heap} {locs : List Loc} {cells slots : Nat}
theorem vx_callVX (X : Stand p l e R s m args below meth c T locs cells slots) (hexec : p.tables.exec = Jvm.exec) {own C : String} {index : Nat} {y : MethodName} {bytes : ByteArray} {maxL : Nat} {ret : Option FieldType} {hh : List (Nat × Nat × Nat × Nat)}
    (hown : s.vm.findClass own = some m.cls) (hlink : (Cond.methodLink own index y).before args s = true) (hinst : (Cond.instanceMethod y).before args s = true) (hsel : (Cond.selects C y y).before args s = true)
    (hcode : (Cond.codeWith y bytes maxL ret hh).before args s = true) (hy : y.cls ≠ "java/lang/invoke/MethodHandle" ∧ y.cls ≠ "java/lang/invoke/VarHandle")
    {W9 : Nat} {Pre : Pt → Array Value → Prop} {Post : Pt → Array Value → Option Value → Pt → Prop} {PostX : Pt → Array Value → Addr → Pt → Prop} (hK : vx_Back l R p e below s args y 3 W9 Pre Post PostX)
    {b : Addr} {cellB : Cell} (hcell : T.heap[b]? = some cellB) (hobj : cellB.vm.isStatics = false) (hcls : s.vm.findClass C = some cellB.cls)
    {g : JFrame} (hg : g.method = m) (hsize : g.locals.size = c.maxLocals) {argsL rest : List Value} (hlen : ∀ sig, parseMethodDescriptor y.desc = some sig → argsL.length = sig.parameters.length)
    (hstack : g.stack = argsL.reverse ++ .ref b :: rest) (hW : 2 * g.monitorRoom + (rest.map fun v => v.category).sum ≤ W9) (hdg : decode c.code g.pc = .ok (.invokevirtual index, 3))
    (hpre : ∀ vm₁, s.WarmedH vm₁ → Pre ⟨T.setVm vm₁, locs, cells, slots⟩ (Value.ref b :: argsL).toArray) :
    (∃ (v : Option Value) (vm₁ : Vm) (B : Pt), s.WarmedH vm₁ ∧ Stand p l e R s m args below meth c B.U B.locs B.cells B.slots ∧ Post ⟨T.setVm vm₁, locs, cells, slots⟩ (Value.ref b :: argsL).toArray v B ∧
      ∀ target, Steps p.tables e below (B.U.setTop { g with pc := g.pc + 3, stack := v.toList ++ rest }) target → Steps p.tables e below (T.setTop g) target) ∨
    (∃ (q : Addr) (vm₁ : Vm) (B : Pt), s.WarmedH vm₁ ∧ Stand p l e R s m args below meth c B.U B.locs B.cells B.slots ∧ PostX ⟨T.setVm vm₁, locs, cells, slots⟩ (Value.ref b :: argsL).toArray q B ∧
      Steps p.tables e below (T.setTop g) ((B.U.setTop { g with stack := rest }).pushFrame (.throwing q))) := by
  obtain ⟨mk, methM, hnamed, hmethM, hstM, habM⟩ := Cond.instanceMethod_spec hinst
  obtain ⟨m8, methM', cM, hn8, hmethM', -, -, -, -, -, -, hsigM⟩ := Cond.codeWith_spec hcode
  cases Option.some.inj (hn8.symm.trans hnamed)
  cases hmethM.symm.trans hmethM'
  obtain ⟨c2, r2, m2, q1, q2, q3, q4, kP, hkP, hkPi⟩ := Cond.selects_spec hsel
  cases hcls.symm.trans q1
  cases (State.methodFound?_of_named hnamed hy).symm.trans q2
  cases hnamed.symm.trans q3
  have hselP : selectMethod e.platform s.vm cellB.cls mk = .method mk := by rw [Launch.admits_selectMethod X.admits]; exact q4
  obtain ⟨vm₁, X₁, hstep₁⟩ := X.invokevirtual hexec hown hlink hnamed hmethM hstM hkP hkPi hy (a := b) (cell := cellB) hcell
    (fun z h => by rw [h] at hobj; cases hobj) hselP hmethM habM hkP hkPi (g := g) hg (argsL := argsL) (rest := rest) (hlen _ hsigM) hstack hdg
  rcases hK m meth c ⟨T.setVm vm₁, locs, cells, slots⟩ { g with stack := rest } (.invokevirtual index) mk (Value.ref b :: argsL).toArray X₁ hg hsize hdg hW (X₁.named hnamed) (hpre vm₁ X₁.warmed) with ⟨v, B, X', hpost, hsteps⟩ | ⟨q, B, X', hpost, hsteps⟩
  · exact Or.inl ⟨v, vm₁, B, X₁.warmed, X', hpost, fun target h => hstep₁ _ fun acts => by rw [doInvoke_state]; exact hsteps.trans h⟩
  · exact Or.inr ⟨q, vm₁, B, X₁.warmed, X', hpost, hstep₁ _ fun acts => by rw [doInvoke_state]; exact hsteps⟩
theorem vx_callSX (X : Stand p l e R s m args below meth c T locs cells slots) (hexec : p.tables.exec = Jvm.exec) {own : String} {index : Nat} {y : MethodName} {bytes : ByteArray} {maxL : Nat} {ret : Option FieldType} {hh : List (Nat × Nat × Nat × Nat)}
    (hown : s.vm.findClass own = some m.cls) (hlink : (Cond.methodLink own index y).before args s = true) (hstat : (Cond.static y).before args s = true) (hinit : (Cond.initialized y.cls).before args s = true)
    (hcode : (Cond.codeWith y bytes maxL ret hh).before args s = true) (hy : y.cls ≠ "java/lang/invoke/MethodHandle" ∧ y.cls ≠ "java/lang/invoke/VarHandle")
    {W9 : Nat} {Pre : Pt → Array Value → Prop} {Post : Pt → Array Value → Option Value → Pt → Prop} {PostX : Pt → Array Value → Addr → Pt → Prop} (hK : vx_Back l R p e below s args y 3 W9 Pre Post PostX)
    {g : JFrame} (hg : g.method = m) (hsize : g.locals.size = c.maxLocals) {argsL rest : List Value} (hlen : ∀ sig, parseMethodDescriptor y.desc = some sig → argsL.length = sig.parameters.length)
    (hstack : g.stack = argsL.reverse ++ rest) (hW : 2 * g.monitorRoom + (rest.map fun v => v.category).sum ≤ W9) (hdg : decode c.code g.pc = .ok (.invokestatic index, 3))
    (hpre : ∀ vm₁, s.WarmedH vm₁ → Pre ⟨T.setVm vm₁, locs, cells, slots⟩ argsL.toArray) :
    (∃ (v : Option Value) (vm₁ : Vm) (B : Pt), s.WarmedH vm₁ ∧ Stand p l e R s m args below meth c B.U B.locs B.cells B.slots ∧ Post ⟨T.setVm vm₁, locs, cells, slots⟩ argsL.toArray v B ∧
      ∀ target, Steps p.tables e below (B.U.setTop { g with pc := g.pc + 3, stack := v.toList ++ rest }) target → Steps p.tables e below (T.setTop g) target) ∨
    (∃ (q : Addr) (vm₁ : Vm) (B : Pt), s.WarmedH vm₁ ∧ Stand p l e R s m args below meth c B.U B.locs B.cells B.slots ∧ PostX ⟨T.setVm vm₁, locs, cells, slots⟩ argsL.toArray q B ∧
      Steps p.tables e below (T.setTop g) ((B.U.setTop { g with stack := rest }).pushFrame (.throwing q))) := by
  obtain ⟨mk, methM, cM, hnamed, hmethM, -, -, -, -, -, -, hsigM⟩ := Cond.codeWith_spec hcode
  have hstatic : methM.isStatic = true := Cond.static_spec hnamed hmethM hstat
  obtain ⟨kP, hkP, -⟩ := className_of_methodNamed hnamed
  have hinitP : kP.init = .initialized := Cond.initialized_spec (findClass_of_methodNamed hnamed) hkP hinit
  obtain ⟨vm₁, X₁, hstep₁⟩ := X.invokestatic hexec hown hlink hnamed hmethM hstatic hkP hinitP hy (g := g) hg (argsL := argsL) (rest := rest) (hlen _ hsigM) hstack hdg
  rcases hK m meth c ⟨T.setVm vm₁, locs, cells, slots⟩ { g with stack := rest } (.invokestatic index) mk argsL.toArray X₁ hg hsize hdg hW (X₁.named hnamed) (hpre vm₁ X₁.warmed) with ⟨v, B, X', hpost, hsteps⟩ | ⟨q, B, X', hpost, hsteps⟩
  · exact Or.inl ⟨v, vm₁, B, X₁.warmed, X', hpost, fun target h => hstep₁ _ fun acts => by rw [doInvoke_state]; exact hsteps.trans h⟩
  · exact Or.inr ⟨q, vm₁, B, X₁.warmed, X', hpost, hstep₁ _ fun acts => by rw [doInvoke_state]; exact hsteps⟩
theorem vx_callVW (X : Stand p l e R s m args below meth c T locs cells slots) (hexec : p.tables.exec = Jvm.exec) {own C : String} {index : Nat} {y : MethodName} {bytes : ByteArray} {maxL : Nat} {ret : Option FieldType} {hh : List (Nat × Nat × Nat × Nat)}
    (hown : s.vm.findClass own = some m.cls) (hlink : (Cond.methodLink own index y).before args s = true) (hinst : (Cond.instanceMethod y).before args s = true) (hsel : (Cond.selects C y y).before args s = true)
    (hcode : (Cond.codeWith y bytes maxL ret hh).before args s = true) (hy : y.cls ≠ "java/lang/invoke/MethodHandle" ∧ y.cls ≠ "java/lang/invoke/VarHandle")
    {W9 : Nat} {Pre : Pt → Array Value → Prop} {Post : Pt → Array Value → Option Value → Pt → Prop} (hK : Back l R p e below s args y 3 W9 Pre Post)
    {b : Addr} {cellB : Cell} (hcell : T.heap[b]? = some cellB) (hobj : cellB.vm.isStatics = false) (hcls : s.vm.findClass C = some cellB.cls)
    {g : JFrame} (hg : g.method = m) (hsize : g.locals.size = c.maxLocals) {argsL rest : List Value} (hlen : ∀ sig, parseMethodDescriptor y.desc = some sig → argsL.length = sig.parameters.length)
    (hstack : g.stack = argsL.reverse ++ .ref b :: rest) (hW : 2 * g.monitorRoom + (rest.map fun v => v.category).sum ≤ W9) (hdg : decode c.code g.pc = .ok (.invokevirtual index, 3))
    (hpre : ∀ vm₁, s.WarmedH vm₁ → Pre ⟨T.setVm vm₁, locs, cells, slots⟩ (Value.ref b :: argsL).toArray) :
    ∃ (v : Option Value) (vm₁ : Vm) (B : Pt), s.WarmedH vm₁ ∧ Stand p l e R s m args below meth c B.U B.locs B.cells B.slots ∧ Post ⟨T.setVm vm₁, locs, cells, slots⟩ (Value.ref b :: argsL).toArray v B ∧
      ∀ target, Steps p.tables e below (B.U.setTop { g with pc := g.pc + 3, stack := v.toList ++ rest }) target → Steps p.tables e below (T.setTop g) target := by
  obtain ⟨mk, methM, hnamed, hmethM, hstM, habM⟩ := Cond.instanceMethod_spec hinst
  obtain ⟨m8, methM', cM, hn8, hmethM', -, -, -, -, -, -, hsigM⟩ := Cond.codeWith_spec hcode
  cases Option.some.inj (hn8.symm.trans hnamed)
  cases hmethM.symm.trans hmethM'
  obtain ⟨c2, r2, m2, q1, q2, q3, q4, kP, hkP, hkPi⟩ := Cond.selects_spec hsel
  cases hcls.symm.trans q1
  cases (State.methodFound?_of_named hnamed hy).symm.trans q2
  cases hnamed.symm.trans q3
  have hselP : selectMethod e.platform s.vm cellB.cls mk = .method mk := by rw [Launch.admits_selectMethod X.admits]; exact q4
  obtain ⟨vm₁, X₁, hstep₁⟩ := X.invokevirtual hexec hown hlink hnamed hmethM hstM hkP hkPi hy (a := b) (cell := cellB) hcell
    (fun z h => by rw [h] at hobj; cases hobj) hselP hmethM habM hkP hkPi (g := g) hg (argsL := argsL) (rest := rest) (hlen _ hsigM) hstack hdg
  obtain ⟨v, B, X', hpost, hsteps⟩ := hK m meth c ⟨T.setVm vm₁, locs, cells, slots⟩ { g with stack := rest } (.invokevirtual index) mk (Value.ref b :: argsL).toArray X₁ hg hsize hdg hW (X₁.named hnamed) (hpre vm₁ X₁.warmed)
  exact ⟨v, vm₁, B, X₁.warmed, X', hpost, fun target h => hstep₁ _ fun acts => by rw [doInvoke_state]; exact hsteps.trans h⟩
abbrev vx_CVW (R : Room) (s : State) (args : Array Value) (own C : String) (index : Nat) (y : MethodName) (bytes : ByteArray) (maxL : Nat) (ret : Option FieldType) (hh : List (Nat × Nat × Nat × Nat)) (ws : List Cond) (rm : Room) (mc ms n : Nat) : Prop :=
  (rm.cells = mc ∧ rm.slots = ms ∧ rm.frames + 1 ≤ R.frames ∧ 8 + (maxL + 11) + rm.locals ≤ R.locals ∧ (∀ w ∈ ws, ∀ (a' : Array Value) (U : State), s.WarmedH U.vm → w.before a' U = true) ∧ Cond.codeWith y bytes maxL ret hh ∈ ws) ∧
  (Cond.codeWith y bytes maxL ret hh).before args s = true ∧ (Cond.initialized y.cls).before args s = true ∧ (y.cls ≠ "java/lang/invoke/MethodHandle" ∧ y.cls ≠ "java/lang/invoke/VarHandle") ∧
  (∀ sig, parseMethodDescriptor y.desc = some sig → n = sig.parameters.length) ∧ (Cond.methodLink own index y).before args s = true ∧ (Cond.instanceMethod y).before args s = true ∧ (Cond.selects C y y).before args s = true
theorem vx_cwVW {own C : String} {index maxL mc ms : Nat} {y : MethodName} {bytes : ByteArray} {ret : Option FieldType} {hh : List (Nat × Nat × Nat × Nat)} {Ts ws ws' : List Cond} {rm : Room} (n : Nat) (ht : ∀ w ∈ Ts, w.before args s = true) (hT : GoodIn Ts (wsV own index C y ws)) (hw : ws = Cond.codeWith y bytes maxL ret hh :: ws') (hrc : rm.cells = mc) (hrs : rm.slots = ms)
    (hd : y.cls = C ∧ y.cls ≠ "java/lang/invoke/MethodHandle" ∧ y.cls ≠ "java/lang/invoke/VarHandle" ∧ (parseMethodDescriptor y.desc).map (fun d => d.parameters.length) = some n) (hR : rm.frames + 1 ≤ R.frames ∧ 8 + (maxL + 11) + rm.locals ≤ R.locals) :
    vx_CVW R s args own C index y bytes maxL ret hh ws rm mc ms n := by
  obtain ⟨hC, hd⟩ := hd
  subst hC
  have ok : ∀ w ∈ wsV own index y.cls y ws, w.before args s = true := fun w h => ht w (hT w h).1
  have hG : GoodIn Ts ws := fun w h => hT w (by unfold wsV; exact List.mem_append_right _ h)
  have hc : Cond.codeWith y bytes maxL ret hh ∈ ws := by rw [hw]; exact List.mem_cons_self
  refine ⟨⟨hrc, hrs, hR.1, hR.2, pay_in ht hG, hc⟩, ht _ (hG _ hc).1, ok _ (by simp [wsV]), ⟨hd.1, hd.2.1⟩, fun sig h => ?_, ok _ (by simp [wsV]), ok _ (by simp [wsV]), ok _ (by simp [wsV])⟩
  have h2 := hd.2.2
  rw [h] at h2
  exact (Option.some.inj h2).symm
theorem vx_runVW {y : MethodName} {bytes cc : ByteArray} {maxL nL mc ms n index : Nat} {ret : Option FieldType} {hh : List (Nat × Nat × Nat × Nat)} {ws : List Cond} {rm : Room} {Pc : Array Value → State → Prop} {Qc : Array Value → State → Outcome → State → Prop} {free : Addr → Prop} {Ts : List Cond} {own C : String} {b : Addr} {As rest : List Value} {g : JFrame}
    (S : CallFix p m c cc nL s args Ts own) (hM : Met l y ws rm Pc Qc mc ms free) (cw : vx_CVW R s args own C index y bytes maxL ret hh ws rm mc ms n) (hp : PreV s H C b Pc As)
    (hg : g.method = m) (hn : As.length = n) (hsize : g.locals.size = nL) (hstack : g.stack = As.reverse ++ .ref b :: rest) (hW : 2 * g.monitorRoom + (rest.map fun v => v.category).sum ≤ 8) (hdg : decode cc g.pc = .ok (.invokevirtual index, 3)) (hf : cells + mc ≤ R.cells ∧ slots + ms ≤ R.slots) :
    va_Run p l e R s m args below meth c H locs cells slots mc ms g rest (Qc (Value.ref b :: As).toArray) free := by
  obtain ⟨⟨hrc, hrs, hfr, hlo, hws, hcw⟩, hcode, hini, hy, hlen, hl, hin, hse⟩ := cw
  have hK : Back l R p e below s args y 3 8 (PreOf R mc ms Pc) (PostOf Qc mc ms free) := va_backW (hh := hh) (bytes := bytes) (maxL := maxL) (ret := ret) hM hp.1 hrc hrs hfr hlo hws hcw (fun a' U hW => word_at hW (Or.inl (by first | rfl | simp [Cond.onTables, Cond.keeps, Cond.steady])) hini)
  obtain ⟨hx, hb, hml, ho, -⟩ := S
  obtain ⟨-, ⟨cellB, hcB, hoB, hclB⟩, hPc⟩ := hp
  intro T hT X
  obtain ⟨v, vm₁, ⟨U', l2, c2, s2⟩, hW₁, X', ⟨g', mk, t, L, e1, e2, hq, h1, hL, h2, h3⟩, st⟩ := vx_callVW X hx (C := C) (hh := hh) (bytes := bytes) (maxL := maxL) (ret := ret) ho hl hin hse hcode hy hK (by rw [hT]; exact hcB) hoB hclB hg (hsize.trans hml.symm) (argsL := As) (rest := rest) (fun sig h => hn.trans (hlen sig h)) hstack hW (by rw [hb]; exact hdg)
    (fun vm₁ hW₁ => ⟨hf.1, hf.2, hPc (T.setVm vm₁) hT hW₁⟩)
  dsimp only [Pt.U, Pt.locs, Pt.cells, Pt.slots] at X' e1 e2 h1 h2 h3 st
  subst h1; subst h2; subst h3
  exact ⟨v, (T.setVm vm₁).calling g' mk (Value.ref b :: As).toArray, t, U', L, hT, X', hL, e1, e2, hq, st⟩
section
variable {y : MethodName} {bytes cc : ByteArray} {maxL nL mc ms n index : Nat} {ret : Option FieldType} {ws : List Cond} {rm : Room} {Pc : Array Value → State → Prop} {Qc : Array Value → State → Outcome → State → Prop} {XC : String → State → State → Prop} {free : Addr → Prop} {Ts : List Cond} {own C : String} {b : Addr} {As rest : List Value} {g : JFrame}
theorem vx_runVX {hh : List (Nat × Nat × Nat × Nat)} (S : CallFix p m c cc nL s args Ts own) (hM : vx_Met l y ws rm Pc Qc XC mc ms free) (cw : vx_CVW R s args own C index y bytes maxL ret hh ws rm mc ms n) (hp : PreV s H C b Pc As)
    (hg : g.method = m) (hn : As.length = n) (hsize : g.locals.size = nL) (hstack : g.stack = As.reverse ++ .ref b :: rest) (hW : 2 * g.monitorRoom + (rest.map fun v => v.category).sum ≤ 8) (hdg : decode cc g.pc = .ok (.invokevirtual index, 3)) (hf : cells + mc ≤ R.cells ∧ slots + ms ≤ R.slots) :
    vx_Run p l e R s m args below meth c H locs cells slots mc ms g rest (Qc (Value.ref b :: As).toArray) XC free := by
  obtain ⟨⟨hrc, hrs, hfr, hlo, hws, hcw⟩, hcode, hini, hy, hlen, hl, hin, hse⟩ := cw
  have hK : vx_Back l R p e below s args y 3 8 (PreOf R mc ms Pc) (PostOf Qc mc ms free) (vx_Post XC mc ms free) := vx_backW (hh := hh) (bytes := bytes) (maxL := maxL) (ret := ret) hM hp.1 hrc hrs hfr hlo hws hcw (fun a' U hW => word_at hW (Or.inl (by first | rfl | simp [Cond.onTables, Cond.keeps, Cond.steady])) hini)
  obtain ⟨hx, hb, hml, ho, -⟩ := S
  obtain ⟨-, ⟨cellB, hcB, hoB, hclB⟩, hPc⟩ := hp
  intro T hT X
  rcases vx_callVX X hx (C := C) (hh := hh) (bytes := bytes) (maxL := maxL) (ret := ret) ho hl hin hse hcode hy hK (by rw [hT]; exact hcB) hoB hclB hg (hsize.trans hml.symm) (argsL := As) (rest := rest) (fun sig h => hn.trans (hlen sig h)) hstack hW (by rw [hb]; exact hdg)
    (fun vm₁ hW₁ => ⟨hf.1, hf.2, hPc (T.setVm vm₁) hT hW₁⟩) with ⟨v, vm₁, ⟨U', l2, c2, s2⟩, hW₁, X', ⟨g', mk, t, L, e1, e2, hq, h1, hL, h2, h3⟩, st⟩ | ⟨q, vm₁, ⟨U', l2, c2, s2⟩, hW₁, X', ⟨g', mk, t, L, E, ce, e1, e2, hq, hce, hcv, hcl, h1, hL, h2, h3⟩, st⟩
  · dsimp only [Pt.U, Pt.locs, Pt.cells, Pt.slots] at X' e1 e2 h1 h2 h3 st
    subst h1; subst h2; subst h3
    exact Or.inl ⟨v, (T.setVm vm₁).calling g' mk (Value.ref b :: As).toArray, t, U', L, hT, X', hL, e1, e2, hq, st⟩
  · dsimp only [Pt.U, Pt.locs, Pt.cells, Pt.slots] at X' e1 e2 h1 h2 h3 st hcl
    subst h1; subst h2; subst h3
    exact Or.inr ⟨q, (T.setVm vm₁).calling g' mk (Value.ref b :: As).toArray, t, U', L, E, ce, hT, X', hL, e1, e2, hq, hce, hcv, vx_cls hW₁ hcl, st⟩
theorem vx_runSX {hh : List (Nat × Nat × Nat × Nat)} (S : CallFix p m c cc nL s args Ts own) (hM : vx_Met l y ws rm Pc Qc XC mc ms free) (cw : vx_CSW R s args own index y bytes maxL ret hh ws rm mc ms n) (hp : PreS s H Pc As)
    (hg : g.method = m) (hn : As.length = n) (hsize : g.locals.size = nL) (hstack : g.stack = As.reverse ++ rest) (hW : 2 * g.monitorRoom + (rest.map fun v => v.category).sum ≤ 8) (hdg : decode cc g.pc = .ok (.invokestatic index, 3)) (hf : cells + mc ≤ R.cells ∧ slots + ms ≤ R.slots) :
    vx_Run p l e R s m args below meth c H locs cells slots mc ms g rest (Qc As.toArray) XC free := by
  obtain ⟨⟨hrc, hrs, hfr, hlo, hws, hcw⟩, hcode, hini, hy, hlen, hl, hstt⟩ := cw
  have hK : vx_Back l R p e below s args y 3 8 (PreOf R mc ms Pc) (PostOf Qc mc ms free) (vx_Post XC mc ms free) := vx_backW (hh := hh) (bytes := bytes) (maxL := maxL) (ret := ret) hM hp.1 hrc hrs hfr hlo hws hcw (fun a' U hW => word_at hW (Or.inl (by first | rfl | simp [Cond.onTables, Cond.keeps, Cond.steady])) hini)
  obtain ⟨hx, hb, hml, ho, -⟩ := S
  intro T hT X
  rcases vx_callSX X hx (hh := hh) (bytes := bytes) (maxL := maxL) (ret := ret) ho hl hstt hini hcode hy hK hg (hsize.trans hml.symm) (argsL := As) (rest := rest) (fun sig h => hn.trans (hlen sig h)) hstack hW (by rw [hb]; exact hdg)
    (fun vm₁ hW₁ => ⟨hf.1, hf.2, hp.2 (T.setVm vm₁) hT hW₁⟩) with ⟨v, vm₁, ⟨U', l2, c2, s2⟩, hW₁, X', ⟨g', mk, t, L, e1, e2, hq, h1, hL, h2, h3⟩, st⟩ | ⟨q, vm₁, ⟨U', l2, c2, s2⟩, hW₁, X', ⟨g', mk, t, L, E, ce, e1, e2, hq, hce, hcv, hcl, h1, hL, h2, h3⟩, st⟩
  · dsimp only [Pt.U, Pt.locs, Pt.cells, Pt.slots] at X' e1 e2 h1 h2 h3 st
    subst h1; subst h2; subst h3
    exact Or.inl ⟨v, (T.setVm vm₁).calling g' mk As.toArray, t, U', L, hT, X', hL, e1, e2, hq, st⟩
  · dsimp only [Pt.U, Pt.locs, Pt.cells, Pt.slots] at X' e1 e2 h1 h2 h3 st hcl
    subst h1; subst h2; subst h3
    exact Or.inr ⟨q, (T.setVm vm₁).calling g' mk As.toArray, t, U', L, E, ce, hT, X', hL, e1, e2, hq, hce, hcv, vx_cls hW₁ hcl, st⟩
end
end VXH
theorem vx_ofWH {l : Launch} {y : MethodName} {ws ws' : List Cond} {rm : Room} {Pc : Array Value → State → Prop} {Qc : Array Value → State → Outcome → State → Prop} {XC : String → State → State → Prop} {mc ms : Nat} {free : Addr → Prop} {cc : ByteArray} {maxL : Nat} {ret : Option FieldType} {hh : List (Nat × Nat × Nat × Nat)}
    (hy : plainName y.cls = true) (hw : ws = Cond.codeWith y cc maxL ret hh :: ws')
    (body : ∀ p e s m args below meth c s₁, BodyLoose p l y (headSpec ws rm) cc maxL ret e s m args below meth c s₁ → c.maxLocals = maxL → Pc args s →
      W p l e (headSpec ws rm).room s m args below meth c s.heap [] 0 0 (vx_MQ below Qc XC args s mc ms free) (entryFrame m args maxL)) : vx_Met l y ws rm Pc Qc XC mc ms free := by
  refine MetFree.of_bodyS (code := cc) (maxLocals := maxL) (ret := ret) hy ?_ ?_
  · intro args s m h hn
    obtain ⟨m9, meth, c, hn9, h1, h2, h3, h4, -, h5, h6, -⟩ := Cond.codeWith_spec (atoms_spec (ws := ws) h _ (by rw [hw]; exact List.mem_cons_self))
    cases hn.symm.trans hn9
    exact ⟨meth, c, h1, h2, h3, h4, h5, h6⟩
  · intro p e s m args below meth c s₁ B hml hP _
    have hh0 : s₁.heap = s.heap := by rw [B.state]; rfl
    obtain ⟨t, a1, o, b1, b2, b3⟩ := body p e s m args below meth c s₁ B hml hP s₁ hh0 (Stand.of_body B)
    exact ⟨t, o, a1, b1, b2, b3⟩
/-! ===== END ===== -/
end
section
def RX0 : String := "MarbleGates$Balls"
def TX0 : u_T := fun k => match k with
  | 0 => ("MarbleGates$Balls", "size", "I", false)
  | 1 => ("MarbleGates$Balls", "places", "LMarbleGates$Row;", true)
  | 2 => ("MarbleGates$Balls", "dropBeats", "LMarbleGates$Row;", true)
  | _ => ("MarbleGates$Balls", "passed", "LMarbleGates$Row;", true)
def tyX0 : Nat → FieldType := fun k => match k with
  | 0 => .int
  | 1 => .object "MarbleGates$Row"
  | 2 => .object "MarbleGates$Row"
  | _ => .object "MarbleGates$Row"
theorem nmX0 : ∀ a, a < 4 → ∀ b, b < 4 → a ≠ b → (TX0 a).2.1 ≠ (TX0 b).2.1 := by decide +kernel
theorem tyX0_ok : ∀ k, k < 4 → parseFieldDescriptor (TX0 k).2.2.1 = some (tyX0 k) := by decide +kernel
abbrev cX0_init : ByteArray := prog_2_method_1_code
def yX0_init : MethodName := ⟨RX0, "<init>", "()V"⟩
abbrev cX0_copyFrom : ByteArray := prog_2_method_2_code
def yX0_copyFrom : MethodName := ⟨RX0, "copyFrom", "(LMarbleGates$Balls;)V"⟩
abbrev cX0_add : ByteArray := prog_2_method_3_code
def yX0_add : MethodName := ⟨RX0, "add", "(I)V"⟩
abbrev cX0_advance : ByteArray := prog_2_method_4_code
def yX0_advance : MethodName := ⟨RX0, "advance", "(III)V"⟩
abbrev cX0_howManyAt : ByteArray := prog_2_method_5_code
def yX0_howManyAt : MethodName := ⟨RX0, "howManyAt", "(I)I"⟩
def RX1 : String := "MarbleGates$Gates"
def TX1 : u_T := fun k => match k with
  | 0 => ("MarbleGates$Gates", "built", "I", false)
  | 1 => ("MarbleGates$Gates", "sides", "LMarbleGates$Row;", true)
  | 2 => ("MarbleGates$Gates", "pitches", "LMarbleGates$Row;", true)
  | 3 => ("MarbleGates$Gates", "turns", "LMarbleGates$Row;", true)
  | 4 => ("MarbleGates$Gates", "targets", "LMarbleGates$Row;", true)
  | _ => ("MarbleGates$Gates", "leavers", "LMarbleGates$Row;", true)
def tyX1 : Nat → FieldType := fun k => match k with
  | 0 => .int
  | 1 => .object "MarbleGates$Row"
  | 2 => .object "MarbleGates$Row"
  | 3 => .object "MarbleGates$Row"
  | 4 => .object "MarbleGates$Row"
  | _ => .object "MarbleGates$Row"
theorem nmX1 : ∀ a, a < 6 → ∀ b, b < 6 → a ≠ b → (TX1 a).2.1 ≠ (TX1 b).2.1 := by decide +kernel
theorem tyX1_ok : ∀ k, k < 6 → parseFieldDescriptor (TX1 k).2.2.1 = some (tyX1 k) := by decide +kernel
abbrev cX1_init : ByteArray := prog_3_method_1_code
def yX1_init : MethodName := ⟨RX1, "<init>", "()V"⟩
abbrev cX1_copyFrom : ByteArray := prog_3_method_2_code
def yX1_copyFrom : MethodName := ⟨RX1, "copyFrom", "(LMarbleGates$Gates;)V"⟩
abbrev cX1_hasRoom : ByteArray := prog_3_method_3_code
def yX1_hasRoom : MethodName := ⟨RX1, "hasRoom", "()Z"⟩
abbrev cX1_exists : ByteArray := prog_3_method_4_code
def yX1_exists : MethodName := ⟨RX1, "exists", "(I)Z"⟩
abbrev cX1_hasExit : ByteArray := prog_3_method_5_code
def yX1_hasExit : MethodName := ⟨RX1, "hasExit", "(II)Z"⟩
abbrev cX1_hasTarget : ByteArray := prog_3_method_6_code
def yX1_hasTarget : MethodName := ⟨RX1, "hasTarget", "(I)Z"⟩
abbrev cX1_build : ByteArray := prog_3_method_7_code
def yX1_build : MethodName := ⟨RX1, "build", "(I)I"⟩
abbrev cX1_connect : ByteArray := prog_3_method_8_code
def yX1_connect : MethodName := ⟨RX1, "connect", "(III)I"⟩
abbrev cX1_changePitch : ByteArray := prog_3_method_9_code
def yX1_changePitch : MethodName := ⟨RX1, "changePitch", "(II)I"⟩
abbrev cX1_turnByHand : ByteArray := prog_3_method_10_code
def yX1_turnByHand : MethodName := ⟨RX1, "turnByHand", "(I)I"⟩
abbrev cX1_targetOf : ByteArray := prog_3_method_11_code
def yX1_targetOf : MethodName := ⟨RX1, "targetOf", "(II)I"⟩
abbrev cX1_leaversOf : ByteArray := prog_3_method_12_code
def yX1_leaversOf : MethodName := ⟨RX1, "leaversOf", "(II)I"⟩
abbrev cX1_letOut : ByteArray := prog_3_method_13_code
def yX1_letOut : MethodName := ⟨RX1, "letOut", "(I)I"⟩
abbrev cX1_exitsInto : ByteArray := prog_3_method_14_code
def yX1_exitsInto : MethodName := ⟨RX1, "exitsInto", "(I)I"⟩
abbrev cX1_stepsFrom : ByteArray := prog_3_method_15_code
def yX1_stepsFrom : MethodName := ⟨RX1, "stepsFrom", "(I)I"⟩
abbrev cX1_binFrom : ByteArray := prog_3_method_16_code
def yX1_binFrom : MethodName := ⟨RX1, "binFrom", "(I)I"⟩
def RX2 : String := "MarbleGates$History"
def TX2 : u_T := fun k => match k with
  | 0 => ("MarbleGates$History", "shelf", "LMarbleGates$Shelf;", true)
  | 1 => ("MarbleGates$History", "oldest", "I", false)
  | _ => ("MarbleGates$History", "saved", "I", false)
def tyX2 : Nat → FieldType := fun k => match k with
  | 0 => .object "MarbleGates$Shelf"
  | 1 => .int
  | _ => .int
theorem nmX2 : ∀ a, a < 3 → ∀ b, b < 3 → a ≠ b → (TX2 a).2.1 ≠ (TX2 b).2.1 := by decide +kernel
theorem tyX2_ok : ∀ k, k < 3 → parseFieldDescriptor (TX2 k).2.2.1 = some (tyX2 k) := by decide +kernel
abbrev cX2_init : ByteArray := prog_4_method_1_code
def yX2_init : MethodName := ⟨RX2, "<init>", "()V"⟩
abbrev cX2_size : ByteArray := prog_4_method_2_code
def yX2_size : MethodName := ⟨RX2, "size", "()I"⟩
abbrev cX2_placeOf : ByteArray := prog_4_method_3_code
def yX2_placeOf : MethodName := ⟨RX2, "placeOf", "(I)I"⟩
abbrev cX2_push : ByteArray := prog_4_method_4_code
def yX2_push : MethodName := ⟨RX2, "push", "(LMarbleGates$Run;)V"⟩
abbrev cX2_pop : ByteArray := prog_4_method_5_code
def yX2_pop : MethodName := ⟨RX2, "pop", "(LMarbleGates$Run;)I"⟩
def RX3 : String := "MarbleGates$Music"
def TX3 : u_T := fun k => match k with
  | 0 => ("MarbleGates$Music", "rung", "LMarbleGates$Rung;", true)
  | 1 => ("MarbleGates$Music", "tally", "LMarbleGates$Row;", true)
  | 2 => ("MarbleGates$Music", "chords", "LMarbleGates$Row;", true)
  | _ => ("MarbleGates$Music", "chordCount", "I", false)
def tyX3 : Nat → FieldType := fun k => match k with
  | 0 => .object "MarbleGates$Rung"
  | 1 => .object "MarbleGates$Row"
  | 2 => .object "MarbleGates$Row"
  | _ => .int
theorem nmX3 : ∀ a, a < 4 → ∀ b, b < 4 → a ≠ b → (TX3 a).2.1 ≠ (TX3 b).2.1 := by decide +kernel
theorem tyX3_ok : ∀ k, k < 4 → parseFieldDescriptor (TX3 k).2.2.1 = some (tyX3 k) := by decide +kernel
abbrev cX3_init : ByteArray := prog_5_method_1_code
def yX3_init : MethodName := ⟨RX3, "<init>", "(LMarbleGates$Rung;)V"⟩
abbrev cX3_chordOf : ByteArray := prog_5_method_2_code
def yX3_chordOf : MethodName := ⟨RX3, "chordOf", "(I)I"⟩
abbrev cX3_tallyPitches : ByteArray := prog_5_method_3_code
def yX3_tallyPitches : MethodName := ⟨RX3, "tallyPitches", "()V"⟩
abbrev cX3_differentPitches : ByteArray := prog_5_method_4_code
def yX3_differentPitches : MethodName := ⟨RX3, "differentPitches", "()I"⟩
abbrev cX3_commonestPitch : ByteArray := prog_5_method_5_code
def yX3_commonestPitch : MethodName := ⟨RX3, "commonestPitch", "()I"⟩
abbrev cX3_gatherChords : ByteArray := prog_5_method_6_code
def yX3_gatherChords : MethodName := ⟨RX3, "gatherChords", "()V"⟩
abbrev cX3_differentChords : ByteArray := prog_5_method_7_code
def yX3_differentChords : MethodName := ⟨RX3, "differentChords", "()I"⟩
abbrev cX3_isFirstOfItsKind : ByteArray := prog_5_method_8_code
def yX3_isFirstOfItsKind : MethodName := ⟨RX3, "isFirstOfItsKind", "(I)Z"⟩
abbrev cX3_widestChord : ByteArray := prog_5_method_9_code
def yX3_widestChord : MethodName := ⟨RX3, "widestChord", "()I"⟩
abbrev cX3_steps : ByteArray := prog_5_method_10_code
def yX3_steps : MethodName := ⟨RX3, "steps", "(I)I"⟩
abbrev cX3_pitchSum : ByteArray := prog_5_method_11_code
def yX3_pitchSum : MethodName := ⟨RX3, "pitchSum", "()I"⟩
def RX4 : String := "MarbleGates$OrderText"
def TX4 : u_T := fun k => match k with
  | 0 => ("MarbleGates$OrderText", "length", "I", false)
  | 1 => ("MarbleGates$OrderText", "codes", "LMarbleGates$Row;", true)
  | 2 => ("MarbleGates$OrderText", "phase", "I", false)
  | 3 => ("MarbleGates$OrderText", "order", "I", false)
  | 4 => ("MarbleGates$OrderText", "kinds", "LMarbleGates$Row;", true)
  | 5 => ("MarbleGates$OrderText", "numbers", "LMarbleGates$Row;", true)
  | 6 => ("MarbleGates$OrderText", "exits", "LMarbleGates$Row;", true)
  | _ => ("MarbleGates$OrderText", "targets", "LMarbleGates$Row;", true)
def tyX4 : Nat → FieldType := fun k => match k with
  | 0 => .int
  | 1 => .object "MarbleGates$Row"
  | 2 => .int
  | 3 => .int
  | 4 => .object "MarbleGates$Row"
  | 5 => .object "MarbleGates$Row"
  | 6 => .object "MarbleGates$Row"
  | _ => .object "MarbleGates$Row"
theorem nmX4 : ∀ a, a < 8 → ∀ b, b < 8 → a ≠ b → (TX4 a).2.1 ≠ (TX4 b).2.1 := by decide +kernel
theorem tyX4_ok : ∀ k, k < 8 → parseFieldDescriptor (TX4 k).2.2.1 = some (tyX4 k) := by decide +kernel
abbrev cX4_init : ByteArray := prog_6_method_1_code
def yX4_init : MethodName := ⟨RX4, "<init>", "()V"⟩
abbrev cX4_isFull : ByteArray := prog_6_method_2_code
def yX4_isFull : MethodName := ⟨RX4, "isFull", "()Z"⟩
abbrev cX4_add : ByteArray := prog_6_method_3_code
def yX4_add : MethodName := ⟨RX4, "add", "(I)I"⟩
abbrev cX4_clear : ByteArray := prog_6_method_4_code
def yX4_clear : MethodName := ⟨RX4, "clear", "()I"⟩
abbrev cX4_read : ByteArray := prog_6_method_5_code
def yX4_read : MethodName := ⟨RX4, "read", "()I"⟩
abbrev cX4_isOrderText : ByteArray := prog_6_method_6_code
def yX4_isOrderText : MethodName := ⟨RX4, "isOrderText", "()Z"⟩
abbrev cX4_orderCount : ByteArray := prog_6_method_7_code
def yX4_orderCount : MethodName := ⟨RX4, "orderCount", "()I"⟩
abbrev cX4_kindOf : ByteArray := prog_6_method_8_code
def yX4_kindOf : MethodName := ⟨RX4, "kindOf", "(I)I"⟩
abbrev cX4_numberOf : ByteArray := prog_6_method_9_code
def yX4_numberOf : MethodName := ⟨RX4, "numberOf", "(I)I"⟩
abbrev cX4_exitOf : ByteArray := prog_6_method_10_code
def yX4_exitOf : MethodName := ⟨RX4, "exitOf", "(I)I"⟩
abbrev cX4_targetOf : ByteArray := prog_6_method_11_code
def yX4_targetOf : MethodName := ⟨RX4, "targetOf", "(I)I"⟩
abbrev cX4_mayEnd : ByteArray := prog_6_method_12_code
def yX4_mayEnd : MethodName := ⟨RX4, "mayEnd", "()Z"⟩
abbrev cX4_take : ByteArray := prog_6_method_13_code
def yX4_take : MethodName := ⟨RX4, "take", "(I)Z"⟩
abbrev cX4_takeSeparator : ByteArray := prog_6_method_14_code
def yX4_takeSeparator : MethodName := ⟨RX4, "takeSeparator", "()Z"⟩
abbrev cX4_takeKind : ByteArray := prog_6_method_15_code
def yX4_takeKind : MethodName := ⟨RX4, "takeKind", "(I)Z"⟩
abbrev cX4_takeNumber : ByteArray := prog_6_method_16_code
def yX4_takeNumber : MethodName := ⟨RX4, "takeNumber", "(I)Z"⟩
abbrev cX4_takeMoreOfNumber : ByteArray := prog_6_method_17_code
def yX4_takeMoreOfNumber : MethodName := ⟨RX4, "takeMoreOfNumber", "(I)Z"⟩
abbrev cX4_takeExit : ByteArray := prog_6_method_18_code
def yX4_takeExit : MethodName := ⟨RX4, "takeExit", "(I)Z"⟩
abbrev cX4_takeTarget : ByteArray := prog_6_method_19_code
def yX4_takeTarget : MethodName := ⟨RX4, "takeTarget", "(I)Z"⟩
abbrev cX4_takeMoreOfTarget : ByteArray := prog_6_method_20_code
def yX4_takeMoreOfTarget : MethodName := ⟨RX4, "takeMoreOfTarget", "(I)Z"⟩
abbrev cX4_takeBin : ByteArray := prog_6_method_21_code
def yX4_takeBin : MethodName := ⟨RX4, "takeBin", "(I)Z"⟩
abbrev cX4_greatest : ByteArray := prog_6_method_22_code
def yX4_greatest : MethodName := ⟨RX4, "greatest", "(I)I"⟩
abbrev cX4_isDigit : ByteArray := prog_6_method_23_code
def yX4_isDigit : MethodName := ⟨RX4, "isDigit", "(I)Z"⟩
abbrev cX4_longer : ByteArray := prog_6_method_24_code
def yX4_longer : MethodName := ⟨RX4, "longer", "(III)I"⟩
def RX5 : String := "MarbleGates$Rolling"
def TX5 : u_T := fun k => match k with
  | 0 => ("MarbleGates$Rolling", "gates", "LMarbleGates$Gates;", true)
  | 1 => ("MarbleGates$Rolling", "sides", "LMarbleGates$Row;", true)
  | 2 => ("MarbleGates$Rolling", "arrivals", "LMarbleGates$Row;", true)
  | _ => ("MarbleGates$Rolling", "lengths", "LMarbleGates$Row;", true)
def tyX5 : Nat → FieldType := fun k => match k with
  | 0 => .object "MarbleGates$Gates"
  | 1 => .object "MarbleGates$Row"
  | 2 => .object "MarbleGates$Row"
  | _ => .object "MarbleGates$Row"
theorem nmX5 : ∀ a, a < 4 → ∀ b, b < 4 → a ≠ b → (TX5 a).2.1 ≠ (TX5 b).2.1 := by decide +kernel
theorem tyX5_ok : ∀ k, k < 4 → parseFieldDescriptor (TX5 k).2.2.1 = some (tyX5 k) := by decide +kernel
abbrev cX5_init : ByteArray := prog_7_method_1_code
def yX5_init : MethodName := ⟨RX5, "<init>", "(LMarbleGates$Gates;)V"⟩
abbrev cX5_begin : ByteArray := prog_7_method_2_code
def yX5_begin : MethodName := ⟨RX5, "begin", "()V"⟩
abbrev cX5_rollOne : ByteArray := prog_7_method_3_code
def yX5_rollOne : MethodName := ⟨RX5, "rollOne", "()I"⟩
abbrev cX5_ballByBall : ByteArray := prog_7_method_4_code
def yX5_ballByBall : MethodName := ⟨RX5, "ballByBall", "(II)I"⟩
abbrev cX5_gateByGate : ByteArray := prog_7_method_5_code
def yX5_gateByGate : MethodName := ⟨RX5, "gateByGate", "(II)I"⟩
abbrev cX5_sideLater : ByteArray := prog_7_method_6_code
def yX5_sideLater : MethodName := ⟨RX5, "sideLater", "(II)I"⟩
abbrev cX5_binAt : ByteArray := prog_7_method_7_code
def yX5_binAt : MethodName := ⟨RX5, "binAt", "(I)I"⟩
abbrev cX5_firstBallInto : ByteArray := prog_7_method_8_code
def yX5_firstBallInto : MethodName := ⟨RX5, "firstBallInto", "(I)I"⟩
abbrev cX5_ballsUntilSame : ByteArray := prog_7_method_9_code
def yX5_ballsUntilSame : MethodName := ⟨RX5, "ballsUntilSame", "()I"⟩
abbrev cX5_wayLength : ByteArray := prog_7_method_10_code
def yX5_wayLength : MethodName := ⟨RX5, "wayLength", "(Z)I"⟩
def RX6 : String := "MarbleGates$Row"
def TX6 : u_T := fun k => match k with
  | _ => ("MarbleGates$Row", "cells", "[I", true)
def tyX6 : Nat → FieldType := fun k => match k with
  | _ => .array .int
theorem nmX6 : ∀ a, a < 1 → ∀ b, b < 1 → a ≠ b → (TX6 a).2.1 ≠ (TX6 b).2.1 := by decide +kernel
theorem tyX6_ok : ∀ k, k < 1 → parseFieldDescriptor (TX6 k).2.2.1 = some (tyX6 k) := by decide +kernel
abbrev cX6_init : ByteArray := prog_8_method_1_code
def yX6_init : MethodName := ⟨RX6, "<init>", "(I)V"⟩
abbrev cX6_at : ByteArray := prog_8_method_2_code
def yX6_at : MethodName := ⟨RX6, "at", "(I)I"⟩
abbrev cX6_put : ByteArray := prog_8_method_3_code
def yX6_put : MethodName := ⟨RX6, "put", "(II)V"⟩
abbrev cX6_raise : ByteArray := prog_8_method_4_code
def yX6_raise : MethodName := ⟨RX6, "raise", "(II)V"⟩
abbrev cX6_exchange : ByteArray := prog_8_method_5_code
def yX6_exchange : MethodName := ⟨RX6, "exchange", "(II)I"⟩
abbrev cX6_wipe : ByteArray := prog_8_method_6_code
def yX6_wipe : MethodName := ⟨RX6, "wipe", "()V"⟩
abbrev cX6_copyFrom : ByteArray := prog_8_method_7_code
def yX6_copyFrom : MethodName := ⟨RX6, "copyFrom", "(LMarbleGates$Row;)V"⟩
abbrev cX6_sameAs : ByteArray := prog_8_method_8_code
def yX6_sameAs : MethodName := ⟨RX6, "sameAs", "(LMarbleGates$Row;)Z"⟩
def RX7 : String := "MarbleGates$Run"
def TX7 : u_T := fun k => match k with
  | 0 => ("MarbleGates$Run", "beat", "I", false)
  | 1 => ("MarbleGates$Run", "stock", "I", false)
  | 2 => ("MarbleGates$Run", "awaited", "I", false)
  | 3 => ("MarbleGates$Run", "dropped", "I", false)
  | 4 => ("MarbleGates$Run", "lifted", "I", false)
  | 5 => ("MarbleGates$Run", "settings", "LMarbleGates$Row;", true)
  | 6 => ("MarbleGates$Run", "held", "LMarbleGates$Row;", true)
  | 7 => ("MarbleGates$Run", "came", "LMarbleGates$Row;", true)
  | 8 => ("MarbleGates$Run", "gates", "LMarbleGates$Gates;", true)
  | 9 => ("MarbleGates$Run", "balls", "LMarbleGates$Balls;", true)
  | _ => ("MarbleGates$Run", "rung", "LMarbleGates$Rung;", true)
def tyX7 : Nat → FieldType := fun k => match k with
  | 0 => .int
  | 1 => .int
  | 2 => .int
  | 3 => .int
  | 4 => .int
  | 5 => .object "MarbleGates$Row"
  | 6 => .object "MarbleGates$Row"
  | 7 => .object "MarbleGates$Row"
  | 8 => .object "MarbleGates$Gates"
  | 9 => .object "MarbleGates$Balls"
  | _ => .object "MarbleGates$Rung"
theorem nmX7 : ∀ a, a < 11 → ∀ b, b < 11 → a ≠ b → (TX7 a).2.1 ≠ (TX7 b).2.1 := by decide +kernel
theorem tyX7_ok : ∀ k, k < 11 → parseFieldDescriptor (TX7 k).2.2.1 = some (tyX7 k) := by decide +kernel
abbrev cX7_init : ByteArray := prog_9_method_1_code
def yX7_init : MethodName := ⟨RX7, "<init>", "()V"⟩
abbrev cX7_copyFrom : ByteArray := prog_9_method_2_code
def yX7_copyFrom : MethodName := ⟨RX7, "copyFrom", "(LMarbleGates$Run;)V"⟩
abbrev cX7_mayAwait : ByteArray := prog_9_method_3_code
def yX7_mayAwait : MethodName := ⟨RX7, "mayAwait", "(I)Z"⟩
abbrev cX7_await : ByteArray := prog_9_method_4_code
def yX7_await : MethodName := ⟨RX7, "await", "(I)I"⟩
abbrev cX7_bringBackAll : ByteArray := prog_9_method_5_code
def yX7_bringBackAll : MethodName := ⟨RX7, "bringBackAll", "(I)I"⟩
abbrev cX7_passBeats : ByteArray := prog_9_method_6_code
def yX7_passBeats : MethodName := ⟨RX7, "passBeats", "(I)I"⟩
abbrev cX7_passGates : ByteArray := prog_9_method_7_code
def yX7_passGates : MethodName := ⟨RX7, "passGates", "()V"⟩
abbrev cX7_dropIfDue : ByteArray := prog_9_method_8_code
def yX7_dropIfDue : MethodName := ⟨RX7, "dropIfDue", "()V"⟩
abbrev cX7_liftIfDue : ByteArray := prog_9_method_9_code
def yX7_liftIfDue : MethodName := ⟨RX7, "liftIfDue", "()V"⟩
def RX8 : String := "MarbleGates$Rung"
def TX8 : u_T := fun k => match k with
  | 0 => ("MarbleGates$Rung", "oldest", "I", false)
  | 1 => ("MarbleGates$Rung", "kept", "I", false)
  | 2 => ("MarbleGates$Rung", "total", "I", false)
  | 3 => ("MarbleGates$Rung", "beats", "LMarbleGates$Row;", true)
  | 4 => ("MarbleGates$Rung", "gates", "LMarbleGates$Row;", true)
  | _ => ("MarbleGates$Rung", "pitches", "LMarbleGates$Row;", true)
def tyX8 : Nat → FieldType := fun k => match k with
  | 0 => .int
  | 1 => .int
  | 2 => .int
  | 3 => .object "MarbleGates$Row"
  | 4 => .object "MarbleGates$Row"
  | _ => .object "MarbleGates$Row"
theorem nmX8 : ∀ a, a < 6 → ∀ b, b < 6 → a ≠ b → (TX8 a).2.1 ≠ (TX8 b).2.1 := by decide +kernel
theorem tyX8_ok : ∀ k, k < 6 → parseFieldDescriptor (TX8 k).2.2.1 = some (tyX8 k) := by decide +kernel
abbrev cX8_init : ByteArray := prog_10_method_1_code
def yX8_init : MethodName := ⟨RX8, "<init>", "()V"⟩
abbrev cX8_copyFrom : ByteArray := prog_10_method_2_code
def yX8_copyFrom : MethodName := ⟨RX8, "copyFrom", "(LMarbleGates$Rung;)V"⟩
abbrev cX8_add : ByteArray := prog_10_method_3_code
def yX8_add : MethodName := ⟨RX8, "add", "(III)V"⟩
abbrev cX8_placeOf : ByteArray := prog_10_method_4_code
def yX8_placeOf : MethodName := ⟨RX8, "placeOf", "(I)I"⟩
abbrev cX8_beatAt : ByteArray := prog_10_method_5_code
def yX8_beatAt : MethodName := ⟨RX8, "beatAt", "(I)I"⟩
abbrev cX8_gateAt : ByteArray := prog_10_method_6_code
def yX8_gateAt : MethodName := ⟨RX8, "gateAt", "(I)I"⟩
abbrev cX8_pitchAt : ByteArray := prog_10_method_7_code
def yX8_pitchAt : MethodName := ⟨RX8, "pitchAt", "(I)I"⟩
def RX9 : String := "MarbleGates$Shelf"
def TX9 : u_T := fun k => match k with
  | 0 => ("MarbleGates$Shelf", "places", "[LMarbleGates$Run;", true)
  | _ => ("MarbleGates$Shelf", "filled", "LMarbleGates$Row;", true)
def tyX9 : Nat → FieldType := fun k => match k with
  | 0 => .array (.object "MarbleGates$Run")
  | _ => .object "MarbleGates$Row"
theorem nmX9 : ∀ a, a < 2 → ∀ b, b < 2 → a ≠ b → (TX9 a).2.1 ≠ (TX9 b).2.1 := by decide +kernel
theorem tyX9_ok : ∀ k, k < 2 → parseFieldDescriptor (TX9 k).2.2.1 = some (tyX9 k) := by decide +kernel
abbrev cX9_init : ByteArray := prog_11_method_1_code
def yX9_init : MethodName := ⟨RX9, "<init>", "(I)V"⟩
abbrev cX9_holds : ByteArray := prog_11_method_2_code
def yX9_holds : MethodName := ⟨RX9, "holds", "(I)Z"⟩
abbrev cX9_store : ByteArray := prog_11_method_3_code
def yX9_store : MethodName := ⟨RX9, "store", "(ILMarbleGates$Run;)V"⟩
abbrev cX9_fetch : ByteArray := prog_11_method_4_code
def yX9_fetch : MethodName := ⟨RX9, "fetch", "(ILMarbleGates$Run;)V"⟩
def RX10 : String := "MarbleGates"
def TX10 : u_T := fun k => match k with
  | 0 => ("MarbleGates", "run", "LMarbleGates$Run;", true)
  | 1 => ("MarbleGates", "rolling", "LMarbleGates$Rolling;", true)
  | 2 => ("MarbleGates", "music", "LMarbleGates$Music;", true)
  | 3 => ("MarbleGates", "text", "LMarbleGates$OrderText;", true)
  | 4 => ("MarbleGates", "history", "LMarbleGates$History;", true)
  | _ => ("MarbleGates", "snapshots", "LMarbleGates$Shelf;", true)
def tyX10 : Nat → FieldType := fun k => match k with
  | 0 => .object "MarbleGates$Run"
  | 1 => .object "MarbleGates$Rolling"
  | 2 => .object "MarbleGates$Music"
  | 3 => .object "MarbleGates$OrderText"
  | 4 => .object "MarbleGates$History"
  | _ => .object "MarbleGates$Shelf"
theorem nmX10 : ∀ a, a < 6 → ∀ b, b < 6 → a ≠ b → (TX10 a).2.1 ≠ (TX10 b).2.1 := by decide +kernel
theorem tyX10_ok : ∀ k, k < 6 → parseFieldDescriptor (TX10 k).2.2.1 = some (tyX10 k) := by decide +kernel
abbrev cX10_init : ByteArray := prog_1_method_1_code
def yX10_init : MethodName := ⟨RX10, "<init>", "()V"⟩
abbrev cX10_gate : ByteArray := prog_1_method_2_code
def yX10_gate : MethodName := ⟨RX10, "gate", "(I)I"⟩
abbrev cX10_lead : ByteArray := prog_1_method_3_code
def yX10_lead : MethodName := ⟨RX10, "lead", "(III)I"⟩
abbrev cX10_tune : ByteArray := prog_1_method_4_code
def yX10_tune : MethodName := ⟨RX10, "tune", "(II)I"⟩
abbrev cX10_flip : ByteArray := prog_1_method_5_code
def yX10_flip : MethodName := ⟨RX10, "flip", "(I)I"⟩
abbrev cX10_set : ByteArray := prog_1_method_6_code
def yX10_set : MethodName := ⟨RX10, "set", "(II)I"⟩
abbrev cX10_drop : ByteArray := prog_1_method_7_code
def yX10_drop : MethodName := ⟨RX10, "drop", "(I)I"⟩
abbrev cX10_play : ByteArray := prog_1_method_8_code
def yX10_play : MethodName := ⟨RX10, "play", "(I)I"⟩
abbrev cX10_empty : ByteArray := prog_1_method_9_code
def yX10_empty : MethodName := ⟨RX10, "empty", "(I)I"⟩
abbrev cX10_append : ByteArray := prog_1_method_10_code
def yX10_append : MethodName := ⟨RX10, "append", "(I)I"⟩
abbrev cX10_clearBuffer : ByteArray := prog_1_method_11_code
def yX10_clearBuffer : MethodName := ⟨RX10, "clearBuffer", "()I"⟩
abbrev cX10_firstError : ByteArray := prog_1_method_12_code
def yX10_firstError : MethodName := ⟨RX10, "firstError", "()I"⟩
abbrev cX10_execute : ByteArray := prog_1_method_13_code
def yX10_execute : MethodName := ⟨RX10, "execute", "()I"⟩
abbrev cX10_obey : ByteArray := prog_1_method_14_code
def yX10_obey : MethodName := ⟨RX10, "obey", "(I)Z"⟩
abbrev cX10_mayObey : ByteArray := prog_1_method_15_code
def yX10_mayObey : MethodName := ⟨RX10, "mayObey", "(II)Z"⟩
abbrev cX10_undo : ByteArray := prog_1_method_16_code
def yX10_undo : MethodName := ⟨RX10, "undo", "()I"⟩
abbrev cX10_keep : ByteArray := prog_1_method_17_code
def yX10_keep : MethodName := ⟨RX10, "keep", "(I)I"⟩
abbrev cX10_goBack : ByteArray := prog_1_method_18_code
def yX10_goBack : MethodName := ⟨RX10, "goBack", "(I)I"⟩
abbrev cX10_gateOf : ByteArray := prog_1_method_19_code
def yX10_gateOf : MethodName := ⟨RX10, "gateOf", "(II)I"⟩
abbrev cX10_ball : ByteArray := prog_1_method_20_code
def yX10_ball : MethodName := ⟨RX10, "ball", "(II)I"⟩
abbrev cX10_bin : ByteArray := prog_1_method_21_code
def yX10_bin : MethodName := ⟨RX10, "bin", "(II)I"⟩
abbrev cX10_count : ByteArray := prog_1_method_22_code
def yX10_count : MethodName := ⟨RX10, "count", "(I)I"⟩
abbrev cX10_note : ByteArray := prog_1_method_23_code
def yX10_note : MethodName := ⟨RX10, "note", "(II)I"⟩
abbrev cX10_chord : ByteArray := prog_1_method_24_code
def yX10_chord : MethodName := ⟨RX10, "chord", "(I)I"⟩
abbrev cX10_notes : ByteArray := prog_1_method_25_code
def yX10_notes : MethodName := ⟨RX10, "notes", "(I)I"⟩
abbrev cX10_meanPitch : ByteArray := prog_1_method_26_code
def yX10_meanPitch : MethodName := ⟨RX10, "meanPitch", "()F"⟩
abbrev cX10_rolled : ByteArray := prog_1_method_27_code
def yX10_rolled : MethodName := ⟨RX10, "rolled", "(III)I"⟩
abbrev cX10_sideAfter : ByteArray := prog_1_method_28_code
def yX10_sideAfter : MethodName := ⟨RX10, "sideAfter", "(II)I"⟩
abbrev cX10_binOf : ByteArray := prog_1_method_29_code
def yX10_binOf : MethodName := ⟨RX10, "binOf", "(I)I"⟩
abbrev cX10_firstInto : ByteArray := prog_1_method_30_code
def yX10_firstInto : MethodName := ⟨RX10, "firstInto", "(I)I"⟩
abbrev cX10_period : ByteArray := prog_1_method_31_code
def yX10_period : MethodName := ⟨RX10, "period", "()I"⟩
abbrev cX10_way : ByteArray := prog_1_method_32_code
def yX10_way : MethodName := ⟨RX10, "way", "(Z)I"⟩
abbrev cX10_isPitch : ByteArray := prog_1_method_33_code
def yX10_isPitch : MethodName := ⟨RX10, "isPitch", "(I)Z"⟩
abbrev cX10_isBin : ByteArray := prog_1_method_34_code
def yX10_isBin : MethodName := ⟨RX10, "isBin", "(I)Z"⟩
abbrev cX10_isSlot : ByteArray := prog_1_method_35_code
def yX10_isSlot : MethodName := ⟨RX10, "isSlot", "(I)Z"⟩
abbrev cX10_isRollCount : ByteArray := prog_1_method_36_code
def yX10_isRollCount : MethodName := ⟨RX10, "isRollCount", "(I)Z"⟩
def RX11 : String := "MarbleGatesModel"
def TX11 : u_T := fun k => match k with
  | 0 => ("MarbleGatesModel", "s", "[I", true)
  | 1 => ("MarbleGatesModel", "saved", "[I", true)
  | 2 => ("MarbleGatesModel", "savedMany", "I", false)
  | 3 => ("MarbleGatesModel", "slots", "[I", true)
  | 4 => ("MarbleGatesModel", "isTaken", "[Z", true)
  | 5 => ("MarbleGatesModel", "text", "[I", true)
  | 6 => ("MarbleGatesModel", "length", "I", false)
  | 7 => ("MarbleGatesModel", "thrown", "I", false)
  | 8 => ("MarbleGatesModel", "coming", "[I", true)
  | 9 => ("MarbleGatesModel", "place", "I", false)
  | 10 => ("MarbleGatesModel", "letter", "I", false)
  | 11 => ("MarbleGatesModel", "told", "[I", true)
  | _ => ("MarbleGatesModel", "done", "I", false)
def tyX11 : Nat → FieldType := fun k => match k with
  | 0 => .array .int
  | 1 => .array .int
  | 2 => .int
  | 3 => .array .int
  | 4 => .array .boolean
  | 5 => .array .int
  | 6 => .int
  | 7 => .int
  | 8 => .array .int
  | 9 => .int
  | 10 => .int
  | 11 => .array .int
  | _ => .int
theorem nmX11 : ∀ a, a < 13 → ∀ b, b < 13 → a ≠ b → (TX11 a).2.1 ≠ (TX11 b).2.1 := by decide +kernel
theorem tyX11_ok : ∀ k, k < 13 → parseFieldDescriptor (TX11 k).2.2.1 = some (tyX11 k) := by decide +kernel
abbrev cX11_init : ByteArray := prog_13_method_1_code
def yX11_init : MethodName := ⟨RX11, "<init>", "()V"⟩
abbrev cX11_thrown : ByteArray := prog_13_method_2_code
def yX11_thrown : MethodName := ⟨RX11, "thrown", "()I"⟩
abbrev cX11_holds : ByteArray := prog_13_method_3_code
def yX11_holds : MethodName := ⟨RX11, "holds", "(I)Z"⟩
abbrev cX11_in : ByteArray := prog_13_method_4_code
def yX11_in : MethodName := ⟨RX11, "in", "(III)Z"⟩
abbrev cX11_isGate : ByteArray := prog_13_method_5_code
def yX11_isGate : MethodName := ⟨RX11, "isGate", "(I)Z"⟩
abbrev cX11_isBin : ByteArray := prog_13_method_6_code
def yX11_isBin : MethodName := ⟨RX11, "isBin", "(I)Z"⟩
abbrev cX11_isTarget : ByteArray := prog_13_method_7_code
def yX11_isTarget : MethodName := ⟨RX11, "isTarget", "(I)Z"⟩
abbrev cX11_isPitch : ByteArray := prog_13_method_8_code
def yX11_isPitch : MethodName := ⟨RX11, "isPitch", "(I)Z"⟩
abbrev cX11_isSlot : ByteArray := prog_13_method_9_code
def yX11_isSlot : MethodName := ⟨RX11, "isSlot", "(I)Z"⟩
abbrev cX11_of : ByteArray := prog_13_method_10_code
def yX11_of : MethodName := ⟨RX11, "of", "(II)I"⟩
abbrev cX11_put : ByteArray := prog_13_method_11_code
def yX11_put : MethodName := ⟨RX11, "put", "(III)V"⟩
abbrev cX11_ofBall : ByteArray := prog_13_method_12_code
def yX11_ofBall : MethodName := ⟨RX11, "ofBall", "(II)I"⟩
abbrev cX11_ofNote : ByteArray := prog_13_method_13_code
def yX11_ofNote : MethodName := ⟨RX11, "ofNote", "(II)I"⟩
abbrev cX11_copy : ByteArray := prog_13_method_14_code
def yX11_copy : MethodName := ⟨RX11, "copy", "([II[II)V"⟩
abbrev cX11_save : ByteArray := prog_13_method_15_code
def yX11_save : MethodName := ⟨RX11, "save", "()V"⟩
abbrev cX11_ring : ByteArray := prog_13_method_16_code
def yX11_ring : MethodName := ⟨RX11, "ring", "(I)V"⟩
abbrev cX11_passGate : ByteArray := prog_13_method_17_code
def yX11_passGate : MethodName := ⟨RX11, "passGate", "(I)I"⟩
abbrev cX11_takeOut : ByteArray := prog_13_method_18_code
def yX11_takeOut : MethodName := ⟨RX11, "takeOut", "(I)V"⟩
abbrev cX11_dropOne : ByteArray := prog_13_method_19_code
def yX11_dropOne : MethodName := ⟨RX11, "dropOne", "()V"⟩
abbrev cX11_lift : ByteArray := prog_13_method_20_code
def yX11_lift : MethodName := ⟨RX11, "lift", "()V"⟩
abbrev cX11_beat : ByteArray := prog_13_method_21_code
def yX11_beat : MethodName := ⟨RX11, "beat", "()V"⟩
abbrev cX11_gateError : ByteArray := prog_13_method_22_code
def yX11_gateError : MethodName := ⟨RX11, "gateError", "(I)I"⟩
abbrev cX11_doGate : ByteArray := prog_13_method_23_code
def yX11_doGate : MethodName := ⟨RX11, "doGate", "(I)I"⟩
abbrev cX11_leadError : ByteArray := prog_13_method_24_code
def yX11_leadError : MethodName := ⟨RX11, "leadError", "(III)I"⟩
abbrev cX11_doLead : ByteArray := prog_13_method_25_code
def yX11_doLead : MethodName := ⟨RX11, "doLead", "(III)I"⟩
abbrev cX11_doFlip : ByteArray := prog_13_method_26_code
def yX11_doFlip : MethodName := ⟨RX11, "doFlip", "(I)I"⟩
abbrev cX11_dropError : ByteArray := prog_13_method_27_code
def yX11_dropError : MethodName := ⟨RX11, "dropError", "(I)I"⟩
abbrev cX11_doDrop : ByteArray := prog_13_method_28_code
def yX11_doDrop : MethodName := ⟨RX11, "doDrop", "(I)I"⟩
abbrev cX11_doPlay : ByteArray := prog_13_method_29_code
def yX11_doPlay : MethodName := ⟨RX11, "doPlay", "(I)I"⟩
abbrev cX11_gate : ByteArray := prog_13_method_30_code
def yX11_gate : MethodName := ⟨RX11, "gate", "(I)I"⟩
abbrev cX11_lead : ByteArray := prog_13_method_31_code
def yX11_lead : MethodName := ⟨RX11, "lead", "(III)I"⟩
abbrev cX11_tune : ByteArray := prog_13_method_32_code
def yX11_tune : MethodName := ⟨RX11, "tune", "(II)I"⟩
abbrev cX11_flip : ByteArray := prog_13_method_33_code
def yX11_flip : MethodName := ⟨RX11, "flip", "(I)I"⟩
abbrev cX11_set : ByteArray := prog_13_method_34_code
def yX11_set : MethodName := ⟨RX11, "set", "(II)I"⟩
abbrev cX11_drop : ByteArray := prog_13_method_35_code
def yX11_drop : MethodName := ⟨RX11, "drop", "(I)I"⟩
abbrev cX11_play : ByteArray := prog_13_method_36_code
def yX11_play : MethodName := ⟨RX11, "play", "(I)I"⟩
abbrev cX11_empty : ByteArray := prog_13_method_37_code
def yX11_empty : MethodName := ⟨RX11, "empty", "(I)I"⟩
abbrev cX11_append : ByteArray := prog_13_method_38_code
def yX11_append : MethodName := ⟨RX11, "append", "(I)I"⟩
abbrev cX11_clearBuffer : ByteArray := prog_13_method_39_code
def yX11_clearBuffer : MethodName := ⟨RX11, "clearBuffer", "()I"⟩
abbrev cX11_isNext : ByteArray := prog_13_method_40_code
def yX11_isNext : MethodName := ⟨RX11, "isNext", "(II)Z"⟩
abbrev cX11_takes : ByteArray := prog_13_method_41_code
def yX11_takes : MethodName := ⟨RX11, "takes", "(I)Z"⟩
abbrev cX11_readNumber : ByteArray := prog_13_method_42_code
def yX11_readNumber : MethodName := ⟨RX11, "readNumber", "(III)Z"⟩
abbrev cX11_readLead : ByteArray := prog_13_method_43_code
def yX11_readLead : MethodName := ⟨RX11, "readLead", "()Z"⟩
abbrev cX11_readOrder : ByteArray := prog_13_method_44_code
def yX11_readOrder : MethodName := ⟨RX11, "readOrder", "()Z"⟩
abbrev cX11_canDo : ByteArray := prog_13_method_45_code
def yX11_canDo : MethodName := ⟨RX11, "canDo", "()Z"⟩
abbrev cX11_does : ByteArray := prog_13_method_46_code
def yX11_does : MethodName := ⟨RX11, "does", "()I"⟩
abbrev cX11_readText : ByteArray := prog_13_method_47_code
def yX11_readText : MethodName := ⟨RX11, "readText", "(Z)Z"⟩
abbrev cX11_firstError : ByteArray := prog_13_method_48_code
def yX11_firstError : MethodName := ⟨RX11, "firstError", "()I"⟩
abbrev cX11_execute : ByteArray := prog_13_method_49_code
def yX11_execute : MethodName := ⟨RX11, "execute", "()I"⟩
abbrev cX11_undo : ByteArray := prog_13_method_50_code
def yX11_undo : MethodName := ⟨RX11, "undo", "()I"⟩
abbrev cX11_keep : ByteArray := prog_13_method_51_code
def yX11_keep : MethodName := ⟨RX11, "keep", "(I)I"⟩
abbrev cX11_goBack : ByteArray := prog_13_method_52_code
def yX11_goBack : MethodName := ⟨RX11, "goBack", "(I)I"⟩
abbrev cX11_ballsAt : ByteArray := prog_13_method_53_code
def yX11_ballsAt : MethodName := ⟨RX11, "ballsAt", "(I)I"⟩
abbrev cX11_gateOf : ByteArray := prog_13_method_54_code
def yX11_gateOf : MethodName := ⟨RX11, "gateOf", "(II)I"⟩
abbrev cX11_wayFrom : ByteArray := prog_13_method_55_code
def yX11_wayFrom : MethodName := ⟨RX11, "wayFrom", "(IZ)I"⟩
abbrev cX11_ball : ByteArray := prog_13_method_56_code
def yX11_ball : MethodName := ⟨RX11, "ball", "(II)I"⟩
abbrev cX11_exitsTo : ByteArray := prog_13_method_57_code
def yX11_exitsTo : MethodName := ⟨RX11, "exitsTo", "(I)I"⟩
abbrev cX11_bin : ByteArray := prog_13_method_58_code
def yX11_bin : MethodName := ⟨RX11, "bin", "(II)I"⟩
abbrev cX11_count : ByteArray := prog_13_method_59_code
def yX11_count : MethodName := ⟨RX11, "count", "(I)I"⟩
abbrev cX11_note : ByteArray := prog_13_method_60_code
def yX11_note : MethodName := ⟨RX11, "note", "(II)I"⟩
abbrev cX11_chordOf : ByteArray := prog_13_method_61_code
def yX11_chordOf : MethodName := ⟨RX11, "chordOf", "(I)I"⟩
abbrev cX11_chord : ByteArray := prog_13_method_62_code
def yX11_chord : MethodName := ⟨RX11, "chord", "(I)I"⟩
abbrev cX11_notesOf : ByteArray := prog_13_method_63_code
def yX11_notesOf : MethodName := ⟨RX11, "notesOf", "(I)I"⟩
abbrev cX11_pitches : ByteArray := prog_13_method_64_code
def yX11_pitches : MethodName := ⟨RX11, "pitches", "()I"⟩
abbrev cX11_commonest : ByteArray := prog_13_method_65_code
def yX11_commonest : MethodName := ⟨RX11, "commonest", "()I"⟩
abbrev cX11_isNewChord : ByteArray := prog_13_method_66_code
def yX11_isNewChord : MethodName := ⟨RX11, "isNewChord", "(I)Z"⟩
abbrev cX11_chords : ByteArray := prog_13_method_67_code
def yX11_chords : MethodName := ⟨RX11, "chords", "()I"⟩
abbrev cX11_widestChord : ByteArray := prog_13_method_68_code
def yX11_widestChord : MethodName := ⟨RX11, "widestChord", "()I"⟩
abbrev cX11_steps : ByteArray := prog_13_method_69_code
def yX11_steps : MethodName := ⟨RX11, "steps", "(Z)I"⟩
abbrev cX11_notes : ByteArray := prog_13_method_70_code
def yX11_notes : MethodName := ⟨RX11, "notes", "(I)I"⟩
abbrev cX11_meanPitch : ByteArray := prog_13_method_71_code
def yX11_meanPitch : MethodName := ⟨RX11, "meanPitch", "()F"⟩
abbrev cX11_rollOut : ByteArray := prog_13_method_72_code
def yX11_rollOut : MethodName := ⟨RX11, "rollOut", "(I)V"⟩
abbrev cX11_isCount : ByteArray := prog_13_method_73_code
def yX11_isCount : MethodName := ⟨RX11, "isCount", "(I)Z"⟩
abbrev cX11_rolled : ByteArray := prog_13_method_74_code
def yX11_rolled : MethodName := ⟨RX11, "rolled", "(III)I"⟩
abbrev cX11_sideAfter : ByteArray := prog_13_method_75_code
def yX11_sideAfter : MethodName := ⟨RX11, "sideAfter", "(II)I"⟩
abbrev cX11_binOf : ByteArray := prog_13_method_76_code
def yX11_binOf : MethodName := ⟨RX11, "binOf", "(I)I"⟩
abbrev cX11_firstInto : ByteArray := prog_13_method_77_code
def yX11_firstInto : MethodName := ⟨RX11, "firstInto", "(I)I"⟩
abbrev cX11_areAsNow : ByteArray := prog_13_method_78_code
def yX11_areAsNow : MethodName := ⟨RX11, "areAsNow", "(I)Z"⟩
abbrev cX11_period : ByteArray := prog_13_method_79_code
def yX11_period : MethodName := ⟨RX11, "period", "()I"⟩
abbrev cX11_way : ByteArray := prog_13_method_80_code
def yX11_way : MethodName := ⟨RX11, "way", "(Z)I"⟩
def RJ6 : String := "java/lang/Integer"
abbrev cJ6_bitCount_0f7a4 : ByteArray := prog_18_method_49_code
def yJ6_bitCount_0f7a4 : MethodName := ⟨RJ6, "bitCount", "(I)I"⟩
def RJ9 : String := "java/lang/Math"
abbrev cJ9_max_7cf53 : ByteArray := prog_19_method_65_code
def yJ9_max_7cf53 : MethodName := ⟨RJ9, "max", "(II)I"⟩
abbrev cJ9_min_7cf53 : ByteArray := prog_19_method_69_code
def yJ9_min_7cf53 : MethodName := ⟨RJ9, "min", "(II)I"⟩
def RJ0 : String := "java/lang/String"
def RJ10 : String := "java/lang/System"
def RL : String := "MarbleGatesLaw"
abbrev cL_gate : ByteArray := method_3_code
def yL_gate : MethodName := ⟨RL, "gate", "(LMarbleGates;I[J)I"⟩
abbrev cL_lead : ByteArray := method_4_code
def yL_lead : MethodName := ⟨RL, "lead", "(LMarbleGates;III[J)I"⟩
abbrev cL_tune : ByteArray := method_5_code
def yL_tune : MethodName := ⟨RL, "tune", "(LMarbleGates;II[J)I"⟩
abbrev cL_flip : ByteArray := method_6_code
def yL_flip : MethodName := ⟨RL, "flip", "(LMarbleGates;I[J)I"⟩
abbrev cL_set : ByteArray := method_7_code
def yL_set : MethodName := ⟨RL, "set", "(LMarbleGates;II[J)I"⟩
abbrev cL_drop : ByteArray := method_8_code
def yL_drop : MethodName := ⟨RL, "drop", "(LMarbleGates;I[J)I"⟩
abbrev cL_play : ByteArray := method_9_code
def yL_play : MethodName := ⟨RL, "play", "(LMarbleGates;I[J)I"⟩
abbrev cL_empty : ByteArray := method_10_code
def yL_empty : MethodName := ⟨RL, "empty", "(LMarbleGates;I[J)I"⟩
abbrev cL_append : ByteArray := method_11_code
def yL_append : MethodName := ⟨RL, "append", "(LMarbleGates;I[J)I"⟩
abbrev cL_execute : ByteArray := method_12_code
def yL_execute : MethodName := ⟨RL, "execute", "(LMarbleGates;[J)I"⟩
abbrev cL_undo : ByteArray := method_13_code
def yL_undo : MethodName := ⟨RL, "undo", "(LMarbleGates;[J)I"⟩
abbrev cL_keep : ByteArray := method_14_code
def yL_keep : MethodName := ⟨RL, "keep", "(LMarbleGates;I[J)I"⟩
abbrev cL_goBack : ByteArray := method_15_code
def yL_goBack : MethodName := ⟨RL, "goBack", "(LMarbleGates;I[J)I"⟩
abbrev cL_gateOf : ByteArray := method_16_code
def yL_gateOf : MethodName := ⟨RL, "gateOf", "(LMarbleGates;II[J)I"⟩
abbrev cL_ball : ByteArray := method_17_code
def yL_ball : MethodName := ⟨RL, "ball", "(LMarbleGates;II[J)I"⟩
abbrev cL_bin : ByteArray := method_18_code
def yL_bin : MethodName := ⟨RL, "bin", "(LMarbleGates;II[J)I"⟩
abbrev cL_count : ByteArray := method_19_code
def yL_count : MethodName := ⟨RL, "count", "(LMarbleGates;I[J)I"⟩
abbrev cL_note : ByteArray := method_20_code
def yL_note : MethodName := ⟨RL, "note", "(LMarbleGates;II[J)I"⟩
abbrev cL_chord : ByteArray := method_21_code
def yL_chord : MethodName := ⟨RL, "chord", "(LMarbleGates;I[J)I"⟩
abbrev cL_notes : ByteArray := method_22_code
def yL_notes : MethodName := ⟨RL, "notes", "(LMarbleGates;I[J)I"⟩
abbrev cL_rolled : ByteArray := method_23_code
def yL_rolled : MethodName := ⟨RL, "rolled", "(LMarbleGates;III[J)I"⟩
abbrev cL_sideAfter : ByteArray := method_24_code
def yL_sideAfter : MethodName := ⟨RL, "sideAfter", "(LMarbleGates;II[J)I"⟩
abbrev cL_binOf : ByteArray := method_25_code
def yL_binOf : MethodName := ⟨RL, "binOf", "(LMarbleGates;I[J)I"⟩
abbrev cL_firstInto : ByteArray := method_26_code
def yL_firstInto : MethodName := ⟨RL, "firstInto", "(LMarbleGates;I[J)I"⟩
abbrev cL_law : ByteArray := code
def yL_law : MethodName := ⟨RL, "law", "([I)Z"⟩
abbrev vwCl : List vw_C := [(RX0, TX0, 4), (RX1, TX1, 6), (RX2, TX2, 3), (RX3, TX3, 4), (RX4, TX4, 8), (RX5, TX5, 4), (RX6, TX6, 1), (RX7, TX7, 11), (RX8, TX8, 6), (RX9, TX9, 2), (RX10, TX10, 6), (RX11, TX11, 13)]
end
section
def am_ct_0 : List (Nat × Instr × Nat × Nat × Nat × Nat) := [(0, .aload_n 0, 1, 1, 0, 0), (1, .invokespecial 1, 3, 6, 1, 0), (4, .aload_n 0, 1, 1, 0, 0), (5, .iload_n 1, 1, 1, 0, 0), (6, .iconst 0, 1, 0, 0, 0), (7, .invokestatic 7, 3, 6, 2, 0), (10, .newarray .int, 2, 5, 0, 0), (12, .putfield 13, 3, 4, 6, 0), (15, .return_, 1, 8, 0, 0)]
def am_ct_1 : List (Nat × Instr × Nat × Nat × Nat × Nat) := [(0, .aload_n 0, 1, 1, 0, 0), (1, .invokespecial 3, 3, 6, 1, 0), (4, .aload_n 0, 1, 1, 0, 0), (5, .new 9, 3, 5, 6, 1), (8, .dup, 1, 0, 0, 0), (9, .bipush 12, 2, 0, 0, 0), (11, .invokespecial 11, 3, 7, 0, 0), (14, .putfield 14, 3, 4, 1, 1), (17, .aload_n 0, 1, 1, 0, 0), (18, .new 9, 3, 5, 6, 1), (21, .dup, 1, 0, 0, 0), (22, .bipush 12, 2, 0, 0, 0), (24, .invokespecial 11, 3, 7, 0, 0), (27, .putfield 20, 3, 4, 1, 2), (30, .aload_n 0, 1, 1, 0, 0), (31, .new 9, 3, 5, 6, 1), (34, .dup, 1, 0, 0, 0), (35, .bipush 12, 2, 0, 0, 0), (37, .invokespecial 11, 3, 7, 0, 0), (40, .putfield 23, 3, 4, 1, 3), (43, .aload_n 0, 1, 1, 0, 0), (44, .new 9, 3, 5, 6, 1), (47, .dup, 1, 0, 0, 0), (48, .bipush 24, 2, 0, 0, 0), (50, .invokespecial 11, 3, 7, 0, 0), (53, .putfield 26, 3, 4, 1, 4), (56, .aload_n 0, 1, 1, 0, 0), (57, .new 9, 3, 5, 6, 1), (60, .dup, 1, 0, 0, 0), (61, .bipush 24, 2, 0, 0, 0), (63, .invokespecial 11, 3, 7, 0, 0), (66, .putfield 29, 3, 4, 1, 5), (69, .return_, 1, 8, 0, 0)]
def am_ct_2 : List (Nat × Instr × Nat × Nat × Nat × Nat) := [(0, .aload_n 0, 1, 1, 0, 0), (1, .invokespecial 3, 3, 6, 1, 0), (4, .aload_n 0, 1, 1, 0, 0), (5, .new 9, 3, 5, 6, 1), (8, .dup, 1, 0, 0, 0), (9, .bipush 40, 2, 0, 0, 0), (11, .invokespecial 11, 3, 7, 0, 0), (14, .putfield 14, 3, 4, 0, 1), (17, .aload_n 0, 1, 1, 0, 0), (18, .new 9, 3, 5, 6, 1), (21, .dup, 1, 0, 0, 0), (22, .bipush 40, 2, 0, 0, 0), (24, .invokespecial 11, 3, 7, 0, 0), (27, .putfield 20, 3, 4, 0, 2), (30, .aload_n 0, 1, 1, 0, 0), (31, .new 9, 3, 5, 6, 1), (34, .dup, 1, 0, 0, 0), (35, .bipush 40, 2, 0, 0, 0), (37, .invokespecial 11, 3, 7, 0, 0), (40, .putfield 23, 3, 4, 0, 3), (43, .return_, 1, 8, 0, 0)]
def am_ct_3 : List (Nat × Instr × Nat × Nat × Nat × Nat) := [(0, .aload_n 0, 1, 1, 0, 0), (1, .invokespecial 3, 3, 6, 1, 0), (4, .aload_n 0, 1, 1, 0, 0), (5, .new 9, 3, 5, 6, 1), (8, .dup, 1, 0, 0, 0), (9, .bipush 60, 2, 0, 0, 0), (11, .invokespecial 11, 3, 7, 0, 0), (14, .putfield 14, 3, 4, 8, 3), (17, .aload_n 0, 1, 1, 0, 0), (18, .new 9, 3, 5, 6, 1), (21, .dup, 1, 0, 0, 0), (22, .bipush 60, 2, 0, 0, 0), (24, .invokespecial 11, 3, 7, 0, 0), (27, .putfield 20, 3, 4, 8, 4), (30, .aload_n 0, 1, 1, 0, 0), (31, .new 9, 3, 5, 6, 1), (34, .dup, 1, 0, 0, 0), (35, .bipush 60, 2, 0, 0, 0), (37, .invokespecial 11, 3, 7, 0, 0), (40, .putfield 23, 3, 4, 8, 5), (43, .return_, 1, 8, 0, 0)]
def am_ct_4 : List (Nat × Instr × Nat × Nat × Nat × Nat) := [(0, .iload_n 1, 1, 1, 0, 0), (1, .ifCond .lt 19, 3, 2, 20, 0), (4, .iload_n 1, 1, 1, 0, 0), (5, .aload_n 0, 1, 1, 0, 0), (6, .getfield 13, 3, 3, 6, 0), (9, .arraylength, 1, 3, 0, 0), (10, .if_icmp .ge 10, 3, 2, 20, 0), (13, .aload_n 0, 1, 1, 0, 0), (14, .getfield 13, 3, 3, 6, 0), (17, .iload_n 1, 1, 1, 0, 0), (18, .iload_n 2, 1, 1, 0, 0), (19, .iastore, 1, 4, 0, 0), (20, .return_, 1, 8, 0, 0)]
def am_ct_5 : List (Nat × Instr × Nat × Nat × Nat × Nat) := [(0, .aload_n 0, 1, 1, 0, 0), (1, .invokespecial 3, 3, 6, 1, 0), (4, .aload_n 0, 1, 1, 0, 0), (5, .bipush 40, 2, 0, 0, 0), (7, .putfield 9, 3, 4, 7, 1), (10, .aload_n 0, 1, 1, 0, 0), (11, .new 15, 3, 5, 6, 1), (14, .dup, 1, 0, 0, 0), (15, .iconst 2, 1, 0, 0, 0), (16, .invokespecial 17, 3, 7, 0, 0), (19, .putfield 20, 3, 4, 7, 5), (22, .aload_n 0, 1, 1, 0, 0), (23, .new 15, 3, 5, 6, 1), (26, .dup, 1, 0, 0, 0), (27, .iconst 5, 1, 0, 0, 0), (28, .invokespecial 17, 3, 7, 0, 0), (31, .putfield 24, 3, 4, 7, 6), (34, .aload_n 0, 1, 1, 0, 0), (35, .new 15, 3, 5, 6, 1), (38, .dup, 1, 0, 0, 0), (39, .iconst 5, 1, 0, 0, 0), (40, .invokespecial 17, 3, 7, 0, 0), (43, .putfield 27, 3, 4, 7, 7), (46, .aload_n 0, 1, 1, 0, 0), (47, .new 30, 3, 5, 1, 6), (50, .dup, 1, 0, 0, 0), (51, .invokespecial 32, 3, 7, 1, 1), (54, .putfield 33, 3, 4, 7, 8), (57, .aload_n 0, 1, 1, 0, 0), (58, .new 37, 3, 5, 0, 4), (61, .dup, 1, 0, 0, 0), (62, .invokespecial 39, 3, 7, 2, 1), (65, .putfield 40, 3, 4, 7, 9), (68, .aload_n 0, 1, 1, 0, 0), (69, .new 44, 3, 5, 8, 6), (72, .dup, 1, 0, 0, 0), (73, .invokespecial 46, 3, 7, 3, 1), (76, .putfield 47, 3, 4, 7, 10), (79, .aload_n 0, 1, 1, 0, 0), (80, .getfield 20, 3, 3, 7, 5), (83, .iconst 0, 1, 0, 0, 0), (84, .iconst 1, 1, 0, 0, 0), (85, .invokevirtual 51, 3, 7, 4, 0), (88, .aload_n 0, 1, 1, 0, 0), (89, .getfield 20, 3, 3, 7, 5), (92, .iconst 1, 1, 0, 0, 0), (93, .bipush 40, 2, 0, 0, 0), (95, .invokevirtual 51, 3, 7, 4, 0), (98, .return_, 1, 8, 0, 0)]
def am_ct_6 : List (Nat × Instr × Nat × Nat × Nat × Nat) := [(0, .aload_n 0, 1, 1, 0, 0), (1, .invokespecial 3, 3, 6, 1, 0), (4, .aload_n 0, 1, 1, 0, 0), (5, .new 9, 3, 5, 6, 1), (8, .dup, 1, 0, 0, 0), (9, .bipush 12, 2, 0, 0, 0), (11, .invokespecial 11, 3, 7, 0, 0), (14, .putfield 14, 3, 4, 5, 1), (17, .aload_n 0, 1, 1, 0, 0), (18, .new 9, 3, 5, 6, 1), (21, .dup, 1, 0, 0, 0), (22, .bipush 25, 2, 0, 0, 0), (24, .invokespecial 11, 3, 7, 0, 0), (27, .putfield 20, 3, 4, 5, 2), (30, .aload_n 0, 1, 1, 0, 0), (31, .new 9, 3, 5, 6, 1), (34, .dup, 1, 0, 0, 0), (35, .bipush 25, 2, 0, 0, 0), (37, .invokespecial 11, 3, 7, 0, 0), (40, .putfield 23, 3, 4, 5, 3), (43, .aload_n 0, 1, 1, 0, 0), (44, .aload_n 1, 1, 1, 0, 0), (45, .putfield 26, 3, 4, 5, 0), (48, .return_, 1, 8, 0, 0)]
def am_ct_7 : List (Nat × Instr × Nat × Nat × Nat × Nat) := [(0, .aload_n 0, 1, 1, 0, 0), (1, .invokespecial 3, 3, 6, 1, 0), (4, .aload_n 0, 1, 1, 0, 0), (5, .new 9, 3, 5, 6, 1), (8, .dup, 1, 0, 0, 0), (9, .bipush 31, 2, 0, 0, 0), (11, .invokespecial 11, 3, 7, 0, 0), (14, .putfield 14, 3, 4, 3, 1), (17, .aload_n 0, 1, 1, 0, 0), (18, .new 9, 3, 5, 6, 1), (21, .dup, 1, 0, 0, 0), (22, .bipush 60, 2, 0, 0, 0), (24, .invokespecial 11, 3, 7, 0, 0), (27, .putfield 20, 3, 4, 3, 2), (30, .aload_n 0, 1, 1, 0, 0), (31, .aload_n 1, 1, 1, 0, 0), (32, .putfield 23, 3, 4, 3, 0), (35, .return_, 1, 8, 0, 0)]
def am_ct_8 : List (Nat × Instr × Nat × Nat × Nat × Nat) := [(0, .aload_n 0, 1, 1, 0, 0), (1, .invokespecial 3, 3, 6, 1, 0), (4, .aload_n 0, 1, 1, 0, 0), (5, .new 9, 3, 5, 6, 1), (8, .dup, 1, 0, 0, 0), (9, .bipush 60, 2, 0, 0, 0), (11, .invokespecial 11, 3, 7, 0, 0), (14, .putfield 14, 3, 4, 4, 1), (17, .aload_n 0, 1, 1, 0, 0), (18, .new 9, 3, 5, 6, 1), (21, .dup, 1, 0, 0, 0), (22, .bipush 20, 2, 0, 0, 0), (24, .invokespecial 11, 3, 7, 0, 0), (27, .putfield 20, 3, 4, 4, 4), (30, .aload_n 0, 1, 1, 0, 0), (31, .new 9, 3, 5, 6, 1), (34, .dup, 1, 0, 0, 0), (35, .bipush 20, 2, 0, 0, 0), (37, .invokespecial 11, 3, 7, 0, 0), (40, .putfield 23, 3, 4, 4, 5), (43, .aload_n 0, 1, 1, 0, 0), (44, .new 9, 3, 5, 6, 1), (47, .dup, 1, 0, 0, 0), (48, .bipush 20, 2, 0, 0, 0), (50, .invokespecial 11, 3, 7, 0, 0), (53, .putfield 26, 3, 4, 4, 6), (56, .aload_n 0, 1, 1, 0, 0), (57, .new 9, 3, 5, 6, 1), (60, .dup, 1, 0, 0, 0), (61, .bipush 20, 2, 0, 0, 0), (63, .invokespecial 11, 3, 7, 0, 0), (66, .putfield 29, 3, 4, 4, 7), (69, .return_, 1, 8, 0, 0)]
def am_ct_9 : List (Nat × Instr × Nat × Nat × Nat × Nat) := [(0, .aload_n 0, 1, 1, 0, 0), (1, .invokespecial 1, 3, 6, 1, 0), (4, .aload_n 0, 1, 1, 0, 0), (5, .iload_n 1, 1, 1, 0, 0), (6, .iconst 0, 1, 0, 0, 0), (7, .invokestatic 7, 3, 6, 2, 0), (10, .anewarray 13, 3, 5, 0, 0), (13, .putfield 15, 3, 4, 9, 0), (16, .iconst 0, 1, 0, 0, 0), (17, .istore_n 2, 1, 1, 0, 0), (18, .iload_n 2, 1, 1, 0, 0), (19, .aload_n 0, 1, 1, 0, 0), (20, .getfield 15, 3, 3, 9, 0), (23, .arraylength, 1, 3, 0, 0), (24, .if_icmp .ge 22, 3, 2, 46, 0), (27, .aload_n 0, 1, 1, 0, 0), (28, .getfield 15, 3, 3, 9, 0), (31, .iload_n 2, 1, 1, 0, 0), (32, .new 13, 3, 5, 7, 11), (35, .dup, 1, 0, 0, 0), (36, .invokespecial 21, 3, 7, 5, 0), (39, .aastore, 1, 4, 0, 0), (40, .iinc 2 1, 3, 1, 0, 0), (43, .goto (-25), 3, 2, 18, 0), (46, .aload_n 0, 1, 1, 0, 0), (47, .new 22, 3, 5, 6, 1), (50, .dup, 1, 0, 0, 0), (51, .iload_n 1, 1, 1, 0, 0), (52, .invokespecial 24, 3, 7, 0, 0), (55, .putfield 27, 3, 4, 9, 1), (58, .return_, 1, 8, 0, 0)]
def am_ct_10 : List (Nat × Instr × Nat × Nat × Nat × Nat) := [(0, .aload_n 0, 1, 1, 0, 0), (1, .invokespecial 3, 3, 6, 1, 0), (4, .aload_n 0, 1, 1, 0, 0), (5, .new 9, 3, 5, 9, 2), (8, .dup, 1, 0, 0, 0), (9, .bipush 6, 2, 0, 0, 0), (11, .invokespecial 11, 3, 7, 9, 0), (14, .putfield 14, 3, 4, 2, 0), (17, .return_, 1, 8, 0, 0)]
def am_ct_11 : List (Nat × Instr × Nat × Nat × Nat × Nat) := [(0, .aload_n 0, 1, 1, 0, 0), (1, .invokespecial 3, 3, 6, 1, 0), (4, .aload_n 0, 1, 1, 0, 0), (5, .new 9, 3, 5, 7, 11), (8, .dup, 1, 0, 0, 0), (9, .invokespecial 11, 3, 7, 5, 0), (12, .putfield 12, 3, 4, 10, 0), (15, .aload_n 0, 1, 1, 0, 0), (16, .new 16, 3, 5, 5, 4), (19, .dup, 1, 0, 0, 0), (20, .aload_n 0, 1, 1, 0, 0), (21, .getfield 12, 3, 3, 10, 0), (24, .getfield 18, 3, 3, 107, 8), (27, .invokespecial 22, 3, 7, 6, 0), (30, .putfield 25, 3, 4, 10, 1), (33, .aload_n 0, 1, 1, 0, 0), (34, .new 29, 3, 5, 3, 4), (37, .dup, 1, 0, 0, 0), (38, .aload_n 0, 1, 1, 0, 0), (39, .getfield 12, 3, 3, 10, 0), (42, .getfield 31, 3, 3, 107, 10), (45, .invokespecial 35, 3, 7, 7, 0), (48, .putfield 38, 3, 4, 10, 2), (51, .aload_n 0, 1, 1, 0, 0), (52, .new 42, 3, 5, 4, 8), (55, .dup, 1, 0, 0, 0), (56, .invokespecial 44, 3, 7, 8, 1), (59, .putfield 45, 3, 4, 10, 3), (62, .aload_n 0, 1, 1, 0, 0), (63, .new 49, 3, 5, 2, 3), (66, .dup, 1, 0, 0, 0), (67, .invokespecial 51, 3, 7, 10, 1), (70, .putfield 52, 3, 4, 10, 4), (73, .aload_n 0, 1, 1, 0, 0), (74, .new 56, 3, 5, 9, 2), (77, .dup, 1, 0, 0, 0), (78, .iconst 2, 1, 0, 0, 0), (79, .invokespecial 58, 3, 7, 9, 0), (82, .putfield 61, 3, 4, 10, 5), (85, .return_, 1, 8, 0, 0)]
def am_ct_12 : List (Nat × Instr × Nat × Nat × Nat × Nat) := [(0, .aload_n 0, 1, 1, 0, 0), (1, .invokespecial 1, 3, 6, 1, 0), (4, .aload_n 0, 1, 1, 0, 0), (5, .sipush 405, 3, 0, 0, 0), (8, .newarray .int, 2, 5, 0, 0), (10, .putfield 7, 3, 4, 11, 0), (13, .aload_n 0, 1, 1, 0, 0), (14, .sipush 2430, 3, 0, 0, 0), (17, .newarray .int, 2, 5, 0, 0), (19, .putfield 13, 3, 4, 11, 1), (22, .aload_n 0, 1, 1, 0, 0), (23, .sipush 810, 3, 0, 0, 0), (26, .newarray .int, 2, 5, 0, 0), (28, .putfield 16, 3, 4, 11, 3), (31, .aload_n 0, 1, 1, 0, 0), (32, .iconst 2, 1, 0, 0, 0), (33, .newarray .boolean, 2, 5, 0, 0), (35, .putfield 19, 3, 4, 11, 4), (38, .aload_n 0, 1, 1, 0, 0), (39, .bipush 60, 2, 0, 0, 0), (41, .newarray .int, 2, 5, 0, 0), (43, .putfield 23, 3, 4, 11, 5), (46, .aload_n 0, 1, 1, 0, 0), (47, .bipush 25, 2, 0, 0, 0), (49, .newarray .int, 2, 5, 0, 0), (51, .putfield 26, 3, 4, 11, 8), (54, .aload_n 0, 1, 1, 0, 0), (55, .iconst 3, 1, 0, 0, 0), (56, .newarray .int, 2, 5, 0, 0), (58, .putfield 29, 3, 4, 11, 11), (61, .aload_n 0, 1, 1, 0, 0), (62, .getfield 7, 3, 3, 11, 0), (65, .iconst 2, 1, 0, 0, 0), (66, .bipush 40, 2, 0, 0, 0), (68, .iastore, 1, 4, 0, 0), (69, .aload_n 0, 1, 1, 0, 0), (70, .getfield 7, 3, 3, 11, 0), (73, .iconst 5, 1, 0, 0, 0), (74, .iconst 1, 1, 0, 0, 0), (75, .iastore, 1, 4, 0, 0), (76, .aload_n 0, 1, 1, 0, 0), (77, .getfield 7, 3, 3, 11, 0), (80, .bipush 6, 2, 0, 0, 0), (82, .bipush 40, 2, 0, 0, 0), (84, .iastore, 1, 4, 0, 0), (85, .return_, 1, 8, 0, 0)]
def am_ct_13 : List (Nat × Instr × Nat × Nat × Nat × Nat) := [(0, .iload_n 0, 1, 1, 0, 0), (1, .ifCond .lt 13, 3, 2, 14, 0), (4, .iload_n 0, 1, 1, 0, 0), (5, .bipush 31, 2, 0, 0, 0), (7, .if_icmp .ge 7, 3, 2, 14, 0), (10, .iconst 1, 1, 0, 0, 0), (11, .goto 4, 3, 2, 15, 0), (14, .iconst 0, 1, 0, 0, 0), (15, .ireturn, 1, 8, 0, 0)]
def am_ct_14 : List (Nat × Instr × Nat × Nat × Nat × Nat) := [(0, .aload_n 0, 1, 1, 0, 0), (1, .getfield 32, 3, 3, 1, 0), (4, .bipush 12, 2, 0, 0, 0), (6, .if_icmp .ge 7, 3, 2, 13, 0), (9, .iconst 1, 1, 0, 0, 0), (10, .goto 4, 3, 2, 14, 0), (13, .iconst 0, 1, 0, 0, 0), (14, .ireturn, 1, 8, 0, 0)]
def am_ct_15 : List (Nat × Instr × Nat × Nat × Nat × Nat) := [(0, .aload_n 0, 1, 1, 0, 0), (1, .getfield 24, 3, 3, 2, 1), (4, .iload_n 1, 1, 1, 0, 0), (5, .iadd, 1, 0, 0, 0), (6, .bipush 6, 2, 0, 0, 0), (8, .irem, 1, 0, 0, 0), (9, .ireturn, 1, 8, 0, 0)]
def am_ct_16 : List (Nat × Instr × Nat × Nat × Nat × Nat) := [(0, .aload_n 1, 1, 1, 0, 0), (1, .getfield 13, 3, 3, 6, 0), (4, .iconst 0, 1, 0, 0, 0), (5, .aload_n 0, 1, 1, 0, 0), (6, .getfield 13, 3, 3, 6, 0), (9, .iconst 0, 1, 0, 0, 0), (10, .aload_n 1, 1, 1, 0, 0), (11, .getfield 13, 3, 3, 6, 0), (14, .arraylength, 1, 3, 0, 0), (15, .aload_n 0, 1, 1, 0, 0), (16, .getfield 13, 3, 3, 6, 0), (19, .arraylength, 1, 3, 0, 0), (20, .invokestatic 27, 3, 6, 3, 0), (23, .invokestatic 30, 3, 6, 4, 0), (26, .return_, 1, 8, 0, 0)]
def am_ct_17 : List (Nat × Instr × Nat × Nat × Nat × Nat) := [(0, .aload_n 0, 1, 1, 0, 0), (1, .aload_n 1, 1, 1, 0, 0), (2, .getfield 32, 3, 3, 1, 0), (5, .putfield 32, 3, 4, 1, 0), (8, .aload_n 0, 1, 1, 0, 0), (9, .getfield 14, 3, 3, 1, 1), (12, .aload_n 1, 1, 1, 0, 0), (13, .getfield 14, 3, 3, 1, 1), (16, .invokevirtual 36, 3, 7, 16, 0), (19, .aload_n 0, 1, 1, 0, 0), (20, .getfield 20, 3, 3, 1, 2), (23, .aload_n 1, 1, 1, 0, 0), (24, .getfield 20, 3, 3, 1, 2), (27, .invokevirtual 36, 3, 7, 16, 0), (30, .aload_n 0, 1, 1, 0, 0), (31, .getfield 23, 3, 3, 1, 3), (34, .aload_n 1, 1, 1, 0, 0), (35, .getfield 23, 3, 3, 1, 3), (38, .invokevirtual 36, 3, 7, 16, 0), (41, .aload_n 0, 1, 1, 0, 0), (42, .getfield 26, 3, 3, 1, 4), (45, .aload_n 1, 1, 1, 0, 0), (46, .getfield 26, 3, 3, 1, 4), (49, .invokevirtual 36, 3, 7, 16, 0), (52, .aload_n 0, 1, 1, 0, 0), (53, .getfield 29, 3, 3, 1, 5), (56, .aload_n 1, 1, 1, 0, 0), (57, .getfield 29, 3, 3, 1, 5), (60, .invokevirtual 36, 3, 7, 16, 0), (63, .return_, 1, 8, 0, 0)]
def am_ct_18 : List (Nat × Instr × Nat × Nat × Nat × Nat) := [(0, .aload_n 0, 1, 1, 0, 0), (1, .aload_n 1, 1, 1, 0, 0), (2, .getfield 26, 3, 3, 0, 0), (5, .putfield 26, 3, 4, 0, 0), (8, .aload_n 0, 1, 1, 0, 0), (9, .getfield 14, 3, 3, 0, 1), (12, .aload_n 1, 1, 1, 0, 0), (13, .getfield 14, 3, 3, 0, 1), (16, .invokevirtual 30, 3, 7, 16, 0), (19, .aload_n 0, 1, 1, 0, 0), (20, .getfield 20, 3, 3, 0, 2), (23, .aload_n 1, 1, 1, 0, 0), (24, .getfield 20, 3, 3, 0, 2), (27, .invokevirtual 30, 3, 7, 16, 0), (30, .aload_n 0, 1, 1, 0, 0), (31, .getfield 23, 3, 3, 0, 3), (34, .aload_n 1, 1, 1, 0, 0), (35, .getfield 23, 3, 3, 0, 3), (38, .invokevirtual 30, 3, 7, 16, 0), (41, .return_, 1, 8, 0, 0)]
def am_ct_19 : List (Nat × Instr × Nat × Nat × Nat × Nat) := [(0, .aload_n 0, 1, 1, 0, 0), (1, .aload_n 1, 1, 1, 0, 0), (2, .getfield 26, 3, 3, 8, 0), (5, .putfield 26, 3, 4, 8, 0), (8, .aload_n 0, 1, 1, 0, 0), (9, .aload_n 1, 1, 1, 0, 0), (10, .getfield 30, 3, 3, 8, 1), (13, .putfield 30, 3, 4, 8, 1), (16, .aload_n 0, 1, 1, 0, 0), (17, .aload_n 1, 1, 1, 0, 0), (18, .getfield 33, 3, 3, 8, 2), (21, .putfield 33, 3, 4, 8, 2), (24, .aload_n 0, 1, 1, 0, 0), (25, .getfield 14, 3, 3, 8, 3), (28, .aload_n 1, 1, 1, 0, 0), (29, .getfield 14, 3, 3, 8, 3), (32, .invokevirtual 36, 3, 7, 16, 0), (35, .aload_n 0, 1, 1, 0, 0), (36, .getfield 20, 3, 3, 8, 4), (39, .aload_n 1, 1, 1, 0, 0), (40, .getfield 20, 3, 3, 8, 4), (43, .invokevirtual 36, 3, 7, 16, 0), (46, .aload_n 0, 1, 1, 0, 0), (47, .getfield 23, 3, 3, 8, 5), (50, .aload_n 1, 1, 1, 0, 0), (51, .getfield 23, 3, 3, 8, 5), (54, .invokevirtual 36, 3, 7, 16, 0), (57, .return_, 1, 8, 0, 0)]
def am_ct_20 : List (Nat × Instr × Nat × Nat × Nat × Nat) := [(0, .aload_n 0, 1, 1, 0, 0), (1, .aload_n 1, 1, 1, 0, 0), (2, .getfield 55, 3, 3, 7, 0), (5, .putfield 55, 3, 4, 7, 0), (8, .aload_n 0, 1, 1, 0, 0), (9, .aload_n 1, 1, 1, 0, 0), (10, .getfield 9, 3, 3, 7, 1), (13, .putfield 9, 3, 4, 7, 1), (16, .aload_n 0, 1, 1, 0, 0), (17, .aload_n 1, 1, 1, 0, 0), (18, .getfield 58, 3, 3, 7, 2), (21, .putfield 58, 3, 4, 7, 2), (24, .aload_n 0, 1, 1, 0, 0), (25, .aload_n 1, 1, 1, 0, 0), (26, .getfield 61, 3, 3, 7, 3), (29, .putfield 61, 3, 4, 7, 3), (32, .aload_n 0, 1, 1, 0, 0), (33, .aload_n 1, 1, 1, 0, 0), (34, .getfield 64, 3, 3, 7, 4), (37, .putfield 64, 3, 4, 7, 4), (40, .aload_n 0, 1, 1, 0, 0), (41, .getfield 20, 3, 3, 7, 5), (44, .aload_n 1, 1, 1, 0, 0), (45, .getfield 20, 3, 3, 7, 5), (48, .invokevirtual 67, 3, 7, 16, 0), (51, .aload_n 0, 1, 1, 0, 0), (52, .getfield 24, 3, 3, 7, 6), (55, .aload_n 1, 1, 1, 0, 0), (56, .getfield 24, 3, 3, 7, 6), (59, .invokevirtual 67, 3, 7, 16, 0), (62, .aload_n 0, 1, 1, 0, 0), (63, .getfield 27, 3, 3, 7, 7), (66, .aload_n 1, 1, 1, 0, 0), (67, .getfield 27, 3, 3, 7, 7), (70, .invokevirtual 67, 3, 7, 16, 0), (73, .aload_n 0, 1, 1, 0, 0), (74, .getfield 33, 3, 3, 7, 8), (77, .aload_n 1, 1, 1, 0, 0), (78, .getfield 33, 3, 3, 7, 8), (81, .invokevirtual 71, 3, 7, 17, 0), (84, .aload_n 0, 1, 1, 0, 0), (85, .getfield 40, 3, 3, 7, 9), (88, .aload_n 1, 1, 1, 0, 0), (89, .getfield 40, 3, 3, 7, 9), (92, .invokevirtual 74, 3, 7, 18, 0), (95, .aload_n 0, 1, 1, 0, 0), (96, .getfield 47, 3, 3, 7, 10), (99, .aload_n 1, 1, 1, 0, 0), (100, .getfield 47, 3, 3, 7, 10), (103, .invokevirtual 77, 3, 7, 19, 0), (106, .return_, 1, 8, 0, 0)]
def am_ct_21 : List (Nat × Instr × Nat × Nat × Nat × Nat) := [(0, .iload_n 1, 1, 1, 0, 0), (1, .ifCond .lt 40, 3, 2, 41, 0), (4, .iload_n 1, 1, 1, 0, 0), (5, .aload_n 0, 1, 1, 0, 0), (6, .getfield 15, 3, 3, 9, 0), (9, .arraylength, 1, 3, 0, 0), (10, .if_icmp .ge 31, 3, 2, 41, 0), (13, .aload_n 0, 1, 1, 0, 0), (14, .getfield 15, 3, 3, 9, 0), (17, .iload_n 1, 1, 1, 0, 0), (18, .aaload, 1, 3, 0, 0), (19, .ifnull 22, 3, 2, 41, 0), (22, .aload_n 0, 1, 1, 0, 0), (23, .getfield 15, 3, 3, 9, 0), (26, .iload_n 1, 1, 1, 0, 0), (27, .aaload, 1, 3, 0, 0), (28, .aload_n 2, 1, 1, 0, 0), (29, .invokevirtual 35, 3, 7, 20, 0), (32, .aload_n 0, 1, 1, 0, 0), (33, .getfield 27, 3, 3, 9, 1), (36, .iload_n 1, 1, 1, 0, 0), (37, .iconst 1, 1, 0, 0, 0), (38, .invokevirtual 39, 3, 7, 4, 0), (41, .return_, 1, 8, 0, 0)]
def am_ct_22 : List (Nat × Instr × Nat × Nat × Nat × Nat) := [(0, .aload_n 0, 1, 1, 0, 0), (1, .getfield 14, 3, 3, 2, 0), (4, .aload_n 0, 1, 1, 0, 0), (5, .aload_n 0, 1, 1, 0, 0), (6, .getfield 20, 3, 3, 2, 2), (9, .invokevirtual 27, 3, 7, 15, 0), (12, .aload_n 1, 1, 1, 0, 0), (13, .invokevirtual 31, 3, 7, 21, 0), (16, .aload_n 0, 1, 1, 0, 0), (17, .getfield 20, 3, 3, 2, 2), (20, .bipush 6, 2, 0, 0, 0), (22, .if_icmp .ge 16, 3, 2, 38, 0), (25, .aload_n 0, 1, 1, 0, 0), (26, .dup, 1, 0, 0, 0), (27, .getfield 20, 3, 3, 2, 2), (30, .iconst 1, 1, 0, 0, 0), (31, .iadd, 1, 0, 0, 0), (32, .putfield 20, 3, 4, 2, 2), (35, .goto 12, 3, 2, 47, 0), (38, .aload_n 0, 1, 1, 0, 0), (39, .aload_n 0, 1, 1, 0, 0), (40, .iconst 1, 1, 0, 0, 0), (41, .invokevirtual 27, 3, 7, 15, 0), (44, .putfield 24, 3, 4, 2, 1), (47, .return_, 1, 8, 0, 0)]
def am_ct_23 : List (Nat × Instr × Nat × Nat × Nat × Nat) := [(0, .aload_n 0, 1, 1, 0, 0), (1, .getfield 32, 3, 3, 1, 0), (4, .istore_n 2, 1, 1, 0, 0), (5, .aload_n 0, 1, 1, 0, 0), (6, .dup, 1, 0, 0, 0), (7, .getfield 32, 3, 3, 1, 0), (10, .iconst 1, 1, 0, 0, 0), (11, .iadd, 1, 0, 0, 0), (12, .putfield 32, 3, 4, 1, 0), (15, .aload_n 0, 1, 1, 0, 0), (16, .getfield 20, 3, 3, 1, 2), (19, .iload_n 2, 1, 1, 0, 0), (20, .iload_n 1, 1, 1, 0, 0), (21, .invokevirtual 44, 3, 7, 4, 0), (24, .aload_n 0, 1, 1, 0, 0), (25, .getfield 26, 3, 3, 1, 4), (28, .iconst 2, 1, 0, 0, 0), (29, .iload_n 2, 1, 1, 0, 0), (30, .imul, 1, 0, 0, 0), (31, .bipush 20, 2, 0, 0, 0), (33, .invokevirtual 44, 3, 7, 4, 0), (36, .aload_n 0, 1, 1, 0, 0), (37, .getfield 26, 3, 3, 1, 4), (40, .iconst 2, 1, 0, 0, 0), (41, .iload_n 2, 1, 1, 0, 0), (42, .imul, 1, 0, 0, 0), (43, .iconst 1, 1, 0, 0, 0), (44, .iadd, 1, 0, 0, 0), (45, .bipush 20, 2, 0, 0, 0), (47, .invokevirtual 44, 3, 7, 4, 0), (50, .iload_n 2, 1, 1, 0, 0), (51, .ireturn, 1, 8, 0, 0)]
def am_ct_24 : List (Nat × Instr × Nat × Nat × Nat × Nat) := [(0, .iload_n 1, 1, 1, 0, 0), (1, .invokestatic 65, 3, 7, 13, 0), (4, .ifCond .ne 13, 3, 2, 17, 0), (7, .new 69, 3, 9, 0, 0), (10, .dup, 1, 0, 0, 0), (11, .ldc 71, 2, 11, 0, 0), (13, .invokespecial 73, 3, 11, 0, 0), (16, .athrow, 1, 11, 0, 0), (17, .aload_n 0, 1, 1, 0, 0), (18, .getfield 12, 3, 3, 10, 0), (21, .getfield 18, 3, 3, 107, 8), (24, .invokevirtual 76, 3, 7, 14, 0), (27, .ifCond .ne 13, 3, 2, 40, 0), (30, .new 82, 3, 9, 1, 0), (33, .dup, 1, 0, 0, 0), (34, .ldc 84, 2, 11, 0, 0), (36, .invokespecial 86, 3, 11, 0, 0), (39, .athrow, 1, 11, 0, 0), (40, .aload_n 0, 1, 1, 0, 0), (41, .getfield 52, 3, 3, 10, 4), (44, .aload_n 0, 1, 1, 0, 0), (45, .getfield 12, 3, 3, 10, 0), (48, .invokevirtual 87, 3, 7, 22, 0), (51, .aload_n 0, 1, 1, 0, 0), (52, .getfield 12, 3, 3, 10, 0), (55, .getfield 18, 3, 3, 107, 8), (58, .iload_n 1, 1, 1, 0, 0), (59, .invokevirtual 91, 3, 7, 23, 0), (62, .ireturn, 1, 8, 0, 0)]
def am_ct_25 : List (Nat × Instr × Nat × Nat × Nat × Nat) := [(0, .aload_n 2, 1, 1, 0, 0), (1, .iconst 0, 1, 0, 0, 0), (2, .aload_n 0, 1, 1, 0, 0), (3, .iload_n 1, 1, 1, 0, 0), (4, .invokevirtual 7, 3, 7, 24, 0), (7, .i2l, 1, 0, 0, 0), (8, .lastore, 1, 4, 0, 0), (9, .goto 9, 3, 2, 18, 0), (12, .astore_n 3, 1, 1, 0, 0), (13, .iconst 1, 1, 0, 0, 0), (14, .ireturn, 1, 8, 0, 0), (15, .astore_n 3, 1, 1, 0, 0), (16, .iconst 2, 1, 0, 0, 0), (17, .ireturn, 1, 8, 0, 0), (18, .iconst 0, 1, 0, 0, 0), (19, .ireturn, 1, 8, 0, 0)]
def am_ct_26 : List (Nat × Instr × Nat × Nat × Nat × Nat) := [(0, .iload_n 0, 1, 1, 0, 0), (1, .iload_n 1, 1, 1, 0, 0), (2, .if_icmp .lt 12, 3, 2, 14, 0), (5, .iload_n 0, 1, 1, 0, 0), (6, .iload_n 2, 1, 1, 0, 0), (7, .if_icmp .gt 7, 3, 2, 14, 0), (10, .iconst 1, 1, 0, 0, 0), (11, .goto 4, 3, 2, 15, 0), (14, .iconst 0, 1, 0, 0, 0), (15, .ireturn, 1, 8, 0, 0)]
def am_ct_27 : List (Nat × Instr × Nat × Nat × Nat × Nat) := [(0, .iload_n 0, 1, 1, 0, 0), (1, .iconst 0, 1, 0, 0, 0), (2, .bipush 30, 2, 0, 0, 0), (4, .invokestatic 36, 3, 7, 26, 0), (7, .ireturn, 1, 8, 0, 0)]
def am_ct_28 : List (Nat × Instr × Nat × Nat × Nat × Nat) := [(0, .iload_n 1, 1, 1, 0, 0), (1, .invokestatic 79, 3, 7, 27, 0), (4, .ifCond .ne 7, 3, 2, 11, 0), (7, .iconst 1, 1, 0, 0, 0), (8, .goto 19, 3, 2, 27, 0), (11, .aload_n 0, 1, 1, 0, 0), (12, .getfield 7, 3, 3, 11, 0), (15, .iconst 1, 1, 0, 0, 0), (16, .iaload, 1, 3, 0, 0), (17, .bipush 12, 2, 0, 0, 0), (19, .if_icmp .ne 7, 3, 2, 26, 0), (22, .iconst 2, 1, 0, 0, 0), (23, .goto 4, 3, 2, 27, 0), (26, .iconst 0, 1, 0, 0, 0), (27, .ireturn, 1, 8, 0, 0)]
def am_ct_29 : List (Nat × Instr × Nat × Nat × Nat × Nat) := [(0, .aload_n 0, 1, 1, 0, 0), (1, .iload_n 1, 1, 1, 0, 0), (2, .putfield 32, 3, 4, 11, 7), (5, .iload_n 1, 1, 1, 0, 0), (6, .ifCond .ne 7, 3, 2, 13, 0), (9, .iconst 1, 1, 0, 0, 0), (10, .goto 4, 3, 2, 14, 0), (13, .iconst 0, 1, 0, 0, 0), (14, .ireturn, 1, 8, 0, 0)]
def am_ct_30 : List (Nat × Instr × Nat × Nat × Nat × Nat) := [(0, .iconst 0, 1, 0, 0, 0), (1, .istore 4, 2, 1, 0, 0), (3, .iload 4, 2, 1, 0, 0), (5, .sipush 405, 3, 0, 0, 0), (8, .if_icmp .ge 21, 3, 2, 29, 0), (11, .aload_n 2, 1, 1, 0, 0), (12, .iload_n 3, 1, 1, 0, 0), (13, .iload 4, 2, 1, 0, 0), (15, .iadd, 1, 0, 0, 0), (16, .aload_n 0, 1, 1, 0, 0), (17, .iload_n 1, 1, 1, 0, 0), (18, .iload 4, 2, 1, 0, 0), (20, .iadd, 1, 0, 0, 0), (21, .iaload, 1, 3, 0, 0), (22, .iastore, 1, 4, 0, 0), (23, .iinc 4 1, 3, 1, 0, 0), (26, .goto (-23), 3, 2, 3, 0), (29, .return_, 1, 8, 0, 0)]
def am_ct_31 : List (Nat × Instr × Nat × Nat × Nat × Nat) := [(0, .aload_n 0, 1, 1, 0, 0), (1, .getfield 47, 3, 3, 11, 2), (4, .bipush 6, 2, 0, 0, 0), (6, .if_icmp .ne 44, 3, 2, 50, 0), (9, .iconst 0, 1, 0, 0, 0), (10, .istore_n 1, 1, 1, 0, 0), (11, .iload_n 1, 1, 1, 0, 0), (12, .sipush 2025, 3, 0, 0, 0), (15, .if_icmp .ge 25, 3, 2, 40, 0), (18, .aload_n 0, 1, 1, 0, 0), (19, .getfield 13, 3, 3, 11, 1), (22, .iload_n 1, 1, 1, 0, 0), (23, .aload_n 0, 1, 1, 0, 0), (24, .getfield 13, 3, 3, 11, 1), (27, .sipush 405, 3, 0, 0, 0), (30, .iload_n 1, 1, 1, 0, 0), (31, .iadd, 1, 0, 0, 0), (32, .iaload, 1, 3, 0, 0), (33, .iastore, 1, 4, 0, 0), (34, .iinc 1 1, 3, 1, 0, 0), (37, .goto (-26), 3, 2, 11, 0), (40, .aload_n 0, 1, 1, 0, 0), (41, .dup, 1, 0, 0, 0), (42, .getfield 47, 3, 3, 11, 2), (45, .iconst 1, 1, 0, 0, 0), (46, .isub, 1, 0, 0, 0), (47, .putfield 47, 3, 4, 11, 2), (50, .aload_n 0, 1, 1, 0, 0), (51, .getfield 7, 3, 3, 11, 0), (54, .iconst 0, 1, 0, 0, 0), (55, .aload_n 0, 1, 1, 0, 0), (56, .getfield 13, 3, 3, 11, 1), (59, .sipush 405, 3, 0, 0, 0), (62, .aload_n 0, 1, 1, 0, 0), (63, .getfield 47, 3, 3, 11, 2), (66, .imul, 1, 0, 0, 0), (67, .invokestatic 50, 3, 7, 30, 0), (70, .aload_n 0, 1, 1, 0, 0), (71, .dup, 1, 0, 0, 0), (72, .getfield 47, 3, 3, 11, 2), (75, .iconst 1, 1, 0, 0, 0), (76, .iadd, 1, 0, 0, 0), (77, .putfield 47, 3, 4, 11, 2), (80, .return_, 1, 8, 0, 0)]
def am_ct_32 : List (Nat × Instr × Nat × Nat × Nat × Nat) := [(0, .aload_n 0, 1, 1, 0, 0), (1, .getfield 7, 3, 3, 11, 0), (4, .bipush 11, 2, 0, 0, 0), (6, .bipush 7, 2, 0, 0, 0), (8, .iload_n 1, 1, 1, 0, 0), (9, .imul, 1, 0, 0, 0), (10, .iadd, 1, 0, 0, 0), (11, .iload_n 2, 1, 1, 0, 0), (12, .iadd, 1, 0, 0, 0), (13, .iload_n 3, 1, 1, 0, 0), (14, .iastore, 1, 4, 0, 0), (15, .return_, 1, 8, 0, 0)]
def am_ct_33 : List (Nat × Instr × Nat × Nat × Nat × Nat) := [(0, .aload_n 0, 1, 1, 0, 0), (1, .getfield 7, 3, 3, 11, 0), (4, .iconst 1, 1, 0, 0, 0), (5, .iaload, 1, 3, 0, 0), (6, .istore_n 2, 1, 1, 0, 0), (7, .iconst 0, 1, 0, 0, 0), (8, .istore_n 3, 1, 1, 0, 0), (9, .iload_n 3, 1, 1, 0, 0), (10, .bipush 7, 2, 0, 0, 0), (12, .if_icmp .ge 16, 3, 2, 28, 0), (15, .aload_n 0, 1, 1, 0, 0), (16, .iload_n 2, 1, 1, 0, 0), (17, .iload_n 3, 1, 1, 0, 0), (18, .iconst 0, 1, 0, 0, 0), (19, .invokevirtual 62, 3, 7, 32, 0), (22, .iinc 3 1, 3, 1, 0, 0), (25, .goto (-16), 3, 2, 9, 0), (28, .aload_n 0, 1, 1, 0, 0), (29, .iload_n 2, 1, 1, 0, 0), (30, .iconst 1, 1, 0, 0, 0), (31, .iload_n 1, 1, 1, 0, 0), (32, .invokevirtual 62, 3, 7, 32, 0), (35, .aload_n 0, 1, 1, 0, 0), (36, .iload_n 2, 1, 1, 0, 0), (37, .iconst 2, 1, 0, 0, 0), (38, .bipush 20, 2, 0, 0, 0), (40, .invokevirtual 62, 3, 7, 32, 0), (43, .aload_n 0, 1, 1, 0, 0), (44, .iload_n 2, 1, 1, 0, 0), (45, .iconst 3, 1, 0, 0, 0), (46, .bipush 20, 2, 0, 0, 0), (48, .invokevirtual 62, 3, 7, 32, 0), (51, .aload_n 0, 1, 1, 0, 0), (52, .getfield 7, 3, 3, 11, 0), (55, .iconst 1, 1, 0, 0, 0), (56, .dup2, 1, 0, 0, 0), (57, .iaload, 1, 3, 0, 0), (58, .iconst 1, 1, 0, 0, 0), (59, .iadd, 1, 0, 0, 0), (60, .iastore, 1, 4, 0, 0), (61, .iload_n 2, 1, 1, 0, 0), (62, .ireturn, 1, 8, 0, 0)]
def am_ct_34 : List (Nat × Instr × Nat × Nat × Nat × Nat) := [(0, .aload_n 0, 1, 1, 0, 0), (1, .aload_n 0, 1, 1, 0, 0), (2, .iload_n 1, 1, 1, 0, 0), (3, .invokevirtual 88, 3, 7, 28, 0), (6, .invokevirtual 91, 3, 7, 29, 0), (9, .ifCond .ne 5, 3, 2, 14, 0), (12, .iconst 0, 1, 0, 0, 0), (13, .ireturn, 1, 8, 0, 0), (14, .aload_n 0, 1, 1, 0, 0), (15, .invokevirtual 94, 3, 7, 31, 0), (18, .aload_n 0, 1, 1, 0, 0), (19, .iload_n 1, 1, 1, 0, 0), (20, .invokevirtual 97, 3, 7, 33, 0), (23, .ireturn, 1, 8, 0, 0)]
def am_ct_35 : List (Nat × Instr × Nat × Nat × Nat × Nat) := [(0, .aload_n 0, 1, 1, 0, 0), (1, .getfield 32, 3, 3, 11, 7), (4, .ireturn, 1, 8, 0, 0)]
def am_ct_36 : List (Nat × Instr × Nat × Nat × Nat × Nat) := [(0, .iload_n 1, 1, 1, 0, 0), (1, .ifCond .lt 15, 3, 2, 16, 0), (4, .iload_n 1, 1, 1, 0, 0), (5, .aload_n 0, 1, 1, 0, 0), (6, .getfield 32, 3, 3, 1, 0), (9, .if_icmp .ge 7, 3, 2, 16, 0), (12, .iconst 1, 1, 0, 0, 0), (13, .goto 4, 3, 2, 17, 0), (16, .iconst 0, 1, 0, 0, 0), (17, .ireturn, 1, 8, 0, 0)]
def am_ct_37 : List (Nat × Instr × Nat × Nat × Nat × Nat) := [(0, .aload_n 0, 1, 1, 0, 0), (1, .iload_n 1, 1, 1, 0, 0), (2, .invokevirtual 40, 3, 7, 36, 0), (5, .ifCond .eq 16, 3, 2, 21, 0), (8, .iload_n 2, 1, 1, 0, 0), (9, .ifCond .eq 8, 3, 2, 17, 0), (12, .iload_n 2, 1, 1, 0, 0), (13, .iconst 1, 1, 0, 0, 0), (14, .if_icmp .ne 7, 3, 2, 21, 0), (17, .iconst 1, 1, 0, 0, 0), (18, .goto 4, 3, 2, 22, 0), (21, .iconst 0, 1, 0, 0, 0), (22, .ireturn, 1, 8, 0, 0)]
def am_ct_38 : List (Nat × Instr × Nat × Nat × Nat × Nat) := [(0, .aload_n 0, 1, 1, 0, 0), (1, .iload_n 1, 1, 1, 0, 0), (2, .invokevirtual 40, 3, 7, 36, 0), (5, .ifCond .ne 15, 3, 2, 20, 0), (8, .iload_n 1, 1, 1, 0, 0), (9, .bipush 20, 2, 0, 0, 0), (11, .if_icmp .lt 13, 3, 2, 24, 0), (14, .iload_n 1, 1, 1, 0, 0), (15, .bipush 25, 2, 0, 0, 0), (17, .if_icmp .ge 7, 3, 2, 24, 0), (20, .iconst 1, 1, 0, 0, 0), (21, .goto 4, 3, 2, 25, 0), (24, .iconst 0, 1, 0, 0, 0), (25, .ireturn, 1, 8, 0, 0)]
def am_ct_39 : List (Nat × Instr × Nat × Nat × Nat × Nat) := [(0, .iload_n 1, 1, 1, 0, 0), (1, .ifCond .lt 21, 3, 2, 22, 0), (4, .iload_n 1, 1, 1, 0, 0), (5, .aload_n 0, 1, 1, 0, 0), (6, .getfield 13, 3, 3, 6, 0), (9, .arraylength, 1, 3, 0, 0), (10, .if_icmp .ge 12, 3, 2, 22, 0), (13, .aload_n 0, 1, 1, 0, 0), (14, .getfield 13, 3, 3, 6, 0), (17, .iload_n 1, 1, 1, 0, 0), (18, .iaload, 1, 3, 0, 0), (19, .goto 4, 3, 2, 23, 0), (22, .iconst 0, 1, 0, 0, 0), (23, .ireturn, 1, 8, 0, 0)]
def am_ct_40 : List (Nat × Instr × Nat × Nat × Nat × Nat) := [(0, .aload_n 0, 1, 1, 0, 0), (1, .iload_n 1, 1, 1, 0, 0), (2, .invokevirtual 19, 3, 7, 39, 0), (5, .istore_n 3, 1, 1, 0, 0), (6, .aload_n 0, 1, 1, 0, 0), (7, .iload_n 1, 1, 1, 0, 0), (8, .iload_n 2, 1, 1, 0, 0), (9, .invokevirtual 23, 3, 7, 4, 0), (12, .iload_n 3, 1, 1, 0, 0), (13, .ireturn, 1, 8, 0, 0)]
def am_ct_41 : List (Nat × Instr × Nat × Nat × Nat × Nat) := [(0, .aload_n 0, 1, 1, 0, 0), (1, .getfield 26, 3, 3, 1, 4), (4, .iconst 2, 1, 0, 0, 0), (5, .iload_n 1, 1, 1, 0, 0), (6, .imul, 1, 0, 0, 0), (7, .iload_n 2, 1, 1, 0, 0), (8, .iadd, 1, 0, 0, 0), (9, .iload_n 3, 1, 1, 0, 0), (10, .invokevirtual 48, 3, 7, 40, 0), (13, .ireturn, 1, 8, 0, 0)]
def am_ct_42 : List (Nat × Instr × Nat × Nat × Nat × Nat) := [(0, .aload_n 0, 1, 1, 0, 0), (1, .getfield 12, 3, 3, 10, 0), (4, .getfield 18, 3, 3, 107, 8), (7, .iload_n 1, 1, 1, 0, 0), (8, .iload_n 2, 1, 1, 0, 0), (9, .invokevirtual 95, 3, 7, 37, 0), (12, .ifCond .eq 17, 3, 2, 29, 0), (15, .aload_n 0, 1, 1, 0, 0), (16, .getfield 12, 3, 3, 10, 0), (19, .getfield 18, 3, 3, 107, 8), (22, .iload_n 3, 1, 1, 0, 0), (23, .invokevirtual 99, 3, 7, 38, 0), (26, .ifCond .ne 13, 3, 2, 39, 0), (29, .new 102, 3, 9, 2, 0), (32, .dup, 1, 0, 0, 0), (33, .ldc 104, 2, 11, 0, 0), (35, .invokespecial 106, 3, 11, 0, 0), (38, .athrow, 1, 11, 0, 0), (39, .iload_n 3, 1, 1, 0, 0), (40, .iload_n 1, 1, 1, 0, 0), (41, .if_icmp .gt 13, 3, 2, 54, 0), (44, .new 69, 3, 9, 0, 0), (47, .dup, 1, 0, 0, 0), (48, .ldc 107, 2, 11, 0, 0), (50, .invokespecial 73, 3, 11, 0, 0), (53, .athrow, 1, 11, 0, 0), (54, .aload_n 0, 1, 1, 0, 0), (55, .getfield 52, 3, 3, 10, 4), (58, .aload_n 0, 1, 1, 0, 0), (59, .getfield 12, 3, 3, 10, 0), (62, .invokevirtual 87, 3, 7, 22, 0), (65, .aload_n 0, 1, 1, 0, 0), (66, .getfield 12, 3, 3, 10, 0), (69, .getfield 18, 3, 3, 107, 8), (72, .iload_n 1, 1, 1, 0, 0), (73, .iload_n 2, 1, 1, 0, 0), (74, .iload_n 3, 1, 1, 0, 0), (75, .invokevirtual 109, 3, 7, 41, 0), (78, .ireturn, 1, 8, 0, 0)]
def am_ct_43 : List (Nat × Instr × Nat × Nat × Nat × Nat) := [(0, .aload 4, 2, 1, 0, 0), (2, .iconst 0, 1, 0, 0, 0), (3, .aload_n 0, 1, 1, 0, 0), (4, .iload_n 1, 1, 1, 0, 0), (5, .iload_n 2, 1, 1, 0, 0), (6, .iload_n 3, 1, 1, 0, 0), (7, .invokevirtual 17, 3, 7, 42, 0), (10, .i2l, 1, 0, 0, 0), (11, .lastore, 1, 4, 0, 0), (12, .goto 11, 3, 2, 23, 0), (15, .astore 5, 2, 1, 0, 0), (17, .iconst 1, 1, 0, 0, 0), (18, .ireturn, 1, 8, 0, 0), (19, .astore 5, 2, 1, 0, 0), (21, .iconst 2, 1, 0, 0, 0), (22, .ireturn, 1, 8, 0, 0), (23, .iconst 0, 1, 0, 0, 0), (24, .ireturn, 1, 8, 0, 0)]
def am_ct_44 : List (Nat × Instr × Nat × Nat × Nat × Nat) := [(0, .iload_n 1, 1, 1, 0, 0), (1, .iconst 0, 1, 0, 0, 0), (2, .aload_n 0, 1, 1, 0, 0), (3, .getfield 7, 3, 3, 11, 0), (6, .iconst 1, 1, 0, 0, 0), (7, .iaload, 1, 3, 0, 0), (8, .iconst 1, 1, 0, 0, 0), (9, .isub, 1, 0, 0, 0), (10, .invokestatic 36, 3, 7, 26, 0), (13, .ireturn, 1, 8, 0, 0)]
def am_ct_45 : List (Nat × Instr × Nat × Nat × Nat × Nat) := [(0, .iload_n 0, 1, 1, 0, 0), (1, .iconst 0, 1, 0, 0, 0), (2, .iconst 4, 1, 0, 0, 0), (3, .invokestatic 36, 3, 7, 26, 0), (6, .ireturn, 1, 8, 0, 0)]
def am_ct_46 : List (Nat × Instr × Nat × Nat × Nat × Nat) := [(0, .aload_n 0, 1, 1, 0, 0), (1, .iload_n 1, 1, 1, 0, 0), (2, .invokevirtual 40, 3, 7, 44, 0), (5, .ifCond .ne 13, 3, 2, 18, 0), (8, .iload_n 1, 1, 1, 0, 0), (9, .bipush 20, 2, 0, 0, 0), (11, .isub, 1, 0, 0, 0), (12, .invokestatic 44, 3, 7, 45, 0), (15, .ifCond .eq 7, 3, 2, 22, 0), (18, .iconst 1, 1, 0, 0, 0), (19, .goto 4, 3, 2, 23, 0), (22, .iconst 0, 1, 0, 0, 0), (23, .ireturn, 1, 8, 0, 0)]
def am_ct_47 : List (Nat × Instr × Nat × Nat × Nat × Nat) := [(0, .aload_n 0, 1, 1, 0, 0), (1, .iload_n 1, 1, 1, 0, 0), (2, .invokevirtual 40, 3, 7, 44, 0), (5, .ifCond .eq 24, 3, 2, 29, 0), (8, .iload_n 2, 1, 1, 0, 0), (9, .iconst 0, 1, 0, 0, 0), (10, .iconst 1, 1, 0, 0, 0), (11, .invokestatic 36, 3, 7, 26, 0), (14, .ifCond .eq 15, 3, 2, 29, 0), (17, .aload_n 0, 1, 1, 0, 0), (18, .iload_n 3, 1, 1, 0, 0), (19, .invokevirtual 82, 3, 7, 46, 0), (22, .ifCond .eq 7, 3, 2, 29, 0), (25, .iconst 1, 1, 0, 0, 0), (26, .goto 4, 3, 2, 30, 0), (29, .iconst 0, 1, 0, 0, 0), (30, .istore 4, 2, 1, 0, 0), (32, .iload 4, 2, 1, 0, 0), (34, .ifCond .ne 7, 3, 2, 41, 0), (37, .iconst 1, 1, 0, 0, 0), (38, .goto 13, 3, 2, 51, 0), (41, .iload_n 3, 1, 1, 0, 0), (42, .iload_n 1, 1, 1, 0, 0), (43, .if_icmp .gt 7, 3, 2, 50, 0), (46, .iconst 2, 1, 0, 0, 0), (47, .goto 4, 3, 2, 51, 0), (50, .iconst 0, 1, 0, 0, 0), (51, .ireturn, 1, 8, 0, 0)]
def am_ct_48 : List (Nat × Instr × Nat × Nat × Nat × Nat) := [(0, .aload_n 0, 1, 1, 0, 0), (1, .getfield 7, 3, 3, 11, 0), (4, .bipush 11, 2, 0, 0, 0), (6, .bipush 7, 2, 0, 0, 0), (8, .iload_n 1, 1, 1, 0, 0), (9, .imul, 1, 0, 0, 0), (10, .iadd, 1, 0, 0, 0), (11, .iload_n 2, 1, 1, 0, 0), (12, .iadd, 1, 0, 0, 0), (13, .iaload, 1, 3, 0, 0), (14, .ireturn, 1, 8, 0, 0)]
def am_ct_49 : List (Nat × Instr × Nat × Nat × Nat × Nat) := [(0, .aload_n 0, 1, 1, 0, 0), (1, .iload_n 1, 1, 1, 0, 0), (2, .iconst 2, 1, 0, 0, 0), (3, .iload_n 2, 1, 1, 0, 0), (4, .iadd, 1, 0, 0, 0), (5, .invokevirtual 54, 3, 7, 48, 0), (8, .istore 4, 2, 1, 0, 0), (10, .aload_n 0, 1, 1, 0, 0), (11, .iload_n 1, 1, 1, 0, 0), (12, .iconst 2, 1, 0, 0, 0), (13, .iload_n 2, 1, 1, 0, 0), (14, .iadd, 1, 0, 0, 0), (15, .iload_n 3, 1, 1, 0, 0), (16, .invokevirtual 62, 3, 7, 32, 0), (19, .iload 4, 2, 1, 0, 0), (21, .ireturn, 1, 8, 0, 0)]
def am_ct_50 : List (Nat × Instr × Nat × Nat × Nat × Nat) := [(0, .aload_n 0, 1, 1, 0, 0), (1, .aload_n 0, 1, 1, 0, 0), (2, .iload_n 1, 1, 1, 0, 0), (3, .iload_n 2, 1, 1, 0, 0), (4, .iload_n 3, 1, 1, 0, 0), (5, .invokevirtual 100, 3, 7, 47, 0), (8, .invokevirtual 91, 3, 7, 29, 0), (11, .ifCond .ne 5, 3, 2, 16, 0), (14, .iconst 0, 1, 0, 0, 0), (15, .ireturn, 1, 8, 0, 0), (16, .aload_n 0, 1, 1, 0, 0), (17, .invokevirtual 94, 3, 7, 31, 0), (20, .aload_n 0, 1, 1, 0, 0), (21, .iload_n 1, 1, 1, 0, 0), (22, .iload_n 2, 1, 1, 0, 0), (23, .iload_n 3, 1, 1, 0, 0), (24, .invokevirtual 104, 3, 7, 49, 0), (27, .ireturn, 1, 8, 0, 0)]
def am_ct_51 : List (Nat × Instr × Nat × Nat × Nat × Nat) := [(0, .aload_n 0, 1, 1, 0, 0), (1, .getfield 20, 3, 3, 1, 2), (4, .iload_n 1, 1, 1, 0, 0), (5, .iload_n 2, 1, 1, 0, 0), (6, .invokevirtual 48, 3, 7, 40, 0), (9, .ireturn, 1, 8, 0, 0)]
def am_ct_52 : List (Nat × Instr × Nat × Nat × Nat × Nat) := [(0, .aload_n 0, 1, 1, 0, 0), (1, .getfield 12, 3, 3, 10, 0), (4, .getfield 18, 3, 3, 107, 8), (7, .iload_n 1, 1, 1, 0, 0), (8, .invokevirtual 113, 3, 7, 36, 0), (11, .ifCond .ne 13, 3, 2, 24, 0), (14, .new 102, 3, 9, 2, 0), (17, .dup, 1, 0, 0, 0), (18, .ldc 116, 2, 11, 0, 0), (20, .invokespecial 106, 3, 11, 0, 0), (23, .athrow, 1, 11, 0, 0), (24, .iload_n 2, 1, 1, 0, 0), (25, .invokestatic 65, 3, 7, 13, 0), (28, .ifCond .ne 13, 3, 2, 41, 0), (31, .new 69, 3, 9, 0, 0), (34, .dup, 1, 0, 0, 0), (35, .ldc 71, 2, 11, 0, 0), (37, .invokespecial 73, 3, 11, 0, 0), (40, .athrow, 1, 11, 0, 0), (41, .aload_n 0, 1, 1, 0, 0), (42, .getfield 52, 3, 3, 10, 4), (45, .aload_n 0, 1, 1, 0, 0), (46, .getfield 12, 3, 3, 10, 0), (49, .invokevirtual 87, 3, 7, 22, 0), (52, .aload_n 0, 1, 1, 0, 0), (53, .getfield 12, 3, 3, 10, 0), (56, .getfield 18, 3, 3, 107, 8), (59, .iload_n 1, 1, 1, 0, 0), (60, .iload_n 2, 1, 1, 0, 0), (61, .invokevirtual 118, 3, 7, 51, 0), (64, .ireturn, 1, 8, 0, 0)]
def am_ct_53 : List (Nat × Instr × Nat × Nat × Nat × Nat) := [(0, .aload_n 3, 1, 1, 0, 0), (1, .iconst 0, 1, 0, 0, 0), (2, .aload_n 0, 1, 1, 0, 0), (3, .iload_n 1, 1, 1, 0, 0), (4, .iload_n 2, 1, 1, 0, 0), (5, .invokevirtual 23, 3, 7, 52, 0), (8, .i2l, 1, 0, 0, 0), (9, .lastore, 1, 4, 0, 0), (10, .goto 11, 3, 2, 21, 0), (13, .astore 4, 2, 1, 0, 0), (15, .iconst 1, 1, 0, 0, 0), (16, .ireturn, 1, 8, 0, 0), (17, .astore 4, 2, 1, 0, 0), (19, .iconst 2, 1, 0, 0, 0), (20, .ireturn, 1, 8, 0, 0), (21, .iconst 0, 1, 0, 0, 0), (22, .ireturn, 1, 8, 0, 0)]
def am_ct_54 : List (Nat × Instr × Nat × Nat × Nat × Nat) := [(0, .aload_n 0, 1, 1, 0, 0), (1, .aload_n 0, 1, 1, 0, 0), (2, .iload_n 1, 1, 1, 0, 0), (3, .invokevirtual 40, 3, 7, 44, 0), (6, .ifCond .ne 7, 3, 2, 13, 0), (9, .iconst 1, 1, 0, 0, 0), (10, .goto 15, 3, 2, 25, 0), (13, .iload_n 2, 1, 1, 0, 0), (14, .invokestatic 79, 3, 7, 27, 0), (17, .ifCond .ne 7, 3, 2, 24, 0), (20, .iconst 2, 1, 0, 0, 0), (21, .goto 4, 3, 2, 25, 0), (24, .iconst 0, 1, 0, 0, 0), (25, .invokevirtual 91, 3, 7, 29, 0), (28, .ifCond .ne 5, 3, 2, 33, 0), (31, .iconst 0, 1, 0, 0, 0), (32, .ireturn, 1, 8, 0, 0), (33, .aload_n 0, 1, 1, 0, 0), (34, .invokevirtual 94, 3, 7, 31, 0), (37, .aload_n 0, 1, 1, 0, 0), (38, .iload_n 1, 1, 1, 0, 0), (39, .iconst 1, 1, 0, 0, 0), (40, .invokevirtual 54, 3, 7, 48, 0), (43, .istore_n 3, 1, 1, 0, 0), (44, .aload_n 0, 1, 1, 0, 0), (45, .iload_n 1, 1, 1, 0, 0), (46, .iconst 1, 1, 0, 0, 0), (47, .iload_n 2, 1, 1, 0, 0), (48, .invokevirtual 62, 3, 7, 32, 0), (51, .iload_n 3, 1, 1, 0, 0), (52, .ireturn, 1, 8, 0, 0)]
def am_ct_55 : List (Nat × Instr × Nat × Nat × Nat × Nat) := [(0, .iload_n 1, 1, 1, 0, 0), (1, .ifCond .lt 22, 3, 2, 23, 0), (4, .iload_n 1, 1, 1, 0, 0), (5, .aload_n 0, 1, 1, 0, 0), (6, .getfield 13, 3, 3, 6, 0), (9, .arraylength, 1, 3, 0, 0), (10, .if_icmp .ge 13, 3, 2, 23, 0), (13, .aload_n 0, 1, 1, 0, 0), (14, .getfield 13, 3, 3, 6, 0), (17, .iload_n 1, 1, 1, 0, 0), (18, .dup2, 1, 0, 0, 0), (19, .iaload, 1, 3, 0, 0), (20, .iload_n 2, 1, 1, 0, 0), (21, .iadd, 1, 0, 0, 0), (22, .iastore, 1, 4, 0, 0), (23, .return_, 1, 8, 0, 0)]
def am_ct_56 : List (Nat × Instr × Nat × Nat × Nat × Nat) := [(0, .aload_n 0, 1, 1, 0, 0), (1, .getfield 23, 3, 3, 1, 3), (4, .iload_n 1, 1, 1, 0, 0), (5, .iconst 1, 1, 0, 0, 0), (6, .invokevirtual 52, 3, 7, 55, 0), (9, .aload_n 0, 1, 1, 0, 0), (10, .getfield 14, 3, 3, 1, 1), (13, .iload_n 1, 1, 1, 0, 0), (14, .iconst 1, 1, 0, 0, 0), (15, .aload_n 0, 1, 1, 0, 0), (16, .getfield 14, 3, 3, 1, 1), (19, .iload_n 1, 1, 1, 0, 0), (20, .invokevirtual 55, 3, 7, 39, 0), (23, .isub, 1, 0, 0, 0), (24, .invokevirtual 44, 3, 7, 4, 0), (27, .aload_n 0, 1, 1, 0, 0), (28, .getfield 14, 3, 3, 1, 1), (31, .iload_n 1, 1, 1, 0, 0), (32, .invokevirtual 55, 3, 7, 39, 0), (35, .ireturn, 1, 8, 0, 0)]
def am_ct_57 : List (Nat × Instr × Nat × Nat × Nat × Nat) := [(0, .aload_n 0, 1, 1, 0, 0), (1, .getfield 12, 3, 3, 10, 0), (4, .getfield 18, 3, 3, 107, 8), (7, .iload_n 1, 1, 1, 0, 0), (8, .invokevirtual 113, 3, 7, 36, 0), (11, .ifCond .ne 13, 3, 2, 24, 0), (14, .new 102, 3, 9, 2, 0), (17, .dup, 1, 0, 0, 0), (18, .ldc 116, 2, 11, 0, 0), (20, .invokespecial 106, 3, 11, 0, 0), (23, .athrow, 1, 11, 0, 0), (24, .aload_n 0, 1, 1, 0, 0), (25, .getfield 52, 3, 3, 10, 4), (28, .aload_n 0, 1, 1, 0, 0), (29, .getfield 12, 3, 3, 10, 0), (32, .invokevirtual 87, 3, 7, 22, 0), (35, .aload_n 0, 1, 1, 0, 0), (36, .getfield 12, 3, 3, 10, 0), (39, .getfield 18, 3, 3, 107, 8), (42, .iload_n 1, 1, 1, 0, 0), (43, .invokevirtual 122, 3, 7, 56, 0), (46, .ireturn, 1, 8, 0, 0)]
def am_ct_58 : List (Nat × Instr × Nat × Nat × Nat × Nat) := [(0, .aload_n 2, 1, 1, 0, 0), (1, .iconst 0, 1, 0, 0, 0), (2, .aload_n 0, 1, 1, 0, 0), (3, .iload_n 1, 1, 1, 0, 0), (4, .invokevirtual 27, 3, 7, 57, 0), (7, .i2l, 1, 0, 0, 0), (8, .lastore, 1, 4, 0, 0), (9, .goto 6, 3, 2, 15, 0), (12, .astore_n 3, 1, 1, 0, 0), (13, .iconst 1, 1, 0, 0, 0), (14, .ireturn, 1, 8, 0, 0), (15, .iconst 0, 1, 0, 0, 0), (16, .ireturn, 1, 8, 0, 0)]
def am_ct_59 : List (Nat × Instr × Nat × Nat × Nat × Nat) := [(0, .aload_n 0, 1, 1, 0, 0), (1, .iload_n 1, 1, 1, 0, 0), (2, .iconst 0, 1, 0, 0, 0), (3, .iconst 1, 1, 0, 0, 0), (4, .aload_n 0, 1, 1, 0, 0), (5, .iload_n 1, 1, 1, 0, 0), (6, .iconst 0, 1, 0, 0, 0), (7, .invokevirtual 54, 3, 7, 48, 0), (10, .isub, 1, 0, 0, 0), (11, .invokevirtual 62, 3, 7, 32, 0), (14, .aload_n 0, 1, 1, 0, 0), (15, .iload_n 1, 1, 1, 0, 0), (16, .bipush 6, 2, 0, 0, 0), (18, .aload_n 0, 1, 1, 0, 0), (19, .iload_n 1, 1, 1, 0, 0), (20, .bipush 6, 2, 0, 0, 0), (22, .invokevirtual 54, 3, 7, 48, 0), (25, .iconst 1, 1, 0, 0, 0), (26, .iadd, 1, 0, 0, 0), (27, .invokevirtual 62, 3, 7, 32, 0), (30, .aload_n 0, 1, 1, 0, 0), (31, .iload_n 1, 1, 1, 0, 0), (32, .iconst 0, 1, 0, 0, 0), (33, .invokevirtual 54, 3, 7, 48, 0), (36, .ireturn, 1, 8, 0, 0)]
def am_ct_60 : List (Nat × Instr × Nat × Nat × Nat × Nat) := [(0, .aload_n 0, 1, 1, 0, 0), (1, .aload_n 0, 1, 1, 0, 0), (2, .iload_n 1, 1, 1, 0, 0), (3, .invokevirtual 40, 3, 7, 44, 0), (6, .ifCond .eq 7, 3, 2, 13, 0), (9, .iconst 0, 1, 0, 0, 0), (10, .goto 4, 3, 2, 14, 0), (13, .iconst 1, 1, 0, 0, 0), (14, .invokevirtual 91, 3, 7, 29, 0), (17, .ifCond .ne 5, 3, 2, 22, 0), (20, .iconst 0, 1, 0, 0, 0), (21, .ireturn, 1, 8, 0, 0), (22, .aload_n 0, 1, 1, 0, 0), (23, .invokevirtual 94, 3, 7, 31, 0), (26, .aload_n 0, 1, 1, 0, 0), (27, .iload_n 1, 1, 1, 0, 0), (28, .invokevirtual 107, 3, 7, 59, 0), (31, .ireturn, 1, 8, 0, 0)]
def am_ct_61 : List (Nat × Instr × Nat × Nat × Nat × Nat) := [(0, .iload_n 1, 1, 1, 0, 0), (1, .ifCond .eq 18, 3, 2, 19, 0), (4, .iload_n 1, 1, 1, 0, 0), (5, .iconst 1, 1, 0, 0, 0), (6, .if_icmp .eq 13, 3, 2, 19, 0), (9, .new 102, 3, 9, 2, 0), (12, .dup, 1, 0, 0, 0), (13, .ldc 125, 2, 11, 0, 0), (15, .invokespecial 106, 3, 11, 0, 0), (18, .athrow, 1, 11, 0, 0), (19, .iload_n 2, 1, 1, 0, 0), (20, .iconst 1, 1, 0, 0, 0), (21, .if_icmp .lt 18, 3, 2, 39, 0), (24, .iload_n 2, 1, 1, 0, 0), (25, .iload_n 1, 1, 1, 0, 0), (26, .ifCond .ne 8, 3, 2, 34, 0), (29, .bipush 9, 2, 0, 0, 0), (31, .goto 5, 3, 2, 36, 0), (34, .bipush 40, 2, 0, 0, 0), (36, .if_icmp .le 13, 3, 2, 49, 0), (39, .new 69, 3, 9, 0, 0), (42, .dup, 1, 0, 0, 0), (43, .ldc 127, 2, 11, 0, 0), (45, .invokespecial 73, 3, 11, 0, 0), (48, .athrow, 1, 11, 0, 0), (49, .aload_n 0, 1, 1, 0, 0), (50, .getfield 52, 3, 3, 10, 4), (53, .aload_n 0, 1, 1, 0, 0), (54, .getfield 12, 3, 3, 10, 0), (57, .invokevirtual 87, 3, 7, 22, 0), (60, .aload_n 0, 1, 1, 0, 0), (61, .getfield 12, 3, 3, 10, 0), (64, .getfield 129, 3, 3, 107, 5), (67, .iload_n 1, 1, 1, 0, 0), (68, .iload_n 2, 1, 1, 0, 0), (69, .invokevirtual 133, 3, 7, 40, 0), (72, .ireturn, 1, 8, 0, 0)]
def am_ct_62 : List (Nat × Instr × Nat × Nat × Nat × Nat) := [(0, .aload_n 3, 1, 1, 0, 0), (1, .iconst 0, 1, 0, 0, 0), (2, .aload_n 0, 1, 1, 0, 0), (3, .iload_n 1, 1, 1, 0, 0), (4, .iload_n 2, 1, 1, 0, 0), (5, .invokevirtual 30, 3, 7, 61, 0), (8, .i2l, 1, 0, 0, 0), (9, .lastore, 1, 4, 0, 0), (10, .goto 11, 3, 2, 21, 0), (13, .astore 4, 2, 1, 0, 0), (15, .iconst 1, 1, 0, 0, 0), (16, .ireturn, 1, 8, 0, 0), (17, .astore 4, 2, 1, 0, 0), (19, .iconst 2, 1, 0, 0, 0), (20, .ireturn, 1, 8, 0, 0), (21, .iconst 0, 1, 0, 0, 0), (22, .ireturn, 1, 8, 0, 0)]
def am_ct_63 : List (Nat × Instr × Nat × Nat × Nat × Nat) := [(0, .aload_n 0, 1, 1, 0, 0), (1, .iload_n 1, 1, 1, 0, 0), (2, .iconst 0, 1, 0, 0, 0), (3, .iconst 1, 1, 0, 0, 0), (4, .invokestatic 36, 3, 7, 26, 0), (7, .ifCond .ne 7, 3, 2, 14, 0), (10, .iconst 1, 1, 0, 0, 0), (11, .goto 27, 3, 2, 38, 0), (14, .iload_n 2, 1, 1, 0, 0), (15, .iconst 1, 1, 0, 0, 0), (16, .iload_n 1, 1, 1, 0, 0), (17, .ifCond .ne 8, 3, 2, 25, 0), (20, .bipush 9, 2, 0, 0, 0), (22, .goto 5, 3, 2, 27, 0), (25, .bipush 40, 2, 0, 0, 0), (27, .invokestatic 36, 3, 7, 26, 0), (30, .ifCond .ne 7, 3, 2, 37, 0), (33, .iconst 2, 1, 0, 0, 0), (34, .goto 4, 3, 2, 38, 0), (37, .iconst 0, 1, 0, 0, 0), (38, .invokevirtual 91, 3, 7, 29, 0), (41, .ifCond .ne 5, 3, 2, 46, 0), (44, .iconst 0, 1, 0, 0, 0), (45, .ireturn, 1, 8, 0, 0), (46, .aload_n 0, 1, 1, 0, 0), (47, .invokevirtual 94, 3, 7, 31, 0), (50, .aload_n 0, 1, 1, 0, 0), (51, .getfield 7, 3, 3, 11, 0), (54, .iconst 5, 1, 0, 0, 0), (55, .iload_n 1, 1, 1, 0, 0), (56, .iadd, 1, 0, 0, 0), (57, .iaload, 1, 3, 0, 0), (58, .istore_n 3, 1, 1, 0, 0), (59, .aload_n 0, 1, 1, 0, 0), (60, .getfield 7, 3, 3, 11, 0), (63, .iconst 5, 1, 0, 0, 0), (64, .iload_n 1, 1, 1, 0, 0), (65, .iadd, 1, 0, 0, 0), (66, .iload_n 2, 1, 1, 0, 0), (67, .iastore, 1, 4, 0, 0), (68, .iload_n 3, 1, 1, 0, 0), (69, .ireturn, 1, 8, 0, 0)]
def am_ct_64 : List (Nat × Instr × Nat × Nat × Nat × Nat) := [(0, .aload_n 0, 1, 1, 0, 0), (1, .getfield 58, 3, 3, 7, 2), (4, .iload_n 1, 1, 1, 0, 0), (5, .iadd, 1, 0, 0, 0), (6, .sipush 200, 3, 0, 0, 0), (9, .if_icmp .gt 7, 3, 2, 16, 0), (12, .iconst 1, 1, 0, 0, 0), (13, .goto 4, 3, 2, 17, 0), (16, .iconst 0, 1, 0, 0, 0), (17, .ireturn, 1, 8, 0, 0)]
def am_ct_65 : List (Nat × Instr × Nat × Nat × Nat × Nat) := [(0, .aload_n 0, 1, 1, 0, 0), (1, .dup, 1, 0, 0, 0), (2, .getfield 58, 3, 3, 7, 2), (5, .iload_n 1, 1, 1, 0, 0), (6, .iadd, 1, 0, 0, 0), (7, .putfield 58, 3, 4, 7, 2), (10, .aload_n 0, 1, 1, 0, 0), (11, .getfield 58, 3, 3, 7, 2), (14, .ireturn, 1, 8, 0, 0)]
def am_ct_66 : List (Nat × Instr × Nat × Nat × Nat × Nat) := [(0, .iload_n 1, 1, 1, 0, 0), (1, .iconst 1, 1, 0, 0, 0), (2, .if_icmp .lt 9, 3, 2, 11, 0), (5, .iload_n 1, 1, 1, 0, 0), (6, .bipush 40, 2, 0, 0, 0), (8, .if_icmp .le 13, 3, 2, 21, 0), (11, .new 69, 3, 9, 0, 0), (14, .dup, 1, 0, 0, 0), (15, .ldc 138, 2, 11, 0, 0), (17, .invokespecial 73, 3, 11, 0, 0), (20, .athrow, 1, 11, 0, 0), (21, .aload_n 0, 1, 1, 0, 0), (22, .getfield 12, 3, 3, 10, 0), (25, .iload_n 1, 1, 1, 0, 0), (26, .invokevirtual 140, 3, 7, 64, 0), (29, .ifCond .ne 13, 3, 2, 42, 0), (32, .new 82, 3, 9, 1, 0), (35, .dup, 1, 0, 0, 0), (36, .ldc 143, 2, 11, 0, 0), (38, .invokespecial 86, 3, 11, 0, 0), (41, .athrow, 1, 11, 0, 0), (42, .aload_n 0, 1, 1, 0, 0), (43, .getfield 52, 3, 3, 10, 4), (46, .aload_n 0, 1, 1, 0, 0), (47, .getfield 12, 3, 3, 10, 0), (50, .invokevirtual 87, 3, 7, 22, 0), (53, .aload_n 0, 1, 1, 0, 0), (54, .getfield 12, 3, 3, 10, 0), (57, .iload_n 1, 1, 1, 0, 0), (58, .invokevirtual 145, 3, 7, 65, 0), (61, .ireturn, 1, 8, 0, 0)]
def am_ct_67 : List (Nat × Instr × Nat × Nat × Nat × Nat) := [(0, .aload_n 2, 1, 1, 0, 0), (1, .iconst 0, 1, 0, 0, 0), (2, .aload_n 0, 1, 1, 0, 0), (3, .iload_n 1, 1, 1, 0, 0), (4, .invokevirtual 33, 3, 7, 66, 0), (7, .i2l, 1, 0, 0, 0), (8, .lastore, 1, 4, 0, 0), (9, .goto 9, 3, 2, 18, 0), (12, .astore_n 3, 1, 1, 0, 0), (13, .iconst 1, 1, 0, 0, 0), (14, .ireturn, 1, 8, 0, 0), (15, .astore_n 3, 1, 1, 0, 0), (16, .iconst 2, 1, 0, 0, 0), (17, .ireturn, 1, 8, 0, 0), (18, .iconst 0, 1, 0, 0, 0), (19, .ireturn, 1, 8, 0, 0)]
def am_ct_68 : List (Nat × Instr × Nat × Nat × Nat × Nat) := [(0, .iload_n 1, 1, 1, 0, 0), (1, .iconst 1, 1, 0, 0, 0), (2, .bipush 40, 2, 0, 0, 0), (4, .invokestatic 36, 3, 7, 26, 0), (7, .ifCond .ne 7, 3, 2, 14, 0), (10, .iconst 1, 1, 0, 0, 0), (11, .goto 22, 3, 2, 33, 0), (14, .aload_n 0, 1, 1, 0, 0), (15, .getfield 7, 3, 3, 11, 0), (18, .iconst 4, 1, 0, 0, 0), (19, .iaload, 1, 3, 0, 0), (20, .iload_n 1, 1, 1, 0, 0), (21, .iadd, 1, 0, 0, 0), (22, .sipush 200, 3, 0, 0, 0), (25, .if_icmp .le 7, 3, 2, 32, 0), (28, .iconst 2, 1, 0, 0, 0), (29, .goto 4, 3, 2, 33, 0), (32, .iconst 0, 1, 0, 0, 0), (33, .ireturn, 1, 8, 0, 0)]
def am_ct_69 : List (Nat × Instr × Nat × Nat × Nat × Nat) := [(0, .aload_n 0, 1, 1, 0, 0), (1, .getfield 7, 3, 3, 11, 0), (4, .iconst 4, 1, 0, 0, 0), (5, .dup2, 1, 0, 0, 0), (6, .iaload, 1, 3, 0, 0), (7, .iload_n 1, 1, 1, 0, 0), (8, .iadd, 1, 0, 0, 0), (9, .iastore, 1, 4, 0, 0), (10, .aload_n 0, 1, 1, 0, 0), (11, .getfield 7, 3, 3, 11, 0), (14, .iconst 4, 1, 0, 0, 0), (15, .iaload, 1, 3, 0, 0), (16, .ireturn, 1, 8, 0, 0)]
def am_ct_70 : List (Nat × Instr × Nat × Nat × Nat × Nat) := [(0, .aload_n 0, 1, 1, 0, 0), (1, .aload_n 0, 1, 1, 0, 0), (2, .iload_n 1, 1, 1, 0, 0), (3, .invokevirtual 110, 3, 7, 68, 0), (6, .invokevirtual 91, 3, 7, 29, 0), (9, .ifCond .ne 5, 3, 2, 14, 0), (12, .iconst 0, 1, 0, 0, 0), (13, .ireturn, 1, 8, 0, 0), (14, .aload_n 0, 1, 1, 0, 0), (15, .invokevirtual 94, 3, 7, 31, 0), (18, .aload_n 0, 1, 1, 0, 0), (19, .iload_n 1, 1, 1, 0, 0), (20, .invokevirtual 113, 3, 7, 69, 0), (23, .ireturn, 1, 8, 0, 0)]
def am_ct_71 : List (Nat × Instr × Nat × Nat × Nat × Nat) := [(0, .aload_n 0, 1, 1, 0, 0), (1, .getfield 26, 3, 3, 8, 0), (4, .iload_n 1, 1, 1, 0, 0), (5, .iadd, 1, 0, 0, 0), (6, .bipush 60, 2, 0, 0, 0), (8, .irem, 1, 0, 0, 0), (9, .ireturn, 1, 8, 0, 0)]
def am_ct_72 : List (Nat × Instr × Nat × Nat × Nat × Nat) := [(0, .aload_n 0, 1, 1, 0, 0), (1, .aload_n 0, 1, 1, 0, 0), (2, .getfield 30, 3, 3, 8, 1), (5, .invokevirtual 40, 3, 7, 71, 0), (8, .istore 4, 2, 1, 0, 0), (10, .aload_n 0, 1, 1, 0, 0), (11, .getfield 14, 3, 3, 8, 3), (14, .iload 4, 2, 1, 0, 0), (16, .iload_n 1, 1, 1, 0, 0), (17, .invokevirtual 44, 3, 7, 4, 0), (20, .aload_n 0, 1, 1, 0, 0), (21, .getfield 20, 3, 3, 8, 4), (24, .iload 4, 2, 1, 0, 0), (26, .iload_n 2, 1, 1, 0, 0), (27, .invokevirtual 44, 3, 7, 4, 0), (30, .aload_n 0, 1, 1, 0, 0), (31, .getfield 23, 3, 3, 8, 5), (34, .iload 4, 2, 1, 0, 0), (36, .iload_n 3, 1, 1, 0, 0), (37, .invokevirtual 44, 3, 7, 4, 0), (40, .aload_n 0, 1, 1, 0, 0), (41, .dup, 1, 0, 0, 0), (42, .getfield 33, 3, 3, 8, 2), (45, .iconst 1, 1, 0, 0, 0), (46, .iadd, 1, 0, 0, 0), (47, .putfield 33, 3, 4, 8, 2), (50, .aload_n 0, 1, 1, 0, 0), (51, .getfield 30, 3, 3, 8, 1), (54, .bipush 60, 2, 0, 0, 0), (56, .if_icmp .ge 16, 3, 2, 72, 0), (59, .aload_n 0, 1, 1, 0, 0), (60, .dup, 1, 0, 0, 0), (61, .getfield 30, 3, 3, 8, 1), (64, .iconst 1, 1, 0, 0, 0), (65, .iadd, 1, 0, 0, 0), (66, .putfield 30, 3, 4, 8, 1), (69, .goto 12, 3, 2, 81, 0), (72, .aload_n 0, 1, 1, 0, 0), (73, .aload_n 0, 1, 1, 0, 0), (74, .iconst 1, 1, 0, 0, 0), (75, .invokevirtual 40, 3, 7, 71, 0), (78, .putfield 26, 3, 4, 8, 0), (81, .return_, 1, 8, 0, 0)]
def am_ct_73 : List (Nat × Instr × Nat × Nat × Nat × Nat) := [(0, .aload_n 0, 1, 1, 0, 0), (1, .getfield 26, 3, 3, 1, 4), (4, .iconst 2, 1, 0, 0, 0), (5, .iload_n 1, 1, 1, 0, 0), (6, .imul, 1, 0, 0, 0), (7, .iload_n 2, 1, 1, 0, 0), (8, .iadd, 1, 0, 0, 0), (9, .invokevirtual 55, 3, 7, 39, 0), (12, .ireturn, 1, 8, 0, 0)]
def am_ct_74 : List (Nat × Instr × Nat × Nat × Nat × Nat) := [(0, .aload_n 0, 1, 1, 0, 0), (1, .getfield 14, 3, 3, 1, 1), (4, .iload_n 1, 1, 1, 0, 0), (5, .invokevirtual 55, 3, 7, 39, 0), (8, .istore_n 2, 1, 1, 0, 0), (9, .aload_n 0, 1, 1, 0, 0), (10, .getfield 29, 3, 3, 1, 5), (13, .iconst 2, 1, 0, 0, 0), (14, .iload_n 1, 1, 1, 0, 0), (15, .imul, 1, 0, 0, 0), (16, .iload_n 2, 1, 1, 0, 0), (17, .iadd, 1, 0, 0, 0), (18, .iconst 1, 1, 0, 0, 0), (19, .invokevirtual 52, 3, 7, 55, 0), (22, .aload_n 0, 1, 1, 0, 0), (23, .getfield 14, 3, 3, 1, 1), (26, .iload_n 1, 1, 1, 0, 0), (27, .iconst 1, 1, 0, 0, 0), (28, .iload_n 2, 1, 1, 0, 0), (29, .isub, 1, 0, 0, 0), (30, .invokevirtual 44, 3, 7, 4, 0), (33, .aload_n 0, 1, 1, 0, 0), (34, .iload_n 1, 1, 1, 0, 0), (35, .iload_n 2, 1, 1, 0, 0), (36, .invokevirtual 59, 3, 7, 73, 0), (39, .ireturn, 1, 8, 0, 0)]
def am_ct_75 : List (Nat × Instr × Nat × Nat × Nat × Nat) := [(0, .aload_n 0, 1, 1, 0, 0), (1, .getfield 14, 3, 3, 0, 1), (4, .iload_n 2, 1, 1, 0, 0), (5, .iload_n 3, 1, 1, 0, 0), (6, .invokevirtual 34, 3, 7, 4, 0), (9, .aload_n 0, 1, 1, 0, 0), (10, .getfield 20, 3, 3, 0, 2), (13, .iload_n 2, 1, 1, 0, 0), (14, .aload_n 0, 1, 1, 0, 0), (15, .getfield 20, 3, 3, 0, 2), (18, .iload_n 1, 1, 1, 0, 0), (19, .invokevirtual 38, 3, 7, 39, 0), (22, .invokevirtual 34, 3, 7, 4, 0), (25, .aload_n 0, 1, 1, 0, 0), (26, .getfield 23, 3, 3, 0, 3), (29, .iload_n 2, 1, 1, 0, 0), (30, .aload_n 0, 1, 1, 0, 0), (31, .getfield 23, 3, 3, 0, 3), (34, .iload_n 1, 1, 1, 0, 0), (35, .invokevirtual 38, 3, 7, 39, 0), (38, .iconst 1, 1, 0, 0, 0), (39, .iadd, 1, 0, 0, 0), (40, .invokevirtual 34, 3, 7, 4, 0), (43, .return_, 1, 8, 0, 0)]
def am_ct_76 : List (Nat × Instr × Nat × Nat × Nat × Nat) := [(0, .aload_n 0, 1, 1, 0, 0), (1, .getfield 40, 3, 3, 7, 9), (4, .getfield 96, 3, 3, 100, 0), (7, .istore_n 1, 1, 1, 0, 0), (8, .iconst 0, 1, 0, 0, 0), (9, .istore_n 2, 1, 1, 0, 0), (10, .iconst 0, 1, 0, 0, 0), (11, .istore_n 3, 1, 1, 0, 0), (12, .iload_n 3, 1, 1, 0, 0), (13, .iload_n 1, 1, 1, 0, 0), (14, .if_icmp .ge 108, 3, 2, 122, 0), (17, .aload_n 0, 1, 1, 0, 0), (18, .getfield 40, 3, 3, 7, 9), (21, .getfield 99, 3, 3, 100, 1), (24, .iload_n 3, 1, 1, 0, 0), (25, .invokevirtual 102, 3, 7, 39, 0), (28, .istore 4, 2, 1, 0, 0), (30, .aload_n 0, 1, 1, 0, 0), (31, .getfield 47, 3, 3, 7, 10), (34, .aload_n 0, 1, 1, 0, 0), (35, .getfield 55, 3, 3, 7, 0), (38, .iload 4, 2, 1, 0, 0), (40, .aload_n 0, 1, 1, 0, 0), (41, .getfield 33, 3, 3, 7, 8), (44, .getfield 106, 3, 3, 101, 2), (47, .iload 4, 2, 1, 0, 0), (49, .invokevirtual 102, 3, 7, 39, 0), (52, .invokevirtual 109, 3, 7, 72, 0), (55, .aload_n 0, 1, 1, 0, 0), (56, .getfield 33, 3, 3, 7, 8), (59, .iload 4, 2, 1, 0, 0), (61, .invokevirtual 113, 3, 7, 74, 0), (64, .istore 5, 2, 1, 0, 0), (66, .iload 5, 2, 1, 0, 0), (68, .bipush 20, 2, 0, 0, 0), (70, .if_icmp .ge 20, 3, 2, 90, 0), (73, .aload_n 0, 1, 1, 0, 0), (74, .getfield 40, 3, 3, 7, 9), (77, .iload_n 3, 1, 1, 0, 0), (78, .iload_n 2, 1, 1, 0, 0), (79, .iload 5, 2, 1, 0, 0), (81, .invokevirtual 116, 3, 7, 75, 0), (84, .iinc 2 1, 3, 1, 0, 0), (87, .goto 29, 3, 2, 116, 0), (90, .aload_n 0, 1, 1, 0, 0), (91, .getfield 24, 3, 3, 7, 6), (94, .iload 5, 2, 1, 0, 0), (96, .bipush 20, 2, 0, 0, 0), (98, .isub, 1, 0, 0, 0), (99, .iconst 1, 1, 0, 0, 0), (100, .invokevirtual 119, 3, 7, 55, 0), (103, .aload_n 0, 1, 1, 0, 0), (104, .getfield 27, 3, 3, 7, 7), (107, .iload 5, 2, 1, 0, 0), (109, .bipush 20, 2, 0, 0, 0), (111, .isub, 1, 0, 0, 0), (112, .iconst 1, 1, 0, 0, 0), (113, .invokevirtual 119, 3, 7, 55, 0), (116, .iinc 3 1, 3, 1, 0, 0), (119, .goto (-107), 3, 2, 12, 0), (122, .aload_n 0, 1, 1, 0, 0), (123, .getfield 40, 3, 3, 7, 9), (126, .iload_n 2, 1, 1, 0, 0), (127, .putfield 96, 3, 4, 100, 0), (130, .return_, 1, 8, 0, 0)]
def am_ct_77 : List (Nat × Instr × Nat × Nat × Nat × Nat) := [(0, .aload_n 0, 1, 1, 0, 0), (1, .getfield 14, 3, 3, 0, 1), (4, .aload_n 0, 1, 1, 0, 0), (5, .getfield 26, 3, 3, 0, 0), (8, .iconst 0, 1, 0, 0, 0), (9, .invokevirtual 34, 3, 7, 4, 0), (12, .aload_n 0, 1, 1, 0, 0), (13, .getfield 20, 3, 3, 0, 2), (16, .aload_n 0, 1, 1, 0, 0), (17, .getfield 26, 3, 3, 0, 0), (20, .iload_n 1, 1, 1, 0, 0), (21, .invokevirtual 34, 3, 7, 4, 0), (24, .aload_n 0, 1, 1, 0, 0), (25, .getfield 23, 3, 3, 0, 3), (28, .aload_n 0, 1, 1, 0, 0), (29, .getfield 26, 3, 3, 0, 0), (32, .iconst 0, 1, 0, 0, 0), (33, .invokevirtual 34, 3, 7, 4, 0), (36, .aload_n 0, 1, 1, 0, 0), (37, .dup, 1, 0, 0, 0), (38, .getfield 26, 3, 3, 0, 0), (41, .iconst 1, 1, 0, 0, 0), (42, .iadd, 1, 0, 0, 0), (43, .putfield 26, 3, 4, 0, 0), (46, .return_, 1, 8, 0, 0)]
def am_ct_78 : List (Nat × Instr × Nat × Nat × Nat × Nat) := [(0, .aload_n 0, 1, 1, 0, 0), (1, .getfield 20, 3, 3, 7, 5), (4, .iconst 0, 1, 0, 0, 0), (5, .invokevirtual 102, 3, 7, 39, 0), (8, .istore_n 1, 1, 1, 0, 0), (9, .iload_n 1, 1, 1, 0, 0), (10, .ifCond .le 78, 3, 2, 88, 0), (13, .aload_n 0, 1, 1, 0, 0), (14, .getfield 55, 3, 3, 7, 0), (17, .iload_n 1, 1, 1, 0, 0), (18, .irem, 1, 0, 0, 0), (19, .ifCond .ne 69, 3, 2, 88, 0), (22, .aload_n 0, 1, 1, 0, 0), (23, .getfield 58, 3, 3, 7, 2), (26, .ifCond .le 62, 3, 2, 88, 0), (29, .aload_n 0, 1, 1, 0, 0), (30, .getfield 9, 3, 3, 7, 1), (33, .ifCond .le 55, 3, 2, 88, 0), (36, .aload_n 0, 1, 1, 0, 0), (37, .getfield 33, 3, 3, 7, 8), (40, .iconst 0, 1, 0, 0, 0), (41, .invokevirtual 122, 3, 7, 36, 0), (44, .ifCond .eq 44, 3, 2, 88, 0), (47, .aload_n 0, 1, 1, 0, 0), (48, .dup, 1, 0, 0, 0), (49, .getfield 9, 3, 3, 7, 1), (52, .iconst 1, 1, 0, 0, 0), (53, .isub, 1, 0, 0, 0), (54, .putfield 9, 3, 4, 7, 1), (57, .aload_n 0, 1, 1, 0, 0), (58, .dup, 1, 0, 0, 0), (59, .getfield 58, 3, 3, 7, 2), (62, .iconst 1, 1, 0, 0, 0), (63, .isub, 1, 0, 0, 0), (64, .putfield 58, 3, 4, 7, 2), (67, .aload_n 0, 1, 1, 0, 0), (68, .dup, 1, 0, 0, 0), (69, .getfield 61, 3, 3, 7, 3), (72, .iconst 1, 1, 0, 0, 0), (73, .iadd, 1, 0, 0, 0), (74, .putfield 61, 3, 4, 7, 3), (77, .aload_n 0, 1, 1, 0, 0), (78, .getfield 40, 3, 3, 7, 9), (81, .aload_n 0, 1, 1, 0, 0), (82, .getfield 55, 3, 3, 7, 0), (85, .invokevirtual 126, 3, 7, 77, 0), (88, .return_, 1, 8, 0, 0)]
def am_ct_79 : List (Nat × Instr × Nat × Nat × Nat × Nat) := [(0, .iconst 0, 1, 0, 0, 0), (1, .istore_n 1, 1, 1, 0, 0), (2, .iconst 1, 1, 0, 0, 0), (3, .istore_n 2, 1, 1, 0, 0), (4, .iload_n 2, 1, 1, 0, 0), (5, .iconst 5, 1, 0, 0, 0), (6, .if_icmp .ge 30, 3, 2, 36, 0), (9, .aload_n 0, 1, 1, 0, 0), (10, .getfield 24, 3, 3, 7, 6), (13, .iload_n 2, 1, 1, 0, 0), (14, .invokevirtual 102, 3, 7, 39, 0), (17, .aload_n 0, 1, 1, 0, 0), (18, .getfield 24, 3, 3, 7, 6), (21, .iload_n 1, 1, 1, 0, 0), (22, .invokevirtual 102, 3, 7, 39, 0), (25, .if_icmp .le 5, 3, 2, 30, 0), (28, .iload_n 2, 1, 1, 0, 0), (29, .istore_n 1, 1, 1, 0, 0), (30, .iinc 2 1, 3, 1, 0, 0), (33, .goto (-29), 3, 2, 4, 0), (36, .aload_n 0, 1, 1, 0, 0), (37, .getfield 24, 3, 3, 7, 6), (40, .iload_n 1, 1, 1, 0, 0), (41, .invokevirtual 102, 3, 7, 39, 0), (44, .aload_n 0, 1, 1, 0, 0), (45, .getfield 20, 3, 3, 7, 5), (48, .iconst 1, 1, 0, 0, 0), (49, .invokevirtual 102, 3, 7, 39, 0), (52, .if_icmp .lt 32, 3, 2, 84, 0), (55, .aload_n 0, 1, 1, 0, 0), (56, .getfield 24, 3, 3, 7, 6), (59, .iload_n 1, 1, 1, 0, 0), (60, .iconst (-1), 1, 0, 0, 0), (61, .invokevirtual 119, 3, 7, 55, 0), (64, .aload_n 0, 1, 1, 0, 0), (65, .dup, 1, 0, 0, 0), (66, .getfield 9, 3, 3, 7, 1), (69, .iconst 1, 1, 0, 0, 0), (70, .iadd, 1, 0, 0, 0), (71, .putfield 9, 3, 4, 7, 1), (74, .aload_n 0, 1, 1, 0, 0), (75, .dup, 1, 0, 0, 0), (76, .getfield 64, 3, 3, 7, 4), (79, .iconst 1, 1, 0, 0, 0), (80, .iadd, 1, 0, 0, 0), (81, .putfield 64, 3, 4, 7, 4), (84, .return_, 1, 8, 0, 0)]
def am_ct_80 : List (Nat × Instr × Nat × Nat × Nat × Nat) := [(0, .aload_n 0, 1, 1, 0, 0), (1, .getfield 47, 3, 3, 7, 10), (4, .getfield 84, 3, 3, 108, 2), (7, .istore_n 2, 1, 1, 0, 0), (8, .iconst 0, 1, 0, 0, 0), (9, .istore_n 3, 1, 1, 0, 0), (10, .iload_n 3, 1, 1, 0, 0), (11, .iload_n 1, 1, 1, 0, 0), (12, .if_icmp .ge 31, 3, 2, 43, 0), (15, .aload_n 0, 1, 1, 0, 0), (16, .dup, 1, 0, 0, 0), (17, .getfield 55, 3, 3, 7, 0), (20, .iconst 1, 1, 0, 0, 0), (21, .iadd, 1, 0, 0, 0), (22, .putfield 55, 3, 4, 7, 0), (25, .aload_n 0, 1, 1, 0, 0), (26, .invokevirtual 87, 3, 7, 76, 0), (29, .aload_n 0, 1, 1, 0, 0), (30, .invokevirtual 90, 3, 7, 78, 0), (33, .aload_n 0, 1, 1, 0, 0), (34, .invokevirtual 93, 3, 7, 79, 0), (37, .iinc 3 1, 3, 1, 0, 0), (40, .goto (-30), 3, 2, 10, 0), (43, .aload_n 0, 1, 1, 0, 0), (44, .getfield 47, 3, 3, 7, 10), (47, .getfield 84, 3, 3, 108, 2), (50, .iload_n 2, 1, 1, 0, 0), (51, .isub, 1, 0, 0, 0), (52, .ireturn, 1, 8, 0, 0)]
def am_ct_81 : List (Nat × Instr × Nat × Nat × Nat × Nat) := [(0, .iload_n 1, 1, 1, 0, 0), (1, .iconst 1, 1, 0, 0, 0), (2, .if_icmp .lt 9, 3, 2, 11, 0), (5, .iload_n 1, 1, 1, 0, 0), (6, .bipush 50, 2, 0, 0, 0), (8, .if_icmp .le 13, 3, 2, 21, 0), (11, .new 69, 3, 9, 0, 0), (14, .dup, 1, 0, 0, 0), (15, .ldc 148, 2, 11, 0, 0), (17, .invokespecial 73, 3, 11, 0, 0), (20, .athrow, 1, 11, 0, 0), (21, .aload_n 0, 1, 1, 0, 0), (22, .getfield 52, 3, 3, 10, 4), (25, .aload_n 0, 1, 1, 0, 0), (26, .getfield 12, 3, 3, 10, 0), (29, .invokevirtual 87, 3, 7, 22, 0), (32, .aload_n 0, 1, 1, 0, 0), (33, .getfield 12, 3, 3, 10, 0), (36, .iload_n 1, 1, 1, 0, 0), (37, .invokevirtual 150, 3, 7, 80, 0), (40, .ireturn, 1, 8, 0, 0)]
def am_ct_82 : List (Nat × Instr × Nat × Nat × Nat × Nat) := [(0, .aload_n 2, 1, 1, 0, 0), (1, .iconst 0, 1, 0, 0, 0), (2, .aload_n 0, 1, 1, 0, 0), (3, .iload_n 1, 1, 1, 0, 0), (4, .invokevirtual 36, 3, 7, 81, 0), (7, .i2l, 1, 0, 0, 0), (8, .lastore, 1, 4, 0, 0), (9, .goto 6, 3, 2, 15, 0), (12, .astore_n 3, 1, 1, 0, 0), (13, .iconst 1, 1, 0, 0, 0), (14, .ireturn, 1, 8, 0, 0), (15, .iconst 0, 1, 0, 0, 0), (16, .ireturn, 1, 8, 0, 0)]
def am_ct_83 : List (Nat × Instr × Nat × Nat × Nat × Nat) := [(0, .aload_n 0, 1, 1, 0, 0), (1, .getfield 7, 3, 3, 11, 0), (4, .bipush 10, 2, 0, 0, 0), (6, .iaload, 1, 3, 0, 0), (7, .bipush 60, 2, 0, 0, 0), (9, .if_icmp .ne 45, 3, 2, 54, 0), (12, .sipush 225, 3, 0, 0, 0), (15, .istore_n 2, 1, 1, 0, 0), (16, .iload_n 2, 1, 1, 0, 0), (17, .sipush 402, 3, 0, 0, 0), (20, .if_icmp .ge 23, 3, 2, 43, 0), (23, .aload_n 0, 1, 1, 0, 0), (24, .getfield 7, 3, 3, 11, 0), (27, .iload_n 2, 1, 1, 0, 0), (28, .aload_n 0, 1, 1, 0, 0), (29, .getfield 7, 3, 3, 11, 0), (32, .iload_n 2, 1, 1, 0, 0), (33, .iconst 3, 1, 0, 0, 0), (34, .iadd, 1, 0, 0, 0), (35, .iaload, 1, 3, 0, 0), (36, .iastore, 1, 4, 0, 0), (37, .iinc 2 1, 3, 1, 0, 0), (40, .goto (-24), 3, 2, 16, 0), (43, .aload_n 0, 1, 1, 0, 0), (44, .getfield 7, 3, 3, 11, 0), (47, .bipush 10, 2, 0, 0, 0), (49, .dup2, 1, 0, 0, 0), (50, .iaload, 1, 3, 0, 0), (51, .iconst 1, 1, 0, 0, 0), (52, .isub, 1, 0, 0, 0), (53, .iastore, 1, 4, 0, 0), (54, .sipush 225, 3, 0, 0, 0), (57, .iconst 3, 1, 0, 0, 0), (58, .aload_n 0, 1, 1, 0, 0), (59, .getfield 7, 3, 3, 11, 0), (62, .bipush 10, 2, 0, 0, 0), (64, .iaload, 1, 3, 0, 0), (65, .imul, 1, 0, 0, 0), (66, .iadd, 1, 0, 0, 0), (67, .istore_n 2, 1, 1, 0, 0), (68, .aload_n 0, 1, 1, 0, 0), (69, .getfield 7, 3, 3, 11, 0), (72, .iload_n 2, 1, 1, 0, 0), (73, .iconst 0, 1, 0, 0, 0), (74, .iadd, 1, 0, 0, 0), (75, .aload_n 0, 1, 1, 0, 0), (76, .getfield 7, 3, 3, 11, 0), (79, .iconst 0, 1, 0, 0, 0), (80, .iaload, 1, 3, 0, 0), (81, .iastore, 1, 4, 0, 0), (82, .aload_n 0, 1, 1, 0, 0), (83, .getfield 7, 3, 3, 11, 0), (86, .iload_n 2, 1, 1, 0, 0), (87, .iconst 1, 1, 0, 0, 0), (88, .iadd, 1, 0, 0, 0), (89, .iload_n 1, 1, 1, 0, 0), (90, .iastore, 1, 4, 0, 0), (91, .aload_n 0, 1, 1, 0, 0), (92, .getfield 7, 3, 3, 11, 0), (95, .iload_n 2, 1, 1, 0, 0), (96, .iconst 2, 1, 0, 0, 0), (97, .iadd, 1, 0, 0, 0), (98, .aload_n 0, 1, 1, 0, 0), (99, .iload_n 1, 1, 1, 0, 0), (100, .iconst 1, 1, 0, 0, 0), (101, .invokevirtual 54, 3, 7, 48, 0), (104, .iastore, 1, 4, 0, 0), (105, .aload_n 0, 1, 1, 0, 0), (106, .getfield 7, 3, 3, 11, 0), (109, .bipush 10, 2, 0, 0, 0), (111, .dup2, 1, 0, 0, 0), (112, .iaload, 1, 3, 0, 0), (113, .iconst 1, 1, 0, 0, 0), (114, .iadd, 1, 0, 0, 0), (115, .iastore, 1, 4, 0, 0), (116, .aload_n 0, 1, 1, 0, 0), (117, .getfield 7, 3, 3, 11, 0), (120, .bipush 9, 2, 0, 0, 0), (122, .dup2, 1, 0, 0, 0), (123, .iaload, 1, 3, 0, 0), (124, .iconst 1, 1, 0, 0, 0), (125, .iadd, 1, 0, 0, 0), (126, .iastore, 1, 4, 0, 0), (127, .return_, 1, 8, 0, 0)]
def am_ct_84 : List (Nat × Instr × Nat × Nat × Nat × Nat) := [(0, .bipush 105, 2, 0, 0, 0), (2, .iconst 3, 1, 0, 0, 0), (3, .iload_n 1, 1, 1, 0, 0), (4, .imul, 1, 0, 0, 0), (5, .iadd, 1, 0, 0, 0), (6, .istore_n 2, 1, 1, 0, 0), (7, .aload_n 0, 1, 1, 0, 0), (8, .getfield 7, 3, 3, 11, 0), (11, .iload_n 2, 1, 1, 0, 0), (12, .iconst 0, 1, 0, 0, 0), (13, .iadd, 1, 0, 0, 0), (14, .iaload, 1, 3, 0, 0), (15, .istore_n 3, 1, 1, 0, 0), (16, .aload_n 0, 1, 1, 0, 0), (17, .iload_n 3, 1, 1, 0, 0), (18, .iconst 0, 1, 0, 0, 0), (19, .invokevirtual 54, 3, 7, 48, 0), (22, .istore 4, 2, 1, 0, 0), (24, .aload_n 0, 1, 1, 0, 0), (25, .iload_n 3, 1, 1, 0, 0), (26, .invokevirtual 58, 3, 7, 83, 0), (29, .aload_n 0, 1, 1, 0, 0), (30, .iload_n 3, 1, 1, 0, 0), (31, .iconst 4, 1, 0, 0, 0), (32, .iload 4, 2, 1, 0, 0), (34, .iadd, 1, 0, 0, 0), (35, .aload_n 0, 1, 1, 0, 0), (36, .iload_n 3, 1, 1, 0, 0), (37, .iconst 4, 1, 0, 0, 0), (38, .iload 4, 2, 1, 0, 0), (40, .iadd, 1, 0, 0, 0), (41, .invokevirtual 54, 3, 7, 48, 0), (44, .iconst 1, 1, 0, 0, 0), (45, .iadd, 1, 0, 0, 0), (46, .invokevirtual 62, 3, 7, 32, 0), (49, .aload_n 0, 1, 1, 0, 0), (50, .iload_n 3, 1, 1, 0, 0), (51, .iconst 0, 1, 0, 0, 0), (52, .iconst 1, 1, 0, 0, 0), (53, .iload 4, 2, 1, 0, 0), (55, .isub, 1, 0, 0, 0), (56, .invokevirtual 62, 3, 7, 32, 0), (59, .aload_n 0, 1, 1, 0, 0), (60, .getfield 7, 3, 3, 11, 0), (63, .iload_n 2, 1, 1, 0, 0), (64, .iconst 0, 1, 0, 0, 0), (65, .iadd, 1, 0, 0, 0), (66, .aload_n 0, 1, 1, 0, 0), (67, .iload_n 3, 1, 1, 0, 0), (68, .iconst 2, 1, 0, 0, 0), (69, .iload 4, 2, 1, 0, 0), (71, .iadd, 1, 0, 0, 0), (72, .invokevirtual 54, 3, 7, 48, 0), (75, .iastore, 1, 4, 0, 0), (76, .aload_n 0, 1, 1, 0, 0), (77, .getfield 7, 3, 3, 11, 0), (80, .iload_n 2, 1, 1, 0, 0), (81, .iconst 2, 1, 0, 0, 0), (82, .iadd, 1, 0, 0, 0), (83, .dup2, 1, 0, 0, 0), (84, .iaload, 1, 3, 0, 0), (85, .iconst 1, 1, 0, 0, 0), (86, .iadd, 1, 0, 0, 0), (87, .iastore, 1, 4, 0, 0), (88, .aload_n 0, 1, 1, 0, 0), (89, .getfield 7, 3, 3, 11, 0), (92, .iload_n 2, 1, 1, 0, 0), (93, .iconst 0, 1, 0, 0, 0), (94, .iadd, 1, 0, 0, 0), (95, .iaload, 1, 3, 0, 0), (96, .ireturn, 1, 8, 0, 0)]
def am_ct_85 : List (Nat × Instr × Nat × Nat × Nat × Nat) := [(0, .aload_n 0, 1, 1, 0, 0), (1, .getfield 7, 3, 3, 11, 0), (4, .iconst 3, 1, 0, 0, 0), (5, .dup2, 1, 0, 0, 0), (6, .iaload, 1, 3, 0, 0), (7, .iconst 1, 1, 0, 0, 0), (8, .isub, 1, 0, 0, 0), (9, .iastore, 1, 4, 0, 0), (10, .bipush 105, 2, 0, 0, 0), (12, .iconst 3, 1, 0, 0, 0), (13, .iload_n 1, 1, 1, 0, 0), (14, .imul, 1, 0, 0, 0), (15, .iadd, 1, 0, 0, 0), (16, .istore_n 2, 1, 1, 0, 0), (17, .iload_n 2, 1, 1, 0, 0), (18, .bipush 105, 2, 0, 0, 0), (20, .iconst 3, 1, 0, 0, 0), (21, .aload_n 0, 1, 1, 0, 0), (22, .getfield 7, 3, 3, 11, 0), (25, .iconst 3, 1, 0, 0, 0), (26, .iaload, 1, 3, 0, 0), (27, .imul, 1, 0, 0, 0), (28, .iadd, 1, 0, 0, 0), (29, .if_icmp .ge 23, 3, 2, 52, 0), (32, .aload_n 0, 1, 1, 0, 0), (33, .getfield 7, 3, 3, 11, 0), (36, .iload_n 2, 1, 1, 0, 0), (37, .aload_n 0, 1, 1, 0, 0), (38, .getfield 7, 3, 3, 11, 0), (41, .iload_n 2, 1, 1, 0, 0), (42, .iconst 3, 1, 0, 0, 0), (43, .iadd, 1, 0, 0, 0), (44, .iaload, 1, 3, 0, 0), (45, .iastore, 1, 4, 0, 0), (46, .iinc 2 1, 3, 1, 0, 0), (49, .goto (-32), 3, 2, 17, 0), (52, .return_, 1, 8, 0, 0)]
def am_ct_86 : List (Nat × Instr × Nat × Nat × Nat × Nat) := [(0, .bipush 105, 2, 0, 0, 0), (2, .iconst 3, 1, 0, 0, 0), (3, .aload_n 0, 1, 1, 0, 0), (4, .getfield 7, 3, 3, 11, 0), (7, .iconst 3, 1, 0, 0, 0), (8, .iaload, 1, 3, 0, 0), (9, .imul, 1, 0, 0, 0), (10, .iadd, 1, 0, 0, 0), (11, .istore_n 1, 1, 1, 0, 0), (12, .aload_n 0, 1, 1, 0, 0), (13, .getfield 7, 3, 3, 11, 0), (16, .iload_n 1, 1, 1, 0, 0), (17, .iconst 0, 1, 0, 0, 0), (18, .iadd, 1, 0, 0, 0), (19, .iconst 0, 1, 0, 0, 0), (20, .iastore, 1, 4, 0, 0), (21, .aload_n 0, 1, 1, 0, 0), (22, .getfield 7, 3, 3, 11, 0), (25, .iload_n 1, 1, 1, 0, 0), (26, .iconst 1, 1, 0, 0, 0), (27, .iadd, 1, 0, 0, 0), (28, .aload_n 0, 1, 1, 0, 0), (29, .getfield 7, 3, 3, 11, 0), (32, .iconst 0, 1, 0, 0, 0), (33, .iaload, 1, 3, 0, 0), (34, .iastore, 1, 4, 0, 0), (35, .aload_n 0, 1, 1, 0, 0), (36, .getfield 7, 3, 3, 11, 0), (39, .iload_n 1, 1, 1, 0, 0), (40, .iconst 2, 1, 0, 0, 0), (41, .iadd, 1, 0, 0, 0), (42, .iconst 0, 1, 0, 0, 0), (43, .iastore, 1, 4, 0, 0), (44, .aload_n 0, 1, 1, 0, 0), (45, .getfield 7, 3, 3, 11, 0), (48, .iconst 3, 1, 0, 0, 0), (49, .dup2, 1, 0, 0, 0), (50, .iaload, 1, 3, 0, 0), (51, .iconst 1, 1, 0, 0, 0), (52, .iadd, 1, 0, 0, 0), (53, .iastore, 1, 4, 0, 0), (54, .aload_n 0, 1, 1, 0, 0), (55, .getfield 7, 3, 3, 11, 0), (58, .iconst 2, 1, 0, 0, 0), (59, .dup2, 1, 0, 0, 0), (60, .iaload, 1, 3, 0, 0), (61, .iconst 1, 1, 0, 0, 0), (62, .isub, 1, 0, 0, 0), (63, .iastore, 1, 4, 0, 0), (64, .aload_n 0, 1, 1, 0, 0), (65, .getfield 7, 3, 3, 11, 0), (68, .iconst 4, 1, 0, 0, 0), (69, .dup2, 1, 0, 0, 0), (70, .iaload, 1, 3, 0, 0), (71, .iconst 1, 1, 0, 0, 0), (72, .isub, 1, 0, 0, 0), (73, .iastore, 1, 4, 0, 0), (74, .aload_n 0, 1, 1, 0, 0), (75, .getfield 7, 3, 3, 11, 0), (78, .bipush 7, 2, 0, 0, 0), (80, .dup2, 1, 0, 0, 0), (81, .iaload, 1, 3, 0, 0), (82, .iconst 1, 1, 0, 0, 0), (83, .iadd, 1, 0, 0, 0), (84, .iastore, 1, 4, 0, 0), (85, .return_, 1, 8, 0, 0)]
def am_ct_87 : List (Nat × Instr × Nat × Nat × Nat × Nat) := [(0, .iconst 0, 1, 0, 0, 0), (1, .istore_n 1, 1, 1, 0, 0), (2, .iconst 1, 1, 0, 0, 0), (3, .istore_n 2, 1, 1, 0, 0), (4, .iload_n 2, 1, 1, 0, 0), (5, .iconst 5, 1, 0, 0, 0), (6, .if_icmp .ge 36, 3, 2, 42, 0), (9, .aload_n 0, 1, 1, 0, 0), (10, .getfield 7, 3, 3, 11, 0), (13, .bipush 95, 2, 0, 0, 0), (15, .iload_n 2, 1, 1, 0, 0), (16, .iadd, 1, 0, 0, 0), (17, .iaload, 1, 3, 0, 0), (18, .aload_n 0, 1, 1, 0, 0), (19, .getfield 7, 3, 3, 11, 0), (22, .bipush 95, 2, 0, 0, 0), (24, .iload_n 1, 1, 1, 0, 0), (25, .iadd, 1, 0, 0, 0), (26, .iaload, 1, 3, 0, 0), (27, .if_icmp .le 7, 3, 2, 34, 0), (30, .iload_n 2, 1, 1, 0, 0), (31, .goto 4, 3, 2, 35, 0), (34, .iload_n 1, 1, 1, 0, 0), (35, .istore_n 1, 1, 1, 0, 0), (36, .iinc 2 1, 3, 1, 0, 0), (39, .goto (-35), 3, 2, 4, 0), (42, .aload_n 0, 1, 1, 0, 0), (43, .getfield 7, 3, 3, 11, 0), (46, .bipush 95, 2, 0, 0, 0), (48, .iload_n 1, 1, 1, 0, 0), (49, .iadd, 1, 0, 0, 0), (50, .iaload, 1, 3, 0, 0), (51, .aload_n 0, 1, 1, 0, 0), (52, .getfield 7, 3, 3, 11, 0), (55, .bipush 6, 2, 0, 0, 0), (57, .iaload, 1, 3, 0, 0), (58, .if_icmp .lt 37, 3, 2, 95, 0), (61, .aload_n 0, 1, 1, 0, 0), (62, .getfield 7, 3, 3, 11, 0), (65, .bipush 95, 2, 0, 0, 0), (67, .iload_n 1, 1, 1, 0, 0), (68, .iadd, 1, 0, 0, 0), (69, .dup2, 1, 0, 0, 0), (70, .iaload, 1, 3, 0, 0), (71, .iconst 1, 1, 0, 0, 0), (72, .isub, 1, 0, 0, 0), (73, .iastore, 1, 4, 0, 0), (74, .aload_n 0, 1, 1, 0, 0), (75, .getfield 7, 3, 3, 11, 0), (78, .iconst 2, 1, 0, 0, 0), (79, .dup2, 1, 0, 0, 0), (80, .iaload, 1, 3, 0, 0), (81, .iconst 1, 1, 0, 0, 0), (82, .iadd, 1, 0, 0, 0), (83, .iastore, 1, 4, 0, 0), (84, .aload_n 0, 1, 1, 0, 0), (85, .getfield 7, 3, 3, 11, 0), (88, .bipush 8, 2, 0, 0, 0), (90, .dup2, 1, 0, 0, 0), (91, .iaload, 1, 3, 0, 0), (92, .iconst 1, 1, 0, 0, 0), (93, .iadd, 1, 0, 0, 0), (94, .iastore, 1, 4, 0, 0), (95, .return_, 1, 8, 0, 0)]
def am_ct_88 : List (Nat × Instr × Nat × Nat × Nat × Nat) := [(0, .aload_n 0, 1, 1, 0, 0), (1, .getfield 7, 3, 3, 11, 0), (4, .iconst 0, 1, 0, 0, 0), (5, .dup2, 1, 0, 0, 0), (6, .iaload, 1, 3, 0, 0), (7, .iconst 1, 1, 0, 0, 0), (8, .iadd, 1, 0, 0, 0), (9, .iastore, 1, 4, 0, 0), (10, .iconst 0, 1, 0, 0, 0), (11, .istore_n 1, 1, 1, 0, 0), (12, .iload_n 1, 1, 1, 0, 0), (13, .aload_n 0, 1, 1, 0, 0), (14, .getfield 7, 3, 3, 11, 0), (17, .iconst 3, 1, 0, 0, 0), (18, .iaload, 1, 3, 0, 0), (19, .if_icmp .ge 61, 3, 2, 80, 0), (22, .aload_n 0, 1, 1, 0, 0), (23, .iload_n 1, 1, 1, 0, 0), (24, .invokevirtual 66, 3, 7, 84, 0), (27, .istore_n 2, 1, 1, 0, 0), (28, .iload_n 2, 1, 1, 0, 0), (29, .bipush 20, 2, 0, 0, 0), (31, .if_icmp .lt 43, 3, 2, 74, 0), (34, .aload_n 0, 1, 1, 0, 0), (35, .getfield 7, 3, 3, 11, 0), (38, .bipush 95, 2, 0, 0, 0), (40, .iload_n 2, 1, 1, 0, 0), (41, .iadd, 1, 0, 0, 0), (42, .bipush 20, 2, 0, 0, 0), (44, .isub, 1, 0, 0, 0), (45, .dup2, 1, 0, 0, 0), (46, .iaload, 1, 3, 0, 0), (47, .iconst 1, 1, 0, 0, 0), (48, .iadd, 1, 0, 0, 0), (49, .iastore, 1, 4, 0, 0), (50, .aload_n 0, 1, 1, 0, 0), (51, .getfield 7, 3, 3, 11, 0), (54, .bipush 100, 2, 0, 0, 0), (56, .iload_n 2, 1, 1, 0, 0), (57, .iadd, 1, 0, 0, 0), (58, .bipush 20, 2, 0, 0, 0), (60, .isub, 1, 0, 0, 0), (61, .dup2, 1, 0, 0, 0), (62, .iaload, 1, 3, 0, 0), (63, .iconst 1, 1, 0, 0, 0), (64, .iadd, 1, 0, 0, 0), (65, .iastore, 1, 4, 0, 0), (66, .aload_n 0, 1, 1, 0, 0), (67, .iload_n 1, 1, 1, 0, 0), (68, .invokevirtual 70, 3, 7, 85, 0), (71, .goto 6, 3, 2, 77, 0), (74, .iinc 1 1, 3, 1, 0, 0), (77, .goto (-65), 3, 2, 12, 0), (80, .aload_n 0, 1, 1, 0, 0), (81, .getfield 7, 3, 3, 11, 0), (84, .iconst 0, 1, 0, 0, 0), (85, .iaload, 1, 3, 0, 0), (86, .aload_n 0, 1, 1, 0, 0), (87, .getfield 7, 3, 3, 11, 0), (90, .iconst 5, 1, 0, 0, 0), (91, .iaload, 1, 3, 0, 0), (92, .irem, 1, 0, 0, 0), (93, .ifCond .ne 34, 3, 2, 127, 0), (96, .aload_n 0, 1, 1, 0, 0), (97, .getfield 7, 3, 3, 11, 0), (100, .iconst 4, 1, 0, 0, 0), (101, .iaload, 1, 3, 0, 0), (102, .ifCond .le 25, 3, 2, 127, 0), (105, .aload_n 0, 1, 1, 0, 0), (106, .getfield 7, 3, 3, 11, 0), (109, .iconst 2, 1, 0, 0, 0), (110, .iaload, 1, 3, 0, 0), (111, .ifCond .le 16, 3, 2, 127, 0), (114, .aload_n 0, 1, 1, 0, 0), (115, .getfield 7, 3, 3, 11, 0), (118, .iconst 1, 1, 0, 0, 0), (119, .iaload, 1, 3, 0, 0), (120, .ifCond .le 7, 3, 2, 127, 0), (123, .aload_n 0, 1, 1, 0, 0), (124, .invokevirtual 73, 3, 7, 86, 0), (127, .aload_n 0, 1, 1, 0, 0), (128, .invokevirtual 76, 3, 7, 87, 0), (131, .return_, 1, 8, 0, 0)]
def am_ct_89 : List (Nat × Instr × Nat × Nat × Nat × Nat) := [(0, .aload_n 0, 1, 1, 0, 0), (1, .getfield 7, 3, 3, 11, 0), (4, .bipush 9, 2, 0, 0, 0), (6, .iaload, 1, 3, 0, 0), (7, .istore_n 2, 1, 1, 0, 0), (8, .iconst 0, 1, 0, 0, 0), (9, .istore_n 3, 1, 1, 0, 0), (10, .iload_n 3, 1, 1, 0, 0), (11, .iload_n 1, 1, 1, 0, 0), (12, .if_icmp .ge 13, 3, 2, 25, 0), (15, .aload_n 0, 1, 1, 0, 0), (16, .invokevirtual 85, 3, 7, 88, 0), (19, .iinc 3 1, 3, 1, 0, 0), (22, .goto (-12), 3, 2, 10, 0), (25, .aload_n 0, 1, 1, 0, 0), (26, .getfield 7, 3, 3, 11, 0), (29, .bipush 9, 2, 0, 0, 0), (31, .iaload, 1, 3, 0, 0), (32, .iload_n 2, 1, 1, 0, 0), (33, .isub, 1, 0, 0, 0), (34, .ireturn, 1, 8, 0, 0)]
def am_ct_90 : List (Nat × Instr × Nat × Nat × Nat × Nat) := [(0, .aload_n 0, 1, 1, 0, 0), (1, .iload_n 1, 1, 1, 0, 0), (2, .iconst 1, 1, 0, 0, 0), (3, .bipush 50, 2, 0, 0, 0), (5, .invokestatic 36, 3, 7, 26, 0), (8, .ifCond .eq 7, 3, 2, 15, 0), (11, .iconst 0, 1, 0, 0, 0), (12, .goto 4, 3, 2, 16, 0), (15, .iconst 1, 1, 0, 0, 0), (16, .invokevirtual 91, 3, 7, 29, 0), (19, .ifCond .ne 5, 3, 2, 24, 0), (22, .iconst 0, 1, 0, 0, 0), (23, .ireturn, 1, 8, 0, 0), (24, .aload_n 0, 1, 1, 0, 0), (25, .invokevirtual 94, 3, 7, 31, 0), (28, .aload_n 0, 1, 1, 0, 0), (29, .iload_n 1, 1, 1, 0, 0), (30, .invokevirtual 116, 3, 7, 89, 0), (33, .ireturn, 1, 8, 0, 0)]
def am_ct_91 : List (Nat × Instr × Nat × Nat × Nat × Nat) := [(0, .iload_n 0, 1, 1, 0, 0), (1, .ifCond .lt 12, 3, 2, 13, 0), (4, .iload_n 0, 1, 1, 0, 0), (5, .iconst 5, 1, 0, 0, 0), (6, .if_icmp .ge 7, 3, 2, 13, 0), (9, .iconst 1, 1, 0, 0, 0), (10, .goto 4, 3, 2, 14, 0), (13, .iconst 0, 1, 0, 0, 0), (14, .ireturn, 1, 8, 0, 0)]
def am_ct_92 : List (Nat × Instr × Nat × Nat × Nat × Nat) := [(0, .aload_n 0, 1, 1, 0, 0), (1, .getfield 24, 3, 3, 7, 6), (4, .iload_n 1, 1, 1, 0, 0), (5, .iconst 0, 1, 0, 0, 0), (6, .invokevirtual 80, 3, 7, 40, 0), (9, .istore_n 2, 1, 1, 0, 0), (10, .aload_n 0, 1, 1, 0, 0), (11, .dup, 1, 0, 0, 0), (12, .getfield 9, 3, 3, 7, 1), (15, .iload_n 2, 1, 1, 0, 0), (16, .iadd, 1, 0, 0, 0), (17, .putfield 9, 3, 4, 7, 1), (20, .iload_n 2, 1, 1, 0, 0), (21, .ireturn, 1, 8, 0, 0)]
def am_ct_93 : List (Nat × Instr × Nat × Nat × Nat × Nat) := [(0, .iload_n 1, 1, 1, 0, 0), (1, .invokestatic 153, 3, 7, 91, 0), (4, .ifCond .ne 13, 3, 2, 17, 0), (7, .new 102, 3, 9, 2, 0), (10, .dup, 1, 0, 0, 0), (11, .ldc 156, 2, 11, 0, 0), (13, .invokespecial 106, 3, 11, 0, 0), (16, .athrow, 1, 11, 0, 0), (17, .aload_n 0, 1, 1, 0, 0), (18, .getfield 52, 3, 3, 10, 4), (21, .aload_n 0, 1, 1, 0, 0), (22, .getfield 12, 3, 3, 10, 0), (25, .invokevirtual 87, 3, 7, 22, 0), (28, .aload_n 0, 1, 1, 0, 0), (29, .getfield 12, 3, 3, 10, 0), (32, .iload_n 1, 1, 1, 0, 0), (33, .invokevirtual 158, 3, 7, 92, 0), (36, .ireturn, 1, 8, 0, 0)]
def am_ct_94 : List (Nat × Instr × Nat × Nat × Nat × Nat) := [(0, .aload_n 2, 1, 1, 0, 0), (1, .iconst 0, 1, 0, 0, 0), (2, .aload_n 0, 1, 1, 0, 0), (3, .iload_n 1, 1, 1, 0, 0), (4, .invokevirtual 39, 3, 7, 93, 0), (7, .i2l, 1, 0, 0, 0), (8, .lastore, 1, 4, 0, 0), (9, .goto 6, 3, 2, 15, 0), (12, .astore_n 3, 1, 1, 0, 0), (13, .iconst 1, 1, 0, 0, 0), (14, .ireturn, 1, 8, 0, 0), (15, .iconst 0, 1, 0, 0, 0), (16, .ireturn, 1, 8, 0, 0)]
def am_ct_95 : List (Nat × Instr × Nat × Nat × Nat × Nat) := [(0, .aload_n 0, 1, 1, 0, 0), (1, .iload_n 1, 1, 1, 0, 0), (2, .invokestatic 44, 3, 7, 45, 0), (5, .ifCond .eq 7, 3, 2, 12, 0), (8, .iconst 0, 1, 0, 0, 0), (9, .goto 4, 3, 2, 13, 0), (12, .iconst 1, 1, 0, 0, 0), (13, .invokevirtual 91, 3, 7, 29, 0), (16, .ifCond .ne 5, 3, 2, 21, 0), (19, .iconst 0, 1, 0, 0, 0), (20, .ireturn, 1, 8, 0, 0), (21, .aload_n 0, 1, 1, 0, 0), (22, .invokevirtual 94, 3, 7, 31, 0), (25, .aload_n 0, 1, 1, 0, 0), (26, .getfield 7, 3, 3, 11, 0), (29, .bipush 95, 2, 0, 0, 0), (31, .iload_n 1, 1, 1, 0, 0), (32, .iadd, 1, 0, 0, 0), (33, .iaload, 1, 3, 0, 0), (34, .istore_n 2, 1, 1, 0, 0), (35, .aload_n 0, 1, 1, 0, 0), (36, .getfield 7, 3, 3, 11, 0), (39, .bipush 95, 2, 0, 0, 0), (41, .iload_n 1, 1, 1, 0, 0), (42, .iadd, 1, 0, 0, 0), (43, .iconst 0, 1, 0, 0, 0), (44, .iastore, 1, 4, 0, 0), (45, .aload_n 0, 1, 1, 0, 0), (46, .getfield 7, 3, 3, 11, 0), (49, .iconst 2, 1, 0, 0, 0), (50, .dup2, 1, 0, 0, 0), (51, .iaload, 1, 3, 0, 0), (52, .iload_n 2, 1, 1, 0, 0), (53, .iadd, 1, 0, 0, 0), (54, .iastore, 1, 4, 0, 0), (55, .iload_n 2, 1, 1, 0, 0), (56, .ireturn, 1, 8, 0, 0)]
def am_ct_96 : List (Nat × Instr × Nat × Nat × Nat × Nat) := [(0, .aload_n 0, 1, 1, 0, 0), (1, .getfield 32, 3, 3, 4, 0), (4, .bipush 60, 2, 0, 0, 0), (6, .if_icmp .lt 7, 3, 2, 13, 0), (9, .iconst 1, 1, 0, 0, 0), (10, .goto 4, 3, 2, 14, 0), (13, .iconst 0, 1, 0, 0, 0), (14, .ireturn, 1, 8, 0, 0)]
def am_ct_97 : List (Nat × Instr × Nat × Nat × Nat × Nat) := [(0, .aload_n 0, 1, 1, 0, 0), (1, .getfield 14, 3, 3, 4, 1), (4, .aload_n 0, 1, 1, 0, 0), (5, .getfield 32, 3, 3, 4, 0), (8, .iload_n 1, 1, 1, 0, 0), (9, .invokevirtual 36, 3, 7, 4, 0), (12, .aload_n 0, 1, 1, 0, 0), (13, .dup, 1, 0, 0, 0), (14, .getfield 32, 3, 3, 4, 0), (17, .iconst 1, 1, 0, 0, 0), (18, .iadd, 1, 0, 0, 0), (19, .putfield 32, 3, 4, 4, 0), (22, .aload_n 0, 1, 1, 0, 0), (23, .getfield 32, 3, 3, 4, 0), (26, .ireturn, 1, 8, 0, 0)]
def am_ct_98 : List (Nat × Instr × Nat × Nat × Nat × Nat) := [(0, .iload_n 1, 1, 1, 0, 0), (1, .bipush 33, 2, 0, 0, 0), (3, .if_icmp .lt 9, 3, 2, 12, 0), (6, .iload_n 1, 1, 1, 0, 0), (7, .bipush 126, 2, 0, 0, 0), (9, .if_icmp .le 13, 3, 2, 22, 0), (12, .new 69, 3, 9, 0, 0), (15, .dup, 1, 0, 0, 0), (16, .ldc 161, 2, 11, 0, 0), (18, .invokespecial 73, 3, 11, 0, 0), (21, .athrow, 1, 11, 0, 0), (22, .aload_n 0, 1, 1, 0, 0), (23, .getfield 45, 3, 3, 10, 3), (26, .invokevirtual 163, 3, 7, 96, 0), (29, .ifCond .eq 13, 3, 2, 42, 0), (32, .new 82, 3, 9, 1, 0), (35, .dup, 1, 0, 0, 0), (36, .ldc 166, 2, 11, 0, 0), (38, .invokespecial 86, 3, 11, 0, 0), (41, .athrow, 1, 11, 0, 0), (42, .aload_n 0, 1, 1, 0, 0), (43, .getfield 45, 3, 3, 10, 3), (46, .iload_n 1, 1, 1, 0, 0), (47, .invokevirtual 168, 3, 7, 97, 0), (50, .ireturn, 1, 8, 0, 0)]
def am_ct_99 : List (Nat × Instr × Nat × Nat × Nat × Nat) := [(0, .aload_n 2, 1, 1, 0, 0), (1, .iconst 0, 1, 0, 0, 0), (2, .aload_n 0, 1, 1, 0, 0), (3, .iload_n 1, 1, 1, 0, 0), (4, .invokevirtual 42, 3, 7, 98, 0), (7, .i2l, 1, 0, 0, 0), (8, .lastore, 1, 4, 0, 0), (9, .goto 9, 3, 2, 18, 0), (12, .astore_n 3, 1, 1, 0, 0), (13, .iconst 1, 1, 0, 0, 0), (14, .ireturn, 1, 8, 0, 0), (15, .astore_n 3, 1, 1, 0, 0), (16, .iconst 2, 1, 0, 0, 0), (17, .ireturn, 1, 8, 0, 0), (18, .iconst 0, 1, 0, 0, 0), (19, .ireturn, 1, 8, 0, 0)]
def am_ct_100 : List (Nat × Instr × Nat × Nat × Nat × Nat) := [(0, .aload_n 0, 1, 1, 0, 0), (1, .iload_n 1, 1, 1, 0, 0), (2, .bipush 33, 2, 0, 0, 0), (4, .bipush 126, 2, 0, 0, 0), (6, .invokestatic 36, 3, 7, 26, 0), (9, .ifCond .ne 7, 3, 2, 16, 0), (12, .iconst 1, 1, 0, 0, 0), (13, .goto 17, 3, 2, 30, 0), (16, .aload_n 0, 1, 1, 0, 0), (17, .getfield 119, 3, 3, 11, 6), (20, .bipush 60, 2, 0, 0, 0), (22, .if_icmp .ne 7, 3, 2, 29, 0), (25, .iconst 2, 1, 0, 0, 0), (26, .goto 4, 3, 2, 30, 0), (29, .iconst 0, 1, 0, 0, 0), (30, .invokevirtual 91, 3, 7, 29, 0), (33, .ifCond .ne 5, 3, 2, 38, 0), (36, .iconst 0, 1, 0, 0, 0), (37, .ireturn, 1, 8, 0, 0), (38, .aload_n 0, 1, 1, 0, 0), (39, .getfield 23, 3, 3, 11, 5), (42, .aload_n 0, 1, 1, 0, 0), (43, .getfield 119, 3, 3, 11, 6), (46, .iload_n 1, 1, 1, 0, 0), (47, .iastore, 1, 4, 0, 0), (48, .aload_n 0, 1, 1, 0, 0), (49, .dup, 1, 0, 0, 0), (50, .getfield 119, 3, 3, 11, 6), (53, .iconst 1, 1, 0, 0, 0), (54, .iadd, 1, 0, 0, 0), (55, .putfield 119, 3, 4, 11, 6), (58, .aload_n 0, 1, 1, 0, 0), (59, .getfield 119, 3, 3, 11, 6), (62, .ireturn, 1, 8, 0, 0)]
def am_ct_101 : List (Nat × Instr × Nat × Nat × Nat × Nat) := [(0, .aload_n 0, 1, 1, 0, 0), (1, .getfield 32, 3, 3, 4, 0), (4, .istore_n 1, 1, 1, 0, 0), (5, .aload_n 0, 1, 1, 0, 0), (6, .iconst 0, 1, 0, 0, 0), (7, .putfield 32, 3, 4, 4, 0), (10, .iload_n 1, 1, 1, 0, 0), (11, .ireturn, 1, 8, 0, 0)]
def am_ct_102 : List (Nat × Instr × Nat × Nat × Nat × Nat) := [(0, .aload_n 0, 1, 1, 0, 0), (1, .getfield 45, 3, 3, 10, 3), (4, .invokevirtual 171, 3, 7, 101, 0), (7, .ireturn, 1, 8, 0, 0)]
def am_ct_103 : List (Nat × Instr × Nat × Nat × Nat × Nat) := [(0, .aload_n 0, 1, 1, 0, 0), (1, .iconst 0, 1, 0, 0, 0), (2, .putfield 32, 3, 4, 11, 7), (5, .aload_n 0, 1, 1, 0, 0), (6, .getfield 119, 3, 3, 11, 6), (9, .istore_n 1, 1, 1, 0, 0), (10, .aload_n 0, 1, 1, 0, 0), (11, .iconst 0, 1, 0, 0, 0), (12, .putfield 119, 3, 4, 11, 6), (15, .iload_n 1, 1, 1, 0, 0), (16, .ireturn, 1, 8, 0, 0)]
def am_ct_104 : List (Nat × Instr × Nat × Nat × Nat × Nat) := [(0, .aload_n 0, 1, 1, 0, 0), (1, .getfield 40, 3, 3, 4, 2), (4, .tableswitch 60 2 6 #[36, 60, 58, 60, 58], 36, 2, 0, 0), (40, .aload_n 0, 1, 1, 0, 0), (41, .getfield 20, 3, 3, 4, 4), (44, .aload_n 0, 1, 1, 0, 0), (45, .getfield 43, 3, 3, 4, 3), (48, .invokevirtual 46, 3, 7, 39, 0), (51, .bipush 101, 2, 0, 0, 0), (53, .if_icmp .eq 7, 3, 2, 60, 0), (56, .iconst 1, 1, 0, 0, 0), (57, .goto 4, 3, 2, 61, 0), (60, .iconst 0, 1, 0, 0, 0), (61, .ireturn, 1, 8, 0, 0), (62, .iconst 1, 1, 0, 0, 0), (63, .ireturn, 1, 8, 0, 0), (64, .iconst 0, 1, 0, 0, 0), (65, .ireturn, 1, 8, 0, 0)]
def am_ct_105 : List (Nat × Instr × Nat × Nat × Nat × Nat) := [(0, .aload_n 0, 1, 1, 0, 0), (1, .invokevirtual 58, 3, 7, 104, 0), (4, .ifCond .ne 5, 3, 2, 9, 0), (7, .iconst 0, 1, 0, 0, 0), (8, .ireturn, 1, 8, 0, 0), (9, .aload_n 0, 1, 1, 0, 0), (10, .dup, 1, 0, 0, 0), (11, .getfield 43, 3, 3, 4, 3), (14, .iconst 1, 1, 0, 0, 0), (15, .iadd, 1, 0, 0, 0), (16, .putfield 43, 3, 4, 4, 3), (19, .aload_n 0, 1, 1, 0, 0), (20, .iconst 0, 1, 0, 0, 0), (21, .putfield 40, 3, 4, 4, 2), (24, .iconst 1, 1, 0, 0, 0), (25, .ireturn, 1, 8, 0, 0)]
def am_ct_106 : List (Nat × Instr × Nat × Nat × Nat × Nat) := [(0, .iload_n 0, 1, 1, 0, 0), (1, .lookupswitch 63 #[(100, 57), (101, 54), (102, 54), (103, 51), (116, 60)], 51, 2, 0, 0), (52, .bipush 30, 2, 0, 0, 0), (54, .ireturn, 1, 8, 0, 0), (55, .bipush 11, 2, 0, 0, 0), (57, .ireturn, 1, 8, 0, 0), (58, .bipush 40, 2, 0, 0, 0), (60, .ireturn, 1, 8, 0, 0), (61, .bipush 50, 2, 0, 0, 0), (63, .ireturn, 1, 8, 0, 0), (64, .iconst (-1), 1, 0, 0, 0), (65, .ireturn, 1, 8, 0, 0)]
def am_ct_107 : List (Nat × Instr × Nat × Nat × Nat × Nat) := [(0, .iload_n 1, 1, 1, 0, 0), (1, .invokestatic 83, 3, 7, 106, 0), (4, .ifCond .ge 5, 3, 2, 9, 0), (7, .iconst 0, 1, 0, 0, 0), (8, .ireturn, 1, 8, 0, 0), (9, .aload_n 0, 1, 1, 0, 0), (10, .getfield 20, 3, 3, 4, 4), (13, .aload_n 0, 1, 1, 0, 0), (14, .getfield 43, 3, 3, 4, 3), (17, .iload_n 1, 1, 1, 0, 0), (18, .invokevirtual 36, 3, 7, 4, 0), (21, .aload_n 0, 1, 1, 0, 0), (22, .iconst 1, 1, 0, 0, 0), (23, .putfield 40, 3, 4, 4, 2), (26, .iconst 1, 1, 0, 0, 0), (27, .ireturn, 1, 8, 0, 0)]
def am_ct_108 : List (Nat × Instr × Nat × Nat × Nat × Nat) := [(0, .iload_n 0, 1, 1, 0, 0), (1, .bipush 48, 2, 0, 0, 0), (3, .if_icmp .lt 13, 3, 2, 16, 0), (6, .iload_n 0, 1, 1, 0, 0), (7, .bipush 57, 2, 0, 0, 0), (9, .if_icmp .gt 7, 3, 2, 16, 0), (12, .iconst 1, 1, 0, 0, 0), (13, .goto 4, 3, 2, 17, 0), (16, .iconst 0, 1, 0, 0, 0), (17, .ireturn, 1, 8, 0, 0)]
def am_ct_109 : List (Nat × Instr × Nat × Nat × Nat × Nat) := [(0, .aload_n 0, 1, 1, 0, 0), (1, .getfield 20, 3, 3, 4, 4), (4, .aload_n 0, 1, 1, 0, 0), (5, .getfield 43, 3, 3, 4, 3), (8, .invokevirtual 46, 3, 7, 39, 0), (11, .istore_n 2, 1, 1, 0, 0), (12, .iload_n 2, 1, 1, 0, 0), (13, .bipush 100, 2, 0, 0, 0), (15, .if_icmp .eq 9, 3, 2, 24, 0), (18, .iload_n 2, 1, 1, 0, 0), (19, .bipush 116, 2, 0, 0, 0), (21, .if_icmp .ne 7, 3, 2, 28, 0), (24, .iconst 1, 1, 0, 0, 0), (25, .goto 4, 3, 2, 29, 0), (28, .iconst 0, 1, 0, 0, 0), (29, .istore_n 3, 1, 1, 0, 0), (30, .iload_n 1, 1, 1, 0, 0), (31, .invokestatic 86, 3, 7, 108, 0), (34, .ifCond .eq 11, 3, 2, 45, 0), (37, .iload_n 1, 1, 1, 0, 0), (38, .bipush 48, 2, 0, 0, 0), (40, .isub, 1, 0, 0, 0), (41, .iload_n 3, 1, 1, 0, 0), (42, .if_icmp .ge 5, 3, 2, 47, 0), (45, .iconst 0, 1, 0, 0, 0), (46, .ireturn, 1, 8, 0, 0), (47, .aload_n 0, 1, 1, 0, 0), (48, .getfield 23, 3, 3, 4, 5), (51, .aload_n 0, 1, 1, 0, 0), (52, .getfield 43, 3, 3, 4, 3), (55, .iload_n 1, 1, 1, 0, 0), (56, .bipush 48, 2, 0, 0, 0), (58, .isub, 1, 0, 0, 0), (59, .invokevirtual 36, 3, 7, 4, 0), (62, .aload_n 0, 1, 1, 0, 0), (63, .iconst 2, 1, 0, 0, 0), (64, .putfield 40, 3, 4, 4, 2), (67, .iconst 1, 1, 0, 0, 0), (68, .ireturn, 1, 8, 0, 0)]
def am_ct_110 : List (Nat × Instr × Nat × Nat × Nat × Nat) := [(0, .iload_n 0, 1, 1, 0, 0), (1, .ifCond .eq 23, 3, 2, 24, 0), (4, .iload_n 1, 1, 1, 0, 0), (5, .invokestatic 86, 3, 7, 108, 0), (8, .ifCond .eq 16, 3, 2, 24, 0), (11, .iload_n 0, 1, 1, 0, 0), (12, .bipush 10, 2, 0, 0, 0), (14, .imul, 1, 0, 0, 0), (15, .iload_n 1, 1, 1, 0, 0), (16, .iadd, 1, 0, 0, 0), (17, .bipush 48, 2, 0, 0, 0), (19, .isub, 1, 0, 0, 0), (20, .iload_n 2, 1, 1, 0, 0), (21, .if_icmp .le 5, 3, 2, 26, 0), (24, .iconst (-1), 1, 0, 0, 0), (25, .ireturn, 1, 8, 0, 0), (26, .iload_n 0, 1, 1, 0, 0), (27, .bipush 10, 2, 0, 0, 0), (29, .imul, 1, 0, 0, 0), (30, .iload_n 1, 1, 1, 0, 0), (31, .iadd, 1, 0, 0, 0), (32, .bipush 48, 2, 0, 0, 0), (34, .isub, 1, 0, 0, 0), (35, .ireturn, 1, 8, 0, 0)]
def am_ct_111 : List (Nat × Instr × Nat × Nat × Nat × Nat) := [(0, .iload_n 1, 1, 1, 0, 0), (1, .bipush 76, 2, 0, 0, 0), (3, .if_icmp .eq 11, 3, 2, 14, 0), (6, .iload_n 1, 1, 1, 0, 0), (7, .bipush 82, 2, 0, 0, 0), (9, .if_icmp .eq 5, 3, 2, 14, 0), (12, .iconst 0, 1, 0, 0, 0), (13, .ireturn, 1, 8, 0, 0), (14, .aload_n 0, 1, 1, 0, 0), (15, .getfield 26, 3, 3, 4, 6), (18, .aload_n 0, 1, 1, 0, 0), (19, .getfield 43, 3, 3, 4, 3), (22, .iload_n 1, 1, 1, 0, 0), (23, .bipush 76, 2, 0, 0, 0), (25, .if_icmp .ne 7, 3, 2, 32, 0), (28, .iconst 0, 1, 0, 0, 0), (29, .goto 4, 3, 2, 33, 0), (32, .iconst 1, 1, 0, 0, 0), (33, .invokevirtual 36, 3, 7, 4, 0), (36, .aload_n 0, 1, 1, 0, 0), (37, .iconst 3, 1, 0, 0, 0), (38, .putfield 40, 3, 4, 4, 2), (41, .iconst 1, 1, 0, 0, 0), (42, .ireturn, 1, 8, 0, 0)]
def am_ct_112 : List (Nat × Instr × Nat × Nat × Nat × Nat) := [(0, .aload_n 0, 1, 1, 0, 0), (1, .getfield 20, 3, 3, 4, 4), (4, .aload_n 0, 1, 1, 0, 0), (5, .getfield 43, 3, 3, 4, 3), (8, .invokevirtual 46, 3, 7, 39, 0), (11, .istore_n 2, 1, 1, 0, 0), (12, .aload_n 0, 1, 1, 0, 0), (13, .getfield 23, 3, 3, 4, 5), (16, .aload_n 0, 1, 1, 0, 0), (17, .getfield 43, 3, 3, 4, 3), (20, .invokevirtual 46, 3, 7, 39, 0), (23, .iload_n 1, 1, 1, 0, 0), (24, .iload_n 2, 1, 1, 0, 0), (25, .invokestatic 83, 3, 7, 106, 0), (28, .invokestatic 89, 3, 7, 110, 0), (31, .istore_n 3, 1, 1, 0, 0), (32, .iload_n 3, 1, 1, 0, 0), (33, .ifCond .lt 17, 3, 2, 50, 0), (36, .aload_n 0, 1, 1, 0, 0), (37, .getfield 23, 3, 3, 4, 5), (40, .aload_n 0, 1, 1, 0, 0), (41, .getfield 43, 3, 3, 4, 3), (44, .iload_n 3, 1, 1, 0, 0), (45, .invokevirtual 36, 3, 7, 4, 0), (48, .iconst 1, 1, 0, 0, 0), (49, .ireturn, 1, 8, 0, 0), (50, .iload_n 2, 1, 1, 0, 0), (51, .bipush 101, 2, 0, 0, 0), (53, .if_icmp .ne 15, 3, 2, 68, 0), (56, .aload_n 0, 1, 1, 0, 0), (57, .iload_n 1, 1, 1, 0, 0), (58, .invokevirtual 93, 3, 7, 111, 0), (61, .ifCond .eq 7, 3, 2, 68, 0), (64, .iconst 1, 1, 0, 0, 0), (65, .goto 4, 3, 2, 69, 0), (68, .iconst 0, 1, 0, 0, 0), (69, .ireturn, 1, 8, 0, 0)]
def am_ct_113 : List (Nat × Instr × Nat × Nat × Nat × Nat) := [(0, .iload_n 1, 1, 1, 0, 0), (1, .bipush 98, 2, 0, 0, 0), (3, .if_icmp .ne 10, 3, 2, 13, 0), (6, .aload_n 0, 1, 1, 0, 0), (7, .iconst 5, 1, 0, 0, 0), (8, .putfield 40, 3, 4, 4, 2), (11, .iconst 1, 1, 0, 0, 0), (12, .ireturn, 1, 8, 0, 0), (13, .iload_n 1, 1, 1, 0, 0), (14, .invokestatic 86, 3, 7, 108, 0), (17, .ifCond .ne 5, 3, 2, 22, 0), (20, .iconst 0, 1, 0, 0, 0), (21, .ireturn, 1, 8, 0, 0), (22, .aload_n 0, 1, 1, 0, 0), (23, .getfield 29, 3, 3, 4, 7), (26, .aload_n 0, 1, 1, 0, 0), (27, .getfield 43, 3, 3, 4, 3), (30, .iload_n 1, 1, 1, 0, 0), (31, .bipush 48, 2, 0, 0, 0), (33, .isub, 1, 0, 0, 0), (34, .invokevirtual 36, 3, 7, 4, 0), (37, .aload_n 0, 1, 1, 0, 0), (38, .iconst 4, 1, 0, 0, 0), (39, .putfield 40, 3, 4, 4, 2), (42, .iconst 1, 1, 0, 0, 0), (43, .ireturn, 1, 8, 0, 0)]
def am_ct_114 : List (Nat × Instr × Nat × Nat × Nat × Nat) := [(0, .aload_n 0, 1, 1, 0, 0), (1, .getfield 29, 3, 3, 4, 7), (4, .aload_n 0, 1, 1, 0, 0), (5, .getfield 43, 3, 3, 4, 3), (8, .invokevirtual 46, 3, 7, 39, 0), (11, .iload_n 1, 1, 1, 0, 0), (12, .bipush 11, 2, 0, 0, 0), (14, .invokestatic 89, 3, 7, 110, 0), (17, .istore_n 2, 1, 1, 0, 0), (18, .iload_n 2, 1, 1, 0, 0), (19, .ifCond .ge 5, 3, 2, 24, 0), (22, .iconst 0, 1, 0, 0, 0), (23, .ireturn, 1, 8, 0, 0), (24, .aload_n 0, 1, 1, 0, 0), (25, .getfield 29, 3, 3, 4, 7), (28, .aload_n 0, 1, 1, 0, 0), (29, .getfield 43, 3, 3, 4, 3), (32, .iload_n 2, 1, 1, 0, 0), (33, .invokevirtual 36, 3, 7, 4, 0), (36, .iconst 1, 1, 0, 0, 0), (37, .ireturn, 1, 8, 0, 0)]
def am_ct_115 : List (Nat × Instr × Nat × Nat × Nat × Nat) := [(0, .iload_n 1, 1, 1, 0, 0), (1, .invokestatic 86, 3, 7, 108, 0), (4, .ifCond .eq 11, 3, 2, 15, 0), (7, .iload_n 1, 1, 1, 0, 0), (8, .bipush 48, 2, 0, 0, 0), (10, .isub, 1, 0, 0, 0), (11, .iconst 5, 1, 0, 0, 0), (12, .if_icmp .lt 5, 3, 2, 17, 0), (15, .iconst 0, 1, 0, 0, 0), (16, .ireturn, 1, 8, 0, 0), (17, .aload_n 0, 1, 1, 0, 0), (18, .getfield 29, 3, 3, 4, 7), (21, .aload_n 0, 1, 1, 0, 0), (22, .getfield 43, 3, 3, 4, 3), (25, .bipush 20, 2, 0, 0, 0), (27, .iload_n 1, 1, 1, 0, 0), (28, .iadd, 1, 0, 0, 0), (29, .bipush 48, 2, 0, 0, 0), (31, .isub, 1, 0, 0, 0), (32, .invokevirtual 36, 3, 7, 4, 0), (35, .aload_n 0, 1, 1, 0, 0), (36, .bipush 6, 2, 0, 0, 0), (38, .putfield 40, 3, 4, 4, 2), (41, .iconst 1, 1, 0, 0, 0), (42, .ireturn, 1, 8, 0, 0)]
def am_ct_116 : List (Nat × Instr × Nat × Nat × Nat × Nat) := [(0, .iload_n 1, 1, 1, 0, 0), (1, .bipush 59, 2, 0, 0, 0), (3, .if_icmp .ne 8, 3, 2, 11, 0), (6, .aload_n 0, 1, 1, 0, 0), (7, .invokevirtual 62, 3, 7, 105, 0), (10, .ireturn, 1, 8, 0, 0), (11, .aload_n 0, 1, 1, 0, 0), (12, .getfield 40, 3, 3, 4, 2), (15, .tableswitch 73 0 5 #[37, 43, 49, 55, 61, 67], 37, 2, 0, 0), (52, .aload_n 0, 1, 1, 0, 0), (53, .iload_n 1, 1, 1, 0, 0), (54, .invokevirtual 65, 3, 7, 107, 0), (57, .ireturn, 1, 8, 0, 0), (58, .aload_n 0, 1, 1, 0, 0), (59, .iload_n 1, 1, 1, 0, 0), (60, .invokevirtual 68, 3, 7, 109, 0), (63, .ireturn, 1, 8, 0, 0), (64, .aload_n 0, 1, 1, 0, 0), (65, .iload_n 1, 1, 1, 0, 0), (66, .invokevirtual 71, 3, 7, 112, 0), (69, .ireturn, 1, 8, 0, 0), (70, .aload_n 0, 1, 1, 0, 0), (71, .iload_n 1, 1, 1, 0, 0), (72, .invokevirtual 74, 3, 7, 113, 0), (75, .ireturn, 1, 8, 0, 0), (76, .aload_n 0, 1, 1, 0, 0), (77, .iload_n 1, 1, 1, 0, 0), (78, .invokevirtual 77, 3, 7, 114, 0), (81, .ireturn, 1, 8, 0, 0), (82, .aload_n 0, 1, 1, 0, 0), (83, .iload_n 1, 1, 1, 0, 0), (84, .invokevirtual 80, 3, 7, 115, 0), (87, .ireturn, 1, 8, 0, 0), (88, .iconst 0, 1, 0, 0, 0), (89, .ireturn, 1, 8, 0, 0)]
def am_ct_117 : List (Nat × Instr × Nat × Nat × Nat × Nat) := [(0, .aload_n 0, 1, 1, 0, 0), (1, .iconst 0, 1, 0, 0, 0), (2, .putfield 40, 3, 4, 4, 2), (5, .aload_n 0, 1, 1, 0, 0), (6, .iconst 0, 1, 0, 0, 0), (7, .putfield 43, 3, 4, 4, 3), (10, .iconst 0, 1, 0, 0, 0), (11, .istore_n 1, 1, 1, 0, 0), (12, .iload_n 1, 1, 1, 0, 0), (13, .aload_n 0, 1, 1, 0, 0), (14, .getfield 32, 3, 3, 4, 0), (17, .if_icmp .ge 26, 3, 2, 43, 0), (20, .aload_n 0, 1, 1, 0, 0), (21, .aload_n 0, 1, 1, 0, 0), (22, .getfield 14, 3, 3, 4, 1), (25, .iload_n 1, 1, 1, 0, 0), (26, .invokevirtual 46, 3, 7, 39, 0), (29, .invokevirtual 50, 3, 7, 116, 0), (32, .ifCond .ne 5, 3, 2, 37, 0), (35, .iload_n 1, 1, 1, 0, 0), (36, .ireturn, 1, 8, 0, 0), (37, .iinc 1 1, 3, 1, 0, 0), (40, .goto (-28), 3, 2, 12, 0), (43, .aload_n 0, 1, 1, 0, 0), (44, .getfield 32, 3, 3, 4, 0), (47, .ireturn, 1, 8, 0, 0)]
def am_ct_118 : List (Nat × Instr × Nat × Nat × Nat × Nat) := [(0, .aload_n 0, 1, 1, 0, 0), (1, .getfield 45, 3, 3, 10, 3), (4, .invokevirtual 175, 3, 7, 117, 0), (7, .ireturn, 1, 8, 0, 0)]
def am_ct_119 : List (Nat × Instr × Nat × Nat × Nat × Nat) := [(0, .aload_n 0, 1, 1, 0, 0), (1, .getfield 122, 3, 3, 11, 9), (4, .aload_n 0, 1, 1, 0, 0), (5, .getfield 119, 3, 3, 11, 6), (8, .if_icmp .ge 24, 3, 2, 32, 0), (11, .aload_n 0, 1, 1, 0, 0), (12, .getfield 23, 3, 3, 11, 5), (15, .aload_n 0, 1, 1, 0, 0), (16, .getfield 122, 3, 3, 11, 9), (19, .iaload, 1, 3, 0, 0), (20, .iload_n 1, 1, 1, 0, 0), (21, .iload_n 2, 1, 1, 0, 0), (22, .invokestatic 36, 3, 7, 26, 0), (25, .ifCond .eq 7, 3, 2, 32, 0), (28, .iconst 1, 1, 0, 0, 0), (29, .goto 4, 3, 2, 33, 0), (32, .iconst 0, 1, 0, 0, 0), (33, .ireturn, 1, 8, 0, 0)]
def am_ct_120 : List (Nat × Instr × Nat × Nat × Nat × Nat) := [(0, .aload_n 0, 1, 1, 0, 0), (1, .bipush 48, 2, 0, 0, 0), (3, .iload_n 2, 1, 1, 0, 0), (4, .iadd, 1, 0, 0, 0), (5, .bipush 57, 2, 0, 0, 0), (7, .invokevirtual 125, 3, 7, 119, 0), (10, .ifCond .eq 19, 3, 2, 29, 0), (13, .aload_n 0, 1, 1, 0, 0), (14, .getfield 23, 3, 3, 11, 5), (17, .aload_n 0, 1, 1, 0, 0), (18, .getfield 122, 3, 3, 11, 9), (21, .iaload, 1, 3, 0, 0), (22, .bipush 48, 2, 0, 0, 0), (24, .isub, 1, 0, 0, 0), (25, .iload_n 3, 1, 1, 0, 0), (26, .if_icmp .le 5, 3, 2, 31, 0), (29, .iconst 0, 1, 0, 0, 0), (30, .ireturn, 1, 8, 0, 0), (31, .aload_n 0, 1, 1, 0, 0), (32, .getfield 23, 3, 3, 11, 5), (35, .aload_n 0, 1, 1, 0, 0), (36, .getfield 122, 3, 3, 11, 9), (39, .iaload, 1, 3, 0, 0), (40, .bipush 48, 2, 0, 0, 0), (42, .isub, 1, 0, 0, 0), (43, .istore 4, 2, 1, 0, 0), (45, .aload_n 0, 1, 1, 0, 0), (46, .dup, 1, 0, 0, 0), (47, .getfield 122, 3, 3, 11, 9), (50, .iconst 1, 1, 0, 0, 0), (51, .iadd, 1, 0, 0, 0), (52, .putfield 122, 3, 4, 11, 9), (55, .iload 4, 2, 1, 0, 0), (57, .ifCond .le 69, 3, 2, 126, 0), (60, .aload_n 0, 1, 1, 0, 0), (61, .bipush 48, 2, 0, 0, 0), (63, .bipush 57, 2, 0, 0, 0), (65, .invokevirtual 125, 3, 7, 119, 0), (68, .ifCond .eq 58, 3, 2, 126, 0), (71, .bipush 10, 2, 0, 0, 0), (73, .iload 4, 2, 1, 0, 0), (75, .imul, 1, 0, 0, 0), (76, .aload_n 0, 1, 1, 0, 0), (77, .getfield 23, 3, 3, 11, 5), (80, .aload_n 0, 1, 1, 0, 0), (81, .getfield 122, 3, 3, 11, 9), (84, .iaload, 1, 3, 0, 0), (85, .iadd, 1, 0, 0, 0), (86, .bipush 48, 2, 0, 0, 0), (88, .isub, 1, 0, 0, 0), (89, .iload_n 3, 1, 1, 0, 0), (90, .if_icmp .gt 36, 3, 2, 126, 0), (93, .bipush 10, 2, 0, 0, 0), (95, .iload 4, 2, 1, 0, 0), (97, .imul, 1, 0, 0, 0), (98, .aload_n 0, 1, 1, 0, 0), (99, .getfield 23, 3, 3, 11, 5), (102, .aload_n 0, 1, 1, 0, 0), (103, .getfield 122, 3, 3, 11, 9), (106, .iaload, 1, 3, 0, 0), (107, .iadd, 1, 0, 0, 0), (108, .bipush 48, 2, 0, 0, 0), (110, .isub, 1, 0, 0, 0), (111, .istore 4, 2, 1, 0, 0), (113, .aload_n 0, 1, 1, 0, 0), (114, .dup, 1, 0, 0, 0), (115, .getfield 122, 3, 3, 11, 9), (118, .iconst 1, 1, 0, 0, 0), (119, .iadd, 1, 0, 0, 0), (120, .putfield 122, 3, 4, 11, 9), (123, .goto (-68), 3, 2, 55, 0), (126, .aload_n 0, 1, 1, 0, 0), (127, .getfield 29, 3, 3, 11, 11), (130, .iload_n 1, 1, 1, 0, 0), (131, .iload 4, 2, 1, 0, 0), (133, .iastore, 1, 4, 0, 0), (134, .iconst 1, 1, 0, 0, 0), (135, .ireturn, 1, 8, 0, 0)]
def am_ct_121 : List (Nat × Instr × Nat × Nat × Nat × Nat) := [(0, .aload_n 0, 1, 1, 0, 0), (1, .iload_n 1, 1, 1, 0, 0), (2, .iload_n 1, 1, 1, 0, 0), (3, .invokevirtual 125, 3, 7, 119, 0), (6, .istore_n 2, 1, 1, 0, 0), (7, .aload_n 0, 1, 1, 0, 0), (8, .dup, 1, 0, 0, 0), (9, .getfield 122, 3, 3, 11, 9), (12, .iload_n 2, 1, 1, 0, 0), (13, .ifCond .eq 7, 3, 2, 20, 0), (16, .iconst 1, 1, 0, 0, 0), (17, .goto 4, 3, 2, 21, 0), (20, .iconst 0, 1, 0, 0, 0), (21, .iadd, 1, 0, 0, 0), (22, .putfield 122, 3, 4, 11, 9), (25, .iload_n 2, 1, 1, 0, 0), (26, .ireturn, 1, 8, 0, 0)]
def am_ct_122 : List (Nat × Instr × Nat × Nat × Nat × Nat) := [(0, .aload_n 0, 1, 1, 0, 0), (1, .iconst 0, 1, 0, 0, 0), (2, .iconst 0, 1, 0, 0, 0), (3, .bipush 11, 2, 0, 0, 0), (5, .invokevirtual 129, 3, 7, 120, 0), (8, .ifCond .ne 5, 3, 2, 13, 0), (11, .iconst 0, 1, 0, 0, 0), (12, .ireturn, 1, 8, 0, 0), (13, .aload_n 0, 1, 1, 0, 0), (14, .getfield 29, 3, 3, 11, 11), (17, .iconst 1, 1, 0, 0, 0), (18, .aload_n 0, 1, 1, 0, 0), (19, .bipush 76, 2, 0, 0, 0), (21, .invokevirtual 132, 3, 7, 121, 0), (24, .ifCond .eq 7, 3, 2, 31, 0), (27, .iconst 0, 1, 0, 0, 0), (28, .goto 17, 3, 2, 45, 0), (31, .aload_n 0, 1, 1, 0, 0), (32, .bipush 82, 2, 0, 0, 0), (34, .invokevirtual 132, 3, 7, 121, 0), (37, .ifCond .eq 7, 3, 2, 44, 0), (40, .iconst 1, 1, 0, 0, 0), (41, .goto 4, 3, 2, 45, 0), (44, .iconst (-1), 1, 0, 0, 0), (45, .iastore, 1, 4, 0, 0), (46, .aload_n 0, 1, 1, 0, 0), (47, .getfield 29, 3, 3, 11, 11), (50, .iconst 1, 1, 0, 0, 0), (51, .iaload, 1, 3, 0, 0), (52, .iconst (-1), 1, 0, 0, 0), (53, .if_icmp .ne 5, 3, 2, 58, 0), (56, .iconst 0, 1, 0, 0, 0), (57, .ireturn, 1, 8, 0, 0), (58, .aload_n 0, 1, 1, 0, 0), (59, .bipush 98, 2, 0, 0, 0), (61, .invokevirtual 132, 3, 7, 121, 0), (64, .ifCond .ne 12, 3, 2, 76, 0), (67, .aload_n 0, 1, 1, 0, 0), (68, .iconst 2, 1, 0, 0, 0), (69, .iconst 0, 1, 0, 0, 0), (70, .bipush 11, 2, 0, 0, 0), (72, .invokevirtual 129, 3, 7, 120, 0), (75, .ireturn, 1, 8, 0, 0), (76, .aload_n 0, 1, 1, 0, 0), (77, .iconst 2, 1, 0, 0, 0), (78, .iconst 0, 1, 0, 0, 0), (79, .iconst 4, 1, 0, 0, 0), (80, .invokevirtual 129, 3, 7, 120, 0), (83, .istore_n 1, 1, 1, 0, 0), (84, .aload_n 0, 1, 1, 0, 0), (85, .getfield 29, 3, 3, 11, 11), (88, .iconst 2, 1, 0, 0, 0), (89, .dup2, 1, 0, 0, 0), (90, .iaload, 1, 3, 0, 0), (91, .bipush 20, 2, 0, 0, 0), (93, .iadd, 1, 0, 0, 0), (94, .iastore, 1, 4, 0, 0), (95, .iload_n 1, 1, 1, 0, 0), (96, .ireturn, 1, 8, 0, 0)]
def am_ct_123 : List (Nat × Instr × Nat × Nat × Nat × Nat) := [(0, .aload_n 0, 1, 1, 0, 0), (1, .aload_n 0, 1, 1, 0, 0), (2, .getfield 122, 3, 3, 11, 9), (5, .aload_n 0, 1, 1, 0, 0), (6, .getfield 119, 3, 3, 11, 6), (9, .if_icmp .ge 15, 3, 2, 24, 0), (12, .aload_n 0, 1, 1, 0, 0), (13, .getfield 23, 3, 3, 11, 5), (16, .aload_n 0, 1, 1, 0, 0), (17, .getfield 122, 3, 3, 11, 9), (20, .iaload, 1, 3, 0, 0), (21, .goto 4, 3, 2, 25, 0), (24, .iconst 0, 1, 0, 0, 0), (25, .putfield 135, 3, 4, 11, 10), (28, .aload_n 0, 1, 1, 0, 0), (29, .dup, 1, 0, 0, 0), (30, .getfield 122, 3, 3, 11, 9), (33, .iconst 1, 1, 0, 0, 0), (34, .iadd, 1, 0, 0, 0), (35, .putfield 122, 3, 4, 11, 9), (38, .aload_n 0, 1, 1, 0, 0), (39, .getfield 135, 3, 3, 11, 10), (42, .lookupswitch 91 #[(100, 64), (101, 59), (102, 82), (103, 50), (116, 73)], 50, 2, 0, 0), (92, .aload_n 0, 1, 1, 0, 0), (93, .iconst 0, 1, 0, 0, 0), (94, .iconst 0, 1, 0, 0, 0), (95, .bipush 30, 2, 0, 0, 0), (97, .invokevirtual 129, 3, 7, 120, 0), (100, .ireturn, 1, 8, 0, 0), (101, .aload_n 0, 1, 1, 0, 0), (102, .invokevirtual 138, 3, 7, 122, 0), (105, .ireturn, 1, 8, 0, 0), (106, .aload_n 0, 1, 1, 0, 0), (107, .iconst 0, 1, 0, 0, 0), (108, .iconst 1, 1, 0, 0, 0), (109, .bipush 40, 2, 0, 0, 0), (111, .invokevirtual 129, 3, 7, 120, 0), (114, .ireturn, 1, 8, 0, 0), (115, .aload_n 0, 1, 1, 0, 0), (116, .iconst 0, 1, 0, 0, 0), (117, .iconst 1, 1, 0, 0, 0), (118, .bipush 50, 2, 0, 0, 0), (120, .invokevirtual 129, 3, 7, 120, 0), (123, .ireturn, 1, 8, 0, 0), (124, .aload_n 0, 1, 1, 0, 0), (125, .iconst 0, 1, 0, 0, 0), (126, .iconst 0, 1, 0, 0, 0), (127, .bipush 11, 2, 0, 0, 0), (129, .invokevirtual 129, 3, 7, 120, 0), (132, .ireturn, 1, 8, 0, 0), (133, .aload_n 0, 1, 1, 0, 0), (134, .dup, 1, 0, 0, 0), (135, .getfield 122, 3, 3, 11, 9), (138, .iconst 1, 1, 0, 0, 0), (139, .isub, 1, 0, 0, 0), (140, .putfield 122, 3, 4, 11, 9), (143, .iconst 0, 1, 0, 0, 0), (144, .ireturn, 1, 8, 0, 0)]
def am_ct_124 : List (Nat × Instr × Nat × Nat × Nat × Nat) := [(0, .aload_n 0, 1, 1, 0, 0), (1, .getfield 135, 3, 3, 11, 10), (4, .lookupswitch 115 #[(100, 94), (101, 63), (103, 44), (116, 113)], 44, 2, 0, 0), (48, .aload_n 0, 1, 1, 0, 0), (49, .aload_n 0, 1, 1, 0, 0), (50, .getfield 29, 3, 3, 11, 11), (53, .iconst 0, 1, 0, 0, 0), (54, .iaload, 1, 3, 0, 0), (55, .invokevirtual 88, 3, 7, 28, 0), (58, .ifCond .ne 7, 3, 2, 65, 0), (61, .iconst 1, 1, 0, 0, 0), (62, .goto 4, 3, 2, 66, 0), (65, .iconst 0, 1, 0, 0, 0), (66, .ireturn, 1, 8, 0, 0), (67, .aload_n 0, 1, 1, 0, 0), (68, .aload_n 0, 1, 1, 0, 0), (69, .getfield 29, 3, 3, 11, 11), (72, .iconst 0, 1, 0, 0, 0), (73, .iaload, 1, 3, 0, 0), (74, .aload_n 0, 1, 1, 0, 0), (75, .getfield 29, 3, 3, 11, 11), (78, .iconst 1, 1, 0, 0, 0), (79, .iaload, 1, 3, 0, 0), (80, .aload_n 0, 1, 1, 0, 0), (81, .getfield 29, 3, 3, 11, 11), (84, .iconst 2, 1, 0, 0, 0), (85, .iaload, 1, 3, 0, 0), (86, .invokevirtual 100, 3, 7, 47, 0), (89, .ifCond .ne 7, 3, 2, 96, 0), (92, .iconst 1, 1, 0, 0, 0), (93, .goto 4, 3, 2, 97, 0), (96, .iconst 0, 1, 0, 0, 0), (97, .ireturn, 1, 8, 0, 0), (98, .aload_n 0, 1, 1, 0, 0), (99, .aload_n 0, 1, 1, 0, 0), (100, .getfield 29, 3, 3, 11, 11), (103, .iconst 0, 1, 0, 0, 0), (104, .iaload, 1, 3, 0, 0), (105, .invokevirtual 110, 3, 7, 68, 0), (108, .ifCond .ne 7, 3, 2, 115, 0), (111, .iconst 1, 1, 0, 0, 0), (112, .goto 4, 3, 2, 116, 0), (115, .iconst 0, 1, 0, 0, 0), (116, .ireturn, 1, 8, 0, 0), (117, .iconst 1, 1, 0, 0, 0), (118, .ireturn, 1, 8, 0, 0), (119, .aload_n 0, 1, 1, 0, 0), (120, .aload_n 0, 1, 1, 0, 0), (121, .getfield 29, 3, 3, 11, 11), (124, .iconst 0, 1, 0, 0, 0), (125, .iaload, 1, 3, 0, 0), (126, .invokevirtual 40, 3, 7, 44, 0), (129, .ireturn, 1, 8, 0, 0)]
def am_ct_125 : List (Nat × Instr × Nat × Nat × Nat × Nat) := [(0, .aload_n 0, 1, 1, 0, 0), (1, .getfield 135, 3, 3, 11, 10), (4, .lookupswitch 100 #[(100, 78), (101, 55), (103, 44), (116, 89)], 44, 2, 0, 0), (48, .aload_n 0, 1, 1, 0, 0), (49, .aload_n 0, 1, 1, 0, 0), (50, .getfield 29, 3, 3, 11, 11), (53, .iconst 0, 1, 0, 0, 0), (54, .iaload, 1, 3, 0, 0), (55, .invokevirtual 97, 3, 7, 33, 0), (58, .ireturn, 1, 8, 0, 0), (59, .aload_n 0, 1, 1, 0, 0), (60, .aload_n 0, 1, 1, 0, 0), (61, .getfield 29, 3, 3, 11, 11), (64, .iconst 0, 1, 0, 0, 0), (65, .iaload, 1, 3, 0, 0), (66, .aload_n 0, 1, 1, 0, 0), (67, .getfield 29, 3, 3, 11, 11), (70, .iconst 1, 1, 0, 0, 0), (71, .iaload, 1, 3, 0, 0), (72, .aload_n 0, 1, 1, 0, 0), (73, .getfield 29, 3, 3, 11, 11), (76, .iconst 2, 1, 0, 0, 0), (77, .iaload, 1, 3, 0, 0), (78, .invokevirtual 104, 3, 7, 49, 0), (81, .ireturn, 1, 8, 0, 0), (82, .aload_n 0, 1, 1, 0, 0), (83, .aload_n 0, 1, 1, 0, 0), (84, .getfield 29, 3, 3, 11, 11), (87, .iconst 0, 1, 0, 0, 0), (88, .iaload, 1, 3, 0, 0), (89, .invokevirtual 113, 3, 7, 69, 0), (92, .ireturn, 1, 8, 0, 0), (93, .aload_n 0, 1, 1, 0, 0), (94, .aload_n 0, 1, 1, 0, 0), (95, .getfield 29, 3, 3, 11, 11), (98, .iconst 0, 1, 0, 0, 0), (99, .iaload, 1, 3, 0, 0), (100, .invokevirtual 116, 3, 7, 89, 0), (103, .ireturn, 1, 8, 0, 0), (104, .aload_n 0, 1, 1, 0, 0), (105, .aload_n 0, 1, 1, 0, 0), (106, .getfield 29, 3, 3, 11, 11), (109, .iconst 0, 1, 0, 0, 0), (110, .iaload, 1, 3, 0, 0), (111, .invokevirtual 107, 3, 7, 59, 0), (114, .ireturn, 1, 8, 0, 0)]
def am_ct_126 : List (Nat × Instr × Nat × Nat × Nat × Nat) := [(0, .aload_n 0, 1, 1, 0, 0), (1, .iconst 0, 1, 0, 0, 0), (2, .putfield 122, 3, 4, 11, 9), (5, .aload_n 0, 1, 1, 0, 0), (6, .iconst 0, 1, 0, 0, 0), (7, .putfield 142, 3, 4, 11, 12), (10, .aload_n 0, 1, 1, 0, 0), (11, .invokevirtual 145, 3, 7, 123, 0), (14, .istore_n 2, 1, 1, 0, 0), (15, .iload_n 2, 1, 1, 0, 0), (16, .ifCond .eq 69, 3, 2, 85, 0), (19, .iload_n 1, 1, 1, 0, 0), (20, .ifCond .eq 17, 3, 2, 37, 0), (23, .aload_n 0, 1, 1, 0, 0), (24, .invokevirtual 148, 3, 7, 124, 0), (27, .ifCond .ne 5, 3, 2, 32, 0), (30, .iconst 1, 1, 0, 0, 0), (31, .ireturn, 1, 8, 0, 0), (32, .aload_n 0, 1, 1, 0, 0), (33, .invokevirtual 151, 3, 7, 125, 0), (36, .pop, 1, 0, 0, 0), (37, .aload_n 0, 1, 1, 0, 0), (38, .dup, 1, 0, 0, 0), (39, .getfield 142, 3, 3, 11, 12), (42, .iconst 1, 1, 0, 0, 0), (43, .iadd, 1, 0, 0, 0), (44, .putfield 142, 3, 4, 11, 12), (47, .aload_n 0, 1, 1, 0, 0), (48, .getfield 122, 3, 3, 11, 9), (51, .aload_n 0, 1, 1, 0, 0), (52, .getfield 119, 3, 3, 11, 6), (55, .if_icmp .ne 5, 3, 2, 60, 0), (58, .iconst 1, 1, 0, 0, 0), (59, .ireturn, 1, 8, 0, 0), (60, .aload_n 0, 1, 1, 0, 0), (61, .bipush 59, 2, 0, 0, 0), (63, .invokevirtual 132, 3, 7, 121, 0), (66, .ifCond .eq 14, 3, 2, 80, 0), (69, .aload_n 0, 1, 1, 0, 0), (70, .invokevirtual 145, 3, 7, 123, 0), (73, .ifCond .eq 7, 3, 2, 80, 0), (76, .iconst 1, 1, 0, 0, 0), (77, .goto 4, 3, 2, 81, 0), (80, .iconst 0, 1, 0, 0, 0), (81, .istore_n 2, 1, 1, 0, 0), (82, .goto (-67), 3, 2, 15, 0), (85, .iconst 0, 1, 0, 0, 0), (86, .ireturn, 1, 8, 0, 0)]
def am_ct_127 : List (Nat × Instr × Nat × Nat × Nat × Nat) := [(0, .aload_n 0, 1, 1, 0, 0), (1, .iconst 0, 1, 0, 0, 0), (2, .putfield 32, 3, 4, 11, 7), (5, .aload_n 0, 1, 1, 0, 0), (6, .iconst 0, 1, 0, 0, 0), (7, .invokevirtual 155, 3, 7, 126, 0), (10, .ifCond .eq 10, 3, 2, 20, 0), (13, .aload_n 0, 1, 1, 0, 0), (14, .getfield 119, 3, 3, 11, 6), (17, .goto 7, 3, 2, 24, 0), (20, .aload_n 0, 1, 1, 0, 0), (21, .getfield 122, 3, 3, 11, 9), (24, .ireturn, 1, 8, 0, 0)]
def am_ct_128 : List (Nat × Instr × Nat × Nat × Nat × Nat) := [(0, .aload_n 0, 1, 1, 0, 0), (1, .invokevirtual 54, 3, 7, 117, 0), (4, .aload_n 0, 1, 1, 0, 0), (5, .getfield 32, 3, 3, 4, 0), (8, .if_icmp .ne 14, 3, 2, 22, 0), (11, .aload_n 0, 1, 1, 0, 0), (12, .invokevirtual 58, 3, 7, 104, 0), (15, .ifCond .eq 7, 3, 2, 22, 0), (18, .iconst 1, 1, 0, 0, 0), (19, .goto 4, 3, 2, 23, 0), (22, .iconst 0, 1, 0, 0, 0), (23, .ireturn, 1, 8, 0, 0)]
def am_ct_129 : List (Nat × Instr × Nat × Nat × Nat × Nat) := [(0, .aload_n 0, 1, 1, 0, 0), (1, .getfield 43, 3, 3, 4, 3), (4, .iconst 1, 1, 0, 0, 0), (5, .iadd, 1, 0, 0, 0), (6, .ireturn, 1, 8, 0, 0)]
def am_ct_130 : List (Nat × Instr × Nat × Nat × Nat × Nat) := [(0, .aload_n 0, 1, 1, 0, 0), (1, .getfield 23, 3, 3, 4, 5), (4, .iload_n 1, 1, 1, 0, 0), (5, .invokevirtual 46, 3, 7, 39, 0), (8, .ireturn, 1, 8, 0, 0)]
def am_ct_131 : List (Nat × Instr × Nat × Nat × Nat × Nat) := [(0, .aload_n 0, 1, 1, 0, 0), (1, .getfield 20, 3, 3, 4, 4), (4, .iload_n 1, 1, 1, 0, 0), (5, .invokevirtual 46, 3, 7, 39, 0), (8, .ireturn, 1, 8, 0, 0)]
def am_ct_132 : List (Nat × Instr × Nat × Nat × Nat × Nat) := [(0, .aload_n 0, 1, 1, 0, 0), (1, .getfield 29, 3, 3, 4, 7), (4, .iload_n 1, 1, 1, 0, 0), (5, .invokevirtual 46, 3, 7, 39, 0), (8, .ireturn, 1, 8, 0, 0)]
def am_ct_133 : List (Nat × Instr × Nat × Nat × Nat × Nat) := [(0, .aload_n 0, 1, 1, 0, 0), (1, .getfield 45, 3, 3, 10, 3), (4, .iload_n 1, 1, 1, 0, 0), (5, .invokevirtual 195, 3, 7, 131, 0), (8, .lookupswitch 114 #[(100, 103), (101, 55), (103, 44), (116, 112)], 44, 2, 0, 0), (52, .aload_n 0, 1, 1, 0, 0), (53, .getfield 12, 3, 3, 10, 0), (56, .getfield 18, 3, 3, 107, 8), (59, .invokevirtual 76, 3, 7, 14, 0), (62, .ireturn, 1, 8, 0, 0), (63, .aload_n 0, 1, 1, 0, 0), (64, .getfield 45, 3, 3, 10, 3), (67, .iload_n 1, 1, 1, 0, 0), (68, .invokevirtual 201, 3, 7, 132, 0), (71, .istore_n 3, 1, 1, 0, 0), (72, .aload_n 0, 1, 1, 0, 0), (73, .getfield 12, 3, 3, 10, 0), (76, .getfield 18, 3, 3, 107, 8), (79, .iload_n 2, 1, 1, 0, 0), (80, .invokevirtual 113, 3, 7, 36, 0), (83, .ifCond .eq 26, 3, 2, 109, 0), (86, .aload_n 0, 1, 1, 0, 0), (87, .getfield 12, 3, 3, 10, 0), (90, .getfield 18, 3, 3, 107, 8), (93, .iload_n 3, 1, 1, 0, 0), (94, .invokevirtual 99, 3, 7, 38, 0), (97, .ifCond .eq 12, 3, 2, 109, 0), (100, .iload_n 3, 1, 1, 0, 0), (101, .iload_n 2, 1, 1, 0, 0), (102, .if_icmp .le 7, 3, 2, 109, 0), (105, .iconst 1, 1, 0, 0, 0), (106, .goto 4, 3, 2, 110, 0), (109, .iconst 0, 1, 0, 0, 0), (110, .ireturn, 1, 8, 0, 0), (111, .aload_n 0, 1, 1, 0, 0), (112, .getfield 12, 3, 3, 10, 0), (115, .iload_n 2, 1, 1, 0, 0), (116, .invokevirtual 140, 3, 7, 64, 0), (119, .ireturn, 1, 8, 0, 0), (120, .iconst 1, 1, 0, 0, 0), (121, .ireturn, 1, 8, 0, 0), (122, .aload_n 0, 1, 1, 0, 0), (123, .getfield 12, 3, 3, 10, 0), (126, .getfield 18, 3, 3, 107, 8), (129, .iload_n 2, 1, 1, 0, 0), (130, .invokevirtual 113, 3, 7, 36, 0), (133, .ireturn, 1, 8, 0, 0)]
def am_ct_134 : List (Nat × Instr × Nat × Nat × Nat × Nat) := [(0, .aload_n 0, 1, 1, 0, 0), (1, .getfield 26, 3, 3, 4, 6), (4, .iload_n 1, 1, 1, 0, 0), (5, .invokevirtual 46, 3, 7, 39, 0), (8, .ireturn, 1, 8, 0, 0)]
def am_ct_135 : List (Nat × Instr × Nat × Nat × Nat × Nat) := [(0, .aload_n 0, 1, 1, 0, 0), (1, .getfield 45, 3, 3, 10, 3), (4, .iload_n 1, 1, 1, 0, 0), (5, .invokevirtual 189, 3, 7, 130, 0), (8, .istore_n 2, 1, 1, 0, 0), (9, .aload_n 0, 1, 1, 0, 0), (10, .iload_n 1, 1, 1, 0, 0), (11, .iload_n 2, 1, 1, 0, 0), (12, .invokevirtual 192, 3, 7, 133, 0), (15, .ifCond .ne 5, 3, 2, 20, 0), (18, .iconst 0, 1, 0, 0, 0), (19, .ireturn, 1, 8, 0, 0), (20, .aload_n 0, 1, 1, 0, 0), (21, .getfield 45, 3, 3, 10, 3), (24, .iload_n 1, 1, 1, 0, 0), (25, .invokevirtual 195, 3, 7, 131, 0), (28, .lookupswitch 114 #[(100, 90), (101, 59), (103, 44), (116, 102)], 44, 2, 0, 0), (72, .aload_n 0, 1, 1, 0, 0), (73, .getfield 12, 3, 3, 10, 0), (76, .getfield 18, 3, 3, 107, 8), (79, .iload_n 2, 1, 1, 0, 0), (80, .invokevirtual 91, 3, 7, 23, 0), (83, .pop, 1, 0, 0, 0), (84, .goto 70, 3, 2, 154, 0), (87, .aload_n 0, 1, 1, 0, 0), (88, .getfield 12, 3, 3, 10, 0), (91, .getfield 18, 3, 3, 107, 8), (94, .iload_n 2, 1, 1, 0, 0), (95, .aload_n 0, 1, 1, 0, 0), (96, .getfield 45, 3, 3, 10, 3), (99, .iload_n 1, 1, 1, 0, 0), (100, .invokevirtual 198, 3, 7, 134, 0), (103, .aload_n 0, 1, 1, 0, 0), (104, .getfield 45, 3, 3, 10, 3), (107, .iload_n 1, 1, 1, 0, 0), (108, .invokevirtual 201, 3, 7, 132, 0), (111, .invokevirtual 109, 3, 7, 41, 0), (114, .pop, 1, 0, 0, 0), (115, .goto 39, 3, 2, 154, 0), (118, .aload_n 0, 1, 1, 0, 0), (119, .getfield 12, 3, 3, 10, 0), (122, .iload_n 2, 1, 1, 0, 0), (123, .invokevirtual 145, 3, 7, 65, 0), (126, .pop, 1, 0, 0, 0), (127, .goto 27, 3, 2, 154, 0), (130, .aload_n 0, 1, 1, 0, 0), (131, .getfield 12, 3, 3, 10, 0), (134, .iload_n 2, 1, 1, 0, 0), (135, .invokevirtual 150, 3, 7, 80, 0), (138, .pop, 1, 0, 0, 0), (139, .goto 15, 3, 2, 154, 0), (142, .aload_n 0, 1, 1, 0, 0), (143, .getfield 12, 3, 3, 10, 0), (146, .getfield 18, 3, 3, 107, 8), (149, .iload_n 2, 1, 1, 0, 0), (150, .invokevirtual 122, 3, 7, 56, 0), (153, .pop, 1, 0, 0, 0), (154, .iconst 1, 1, 0, 0, 0), (155, .ireturn, 1, 8, 0, 0)]
def am_ct_136 : List (Nat × Instr × Nat × Nat × Nat × Nat) := [(0, .aload_n 0, 1, 1, 0, 0), (1, .getfield 45, 3, 3, 10, 3), (4, .invokevirtual 178, 3, 7, 128, 0), (7, .ifCond .ne 13, 3, 2, 20, 0), (10, .new 69, 3, 9, 0, 0), (13, .dup, 1, 0, 0, 0), (14, .ldc 181, 2, 11, 0, 0), (16, .invokespecial 73, 3, 11, 0, 0), (19, .athrow, 1, 11, 0, 0), (20, .aload_n 0, 1, 1, 0, 0), (21, .getfield 52, 3, 3, 10, 4), (24, .aload_n 0, 1, 1, 0, 0), (25, .getfield 12, 3, 3, 10, 0), (28, .invokevirtual 87, 3, 7, 22, 0), (31, .aload_n 0, 1, 1, 0, 0), (32, .getfield 45, 3, 3, 10, 3), (35, .invokevirtual 183, 3, 7, 129, 0), (38, .istore_n 1, 1, 1, 0, 0), (39, .iconst 0, 1, 0, 0, 0), (40, .istore_n 2, 1, 1, 0, 0), (41, .iload_n 2, 1, 1, 0, 0), (42, .iload_n 1, 1, 1, 0, 0), (43, .if_icmp .ge 17, 3, 2, 60, 0), (46, .aload_n 0, 1, 1, 0, 0), (47, .iload_n 2, 1, 1, 0, 0), (48, .invokevirtual 186, 3, 7, 135, 0), (51, .ifCond .eq 9, 3, 2, 60, 0), (54, .iinc 2 1, 3, 1, 0, 0), (57, .goto (-16), 3, 2, 41, 0), (60, .aload_n 0, 1, 1, 0, 0), (61, .getfield 45, 3, 3, 10, 3), (64, .invokevirtual 171, 3, 7, 101, 0), (67, .pop, 1, 0, 0, 0), (68, .iload_n 2, 1, 1, 0, 0), (69, .ireturn, 1, 8, 0, 0)]
def am_ct_137 : List (Nat × Instr × Nat × Nat × Nat × Nat) := [(0, .aload_n 1, 1, 1, 0, 0), (1, .iconst 0, 1, 0, 0, 0), (2, .aload_n 0, 1, 1, 0, 0), (3, .invokevirtual 45, 3, 7, 136, 0), (6, .i2l, 1, 0, 0, 0), (7, .lastore, 1, 4, 0, 0), (8, .goto 6, 3, 2, 14, 0), (11, .astore_n 2, 1, 1, 0, 0), (12, .iconst 1, 1, 0, 0, 0), (13, .ireturn, 1, 8, 0, 0), (14, .iconst 0, 1, 0, 0, 0), (15, .ireturn, 1, 8, 0, 0)]
def am_ct_138 : List (Nat × Instr × Nat × Nat × Nat × Nat) := [(0, .aload_n 0, 1, 1, 0, 0), (1, .aload_n 0, 1, 1, 0, 0), (2, .iconst 0, 1, 0, 0, 0), (3, .invokevirtual 155, 3, 7, 126, 0), (6, .ifCond .eq 7, 3, 2, 13, 0), (9, .iconst 0, 1, 0, 0, 0), (10, .goto 4, 3, 2, 14, 0), (13, .iconst 1, 1, 0, 0, 0), (14, .invokevirtual 91, 3, 7, 29, 0), (17, .ifCond .ne 5, 3, 2, 22, 0), (20, .iconst 0, 1, 0, 0, 0), (21, .ireturn, 1, 8, 0, 0), (22, .aload_n 0, 1, 1, 0, 0), (23, .invokevirtual 94, 3, 7, 31, 0), (26, .aload_n 0, 1, 1, 0, 0), (27, .iconst 1, 1, 0, 0, 0), (28, .invokevirtual 155, 3, 7, 126, 0), (31, .istore_n 1, 1, 1, 0, 0), (32, .aload_n 0, 1, 1, 0, 0), (33, .iconst 0, 1, 0, 0, 0), (34, .putfield 119, 3, 4, 11, 6), (37, .iload_n 1, 1, 1, 0, 0), (38, .ifCond .eq 10, 3, 2, 48, 0), (41, .aload_n 0, 1, 1, 0, 0), (42, .getfield 142, 3, 3, 11, 12), (45, .goto 4, 3, 2, 49, 0), (48, .iconst 0, 1, 0, 0, 0), (49, .ireturn, 1, 8, 0, 0)]
def am_ct_139 : List (Nat × Instr × Nat × Nat × Nat × Nat) := [(0, .aload_n 0, 1, 1, 0, 0), (1, .getfield 20, 3, 3, 2, 2), (4, .ireturn, 1, 8, 0, 0)]
def am_ct_140 : List (Nat × Instr × Nat × Nat × Nat × Nat) := [(0, .iload_n 1, 1, 1, 0, 0), (1, .ifCond .lt 31, 3, 2, 32, 0), (4, .iload_n 1, 1, 1, 0, 0), (5, .aload_n 0, 1, 1, 0, 0), (6, .getfield 15, 3, 3, 9, 0), (9, .arraylength, 1, 3, 0, 0), (10, .if_icmp .ge 22, 3, 2, 32, 0), (13, .aload_n 0, 1, 1, 0, 0), (14, .getfield 15, 3, 3, 9, 0), (17, .iload_n 1, 1, 1, 0, 0), (18, .aaload, 1, 3, 0, 0), (19, .ifnull 13, 3, 2, 32, 0), (22, .aload_n 2, 1, 1, 0, 0), (23, .aload_n 0, 1, 1, 0, 0), (24, .getfield 15, 3, 3, 9, 0), (27, .iload_n 1, 1, 1, 0, 0), (28, .aaload, 1, 3, 0, 0), (29, .invokevirtual 35, 3, 7, 20, 0), (32, .return_, 1, 8, 0, 0)]
def am_ct_141 : List (Nat × Instr × Nat × Nat × Nat × Nat) := [(0, .aload_n 0, 1, 1, 0, 0), (1, .getfield 20, 3, 3, 2, 2), (4, .ifCond .le 29, 3, 2, 33, 0), (7, .aload_n 0, 1, 1, 0, 0), (8, .dup, 1, 0, 0, 0), (9, .getfield 20, 3, 3, 2, 2), (12, .iconst 1, 1, 0, 0, 0), (13, .isub, 1, 0, 0, 0), (14, .putfield 20, 3, 4, 2, 2), (17, .aload_n 0, 1, 1, 0, 0), (18, .getfield 14, 3, 3, 2, 0), (21, .aload_n 0, 1, 1, 0, 0), (22, .aload_n 0, 1, 1, 0, 0), (23, .getfield 20, 3, 3, 2, 2), (26, .invokevirtual 27, 3, 7, 15, 0), (29, .aload_n 1, 1, 1, 0, 0), (30, .invokevirtual 35, 3, 7, 140, 0), (33, .aload_n 0, 1, 1, 0, 0), (34, .getfield 20, 3, 3, 2, 2), (37, .ireturn, 1, 8, 0, 0)]
def am_ct_142 : List (Nat × Instr × Nat × Nat × Nat × Nat) := [(0, .aload_n 0, 1, 1, 0, 0), (1, .getfield 52, 3, 3, 10, 4), (4, .invokevirtual 204, 3, 7, 139, 0), (7, .ifCond .ne 13, 3, 2, 20, 0), (10, .new 82, 3, 9, 1, 0), (13, .dup, 1, 0, 0, 0), (14, .ldc 207, 2, 11, 0, 0), (16, .invokespecial 86, 3, 11, 0, 0), (19, .athrow, 1, 11, 0, 0), (20, .aload_n 0, 1, 1, 0, 0), (21, .getfield 52, 3, 3, 10, 4), (24, .aload_n 0, 1, 1, 0, 0), (25, .getfield 12, 3, 3, 10, 0), (28, .invokevirtual 209, 3, 7, 141, 0), (31, .ireturn, 1, 8, 0, 0)]
def am_ct_143 : List (Nat × Instr × Nat × Nat × Nat × Nat) := [(0, .aload_n 1, 1, 1, 0, 0), (1, .iconst 0, 1, 0, 0, 0), (2, .aload_n 0, 1, 1, 0, 0), (3, .invokevirtual 49, 3, 7, 142, 0), (6, .i2l, 1, 0, 0, 0), (7, .lastore, 1, 4, 0, 0), (8, .goto 6, 3, 2, 14, 0), (11, .astore_n 2, 1, 1, 0, 0), (12, .iconst 1, 1, 0, 0, 0), (13, .ireturn, 1, 8, 0, 0), (14, .iconst 0, 1, 0, 0, 0), (15, .ireturn, 1, 8, 0, 0)]
def am_ct_144 : List (Nat × Instr × Nat × Nat × Nat × Nat) := [(0, .aload_n 0, 1, 1, 0, 0), (1, .aload_n 0, 1, 1, 0, 0), (2, .getfield 47, 3, 3, 11, 2), (5, .ifCond .le 7, 3, 2, 12, 0), (8, .iconst 0, 1, 0, 0, 0), (9, .goto 4, 3, 2, 13, 0), (12, .iconst 1, 1, 0, 0, 0), (13, .invokevirtual 91, 3, 7, 29, 0), (16, .ifCond .ne 5, 3, 2, 21, 0), (19, .iconst 0, 1, 0, 0, 0), (20, .ireturn, 1, 8, 0, 0), (21, .aload_n 0, 1, 1, 0, 0), (22, .dup, 1, 0, 0, 0), (23, .getfield 47, 3, 3, 11, 2), (26, .iconst 1, 1, 0, 0, 0), (27, .isub, 1, 0, 0, 0), (28, .putfield 47, 3, 4, 11, 2), (31, .aload_n 0, 1, 1, 0, 0), (32, .getfield 13, 3, 3, 11, 1), (35, .sipush 405, 3, 0, 0, 0), (38, .aload_n 0, 1, 1, 0, 0), (39, .getfield 47, 3, 3, 11, 2), (42, .imul, 1, 0, 0, 0), (43, .aload_n 0, 1, 1, 0, 0), (44, .getfield 7, 3, 3, 11, 0), (47, .iconst 0, 1, 0, 0, 0), (48, .invokestatic 50, 3, 7, 30, 0), (51, .aload_n 0, 1, 1, 0, 0), (52, .getfield 47, 3, 3, 11, 2), (55, .ireturn, 1, 8, 0, 0)]
def am_ct_145 : List (Nat × Instr × Nat × Nat × Nat × Nat) := [(0, .iload_n 0, 1, 1, 0, 0), (1, .ifCond .lt 12, 3, 2, 13, 0), (4, .iload_n 0, 1, 1, 0, 0), (5, .iconst 2, 1, 0, 0, 0), (6, .if_icmp .ge 7, 3, 2, 13, 0), (9, .iconst 1, 1, 0, 0, 0), (10, .goto 4, 3, 2, 14, 0), (13, .iconst 0, 1, 0, 0, 0), (14, .ireturn, 1, 8, 0, 0)]
def am_ct_146 : List (Nat × Instr × Nat × Nat × Nat × Nat) := [(0, .iload_n 1, 1, 1, 0, 0), (1, .invokestatic 213, 3, 7, 145, 0), (4, .ifCond .ne 13, 3, 2, 17, 0), (7, .new 69, 3, 9, 0, 0), (10, .dup, 1, 0, 0, 0), (11, .ldc 216, 2, 11, 0, 0), (13, .invokespecial 73, 3, 11, 0, 0), (16, .athrow, 1, 11, 0, 0), (17, .aload_n 0, 1, 1, 0, 0), (18, .getfield 61, 3, 3, 10, 5), (21, .iload_n 1, 1, 1, 0, 0), (22, .aload_n 0, 1, 1, 0, 0), (23, .getfield 12, 3, 3, 10, 0), (26, .invokevirtual 218, 3, 7, 21, 0), (29, .aload_n 0, 1, 1, 0, 0), (30, .getfield 12, 3, 3, 10, 0), (33, .getfield 222, 3, 3, 107, 0), (36, .ireturn, 1, 8, 0, 0)]
def am_ct_147 : List (Nat × Instr × Nat × Nat × Nat × Nat) := [(0, .aload_n 2, 1, 1, 0, 0), (1, .iconst 0, 1, 0, 0, 0), (2, .aload_n 0, 1, 1, 0, 0), (3, .iload_n 1, 1, 1, 0, 0), (4, .invokevirtual 52, 3, 7, 146, 0), (7, .i2l, 1, 0, 0, 0), (8, .lastore, 1, 4, 0, 0), (9, .goto 6, 3, 2, 15, 0), (12, .astore_n 3, 1, 1, 0, 0), (13, .iconst 1, 1, 0, 0, 0), (14, .ireturn, 1, 8, 0, 0), (15, .iconst 0, 1, 0, 0, 0), (16, .ireturn, 1, 8, 0, 0)]
def am_ct_148 : List (Nat × Instr × Nat × Nat × Nat × Nat) := [(0, .iload_n 0, 1, 1, 0, 0), (1, .iconst 0, 1, 0, 0, 0), (2, .iconst 1, 1, 0, 0, 0), (3, .invokestatic 36, 3, 7, 26, 0), (6, .ireturn, 1, 8, 0, 0)]
def am_ct_149 : List (Nat × Instr × Nat × Nat × Nat × Nat) := [(0, .aload_n 0, 1, 1, 0, 0), (1, .iload_n 1, 1, 1, 0, 0), (2, .invokestatic 159, 3, 7, 148, 0), (5, .ifCond .eq 7, 3, 2, 12, 0), (8, .iconst 0, 1, 0, 0, 0), (9, .goto 4, 3, 2, 13, 0), (12, .iconst 1, 1, 0, 0, 0), (13, .invokevirtual 91, 3, 7, 29, 0), (16, .ifCond .ne 5, 3, 2, 21, 0), (19, .iconst 0, 1, 0, 0, 0), (20, .ireturn, 1, 8, 0, 0), (21, .aload_n 0, 1, 1, 0, 0), (22, .getfield 7, 3, 3, 11, 0), (25, .iconst 0, 1, 0, 0, 0), (26, .aload_n 0, 1, 1, 0, 0), (27, .getfield 16, 3, 3, 11, 3), (30, .sipush 405, 3, 0, 0, 0), (33, .iload_n 1, 1, 1, 0, 0), (34, .imul, 1, 0, 0, 0), (35, .invokestatic 50, 3, 7, 30, 0), (38, .aload_n 0, 1, 1, 0, 0), (39, .getfield 19, 3, 3, 11, 4), (42, .iload_n 1, 1, 1, 0, 0), (43, .iconst 1, 1, 0, 0, 0), (44, .bastore, 1, 4, 0, 0), (45, .aload_n 0, 1, 1, 0, 0), (46, .getfield 7, 3, 3, 11, 0), (49, .iconst 0, 1, 0, 0, 0), (50, .iaload, 1, 3, 0, 0), (51, .ireturn, 1, 8, 0, 0)]
def am_ct_150 : List (Nat × Instr × Nat × Nat × Nat × Nat) := [(0, .aload_n 0, 1, 1, 0, 0), (1, .getfield 27, 3, 3, 9, 1), (4, .iload_n 1, 1, 1, 0, 0), (5, .invokevirtual 31, 3, 7, 39, 0), (8, .iconst 1, 1, 0, 0, 0), (9, .if_icmp .ne 7, 3, 2, 16, 0), (12, .iconst 1, 1, 0, 0, 0), (13, .goto 4, 3, 2, 17, 0), (16, .iconst 0, 1, 0, 0, 0), (17, .ireturn, 1, 8, 0, 0)]
def am_ct_151 : List (Nat × Instr × Nat × Nat × Nat × Nat) := [(0, .iload_n 1, 1, 1, 0, 0), (1, .invokestatic 213, 3, 7, 145, 0), (4, .ifCond .ne 13, 3, 2, 17, 0), (7, .new 69, 3, 9, 0, 0), (10, .dup, 1, 0, 0, 0), (11, .ldc 216, 2, 11, 0, 0), (13, .invokespecial 73, 3, 11, 0, 0), (16, .athrow, 1, 11, 0, 0), (17, .aload_n 0, 1, 1, 0, 0), (18, .getfield 61, 3, 3, 10, 5), (21, .iload_n 1, 1, 1, 0, 0), (22, .invokevirtual 226, 3, 7, 150, 0), (25, .ifCond .ne 13, 3, 2, 38, 0), (28, .new 82, 3, 9, 1, 0), (31, .dup, 1, 0, 0, 0), (32, .ldc 229, 2, 11, 0, 0), (34, .invokespecial 86, 3, 11, 0, 0), (37, .athrow, 1, 11, 0, 0), (38, .aload_n 0, 1, 1, 0, 0), (39, .getfield 52, 3, 3, 10, 4), (42, .aload_n 0, 1, 1, 0, 0), (43, .getfield 12, 3, 3, 10, 0), (46, .invokevirtual 87, 3, 7, 22, 0), (49, .aload_n 0, 1, 1, 0, 0), (50, .getfield 61, 3, 3, 10, 5), (53, .iload_n 1, 1, 1, 0, 0), (54, .aload_n 0, 1, 1, 0, 0), (55, .getfield 12, 3, 3, 10, 0), (58, .invokevirtual 231, 3, 7, 140, 0), (61, .aload_n 0, 1, 1, 0, 0), (62, .getfield 12, 3, 3, 10, 0), (65, .getfield 222, 3, 3, 107, 0), (68, .ireturn, 1, 8, 0, 0)]
def am_ct_152 : List (Nat × Instr × Nat × Nat × Nat × Nat) := [(0, .aload_n 2, 1, 1, 0, 0), (1, .iconst 0, 1, 0, 0, 0), (2, .aload_n 0, 1, 1, 0, 0), (3, .iload_n 1, 1, 1, 0, 0), (4, .invokevirtual 55, 3, 7, 151, 0), (7, .i2l, 1, 0, 0, 0), (8, .lastore, 1, 4, 0, 0), (9, .goto 9, 3, 2, 18, 0), (12, .astore_n 3, 1, 1, 0, 0), (13, .iconst 1, 1, 0, 0, 0), (14, .ireturn, 1, 8, 0, 0), (15, .astore_n 3, 1, 1, 0, 0), (16, .iconst 2, 1, 0, 0, 0), (17, .ireturn, 1, 8, 0, 0), (18, .iconst 0, 1, 0, 0, 0), (19, .ireturn, 1, 8, 0, 0)]
def am_ct_153 : List (Nat × Instr × Nat × Nat × Nat × Nat) := [(0, .aload_n 0, 1, 1, 0, 0), (1, .iload_n 1, 1, 1, 0, 0), (2, .invokestatic 159, 3, 7, 148, 0), (5, .ifCond .ne 7, 3, 2, 12, 0), (8, .iconst 1, 1, 0, 0, 0), (9, .goto 17, 3, 2, 26, 0), (12, .aload_n 0, 1, 1, 0, 0), (13, .getfield 19, 3, 3, 11, 4), (16, .iload_n 1, 1, 1, 0, 0), (17, .baload, 1, 3, 0, 0), (18, .ifCond .eq 7, 3, 2, 25, 0), (21, .iconst 0, 1, 0, 0, 0), (22, .goto 4, 3, 2, 26, 0), (25, .iconst 2, 1, 0, 0, 0), (26, .invokevirtual 91, 3, 7, 29, 0), (29, .ifCond .ne 5, 3, 2, 34, 0), (32, .iconst 0, 1, 0, 0, 0), (33, .ireturn, 1, 8, 0, 0), (34, .aload_n 0, 1, 1, 0, 0), (35, .invokevirtual 94, 3, 7, 31, 0), (38, .aload_n 0, 1, 1, 0, 0), (39, .getfield 16, 3, 3, 11, 3), (42, .sipush 405, 3, 0, 0, 0), (45, .iload_n 1, 1, 1, 0, 0), (46, .imul, 1, 0, 0, 0), (47, .aload_n 0, 1, 1, 0, 0), (48, .getfield 7, 3, 3, 11, 0), (51, .iconst 0, 1, 0, 0, 0), (52, .invokestatic 50, 3, 7, 30, 0), (55, .aload_n 0, 1, 1, 0, 0), (56, .getfield 7, 3, 3, 11, 0), (59, .iconst 0, 1, 0, 0, 0), (60, .iaload, 1, 3, 0, 0), (61, .ireturn, 1, 8, 0, 0)]
def am_ct_154 : List (Nat × Instr × Nat × Nat × Nat × Nat) := [(0, .aload_n 0, 1, 1, 0, 0), (1, .getfield 29, 3, 3, 1, 5), (4, .iconst 2, 1, 0, 0, 0), (5, .iload_n 1, 1, 1, 0, 0), (6, .imul, 1, 0, 0, 0), (7, .iload_n 2, 1, 1, 0, 0), (8, .iadd, 1, 0, 0, 0), (9, .invokevirtual 55, 3, 7, 39, 0), (12, .ireturn, 1, 8, 0, 0)]
def am_ct_155 : List (Nat × Instr × Nat × Nat × Nat × Nat) := [(0, .iconst 0, 1, 0, 0, 0), (1, .istore_n 2, 1, 1, 0, 0), (2, .iconst 0, 1, 0, 0, 0), (3, .istore_n 3, 1, 1, 0, 0), (4, .iload_n 3, 1, 1, 0, 0), (5, .aload_n 0, 1, 1, 0, 0), (6, .getfield 26, 3, 3, 0, 0), (9, .if_icmp .ge 29, 3, 2, 38, 0), (12, .iload_n 2, 1, 1, 0, 0), (13, .aload_n 0, 1, 1, 0, 0), (14, .getfield 14, 3, 3, 0, 1), (17, .iload_n 3, 1, 1, 0, 0), (18, .invokevirtual 38, 3, 7, 39, 0), (21, .iload_n 1, 1, 1, 0, 0), (22, .if_icmp .ne 7, 3, 2, 29, 0), (25, .iconst 1, 1, 0, 0, 0), (26, .goto 4, 3, 2, 30, 0), (29, .iconst 0, 1, 0, 0, 0), (30, .iadd, 1, 0, 0, 0), (31, .istore_n 2, 1, 1, 0, 0), (32, .iinc 3 1, 3, 1, 0, 0), (35, .goto (-31), 3, 2, 4, 0), (38, .iload_n 2, 1, 1, 0, 0), (39, .ireturn, 1, 8, 0, 0)]
def am_ct_156 : List (Nat × Instr × Nat × Nat × Nat × Nat) := [(0, .aload_n 0, 1, 1, 0, 0), (1, .getfield 12, 3, 3, 10, 0), (4, .getfield 18, 3, 3, 107, 8), (7, .iload_n 1, 1, 1, 0, 0), (8, .invokevirtual 113, 3, 7, 36, 0), (11, .ifCond .ne 13, 3, 2, 24, 0), (14, .new 102, 3, 9, 2, 0), (17, .dup, 1, 0, 0, 0), (18, .ldc 116, 2, 11, 0, 0), (20, .invokespecial 106, 3, 11, 0, 0), (23, .athrow, 1, 11, 0, 0), (24, .iload_n 2, 1, 1, 0, 0), (25, .tableswitch 134 0 7 #[47, 62, 77, 77, 92, 92, 107, 119], 47, 2, 0, 0), (72, .aload_n 0, 1, 1, 0, 0), (73, .getfield 12, 3, 3, 10, 0), (76, .getfield 18, 3, 3, 107, 8), (79, .getfield 234, 3, 3, 101, 1), (82, .iload_n 1, 1, 1, 0, 0), (83, .invokevirtual 237, 3, 7, 39, 0), (86, .ireturn, 1, 8, 0, 0), (87, .aload_n 0, 1, 1, 0, 0), (88, .getfield 12, 3, 3, 10, 0), (91, .getfield 18, 3, 3, 107, 8), (94, .getfield 240, 3, 3, 101, 2), (97, .iload_n 1, 1, 1, 0, 0), (98, .invokevirtual 237, 3, 7, 39, 0), (101, .ireturn, 1, 8, 0, 0), (102, .aload_n 0, 1, 1, 0, 0), (103, .getfield 12, 3, 3, 10, 0), (106, .getfield 18, 3, 3, 107, 8), (109, .iload_n 1, 1, 1, 0, 0), (110, .iload_n 2, 1, 1, 0, 0), (111, .iconst 2, 1, 0, 0, 0), (112, .isub, 1, 0, 0, 0), (113, .invokevirtual 243, 3, 7, 73, 0), (116, .ireturn, 1, 8, 0, 0), (117, .aload_n 0, 1, 1, 0, 0), (118, .getfield 12, 3, 3, 10, 0), (121, .getfield 18, 3, 3, 107, 8), (124, .iload_n 1, 1, 1, 0, 0), (125, .iload_n 2, 1, 1, 0, 0), (126, .iconst 4, 1, 0, 0, 0), (127, .isub, 1, 0, 0, 0), (128, .invokevirtual 245, 3, 7, 154, 0), (131, .ireturn, 1, 8, 0, 0), (132, .aload_n 0, 1, 1, 0, 0), (133, .getfield 12, 3, 3, 10, 0), (136, .getfield 248, 3, 3, 107, 9), (139, .iload_n 1, 1, 1, 0, 0), (140, .invokevirtual 252, 3, 7, 155, 0), (143, .ireturn, 1, 8, 0, 0), (144, .aload_n 0, 1, 1, 0, 0), (145, .getfield 12, 3, 3, 10, 0), (148, .getfield 18, 3, 3, 107, 8), (151, .getfield 257, 3, 3, 101, 3), (154, .iload_n 1, 1, 1, 0, 0), (155, .invokevirtual 237, 3, 7, 39, 0), (158, .ireturn, 1, 8, 0, 0), (159, .new 69, 3, 9, 0, 0), (162, .dup, 1, 0, 0, 0), (163, .ldc_w 260, 3, 11, 0, 0), (166, .invokespecial 73, 3, 11, 0, 0), (169, .athrow, 1, 11, 0, 0)]
def am_ct_157 : List (Nat × Instr × Nat × Nat × Nat × Nat) := [(0, .aload_n 3, 1, 1, 0, 0), (1, .iconst 0, 1, 0, 0, 0), (2, .aload_n 0, 1, 1, 0, 0), (3, .iload_n 1, 1, 1, 0, 0), (4, .iload_n 2, 1, 1, 0, 0), (5, .invokevirtual 58, 3, 7, 156, 0), (8, .i2l, 1, 0, 0, 0), (9, .lastore, 1, 4, 0, 0), (10, .goto 11, 3, 2, 21, 0), (13, .astore 4, 2, 1, 0, 0), (15, .iconst 1, 1, 0, 0, 0), (16, .ireturn, 1, 8, 0, 0), (17, .astore 4, 2, 1, 0, 0), (19, .iconst 2, 1, 0, 0, 0), (20, .ireturn, 1, 8, 0, 0), (21, .iconst 0, 1, 0, 0, 0), (22, .ireturn, 1, 8, 0, 0)]
def am_ct_158 : List (Nat × Instr × Nat × Nat × Nat × Nat) := [(0, .aload_n 0, 1, 1, 0, 0), (1, .getfield 7, 3, 3, 11, 0), (4, .bipush 105, 2, 0, 0, 0), (6, .iconst 3, 1, 0, 0, 0), (7, .iload_n 1, 1, 1, 0, 0), (8, .imul, 1, 0, 0, 0), (9, .iadd, 1, 0, 0, 0), (10, .iload_n 2, 1, 1, 0, 0), (11, .iadd, 1, 0, 0, 0), (12, .iaload, 1, 3, 0, 0), (13, .ireturn, 1, 8, 0, 0)]
def am_ct_159 : List (Nat × Instr × Nat × Nat × Nat × Nat) := [(0, .iconst 0, 1, 0, 0, 0), (1, .istore_n 2, 1, 1, 0, 0), (2, .iconst 0, 1, 0, 0, 0), (3, .istore_n 3, 1, 1, 0, 0), (4, .iload_n 3, 1, 1, 0, 0), (5, .aload_n 0, 1, 1, 0, 0), (6, .getfield 7, 3, 3, 11, 0), (9, .iconst 3, 1, 0, 0, 0), (10, .iaload, 1, 3, 0, 0), (11, .if_icmp .ge 27, 3, 2, 38, 0), (14, .iload_n 2, 1, 1, 0, 0), (15, .aload_n 0, 1, 1, 0, 0), (16, .iload_n 3, 1, 1, 0, 0), (17, .iconst 0, 1, 0, 0, 0), (18, .invokevirtual 162, 3, 7, 158, 0), (21, .iload_n 1, 1, 1, 0, 0), (22, .if_icmp .ne 7, 3, 2, 29, 0), (25, .iconst 1, 1, 0, 0, 0), (26, .goto 4, 3, 2, 30, 0), (29, .iconst 0, 1, 0, 0, 0), (30, .iadd, 1, 0, 0, 0), (31, .istore_n 2, 1, 1, 0, 0), (32, .iinc 3 1, 3, 1, 0, 0), (35, .goto (-31), 3, 2, 4, 0), (38, .iload_n 2, 1, 1, 0, 0), (39, .ireturn, 1, 8, 0, 0)]
def am_ct_160 : List (Nat × Instr × Nat × Nat × Nat × Nat) := [(0, .aload_n 0, 1, 1, 0, 0), (1, .aload_n 0, 1, 1, 0, 0), (2, .iload_n 1, 1, 1, 0, 0), (3, .invokevirtual 40, 3, 7, 44, 0), (6, .ifCond .ne 7, 3, 2, 13, 0), (9, .iconst 1, 1, 0, 0, 0), (10, .goto 18, 3, 2, 28, 0), (13, .iload_n 2, 1, 1, 0, 0), (14, .iconst 0, 1, 0, 0, 0), (15, .bipush 7, 2, 0, 0, 0), (17, .invokestatic 36, 3, 7, 26, 0), (20, .ifCond .ne 7, 3, 2, 27, 0), (23, .iconst 2, 1, 0, 0, 0), (24, .goto 4, 3, 2, 28, 0), (27, .iconst 0, 1, 0, 0, 0), (28, .invokevirtual 91, 3, 7, 29, 0), (31, .ifCond .ne 5, 3, 2, 36, 0), (34, .iconst 0, 1, 0, 0, 0), (35, .ireturn, 1, 8, 0, 0), (36, .iload_n 2, 1, 1, 0, 0), (37, .bipush 6, 2, 0, 0, 0), (39, .if_icmp .ne 11, 3, 2, 50, 0), (42, .aload_n 0, 1, 1, 0, 0), (43, .iload_n 1, 1, 1, 0, 0), (44, .invokevirtual 165, 3, 7, 159, 0), (47, .goto 20, 3, 2, 67, 0), (50, .aload_n 0, 1, 1, 0, 0), (51, .iload_n 1, 1, 1, 0, 0), (52, .iload_n 2, 1, 1, 0, 0), (53, .bipush 7, 2, 0, 0, 0), (55, .if_icmp .ne 8, 3, 2, 63, 0), (58, .bipush 6, 2, 0, 0, 0), (60, .goto 4, 3, 2, 64, 0), (63, .iload_n 2, 1, 1, 0, 0), (64, .invokevirtual 54, 3, 7, 48, 0), (67, .ireturn, 1, 8, 0, 0)]
def am_ct_161 : List (Nat × Instr × Nat × Nat × Nat × Nat) := [(0, .iload_n 1, 1, 1, 0, 0), (1, .istore_n 2, 1, 1, 0, 0), (2, .iconst 0, 1, 0, 0, 0), (3, .istore_n 3, 1, 1, 0, 0), (4, .iload_n 3, 1, 1, 0, 0), (5, .bipush 12, 2, 0, 0, 0), (7, .if_icmp .ge 31, 3, 2, 38, 0), (10, .aload_n 0, 1, 1, 0, 0), (11, .iload_n 2, 1, 1, 0, 0), (12, .invokevirtual 40, 3, 7, 36, 0), (15, .ifCond .eq 23, 3, 2, 38, 0), (18, .aload_n 0, 1, 1, 0, 0), (19, .iload_n 2, 1, 1, 0, 0), (20, .aload_n 0, 1, 1, 0, 0), (21, .getfield 14, 3, 3, 1, 1), (24, .iload_n 2, 1, 1, 0, 0), (25, .invokevirtual 55, 3, 7, 39, 0), (28, .invokevirtual 59, 3, 7, 73, 0), (31, .istore_n 2, 1, 1, 0, 0), (32, .iinc 3 1, 3, 1, 0, 0), (35, .goto (-31), 3, 2, 4, 0), (38, .iload_n 3, 1, 1, 0, 0), (39, .ireturn, 1, 8, 0, 0)]
def am_ct_162 : List (Nat × Instr × Nat × Nat × Nat × Nat) := [(0, .iload_n 1, 1, 1, 0, 0), (1, .istore_n 2, 1, 1, 0, 0), (2, .iconst 0, 1, 0, 0, 0), (3, .istore_n 3, 1, 1, 0, 0), (4, .iload_n 3, 1, 1, 0, 0), (5, .bipush 12, 2, 0, 0, 0), (7, .if_icmp .ge 31, 3, 2, 38, 0), (10, .aload_n 0, 1, 1, 0, 0), (11, .iload_n 2, 1, 1, 0, 0), (12, .invokevirtual 40, 3, 7, 36, 0), (15, .ifCond .eq 23, 3, 2, 38, 0), (18, .aload_n 0, 1, 1, 0, 0), (19, .iload_n 2, 1, 1, 0, 0), (20, .aload_n 0, 1, 1, 0, 0), (21, .getfield 14, 3, 3, 1, 1), (24, .iload_n 2, 1, 1, 0, 0), (25, .invokevirtual 55, 3, 7, 39, 0), (28, .invokevirtual 59, 3, 7, 73, 0), (31, .istore_n 2, 1, 1, 0, 0), (32, .iinc 3 1, 3, 1, 0, 0), (35, .goto (-31), 3, 2, 4, 0), (38, .iload_n 2, 1, 1, 0, 0), (39, .bipush 20, 2, 0, 0, 0), (41, .isub, 1, 0, 0, 0), (42, .ireturn, 1, 8, 0, 0)]
def am_ct_163 : List (Nat × Instr × Nat × Nat × Nat × Nat) := [(0, .iload_n 1, 1, 1, 0, 0), (1, .ifCond .lt 12, 3, 2, 13, 0), (4, .iload_n 2, 1, 1, 0, 0), (5, .ifCond .lt 8, 3, 2, 13, 0), (8, .iload_n 2, 1, 1, 0, 0), (9, .iconst 4, 1, 0, 0, 0), (10, .if_icmp .le 14, 3, 2, 24, 0), (13, .new 69, 3, 9, 0, 0), (16, .dup, 1, 0, 0, 0), (17, .ldc_w 262, 3, 11, 0, 0), (20, .invokespecial 73, 3, 11, 0, 0), (23, .athrow, 1, 11, 0, 0), (24, .iload_n 1, 1, 1, 0, 0), (25, .aload_n 0, 1, 1, 0, 0), (26, .getfield 12, 3, 3, 10, 0), (29, .getfield 248, 3, 3, 107, 9), (32, .getfield 264, 3, 3, 100, 0), (35, .if_icmp .lt 5, 3, 2, 40, 0), (38, .iconst (-1), 1, 0, 0, 0), (39, .ireturn, 1, 8, 0, 0), (40, .iload_n 2, 1, 1, 0, 0), (41, .tableswitch 101 0 3 #[31, 46, 61, 76], 31, 2, 0, 0), (72, .aload_n 0, 1, 1, 0, 0), (73, .getfield 12, 3, 3, 10, 0), (76, .getfield 248, 3, 3, 107, 9), (79, .getfield 266, 3, 3, 100, 1), (82, .iload_n 1, 1, 1, 0, 0), (83, .invokevirtual 237, 3, 7, 39, 0), (86, .ireturn, 1, 8, 0, 0), (87, .aload_n 0, 1, 1, 0, 0), (88, .getfield 12, 3, 3, 10, 0), (91, .getfield 248, 3, 3, 107, 9), (94, .getfield 269, 3, 3, 100, 2), (97, .iload_n 1, 1, 1, 0, 0), (98, .invokevirtual 237, 3, 7, 39, 0), (101, .ireturn, 1, 8, 0, 0), (102, .aload_n 0, 1, 1, 0, 0), (103, .getfield 12, 3, 3, 10, 0), (106, .getfield 248, 3, 3, 107, 9), (109, .getfield 272, 3, 3, 100, 3), (112, .iload_n 1, 1, 1, 0, 0), (113, .invokevirtual 237, 3, 7, 39, 0), (116, .ireturn, 1, 8, 0, 0), (117, .aload_n 0, 1, 1, 0, 0), (118, .getfield 12, 3, 3, 10, 0), (121, .getfield 18, 3, 3, 107, 8), (124, .aload_n 0, 1, 1, 0, 0), (125, .getfield 12, 3, 3, 10, 0), (128, .getfield 248, 3, 3, 107, 9), (131, .getfield 266, 3, 3, 100, 1), (134, .iload_n 1, 1, 1, 0, 0), (135, .invokevirtual 237, 3, 7, 39, 0), (138, .invokevirtual 275, 3, 7, 161, 0), (141, .ireturn, 1, 8, 0, 0), (142, .aload_n 0, 1, 1, 0, 0), (143, .getfield 12, 3, 3, 10, 0), (146, .getfield 18, 3, 3, 107, 8), (149, .aload_n 0, 1, 1, 0, 0), (150, .getfield 12, 3, 3, 10, 0), (153, .getfield 248, 3, 3, 107, 9), (156, .getfield 266, 3, 3, 100, 1), (159, .iload_n 1, 1, 1, 0, 0), (160, .invokevirtual 237, 3, 7, 39, 0), (163, .invokevirtual 278, 3, 7, 162, 0), (166, .ireturn, 1, 8, 0, 0)]
def am_ct_164 : List (Nat × Instr × Nat × Nat × Nat × Nat) := [(0, .aload_n 3, 1, 1, 0, 0), (1, .iconst 0, 1, 0, 0, 0), (2, .aload_n 0, 1, 1, 0, 0), (3, .iload_n 1, 1, 1, 0, 0), (4, .iload_n 2, 1, 1, 0, 0), (5, .invokevirtual 61, 3, 7, 163, 0), (8, .i2l, 1, 0, 0, 0), (9, .lastore, 1, 4, 0, 0), (10, .goto 7, 3, 2, 17, 0), (13, .astore 4, 2, 1, 0, 0), (15, .iconst 1, 1, 0, 0, 0), (16, .ireturn, 1, 8, 0, 0), (17, .iconst 0, 1, 0, 0, 0), (18, .ireturn, 1, 8, 0, 0)]
def am_ct_165 : List (Nat × Instr × Nat × Nat × Nat × Nat) := [(0, .iconst 0, 1, 0, 0, 0), (1, .istore_n 3, 1, 1, 0, 0), (2, .iload_n 1, 1, 1, 0, 0), (3, .istore 4, 2, 1, 0, 0), (5, .iload 4, 2, 1, 0, 0), (7, .bipush 20, 2, 0, 0, 0), (9, .if_icmp .ge 26, 3, 2, 35, 0), (12, .aload_n 0, 1, 1, 0, 0), (13, .iload 4, 2, 1, 0, 0), (15, .iconst 2, 1, 0, 0, 0), (16, .aload_n 0, 1, 1, 0, 0), (17, .iload 4, 2, 1, 0, 0), (19, .iconst 0, 1, 0, 0, 0), (20, .invokevirtual 54, 3, 7, 48, 0), (23, .iadd, 1, 0, 0, 0), (24, .invokevirtual 54, 3, 7, 48, 0), (27, .istore 4, 2, 1, 0, 0), (29, .iinc 3 1, 3, 1, 0, 0), (32, .goto (-27), 3, 2, 5, 0), (35, .iload_n 2, 1, 1, 0, 0), (36, .ifCond .eq 11, 3, 2, 47, 0), (39, .iload 4, 2, 1, 0, 0), (41, .bipush 20, 2, 0, 0, 0), (43, .isub, 1, 0, 0, 0), (44, .goto 4, 3, 2, 48, 0), (47, .iload_n 3, 1, 1, 0, 0), (48, .ireturn, 1, 8, 0, 0)]
def am_ct_166 : List (Nat × Instr × Nat × Nat × Nat × Nat) := [(0, .aload_n 0, 1, 1, 0, 0), (1, .iload_n 1, 1, 1, 0, 0), (2, .ifCond .lt 16, 3, 2, 18, 0), (5, .iload_n 2, 1, 1, 0, 0), (6, .iconst 0, 1, 0, 0, 0), (7, .iconst 4, 1, 0, 0, 0), (8, .invokestatic 36, 3, 7, 26, 0), (11, .ifCond .eq 7, 3, 2, 18, 0), (14, .iconst 0, 1, 0, 0, 0), (15, .goto 4, 3, 2, 19, 0), (18, .iconst 1, 1, 0, 0, 0), (19, .invokevirtual 91, 3, 7, 29, 0), (22, .ifCond .ne 5, 3, 2, 27, 0), (25, .iconst 0, 1, 0, 0, 0), (26, .ireturn, 1, 8, 0, 0), (27, .iload_n 1, 1, 1, 0, 0), (28, .aload_n 0, 1, 1, 0, 0), (29, .getfield 7, 3, 3, 11, 0), (32, .iconst 3, 1, 0, 0, 0), (33, .iaload, 1, 3, 0, 0), (34, .if_icmp .lt 5, 3, 2, 39, 0), (37, .iconst (-1), 1, 0, 0, 0), (38, .ireturn, 1, 8, 0, 0), (39, .iload_n 2, 1, 1, 0, 0), (40, .iconst 3, 1, 0, 0, 0), (41, .if_icmp .ge 12, 3, 2, 53, 0), (44, .aload_n 0, 1, 1, 0, 0), (45, .iload_n 1, 1, 1, 0, 0), (46, .iload_n 2, 1, 1, 0, 0), (47, .invokevirtual 162, 3, 7, 158, 0), (50, .goto 23, 3, 2, 73, 0), (53, .aload_n 0, 1, 1, 0, 0), (54, .aload_n 0, 1, 1, 0, 0), (55, .iload_n 1, 1, 1, 0, 0), (56, .iconst 0, 1, 0, 0, 0), (57, .invokevirtual 162, 3, 7, 158, 0), (60, .iload_n 2, 1, 1, 0, 0), (61, .iconst 4, 1, 0, 0, 0), (62, .if_icmp .ne 7, 3, 2, 69, 0), (65, .iconst 1, 1, 0, 0, 0), (66, .goto 4, 3, 2, 70, 0), (69, .iconst 0, 1, 0, 0, 0), (70, .invokevirtual 168, 3, 7, 165, 0), (73, .ireturn, 1, 8, 0, 0)]
def am_ct_167 : List (Nat × Instr × Nat × Nat × Nat × Nat) := [(0, .iconst 0, 1, 0, 0, 0), (1, .istore_n 2, 1, 1, 0, 0), (2, .iconst 0, 1, 0, 0, 0), (3, .istore_n 3, 1, 1, 0, 0), (4, .iload_n 3, 1, 1, 0, 0), (5, .aload_n 0, 1, 1, 0, 0), (6, .getfield 32, 3, 3, 1, 0), (9, .if_icmp .ge 51, 3, 2, 60, 0), (12, .iload_n 2, 1, 1, 0, 0), (13, .aload_n 0, 1, 1, 0, 0), (14, .iload_n 3, 1, 1, 0, 0), (15, .iconst 0, 1, 0, 0, 0), (16, .invokevirtual 59, 3, 7, 73, 0), (19, .bipush 20, 2, 0, 0, 0), (21, .iload_n 1, 1, 1, 0, 0), (22, .iadd, 1, 0, 0, 0), (23, .if_icmp .ne 7, 3, 2, 30, 0), (26, .iconst 1, 1, 0, 0, 0), (27, .goto 4, 3, 2, 31, 0), (30, .iconst 0, 1, 0, 0, 0), (31, .iadd, 1, 0, 0, 0), (32, .istore_n 2, 1, 1, 0, 0), (33, .iload_n 2, 1, 1, 0, 0), (34, .aload_n 0, 1, 1, 0, 0), (35, .iload_n 3, 1, 1, 0, 0), (36, .iconst 1, 1, 0, 0, 0), (37, .invokevirtual 59, 3, 7, 73, 0), (40, .bipush 20, 2, 0, 0, 0), (42, .iload_n 1, 1, 1, 0, 0), (43, .iadd, 1, 0, 0, 0), (44, .if_icmp .ne 7, 3, 2, 51, 0), (47, .iconst 1, 1, 0, 0, 0), (48, .goto 4, 3, 2, 52, 0), (51, .iconst 0, 1, 0, 0, 0), (52, .iadd, 1, 0, 0, 0), (53, .istore_n 2, 1, 1, 0, 0), (54, .iinc 3 1, 3, 1, 0, 0), (57, .goto (-53), 3, 2, 4, 0), (60, .iload_n 2, 1, 1, 0, 0), (61, .ireturn, 1, 8, 0, 0)]
def am_ct_168 : List (Nat × Instr × Nat × Nat × Nat × Nat) := [(0, .iload_n 1, 1, 1, 0, 0), (1, .invokestatic 153, 3, 7, 91, 0), (4, .ifCond .ne 13, 3, 2, 17, 0), (7, .new 102, 3, 9, 2, 0), (10, .dup, 1, 0, 0, 0), (11, .ldc 156, 2, 11, 0, 0), (13, .invokespecial 106, 3, 11, 0, 0), (16, .athrow, 1, 11, 0, 0), (17, .iload_n 2, 1, 1, 0, 0), (18, .tableswitch 62 0 2 #[26, 38, 50], 26, 2, 0, 0), (44, .aload_n 0, 1, 1, 0, 0), (45, .getfield 12, 3, 3, 10, 0), (48, .getfield 281, 3, 3, 107, 6), (51, .iload_n 1, 1, 1, 0, 0), (52, .invokevirtual 237, 3, 7, 39, 0), (55, .ireturn, 1, 8, 0, 0), (56, .aload_n 0, 1, 1, 0, 0), (57, .getfield 12, 3, 3, 10, 0), (60, .getfield 284, 3, 3, 107, 7), (63, .iload_n 1, 1, 1, 0, 0), (64, .invokevirtual 237, 3, 7, 39, 0), (67, .ireturn, 1, 8, 0, 0), (68, .aload_n 0, 1, 1, 0, 0), (69, .getfield 12, 3, 3, 10, 0), (72, .getfield 18, 3, 3, 107, 8), (75, .iload_n 1, 1, 1, 0, 0), (76, .invokevirtual 287, 3, 7, 167, 0), (79, .ireturn, 1, 8, 0, 0), (80, .new 69, 3, 9, 0, 0), (83, .dup, 1, 0, 0, 0), (84, .ldc_w 290, 3, 11, 0, 0), (87, .invokespecial 73, 3, 11, 0, 0), (90, .athrow, 1, 11, 0, 0)]
def am_ct_169 : List (Nat × Instr × Nat × Nat × Nat × Nat) := [(0, .aload_n 3, 1, 1, 0, 0), (1, .iconst 0, 1, 0, 0, 0), (2, .aload_n 0, 1, 1, 0, 0), (3, .iload_n 1, 1, 1, 0, 0), (4, .iload_n 2, 1, 1, 0, 0), (5, .invokevirtual 64, 3, 7, 168, 0), (8, .i2l, 1, 0, 0, 0), (9, .lastore, 1, 4, 0, 0), (10, .goto 11, 3, 2, 21, 0), (13, .astore 4, 2, 1, 0, 0), (15, .iconst 1, 1, 0, 0, 0), (16, .ireturn, 1, 8, 0, 0), (17, .astore 4, 2, 1, 0, 0), (19, .iconst 2, 1, 0, 0, 0), (20, .ireturn, 1, 8, 0, 0), (21, .iconst 0, 1, 0, 0, 0), (22, .ireturn, 1, 8, 0, 0)]
def am_ct_170 : List (Nat × Instr × Nat × Nat × Nat × Nat) := [(0, .iconst 0, 1, 0, 0, 0), (1, .istore_n 2, 1, 1, 0, 0), (2, .iconst 0, 1, 0, 0, 0), (3, .istore_n 3, 1, 1, 0, 0), (4, .iload_n 3, 1, 1, 0, 0), (5, .aload_n 0, 1, 1, 0, 0), (6, .getfield 7, 3, 3, 11, 0), (9, .iconst 1, 1, 0, 0, 0), (10, .iaload, 1, 3, 0, 0), (11, .if_icmp .ge 43, 3, 2, 54, 0), (14, .iload_n 2, 1, 1, 0, 0), (15, .aload_n 0, 1, 1, 0, 0), (16, .iload_n 3, 1, 1, 0, 0), (17, .iconst 2, 1, 0, 0, 0), (18, .invokevirtual 54, 3, 7, 48, 0), (21, .iload_n 1, 1, 1, 0, 0), (22, .if_icmp .ne 7, 3, 2, 29, 0), (25, .iconst 1, 1, 0, 0, 0), (26, .goto 4, 3, 2, 30, 0), (29, .iconst 0, 1, 0, 0, 0), (30, .aload_n 0, 1, 1, 0, 0), (31, .iload_n 3, 1, 1, 0, 0), (32, .iconst 3, 1, 0, 0, 0), (33, .invokevirtual 54, 3, 7, 48, 0), (36, .iload_n 1, 1, 1, 0, 0), (37, .if_icmp .ne 7, 3, 2, 44, 0), (40, .iconst 1, 1, 0, 0, 0), (41, .goto 4, 3, 2, 45, 0), (44, .iconst 0, 1, 0, 0, 0), (45, .iadd, 1, 0, 0, 0), (46, .iadd, 1, 0, 0, 0), (47, .istore_n 2, 1, 1, 0, 0), (48, .iinc 3 1, 3, 1, 0, 0), (51, .goto (-47), 3, 2, 4, 0), (54, .iload_n 2, 1, 1, 0, 0), (55, .ireturn, 1, 8, 0, 0)]
def am_ct_171 : List (Nat × Instr × Nat × Nat × Nat × Nat) := [(0, .aload_n 0, 1, 1, 0, 0), (1, .iload_n 1, 1, 1, 0, 0), (2, .invokestatic 44, 3, 7, 45, 0), (5, .ifCond .ne 7, 3, 2, 12, 0), (8, .iconst 1, 1, 0, 0, 0), (9, .goto 17, 3, 2, 26, 0), (12, .iload_n 2, 1, 1, 0, 0), (13, .iconst 0, 1, 0, 0, 0), (14, .iconst 2, 1, 0, 0, 0), (15, .invokestatic 36, 3, 7, 26, 0), (18, .ifCond .ne 7, 3, 2, 25, 0), (21, .iconst 2, 1, 0, 0, 0), (22, .goto 4, 3, 2, 26, 0), (25, .iconst 0, 1, 0, 0, 0), (26, .invokevirtual 91, 3, 7, 29, 0), (29, .ifCond .ne 5, 3, 2, 34, 0), (32, .iconst 0, 1, 0, 0, 0), (33, .ireturn, 1, 8, 0, 0), (34, .iload_n 2, 1, 1, 0, 0), (35, .ifCond .ne 15, 3, 2, 50, 0), (38, .aload_n 0, 1, 1, 0, 0), (39, .getfield 7, 3, 3, 11, 0), (42, .bipush 95, 2, 0, 0, 0), (44, .iload_n 1, 1, 1, 0, 0), (45, .iadd, 1, 0, 0, 0), (46, .iaload, 1, 3, 0, 0), (47, .goto 28, 3, 2, 75, 0), (50, .iload_n 2, 1, 1, 0, 0), (51, .iconst 1, 1, 0, 0, 0), (52, .if_icmp .ne 15, 3, 2, 67, 0), (55, .aload_n 0, 1, 1, 0, 0), (56, .getfield 7, 3, 3, 11, 0), (59, .bipush 100, 2, 0, 0, 0), (61, .iload_n 1, 1, 1, 0, 0), (62, .iadd, 1, 0, 0, 0), (63, .iaload, 1, 3, 0, 0), (64, .goto 11, 3, 2, 75, 0), (67, .aload_n 0, 1, 1, 0, 0), (68, .bipush 20, 2, 0, 0, 0), (70, .iload_n 1, 1, 1, 0, 0), (71, .iadd, 1, 0, 0, 0), (72, .invokevirtual 172, 3, 7, 170, 0), (75, .ireturn, 1, 8, 0, 0)]
def am_ct_172 : List (Nat × Instr × Nat × Nat × Nat × Nat) := [(0, .iload_n 1, 1, 1, 0, 0), (1, .tableswitch 176 0 11 #[63, 71, 82, 90, 101, 109, 121, 133, 141, 149, 160, 168], 63, 2, 0, 0), (64, .aload_n 0, 1, 1, 0, 0), (65, .getfield 12, 3, 3, 10, 0), (68, .getfield 222, 3, 3, 107, 0), (71, .ireturn, 1, 8, 0, 0), (72, .aload_n 0, 1, 1, 0, 0), (73, .getfield 12, 3, 3, 10, 0), (76, .getfield 18, 3, 3, 107, 8), (79, .getfield 292, 3, 3, 101, 0), (82, .ireturn, 1, 8, 0, 0), (83, .aload_n 0, 1, 1, 0, 0), (84, .getfield 12, 3, 3, 10, 0), (87, .getfield 295, 3, 3, 107, 1), (90, .ireturn, 1, 8, 0, 0), (91, .aload_n 0, 1, 1, 0, 0), (92, .getfield 12, 3, 3, 10, 0), (95, .getfield 248, 3, 3, 107, 9), (98, .getfield 264, 3, 3, 100, 0), (101, .ireturn, 1, 8, 0, 0), (102, .aload_n 0, 1, 1, 0, 0), (103, .getfield 12, 3, 3, 10, 0), (106, .getfield 298, 3, 3, 107, 2), (109, .ireturn, 1, 8, 0, 0), (110, .aload_n 0, 1, 1, 0, 0), (111, .getfield 12, 3, 3, 10, 0), (114, .getfield 129, 3, 3, 107, 5), (117, .iconst 0, 1, 0, 0, 0), (118, .invokevirtual 237, 3, 7, 39, 0), (121, .ireturn, 1, 8, 0, 0), (122, .aload_n 0, 1, 1, 0, 0), (123, .getfield 12, 3, 3, 10, 0), (126, .getfield 129, 3, 3, 107, 5), (129, .iconst 1, 1, 0, 0, 0), (130, .invokevirtual 237, 3, 7, 39, 0), (133, .ireturn, 1, 8, 0, 0), (134, .aload_n 0, 1, 1, 0, 0), (135, .getfield 12, 3, 3, 10, 0), (138, .getfield 301, 3, 3, 107, 3), (141, .ireturn, 1, 8, 0, 0), (142, .aload_n 0, 1, 1, 0, 0), (143, .getfield 12, 3, 3, 10, 0), (146, .getfield 304, 3, 3, 107, 4), (149, .ireturn, 1, 8, 0, 0), (150, .aload_n 0, 1, 1, 0, 0), (151, .getfield 12, 3, 3, 10, 0), (154, .getfield 31, 3, 3, 107, 10), (157, .getfield 307, 3, 3, 108, 2), (160, .ireturn, 1, 8, 0, 0), (161, .aload_n 0, 1, 1, 0, 0), (162, .getfield 52, 3, 3, 10, 4), (165, .invokevirtual 204, 3, 7, 139, 0), (168, .ireturn, 1, 8, 0, 0), (169, .aload_n 0, 1, 1, 0, 0), (170, .getfield 45, 3, 3, 10, 3), (173, .getfield 312, 3, 3, 104, 0), (176, .ireturn, 1, 8, 0, 0), (177, .new 69, 3, 9, 0, 0), (180, .dup, 1, 0, 0, 0), (181, .ldc_w 315, 3, 11, 0, 0), (184, .invokespecial 73, 3, 11, 0, 0), (187, .athrow, 1, 11, 0, 0)]
def am_ct_173 : List (Nat × Instr × Nat × Nat × Nat × Nat) := [(0, .aload_n 2, 1, 1, 0, 0), (1, .iconst 0, 1, 0, 0, 0), (2, .aload_n 0, 1, 1, 0, 0), (3, .iload_n 1, 1, 1, 0, 0), (4, .invokevirtual 67, 3, 7, 172, 0), (7, .i2l, 1, 0, 0, 0), (8, .lastore, 1, 4, 0, 0), (9, .goto 6, 3, 2, 15, 0), (12, .astore_n 3, 1, 1, 0, 0), (13, .iconst 1, 1, 0, 0, 0), (14, .ireturn, 1, 8, 0, 0), (15, .iconst 0, 1, 0, 0, 0), (16, .ireturn, 1, 8, 0, 0)]
def am_ct_174 : List (Nat × Instr × Nat × Nat × Nat × Nat) := [(0, .aload_n 0, 1, 1, 0, 0), (1, .iload_n 1, 1, 1, 0, 0), (2, .iconst 0, 1, 0, 0, 0), (3, .bipush 11, 2, 0, 0, 0), (5, .invokestatic 36, 3, 7, 26, 0), (8, .ifCond .eq 7, 3, 2, 15, 0), (11, .iconst 0, 1, 0, 0, 0), (12, .goto 4, 3, 2, 16, 0), (15, .iconst 1, 1, 0, 0, 0), (16, .invokevirtual 91, 3, 7, 29, 0), (19, .ifCond .ne 5, 3, 2, 24, 0), (22, .iconst 0, 1, 0, 0, 0), (23, .ireturn, 1, 8, 0, 0), (24, .iload_n 1, 1, 1, 0, 0), (25, .bipush 10, 2, 0, 0, 0), (27, .if_icmp .ge 12, 3, 2, 39, 0), (30, .aload_n 0, 1, 1, 0, 0), (31, .getfield 7, 3, 3, 11, 0), (34, .iload_n 1, 1, 1, 0, 0), (35, .iaload, 1, 3, 0, 0), (36, .goto 20, 3, 2, 56, 0), (39, .iload_n 1, 1, 1, 0, 0), (40, .bipush 10, 2, 0, 0, 0), (42, .if_icmp .ne 10, 3, 2, 52, 0), (45, .aload_n 0, 1, 1, 0, 0), (46, .getfield 47, 3, 3, 11, 2), (49, .goto 7, 3, 2, 56, 0), (52, .aload_n 0, 1, 1, 0, 0), (53, .getfield 119, 3, 3, 11, 6), (56, .ireturn, 1, 8, 0, 0)]
def am_ct_175 : List (Nat × Instr × Nat × Nat × Nat × Nat) := [(0, .aload_n 0, 1, 1, 0, 0), (1, .getfield 14, 3, 3, 8, 3), (4, .aload_n 0, 1, 1, 0, 0), (5, .iload_n 1, 1, 1, 0, 0), (6, .invokevirtual 40, 3, 7, 71, 0), (9, .invokevirtual 48, 3, 7, 39, 0), (12, .ireturn, 1, 8, 0, 0)]
def am_ct_176 : List (Nat × Instr × Nat × Nat × Nat × Nat) := [(0, .aload_n 0, 1, 1, 0, 0), (1, .getfield 20, 3, 3, 8, 4), (4, .aload_n 0, 1, 1, 0, 0), (5, .iload_n 1, 1, 1, 0, 0), (6, .invokevirtual 40, 3, 7, 71, 0), (9, .invokevirtual 48, 3, 7, 39, 0), (12, .ireturn, 1, 8, 0, 0)]
def am_ct_177 : List (Nat × Instr × Nat × Nat × Nat × Nat) := [(0, .aload_n 0, 1, 1, 0, 0), (1, .getfield 23, 3, 3, 8, 5), (4, .aload_n 0, 1, 1, 0, 0), (5, .iload_n 1, 1, 1, 0, 0), (6, .invokevirtual 40, 3, 7, 71, 0), (9, .invokevirtual 48, 3, 7, 39, 0), (12, .ireturn, 1, 8, 0, 0)]
def am_ct_178 : List (Nat × Instr × Nat × Nat × Nat × Nat) := [(0, .iload_n 1, 1, 1, 0, 0), (1, .ifCond .lt 12, 3, 2, 13, 0), (4, .iload_n 2, 1, 1, 0, 0), (5, .ifCond .lt 8, 3, 2, 13, 0), (8, .iload_n 2, 1, 1, 0, 0), (9, .iconst 2, 1, 0, 0, 0), (10, .if_icmp .le 14, 3, 2, 24, 0), (13, .new 69, 3, 9, 0, 0), (16, .dup, 1, 0, 0, 0), (17, .ldc_w 317, 3, 11, 0, 0), (20, .invokespecial 73, 3, 11, 0, 0), (23, .athrow, 1, 11, 0, 0), (24, .iload_n 1, 1, 1, 0, 0), (25, .aload_n 0, 1, 1, 0, 0), (26, .getfield 12, 3, 3, 10, 0), (29, .getfield 31, 3, 3, 107, 10), (32, .getfield 319, 3, 3, 108, 1), (35, .if_icmp .lt 5, 3, 2, 40, 0), (38, .iconst (-1), 1, 0, 0, 0), (39, .ireturn, 1, 8, 0, 0), (40, .aload_n 0, 1, 1, 0, 0), (41, .getfield 12, 3, 3, 10, 0), (44, .getfield 31, 3, 3, 107, 10), (47, .getfield 319, 3, 3, 108, 1), (50, .iconst 1, 1, 0, 0, 0), (51, .isub, 1, 0, 0, 0), (52, .iload_n 1, 1, 1, 0, 0), (53, .isub, 1, 0, 0, 0), (54, .istore_n 3, 1, 1, 0, 0), (55, .iload_n 2, 1, 1, 0, 0), (56, .lookupswitch 52 #[(0, 28), (1, 40)], 28, 2, 0, 0), (84, .aload_n 0, 1, 1, 0, 0), (85, .getfield 12, 3, 3, 10, 0), (88, .getfield 31, 3, 3, 107, 10), (91, .iload_n 3, 1, 1, 0, 0), (92, .invokevirtual 322, 3, 7, 175, 0), (95, .ireturn, 1, 8, 0, 0), (96, .aload_n 0, 1, 1, 0, 0), (97, .getfield 12, 3, 3, 10, 0), (100, .getfield 31, 3, 3, 107, 10), (103, .iload_n 3, 1, 1, 0, 0), (104, .invokevirtual 325, 3, 7, 176, 0), (107, .ireturn, 1, 8, 0, 0), (108, .aload_n 0, 1, 1, 0, 0), (109, .getfield 12, 3, 3, 10, 0), (112, .getfield 31, 3, 3, 107, 10), (115, .iload_n 3, 1, 1, 0, 0), (116, .invokevirtual 328, 3, 7, 177, 0), (119, .ireturn, 1, 8, 0, 0)]
def am_ct_179 : List (Nat × Instr × Nat × Nat × Nat × Nat) := [(0, .aload_n 3, 1, 1, 0, 0), (1, .iconst 0, 1, 0, 0, 0), (2, .aload_n 0, 1, 1, 0, 0), (3, .iload_n 1, 1, 1, 0, 0), (4, .iload_n 2, 1, 1, 0, 0), (5, .invokevirtual 70, 3, 7, 178, 0), (8, .i2l, 1, 0, 0, 0), (9, .lastore, 1, 4, 0, 0), (10, .goto 7, 3, 2, 17, 0), (13, .astore 4, 2, 1, 0, 0), (15, .iconst 1, 1, 0, 0, 0), (16, .ireturn, 1, 8, 0, 0), (17, .iconst 0, 1, 0, 0, 0), (18, .ireturn, 1, 8, 0, 0)]
def am_ct_180 : List (Nat × Instr × Nat × Nat × Nat × Nat) := [(0, .aload_n 0, 1, 1, 0, 0), (1, .getfield 7, 3, 3, 11, 0), (4, .sipush 225, 3, 0, 0, 0), (7, .iconst 3, 1, 0, 0, 0), (8, .iload_n 1, 1, 1, 0, 0), (9, .imul, 1, 0, 0, 0), (10, .iadd, 1, 0, 0, 0), (11, .iload_n 2, 1, 1, 0, 0), (12, .iadd, 1, 0, 0, 0), (13, .iaload, 1, 3, 0, 0), (14, .ireturn, 1, 8, 0, 0)]
def am_ct_181 : List (Nat × Instr × Nat × Nat × Nat × Nat) := [(0, .aload_n 0, 1, 1, 0, 0), (1, .iload_n 1, 1, 1, 0, 0), (2, .ifCond .lt 16, 3, 2, 18, 0), (5, .iload_n 2, 1, 1, 0, 0), (6, .iconst 0, 1, 0, 0, 0), (7, .iconst 2, 1, 0, 0, 0), (8, .invokestatic 36, 3, 7, 26, 0), (11, .ifCond .eq 7, 3, 2, 18, 0), (14, .iconst 0, 1, 0, 0, 0), (15, .goto 4, 3, 2, 19, 0), (18, .iconst 1, 1, 0, 0, 0), (19, .invokevirtual 91, 3, 7, 29, 0), (22, .ifCond .ne 5, 3, 2, 27, 0), (25, .iconst 0, 1, 0, 0, 0), (26, .ireturn, 1, 8, 0, 0), (27, .iload_n 1, 1, 1, 0, 0), (28, .aload_n 0, 1, 1, 0, 0), (29, .getfield 7, 3, 3, 11, 0), (32, .bipush 10, 2, 0, 0, 0), (34, .iaload, 1, 3, 0, 0), (35, .if_icmp .ge 22, 3, 2, 57, 0), (38, .aload_n 0, 1, 1, 0, 0), (39, .aload_n 0, 1, 1, 0, 0), (40, .getfield 7, 3, 3, 11, 0), (43, .bipush 10, 2, 0, 0, 0), (45, .iaload, 1, 3, 0, 0), (46, .iconst 1, 1, 0, 0, 0), (47, .isub, 1, 0, 0, 0), (48, .iload_n 1, 1, 1, 0, 0), (49, .isub, 1, 0, 0, 0), (50, .iload_n 2, 1, 1, 0, 0), (51, .invokevirtual 175, 3, 7, 180, 0), (54, .goto 4, 3, 2, 58, 0), (57, .iconst (-1), 1, 0, 0, 0), (58, .ireturn, 1, 8, 0, 0)]
def am_ct_182 : List (Nat × Instr × Nat × Nat × Nat × Nat) := [(0, .iconst 0, 1, 0, 0, 0), (1, .istore_n 2, 1, 1, 0, 0), (2, .iconst 0, 1, 0, 0, 0), (3, .istore_n 3, 1, 1, 0, 0), (4, .iload_n 3, 1, 1, 0, 0), (5, .aload_n 0, 1, 1, 0, 0), (6, .getfield 23, 3, 3, 3, 0), (9, .getfield 27, 3, 3, 108, 1), (12, .if_icmp .ge 34, 3, 2, 46, 0), (15, .aload_n 0, 1, 1, 0, 0), (16, .getfield 23, 3, 3, 3, 0), (19, .iload_n 3, 1, 1, 0, 0), (20, .invokevirtual 33, 3, 7, 175, 0), (23, .iload_n 1, 1, 1, 0, 0), (24, .if_icmp .ne 16, 3, 2, 40, 0), (27, .iload_n 2, 1, 1, 0, 0), (28, .iconst 1, 1, 0, 0, 0), (29, .aload_n 0, 1, 1, 0, 0), (30, .getfield 23, 3, 3, 3, 0), (33, .iload_n 3, 1, 1, 0, 0), (34, .invokevirtual 37, 3, 7, 177, 0), (37, .ishl, 1, 0, 0, 0), (38, .ior, 1, 0, 0, 0), (39, .istore_n 2, 1, 1, 0, 0), (40, .iinc 3 1, 3, 1, 0, 0), (43, .goto (-39), 3, 2, 4, 0), (46, .iload_n 2, 1, 1, 0, 0), (47, .ireturn, 1, 8, 0, 0)]
def am_ct_183 : List (Nat × Instr × Nat × Nat × Nat × Nat) := [(0, .iload_n 1, 1, 1, 0, 0), (1, .ifCond .ge 14, 3, 2, 15, 0), (4, .new 69, 3, 9, 0, 0), (7, .dup, 1, 0, 0, 0), (8, .ldc_w 331, 3, 11, 0, 0), (11, .invokespecial 73, 3, 11, 0, 0), (14, .athrow, 1, 11, 0, 0), (15, .aload_n 0, 1, 1, 0, 0), (16, .getfield 38, 3, 3, 10, 2), (19, .iload_n 1, 1, 1, 0, 0), (20, .invokevirtual 333, 3, 7, 182, 0), (23, .ireturn, 1, 8, 0, 0)]
def am_ct_184 : List (Nat × Instr × Nat × Nat × Nat × Nat) := [(0, .aload_n 2, 1, 1, 0, 0), (1, .iconst 0, 1, 0, 0, 0), (2, .aload_n 0, 1, 1, 0, 0), (3, .iload_n 1, 1, 1, 0, 0), (4, .invokevirtual 73, 3, 7, 183, 0), (7, .i2l, 1, 0, 0, 0), (8, .lastore, 1, 4, 0, 0), (9, .goto 6, 3, 2, 15, 0), (12, .astore_n 3, 1, 1, 0, 0), (13, .iconst 1, 1, 0, 0, 0), (14, .ireturn, 1, 8, 0, 0), (15, .iconst 0, 1, 0, 0, 0), (16, .ireturn, 1, 8, 0, 0)]
def am_ct_185 : List (Nat × Instr × Nat × Nat × Nat × Nat) := [(0, .iconst 0, 1, 0, 0, 0), (1, .istore_n 2, 1, 1, 0, 0), (2, .iconst 0, 1, 0, 0, 0), (3, .istore_n 3, 1, 1, 0, 0), (4, .iload_n 3, 1, 1, 0, 0), (5, .aload_n 0, 1, 1, 0, 0), (6, .getfield 7, 3, 3, 11, 0), (9, .bipush 10, 2, 0, 0, 0), (11, .iaload, 1, 3, 0, 0), (12, .if_icmp .ge 34, 3, 2, 46, 0), (15, .iload_n 2, 1, 1, 0, 0), (16, .aload_n 0, 1, 1, 0, 0), (17, .iload_n 3, 1, 1, 0, 0), (18, .iconst 0, 1, 0, 0, 0), (19, .invokevirtual 175, 3, 7, 180, 0), (22, .iload_n 1, 1, 1, 0, 0), (23, .if_icmp .ne 14, 3, 2, 37, 0), (26, .iconst 1, 1, 0, 0, 0), (27, .aload_n 0, 1, 1, 0, 0), (28, .iload_n 3, 1, 1, 0, 0), (29, .iconst 2, 1, 0, 0, 0), (30, .invokevirtual 175, 3, 7, 180, 0), (33, .ishl, 1, 0, 0, 0), (34, .goto 4, 3, 2, 38, 0), (37, .iconst 0, 1, 0, 0, 0), (38, .ior, 1, 0, 0, 0), (39, .istore_n 2, 1, 1, 0, 0), (40, .iinc 3 1, 3, 1, 0, 0), (43, .goto (-39), 3, 2, 4, 0), (46, .iload_n 2, 1, 1, 0, 0), (47, .ireturn, 1, 8, 0, 0)]
def am_ct_186 : List (Nat × Instr × Nat × Nat × Nat × Nat) := [(0, .aload_n 0, 1, 1, 0, 0), (1, .iload_n 1, 1, 1, 0, 0), (2, .ifCond .ge 7, 3, 2, 9, 0), (5, .iconst 1, 1, 0, 0, 0), (6, .goto 4, 3, 2, 10, 0), (9, .iconst 0, 1, 0, 0, 0), (10, .invokevirtual 91, 3, 7, 29, 0), (13, .ifCond .eq 11, 3, 2, 24, 0), (16, .aload_n 0, 1, 1, 0, 0), (17, .iload_n 1, 1, 1, 0, 0), (18, .invokevirtual 178, 3, 7, 185, 0), (21, .goto 4, 3, 2, 25, 0), (24, .iconst 0, 1, 0, 0, 0), (25, .ireturn, 1, 8, 0, 0)]
def am_ct_187 : List (Nat × Instr × Nat × Nat × Nat × Nat) := [(0, .iconst 0, 1, 0, 0, 0), (1, .istore_n 1, 1, 1, 0, 0), (2, .iload_n 1, 1, 1, 0, 0), (3, .aload_n 0, 1, 1, 0, 0), (4, .getfield 13, 3, 3, 6, 0), (7, .arraylength, 1, 3, 0, 0), (8, .if_icmp .ge 16, 3, 2, 24, 0), (11, .aload_n 0, 1, 1, 0, 0), (12, .getfield 13, 3, 3, 6, 0), (15, .iload_n 1, 1, 1, 0, 0), (16, .iconst 0, 1, 0, 0, 0), (17, .iastore, 1, 4, 0, 0), (18, .iinc 1 1, 3, 1, 0, 0), (21, .goto (-19), 3, 2, 2, 0), (24, .return_, 1, 8, 0, 0)]
def am_ct_188 : List (Nat × Instr × Nat × Nat × Nat × Nat) := [(0, .aload_n 0, 1, 1, 0, 0), (1, .getfield 14, 3, 3, 3, 1), (4, .invokevirtual 40, 3, 7, 187, 0), (7, .iconst 0, 1, 0, 0, 0), (8, .istore_n 1, 1, 1, 0, 0), (9, .iload_n 1, 1, 1, 0, 0), (10, .aload_n 0, 1, 1, 0, 0), (11, .getfield 23, 3, 3, 3, 0), (14, .getfield 27, 3, 3, 108, 1), (17, .if_icmp .ge 25, 3, 2, 42, 0), (20, .aload_n 0, 1, 1, 0, 0), (21, .getfield 14, 3, 3, 3, 1), (24, .aload_n 0, 1, 1, 0, 0), (25, .getfield 23, 3, 3, 3, 0), (28, .iload_n 1, 1, 1, 0, 0), (29, .invokevirtual 37, 3, 7, 177, 0), (32, .iconst 1, 1, 0, 0, 0), (33, .invokevirtual 43, 3, 7, 55, 0), (36, .iinc 1 1, 3, 1, 0, 0), (39, .goto (-30), 3, 2, 9, 0), (42, .return_, 1, 8, 0, 0)]
def am_ct_189 : List (Nat × Instr × Nat × Nat × Nat × Nat) := [(0, .aload_n 0, 1, 1, 0, 0), (1, .invokevirtual 47, 3, 7, 188, 0), (4, .iconst 0, 1, 0, 0, 0), (5, .istore_n 1, 1, 1, 0, 0), (6, .iconst 0, 1, 0, 0, 0), (7, .istore_n 2, 1, 1, 0, 0), (8, .iload_n 2, 1, 1, 0, 0), (9, .bipush 31, 2, 0, 0, 0), (11, .if_icmp .ge 28, 3, 2, 39, 0), (14, .iload_n 1, 1, 1, 0, 0), (15, .aload_n 0, 1, 1, 0, 0), (16, .getfield 14, 3, 3, 3, 1), (19, .iload_n 2, 1, 1, 0, 0), (20, .invokevirtual 50, 3, 7, 39, 0), (23, .ifCond .le 7, 3, 2, 30, 0), (26, .iconst 1, 1, 0, 0, 0), (27, .goto 4, 3, 2, 31, 0), (30, .iconst 0, 1, 0, 0, 0), (31, .iadd, 1, 0, 0, 0), (32, .istore_n 1, 1, 1, 0, 0), (33, .iinc 2 1, 3, 1, 0, 0), (36, .goto (-28), 3, 2, 8, 0), (39, .iload_n 1, 1, 1, 0, 0), (40, .ireturn, 1, 8, 0, 0)]
def am_ct_190 : List (Nat × Instr × Nat × Nat × Nat × Nat) := [(0, .aload_n 0, 1, 1, 0, 0), (1, .getfield 23, 3, 3, 3, 0), (4, .getfield 27, 3, 3, 108, 1), (7, .ifCond .ne 5, 3, 2, 12, 0), (10, .iconst (-1), 1, 0, 0, 0), (11, .ireturn, 1, 8, 0, 0), (12, .aload_n 0, 1, 1, 0, 0), (13, .invokevirtual 47, 3, 7, 188, 0), (16, .iconst 0, 1, 0, 0, 0), (17, .istore_n 1, 1, 1, 0, 0), (18, .iconst 1, 1, 0, 0, 0), (19, .istore_n 2, 1, 1, 0, 0), (20, .iload_n 2, 1, 1, 0, 0), (21, .bipush 31, 2, 0, 0, 0), (23, .if_icmp .ge 30, 3, 2, 53, 0), (26, .aload_n 0, 1, 1, 0, 0), (27, .getfield 14, 3, 3, 3, 1), (30, .iload_n 2, 1, 1, 0, 0), (31, .invokevirtual 50, 3, 7, 39, 0), (34, .aload_n 0, 1, 1, 0, 0), (35, .getfield 14, 3, 3, 3, 1), (38, .iload_n 1, 1, 1, 0, 0), (39, .invokevirtual 50, 3, 7, 39, 0), (42, .if_icmp .le 5, 3, 2, 47, 0), (45, .iload_n 2, 1, 1, 0, 0), (46, .istore_n 1, 1, 1, 0, 0), (47, .iinc 2 1, 3, 1, 0, 0), (50, .goto (-30), 3, 2, 20, 0), (53, .iload_n 1, 1, 1, 0, 0), (54, .ireturn, 1, 8, 0, 0)]
def am_ct_191 : List (Nat × Instr × Nat × Nat × Nat × Nat) := [(0, .aload_n 0, 1, 1, 0, 0), (1, .iconst 0, 1, 0, 0, 0), (2, .putfield 53, 3, 4, 3, 3), (5, .iconst 0, 1, 0, 0, 0), (6, .istore_n 1, 1, 1, 0, 0), (7, .iconst 0, 1, 0, 0, 0), (8, .istore_n 2, 1, 1, 0, 0), (9, .iload_n 2, 1, 1, 0, 0), (10, .aload_n 0, 1, 1, 0, 0), (11, .getfield 23, 3, 3, 3, 0), (14, .getfield 27, 3, 3, 108, 1), (17, .if_icmp .ge 80, 3, 2, 97, 0), (20, .iload_n 1, 1, 1, 0, 0), (21, .iconst 1, 1, 0, 0, 0), (22, .aload_n 0, 1, 1, 0, 0), (23, .getfield 23, 3, 3, 3, 0), (26, .iload_n 2, 1, 1, 0, 0), (27, .invokevirtual 37, 3, 7, 177, 0), (30, .ishl, 1, 0, 0, 0), (31, .ior, 1, 0, 0, 0), (32, .istore_n 1, 1, 1, 0, 0), (33, .iload_n 2, 1, 1, 0, 0), (34, .aload_n 0, 1, 1, 0, 0), (35, .getfield 23, 3, 3, 3, 0), (38, .getfield 27, 3, 3, 108, 1), (41, .iconst 1, 1, 0, 0, 0), (42, .isub, 1, 0, 0, 0), (43, .if_icmp .eq 24, 3, 2, 67, 0), (46, .aload_n 0, 1, 1, 0, 0), (47, .getfield 23, 3, 3, 3, 0), (50, .iload_n 2, 1, 1, 0, 0), (51, .iconst 1, 1, 0, 0, 0), (52, .iadd, 1, 0, 0, 0), (53, .invokevirtual 33, 3, 7, 175, 0), (56, .aload_n 0, 1, 1, 0, 0), (57, .getfield 23, 3, 3, 3, 0), (60, .iload_n 2, 1, 1, 0, 0), (61, .invokevirtual 33, 3, 7, 175, 0), (64, .if_icmp .eq 27, 3, 2, 91, 0), (67, .aload_n 0, 1, 1, 0, 0), (68, .getfield 20, 3, 3, 3, 2), (71, .aload_n 0, 1, 1, 0, 0), (72, .getfield 53, 3, 3, 3, 3), (75, .iload_n 1, 1, 1, 0, 0), (76, .invokevirtual 56, 3, 7, 4, 0), (79, .aload_n 0, 1, 1, 0, 0), (80, .dup, 1, 0, 0, 0), (81, .getfield 53, 3, 3, 3, 3), (84, .iconst 1, 1, 0, 0, 0), (85, .iadd, 1, 0, 0, 0), (86, .putfield 53, 3, 4, 3, 3), (89, .iconst 0, 1, 0, 0, 0), (90, .istore_n 1, 1, 1, 0, 0), (91, .iinc 2 1, 3, 1, 0, 0), (94, .goto (-85), 3, 2, 9, 0), (97, .return_, 1, 8, 0, 0)]
def am_ct_192 : List (Nat × Instr × Nat × Nat × Nat × Nat) := [(0, .iconst 0, 1, 0, 0, 0), (1, .istore_n 2, 1, 1, 0, 0), (2, .iload_n 2, 1, 1, 0, 0), (3, .iload_n 1, 1, 1, 0, 0), (4, .if_icmp .ge 30, 3, 2, 34, 0), (7, .aload_n 0, 1, 1, 0, 0), (8, .getfield 20, 3, 3, 3, 2), (11, .iload_n 2, 1, 1, 0, 0), (12, .invokevirtual 50, 3, 7, 39, 0), (15, .aload_n 0, 1, 1, 0, 0), (16, .getfield 20, 3, 3, 3, 2), (19, .iload_n 1, 1, 1, 0, 0), (20, .invokevirtual 50, 3, 7, 39, 0), (23, .if_icmp .ne 5, 3, 2, 28, 0), (26, .iconst 0, 1, 0, 0, 0), (27, .ireturn, 1, 8, 0, 0), (28, .iinc 2 1, 3, 1, 0, 0), (31, .goto (-29), 3, 2, 2, 0), (34, .iconst 1, 1, 0, 0, 0), (35, .ireturn, 1, 8, 0, 0)]
def am_ct_193 : List (Nat × Instr × Nat × Nat × Nat × Nat) := [(0, .aload_n 0, 1, 1, 0, 0), (1, .invokevirtual 59, 3, 7, 191, 0), (4, .iconst 0, 1, 0, 0, 0), (5, .istore_n 1, 1, 1, 0, 0), (6, .iconst 0, 1, 0, 0, 0), (7, .istore_n 2, 1, 1, 0, 0), (8, .iload_n 2, 1, 1, 0, 0), (9, .aload_n 0, 1, 1, 0, 0), (10, .getfield 53, 3, 3, 3, 3), (13, .if_icmp .ge 25, 3, 2, 38, 0), (16, .iload_n 1, 1, 1, 0, 0), (17, .aload_n 0, 1, 1, 0, 0), (18, .iload_n 2, 1, 1, 0, 0), (19, .invokevirtual 62, 3, 7, 192, 0), (22, .ifCond .eq 7, 3, 2, 29, 0), (25, .iconst 1, 1, 0, 0, 0), (26, .goto 4, 3, 2, 30, 0), (29, .iconst 0, 1, 0, 0, 0), (30, .iadd, 1, 0, 0, 0), (31, .istore_n 1, 1, 1, 0, 0), (32, .iinc 2 1, 3, 1, 0, 0), (35, .goto (-27), 3, 2, 8, 0), (38, .iload_n 1, 1, 1, 0, 0), (39, .ireturn, 1, 8, 0, 0)]
def am_ct_194 : List (Nat × Instr × Nat × Nat × Nat × Nat) := [(0, .iload_n 0, 1, 1, 0, 0), (1, .iload_n 0, 1, 1, 0, 0), (2, .iconst 1, 1, 0, 0, 0), (3, .iushr, 1, 0, 0, 0), (4, .ldc_w 265, 3, 6, 5, 1431655765), (7, .iand, 1, 0, 0, 0), (8, .isub, 1, 0, 0, 0), (9, .istore_n 0, 1, 1, 0, 0), (10, .iload_n 0, 1, 1, 0, 0), (11, .ldc_w 266, 3, 6, 5, 858993459), (14, .iand, 1, 0, 0, 0), (15, .iload_n 0, 1, 1, 0, 0), (16, .iconst 2, 1, 0, 0, 0), (17, .iushr, 1, 0, 0, 0), (18, .ldc_w 266, 3, 6, 5, 858993459), (21, .iand, 1, 0, 0, 0), (22, .iadd, 1, 0, 0, 0), (23, .istore_n 0, 1, 1, 0, 0), (24, .iload_n 0, 1, 1, 0, 0), (25, .iload_n 0, 1, 1, 0, 0), (26, .iconst 4, 1, 0, 0, 0), (27, .iushr, 1, 0, 0, 0), (28, .iadd, 1, 0, 0, 0), (29, .ldc_w 267, 3, 6, 5, 252645135), (32, .iand, 1, 0, 0, 0), (33, .istore_n 0, 1, 1, 0, 0), (34, .iload_n 0, 1, 1, 0, 0), (35, .iload_n 0, 1, 1, 0, 0), (36, .bipush 8, 2, 0, 0, 0), (38, .iushr, 1, 0, 0, 0), (39, .iadd, 1, 0, 0, 0), (40, .istore_n 0, 1, 1, 0, 0), (41, .iload_n 0, 1, 1, 0, 0), (42, .iload_n 0, 1, 1, 0, 0), (43, .bipush 16, 2, 0, 0, 0), (45, .iushr, 1, 0, 0, 0), (46, .iadd, 1, 0, 0, 0), (47, .istore_n 0, 1, 1, 0, 0), (48, .iload_n 0, 1, 1, 0, 0), (49, .bipush 63, 2, 0, 0, 0), (51, .iand, 1, 0, 0, 0), (52, .ireturn, 1, 8, 0, 0)]
def am_ct_195 : List (Nat × Instr × Nat × Nat × Nat × Nat) := [(0, .aload_n 0, 1, 1, 0, 0), (1, .invokevirtual 59, 3, 7, 191, 0), (4, .iconst 0, 1, 0, 0, 0), (5, .istore_n 1, 1, 1, 0, 0), (6, .iconst 0, 1, 0, 0, 0), (7, .istore_n 2, 1, 1, 0, 0), (8, .iload_n 2, 1, 1, 0, 0), (9, .aload_n 0, 1, 1, 0, 0), (10, .getfield 53, 3, 3, 3, 3), (13, .if_icmp .ge 25, 3, 2, 38, 0), (16, .iload_n 1, 1, 1, 0, 0), (17, .aload_n 0, 1, 1, 0, 0), (18, .getfield 20, 3, 3, 3, 2), (21, .iload_n 2, 1, 1, 0, 0), (22, .invokevirtual 50, 3, 7, 39, 0), (25, .invokestatic 66, 3, 7, 194, 0), (28, .invokestatic 71, 3, 6, 2, 0), (31, .istore_n 1, 1, 1, 0, 0), (32, .iinc 2 1, 3, 1, 0, 0), (35, .goto (-27), 3, 2, 8, 0), (38, .iload_n 1, 1, 1, 0, 0), (39, .ireturn, 1, 8, 0, 0)]
def am_ct_196 : List (Nat × Instr × Nat × Nat × Nat × Nat) := [(0, .iconst 0, 1, 0, 0, 0), (1, .istore_n 2, 1, 1, 0, 0), (2, .iconst 1, 1, 0, 0, 0), (3, .istore_n 3, 1, 1, 0, 0), (4, .iload_n 3, 1, 1, 0, 0), (5, .aload_n 0, 1, 1, 0, 0), (6, .getfield 23, 3, 3, 3, 0), (9, .getfield 27, 3, 3, 108, 1), (12, .if_icmp .ge 45, 3, 2, 57, 0), (15, .aload_n 0, 1, 1, 0, 0), (16, .getfield 23, 3, 3, 3, 0), (19, .iload_n 3, 1, 1, 0, 0), (20, .invokevirtual 37, 3, 7, 177, 0), (23, .aload_n 0, 1, 1, 0, 0), (24, .getfield 23, 3, 3, 3, 0), (27, .iload_n 3, 1, 1, 0, 0), (28, .iconst 1, 1, 0, 0, 0), (29, .isub, 1, 0, 0, 0), (30, .invokevirtual 37, 3, 7, 177, 0), (33, .isub, 1, 0, 0, 0), (34, .istore 4, 2, 1, 0, 0), (36, .iload_n 2, 1, 1, 0, 0), (37, .iload 4, 2, 1, 0, 0), (39, .iload_n 1, 1, 1, 0, 0), (40, .imul, 1, 0, 0, 0), (41, .ifCond .le 7, 3, 2, 48, 0), (44, .iconst 1, 1, 0, 0, 0), (45, .goto 4, 3, 2, 49, 0), (48, .iconst 0, 1, 0, 0, 0), (49, .iadd, 1, 0, 0, 0), (50, .istore_n 2, 1, 1, 0, 0), (51, .iinc 3 1, 3, 1, 0, 0), (54, .goto (-50), 3, 2, 4, 0), (57, .iload_n 2, 1, 1, 0, 0), (58, .ireturn, 1, 8, 0, 0)]
def am_ct_197 : List (Nat × Instr × Nat × Nat × Nat × Nat) := [(0, .iload_n 1, 1, 1, 0, 0), (1, .tableswitch 104 0 6 #[43, 54, 62, 70, 78, 86, 95], 43, 2, 0, 0), (44, .aload_n 0, 1, 1, 0, 0), (45, .getfield 12, 3, 3, 10, 0), (48, .getfield 31, 3, 3, 107, 10), (51, .getfield 319, 3, 3, 108, 1), (54, .ireturn, 1, 8, 0, 0), (55, .aload_n 0, 1, 1, 0, 0), (56, .getfield 38, 3, 3, 10, 2), (59, .invokevirtual 336, 3, 7, 189, 0), (62, .ireturn, 1, 8, 0, 0), (63, .aload_n 0, 1, 1, 0, 0), (64, .getfield 38, 3, 3, 10, 2), (67, .invokevirtual 339, 3, 7, 190, 0), (70, .ireturn, 1, 8, 0, 0), (71, .aload_n 0, 1, 1, 0, 0), (72, .getfield 38, 3, 3, 10, 2), (75, .invokevirtual 342, 3, 7, 193, 0), (78, .ireturn, 1, 8, 0, 0), (79, .aload_n 0, 1, 1, 0, 0), (80, .getfield 38, 3, 3, 10, 2), (83, .invokevirtual 345, 3, 7, 195, 0), (86, .ireturn, 1, 8, 0, 0), (87, .aload_n 0, 1, 1, 0, 0), (88, .getfield 38, 3, 3, 10, 2), (91, .iconst 1, 1, 0, 0, 0), (92, .invokevirtual 348, 3, 7, 196, 0), (95, .ireturn, 1, 8, 0, 0), (96, .aload_n 0, 1, 1, 0, 0), (97, .getfield 38, 3, 3, 10, 2), (100, .iconst (-1), 1, 0, 0, 0), (101, .invokevirtual 348, 3, 7, 196, 0), (104, .ireturn, 1, 8, 0, 0), (105, .new 69, 3, 9, 0, 0), (108, .dup, 1, 0, 0, 0), (109, .ldc_w 351, 3, 11, 0, 0), (112, .invokespecial 73, 3, 11, 0, 0), (115, .athrow, 1, 11, 0, 0)]
def am_ct_198 : List (Nat × Instr × Nat × Nat × Nat × Nat) := [(0, .aload_n 2, 1, 1, 0, 0), (1, .iconst 0, 1, 0, 0, 0), (2, .aload_n 0, 1, 1, 0, 0), (3, .iload_n 1, 1, 1, 0, 0), (4, .invokevirtual 76, 3, 7, 197, 0), (7, .i2l, 1, 0, 0, 0), (8, .lastore, 1, 4, 0, 0), (9, .goto 6, 3, 2, 15, 0), (12, .astore_n 3, 1, 1, 0, 0), (13, .iconst 1, 1, 0, 0, 0), (14, .ireturn, 1, 8, 0, 0), (15, .iconst 0, 1, 0, 0, 0), (16, .ireturn, 1, 8, 0, 0)]
def am_ct_199 : List (Nat × Instr × Nat × Nat × Nat × Nat) := [(0, .iconst 0, 1, 0, 0, 0), (1, .istore_n 2, 1, 1, 0, 0), (2, .iconst 0, 1, 0, 0, 0), (3, .istore_n 3, 1, 1, 0, 0), (4, .iload_n 3, 1, 1, 0, 0), (5, .aload_n 0, 1, 1, 0, 0), (6, .getfield 7, 3, 3, 11, 0), (9, .bipush 10, 2, 0, 0, 0), (11, .iaload, 1, 3, 0, 0), (12, .if_icmp .ge 27, 3, 2, 39, 0), (15, .iload_n 2, 1, 1, 0, 0), (16, .aload_n 0, 1, 1, 0, 0), (17, .iload_n 3, 1, 1, 0, 0), (18, .iconst 2, 1, 0, 0, 0), (19, .invokevirtual 175, 3, 7, 180, 0), (22, .iload_n 1, 1, 1, 0, 0), (23, .if_icmp .ne 7, 3, 2, 30, 0), (26, .iconst 1, 1, 0, 0, 0), (27, .goto 4, 3, 2, 31, 0), (30, .iconst 0, 1, 0, 0, 0), (31, .iadd, 1, 0, 0, 0), (32, .istore_n 2, 1, 1, 0, 0), (33, .iinc 3 1, 3, 1, 0, 0), (36, .goto (-32), 3, 2, 4, 0), (39, .iload_n 2, 1, 1, 0, 0), (40, .ireturn, 1, 8, 0, 0)]
def am_ct_200 : List (Nat × Instr × Nat × Nat × Nat × Nat) := [(0, .iconst 0, 1, 0, 0, 0), (1, .istore_n 1, 1, 1, 0, 0), (2, .iconst 0, 1, 0, 0, 0), (3, .istore_n 2, 1, 1, 0, 0), (4, .iload_n 2, 1, 1, 0, 0), (5, .bipush 31, 2, 0, 0, 0), (7, .if_icmp .ge 25, 3, 2, 32, 0), (10, .iload_n 1, 1, 1, 0, 0), (11, .aload_n 0, 1, 1, 0, 0), (12, .iload_n 2, 1, 1, 0, 0), (13, .invokevirtual 181, 3, 7, 199, 0), (16, .ifCond .le 7, 3, 2, 23, 0), (19, .iconst 1, 1, 0, 0, 0), (20, .goto 4, 3, 2, 24, 0), (23, .iconst 0, 1, 0, 0, 0), (24, .iadd, 1, 0, 0, 0), (25, .istore_n 1, 1, 1, 0, 0), (26, .iinc 2 1, 3, 1, 0, 0), (29, .goto (-25), 3, 2, 4, 0), (32, .iload_n 1, 1, 1, 0, 0), (33, .ireturn, 1, 8, 0, 0)]
def am_ct_201 : List (Nat × Instr × Nat × Nat × Nat × Nat) := [(0, .iconst 0, 1, 0, 0, 0), (1, .istore_n 1, 1, 1, 0, 0), (2, .iconst 1, 1, 0, 0, 0), (3, .istore_n 2, 1, 1, 0, 0), (4, .iload_n 2, 1, 1, 0, 0), (5, .bipush 31, 2, 0, 0, 0), (7, .if_icmp .ge 28, 3, 2, 35, 0), (10, .aload_n 0, 1, 1, 0, 0), (11, .iload_n 2, 1, 1, 0, 0), (12, .invokevirtual 181, 3, 7, 199, 0), (15, .aload_n 0, 1, 1, 0, 0), (16, .iload_n 1, 1, 1, 0, 0), (17, .invokevirtual 181, 3, 7, 199, 0), (20, .if_icmp .le 7, 3, 2, 27, 0), (23, .iload_n 2, 1, 1, 0, 0), (24, .goto 4, 3, 2, 28, 0), (27, .iload_n 1, 1, 1, 0, 0), (28, .istore_n 1, 1, 1, 0, 0), (29, .iinc 2 1, 3, 1, 0, 0), (32, .goto (-28), 3, 2, 4, 0), (35, .aload_n 0, 1, 1, 0, 0), (36, .getfield 7, 3, 3, 11, 0), (39, .bipush 10, 2, 0, 0, 0), (41, .iaload, 1, 3, 0, 0), (42, .ifCond .ne 7, 3, 2, 49, 0), (45, .iconst (-1), 1, 0, 0, 0), (46, .goto 4, 3, 2, 50, 0), (49, .iload_n 1, 1, 1, 0, 0), (50, .ireturn, 1, 8, 0, 0)]
def am_ct_202 : List (Nat × Instr × Nat × Nat × Nat × Nat) := [(0, .aload_n 0, 1, 1, 0, 0), (1, .aload_n 0, 1, 1, 0, 0), (2, .iload_n 1, 1, 1, 0, 0), (3, .iconst 0, 1, 0, 0, 0), (4, .invokevirtual 175, 3, 7, 180, 0), (7, .invokevirtual 178, 3, 7, 185, 0), (10, .istore_n 2, 1, 1, 0, 0), (11, .iconst 1, 1, 0, 0, 0), (12, .istore_n 3, 1, 1, 0, 0), (13, .iconst 0, 1, 0, 0, 0), (14, .istore 4, 2, 1, 0, 0), (16, .iload 4, 2, 1, 0, 0), (18, .iload_n 1, 1, 1, 0, 0), (19, .if_icmp .ge 34, 3, 2, 53, 0), (22, .iload_n 3, 1, 1, 0, 0), (23, .ifCond .eq 22, 3, 2, 45, 0), (26, .aload_n 0, 1, 1, 0, 0), (27, .aload_n 0, 1, 1, 0, 0), (28, .iload 4, 2, 1, 0, 0), (30, .iconst 0, 1, 0, 0, 0), (31, .invokevirtual 175, 3, 7, 180, 0), (34, .invokevirtual 178, 3, 7, 185, 0), (37, .iload_n 2, 1, 1, 0, 0), (38, .if_icmp .eq 7, 3, 2, 45, 0), (41, .iconst 1, 1, 0, 0, 0), (42, .goto 4, 3, 2, 46, 0), (45, .iconst 0, 1, 0, 0, 0), (46, .istore_n 3, 1, 1, 0, 0), (47, .iinc 4 1, 3, 1, 0, 0), (50, .goto (-34), 3, 2, 16, 0), (53, .iload_n 3, 1, 1, 0, 0), (54, .ireturn, 1, 8, 0, 0)]
def am_ct_203 : List (Nat × Instr × Nat × Nat × Nat × Nat) := [(0, .iconst 0, 1, 0, 0, 0), (1, .istore_n 1, 1, 1, 0, 0), (2, .iconst 0, 1, 0, 0, 0), (3, .istore_n 2, 1, 1, 0, 0), (4, .iload_n 2, 1, 1, 0, 0), (5, .aload_n 0, 1, 1, 0, 0), (6, .getfield 7, 3, 3, 11, 0), (9, .bipush 10, 2, 0, 0, 0), (11, .iaload, 1, 3, 0, 0), (12, .if_icmp .ge 25, 3, 2, 37, 0), (15, .iload_n 1, 1, 1, 0, 0), (16, .aload_n 0, 1, 1, 0, 0), (17, .iload_n 2, 1, 1, 0, 0), (18, .invokevirtual 184, 3, 7, 202, 0), (21, .ifCond .eq 7, 3, 2, 28, 0), (24, .iconst 1, 1, 0, 0, 0), (25, .goto 4, 3, 2, 29, 0), (28, .iconst 0, 1, 0, 0, 0), (29, .iadd, 1, 0, 0, 0), (30, .istore_n 1, 1, 1, 0, 0), (31, .iinc 2 1, 3, 1, 0, 0), (34, .goto (-30), 3, 2, 4, 0), (37, .iload_n 1, 1, 1, 0, 0), (38, .ireturn, 1, 8, 0, 0)]
def am_ct_204 : List (Nat × Instr × Nat × Nat × Nat × Nat) := [(0, .iconst 0, 1, 0, 0, 0), (1, .istore_n 1, 1, 1, 0, 0), (2, .iconst 0, 1, 0, 0, 0), (3, .istore_n 2, 1, 1, 0, 0), (4, .iload_n 2, 1, 1, 0, 0), (5, .aload_n 0, 1, 1, 0, 0), (6, .getfield 7, 3, 3, 11, 0), (9, .bipush 10, 2, 0, 0, 0), (11, .iaload, 1, 3, 0, 0), (12, .if_icmp .ge 54, 3, 2, 66, 0), (15, .iconst 0, 1, 0, 0, 0), (16, .istore_n 3, 1, 1, 0, 0), (17, .aload_n 0, 1, 1, 0, 0), (18, .aload_n 0, 1, 1, 0, 0), (19, .iload_n 2, 1, 1, 0, 0), (20, .iconst 0, 1, 0, 0, 0), (21, .invokevirtual 175, 3, 7, 180, 0), (24, .invokevirtual 178, 3, 7, 185, 0), (27, .istore 4, 2, 1, 0, 0), (29, .iload 4, 2, 1, 0, 0), (31, .ifCond .eq 18, 3, 2, 49, 0), (34, .iinc 3 1, 3, 1, 0, 0), (37, .iload 4, 2, 1, 0, 0), (39, .iload 4, 2, 1, 0, 0), (41, .iconst 1, 1, 0, 0, 0), (42, .isub, 1, 0, 0, 0), (43, .iand, 1, 0, 0, 0), (44, .istore 4, 2, 1, 0, 0), (46, .goto (-17), 3, 2, 29, 0), (49, .iload_n 3, 1, 1, 0, 0), (50, .iload_n 1, 1, 1, 0, 0), (51, .if_icmp .le 7, 3, 2, 58, 0), (54, .iload_n 3, 1, 1, 0, 0), (55, .goto 4, 3, 2, 59, 0), (58, .iload_n 1, 1, 1, 0, 0), (59, .istore_n 1, 1, 1, 0, 0), (60, .iinc 2 1, 3, 1, 0, 0), (63, .goto (-59), 3, 2, 4, 0), (66, .iload_n 1, 1, 1, 0, 0), (67, .ireturn, 1, 8, 0, 0)]
def am_ct_205 : List (Nat × Instr × Nat × Nat × Nat × Nat) := [(0, .iconst 0, 1, 0, 0, 0), (1, .istore_n 2, 1, 1, 0, 0), (2, .iconst 1, 1, 0, 0, 0), (3, .istore_n 3, 1, 1, 0, 0), (4, .iload_n 3, 1, 1, 0, 0), (5, .aload_n 0, 1, 1, 0, 0), (6, .getfield 7, 3, 3, 11, 0), (9, .bipush 10, 2, 0, 0, 0), (11, .iaload, 1, 3, 0, 0), (12, .if_icmp .ge 51, 3, 2, 63, 0), (15, .aload_n 0, 1, 1, 0, 0), (16, .iload_n 3, 1, 1, 0, 0), (17, .iconst 2, 1, 0, 0, 0), (18, .invokevirtual 175, 3, 7, 180, 0), (21, .aload_n 0, 1, 1, 0, 0), (22, .iload_n 3, 1, 1, 0, 0), (23, .iconst 1, 1, 0, 0, 0), (24, .isub, 1, 0, 0, 0), (25, .iconst 2, 1, 0, 0, 0), (26, .invokevirtual 175, 3, 7, 180, 0), (29, .isub, 1, 0, 0, 0), (30, .istore 4, 2, 1, 0, 0), (32, .iload_n 2, 1, 1, 0, 0), (33, .iload_n 1, 1, 1, 0, 0), (34, .ifCond .eq 11, 3, 2, 45, 0), (37, .iload 4, 2, 1, 0, 0), (39, .ifCond .le 15, 3, 2, 54, 0), (42, .goto 8, 3, 2, 50, 0), (45, .iload 4, 2, 1, 0, 0), (47, .ifCond .ge 7, 3, 2, 54, 0), (50, .iconst 1, 1, 0, 0, 0), (51, .goto 4, 3, 2, 55, 0), (54, .iconst 0, 1, 0, 0, 0), (55, .iadd, 1, 0, 0, 0), (56, .istore_n 2, 1, 1, 0, 0), (57, .iinc 3 1, 3, 1, 0, 0), (60, .goto (-56), 3, 2, 4, 0), (63, .iload_n 2, 1, 1, 0, 0), (64, .ireturn, 1, 8, 0, 0)]
def am_ct_206 : List (Nat × Instr × Nat × Nat × Nat × Nat) := [(0, .aload_n 0, 1, 1, 0, 0), (1, .iload_n 1, 1, 1, 0, 0), (2, .iconst 0, 1, 0, 0, 0), (3, .bipush 6, 2, 0, 0, 0), (5, .invokestatic 36, 3, 7, 26, 0), (8, .ifCond .eq 7, 3, 2, 15, 0), (11, .iconst 0, 1, 0, 0, 0), (12, .goto 4, 3, 2, 16, 0), (15, .iconst 1, 1, 0, 0, 0), (16, .invokevirtual 91, 3, 7, 29, 0), (19, .ifCond .ne 5, 3, 2, 24, 0), (22, .iconst 0, 1, 0, 0, 0), (23, .ireturn, 1, 8, 0, 0), (24, .iload_n 1, 1, 1, 0, 0), (25, .tableswitch 63 0 4 #[35, 43, 48, 53, 58], 35, 2, 0, 0), (60, .aload_n 0, 1, 1, 0, 0), (61, .getfield 7, 3, 3, 11, 0), (64, .bipush 10, 2, 0, 0, 0), (66, .iaload, 1, 3, 0, 0), (67, .ireturn, 1, 8, 0, 0), (68, .aload_n 0, 1, 1, 0, 0), (69, .invokevirtual 187, 3, 7, 200, 0), (72, .ireturn, 1, 8, 0, 0), (73, .aload_n 0, 1, 1, 0, 0), (74, .invokevirtual 190, 3, 7, 201, 0), (77, .ireturn, 1, 8, 0, 0), (78, .aload_n 0, 1, 1, 0, 0), (79, .invokevirtual 193, 3, 7, 203, 0), (82, .ireturn, 1, 8, 0, 0), (83, .aload_n 0, 1, 1, 0, 0), (84, .invokevirtual 196, 3, 7, 204, 0), (87, .ireturn, 1, 8, 0, 0), (88, .aload_n 0, 1, 1, 0, 0), (89, .iload_n 1, 1, 1, 0, 0), (90, .iconst 5, 1, 0, 0, 0), (91, .if_icmp .ne 7, 3, 2, 98, 0), (94, .iconst 1, 1, 0, 0, 0), (95, .goto 4, 3, 2, 99, 0), (98, .iconst 0, 1, 0, 0, 0), (99, .invokevirtual 199, 3, 7, 205, 0), (102, .ireturn, 1, 8, 0, 0)]
def am_ct_207 : List (Nat × Instr × Nat × Nat × Nat × Nat) := [(0, .iconst 0, 1, 0, 0, 0), (1, .istore_n 1, 1, 1, 0, 0), (2, .iconst 0, 1, 0, 0, 0), (3, .istore_n 2, 1, 1, 0, 0), (4, .iload_n 2, 1, 1, 0, 0), (5, .aload_n 0, 1, 1, 0, 0), (6, .getfield 23, 3, 3, 3, 0), (9, .getfield 27, 3, 3, 108, 1), (12, .if_icmp .ge 20, 3, 2, 32, 0), (15, .iload_n 1, 1, 1, 0, 0), (16, .aload_n 0, 1, 1, 0, 0), (17, .getfield 23, 3, 3, 3, 0), (20, .iload_n 2, 1, 1, 0, 0), (21, .invokevirtual 37, 3, 7, 177, 0), (24, .iadd, 1, 0, 0, 0), (25, .istore_n 1, 1, 1, 0, 0), (26, .iinc 2 1, 3, 1, 0, 0), (29, .goto (-25), 3, 2, 4, 0), (32, .iload_n 1, 1, 1, 0, 0), (33, .ireturn, 1, 8, 0, 0)]
def am_ct_208 : List (Nat × Instr × Nat × Nat × Nat × Nat) := [(0, .aload_n 0, 1, 1, 0, 0), (1, .getfield 12, 3, 3, 10, 0), (4, .getfield 31, 3, 3, 107, 10), (7, .getfield 319, 3, 3, 108, 1), (10, .istore_n 1, 1, 1, 0, 0), (11, .iload_n 1, 1, 1, 0, 0), (12, .ifCond .le 17, 3, 2, 29, 0), (15, .aload_n 0, 1, 1, 0, 0), (16, .getfield 38, 3, 3, 10, 2), (19, .invokevirtual 353, 3, 7, 207, 0), (22, .i2f, 1, 0, 0, 0), (23, .iload_n 1, 1, 1, 0, 0), (24, .i2f, 1, 0, 0, 0), (25, .fdiv, 1, 0, 0, 0), (26, .goto 4, 3, 2, 30, 0), (29, .fconst 0, 1, 0, 0, 0), (30, .freturn, 1, 8, 0, 0)]
def am_ct_209 : List (Nat × Instr × Nat × Nat × Nat × Nat) := [(0, .aload_n 0, 1, 1, 0, 0), (1, .iconst 0, 1, 0, 0, 0), (2, .putfield 32, 3, 4, 11, 7), (5, .iconst 0, 1, 0, 0, 0), (6, .istore_n 1, 1, 1, 0, 0), (7, .iconst 0, 1, 0, 0, 0), (8, .istore_n 2, 1, 1, 0, 0), (9, .iload_n 2, 1, 1, 0, 0), (10, .aload_n 0, 1, 1, 0, 0), (11, .getfield 7, 3, 3, 11, 0), (14, .bipush 10, 2, 0, 0, 0), (16, .iaload, 1, 3, 0, 0), (17, .if_icmp .ge 18, 3, 2, 35, 0), (20, .iload_n 1, 1, 1, 0, 0), (21, .aload_n 0, 1, 1, 0, 0), (22, .iload_n 2, 1, 1, 0, 0), (23, .iconst 2, 1, 0, 0, 0), (24, .invokevirtual 175, 3, 7, 180, 0), (27, .iadd, 1, 0, 0, 0), (28, .istore_n 1, 1, 1, 0, 0), (29, .iinc 2 1, 3, 1, 0, 0), (32, .goto (-23), 3, 2, 9, 0), (35, .aload_n 0, 1, 1, 0, 0), (36, .getfield 7, 3, 3, 11, 0), (39, .bipush 10, 2, 0, 0, 0), (41, .iaload, 1, 3, 0, 0), (42, .ifCond .ne 7, 3, 2, 49, 0), (45, .fconst 0, 1, 0, 0, 0), (46, .goto 14, 3, 2, 60, 0), (49, .iload_n 1, 1, 1, 0, 0), (50, .i2f, 1, 0, 0, 0), (51, .aload_n 0, 1, 1, 0, 0), (52, .getfield 7, 3, 3, 11, 0), (55, .bipush 10, 2, 0, 0, 0), (57, .iaload, 1, 3, 0, 0), (58, .i2f, 1, 0, 0, 0), (59, .fdiv, 1, 0, 0, 0), (60, .freturn, 1, 8, 0, 0)]
def am_ct_210 : List (Nat × Instr × Nat × Nat × Nat × Nat) := [(0, .iload_n 0, 1, 1, 0, 0), (1, .ifCond .lt 14, 3, 2, 15, 0), (4, .iload_n 0, 1, 1, 0, 0), (5, .sipush 1000, 3, 0, 0, 0), (8, .if_icmp .gt 7, 3, 2, 15, 0), (11, .iconst 1, 1, 0, 0, 0), (12, .goto 4, 3, 2, 16, 0), (15, .iconst 0, 1, 0, 0, 0), (16, .ireturn, 1, 8, 0, 0)]
def am_ct_211 : List (Nat × Instr × Nat × Nat × Nat × Nat) := [(0, .aload_n 0, 1, 1, 0, 0), (1, .getfield 14, 3, 3, 5, 1), (4, .aload_n 0, 1, 1, 0, 0), (5, .getfield 26, 3, 3, 5, 0), (8, .getfield 30, 3, 3, 101, 1), (11, .invokevirtual 33, 3, 7, 16, 0), (14, .aload_n 0, 1, 1, 0, 0), (15, .getfield 20, 3, 3, 5, 2), (18, .invokevirtual 37, 3, 7, 187, 0), (21, .return_, 1, 8, 0, 0)]
def am_ct_212 : List (Nat × Instr × Nat × Nat × Nat × Nat) := [(0, .iconst 0, 1, 0, 0, 0), (1, .istore_n 1, 1, 1, 0, 0), (2, .iconst 0, 1, 0, 0, 0), (3, .istore_n 2, 1, 1, 0, 0), (4, .iload_n 2, 1, 1, 0, 0), (5, .bipush 12, 2, 0, 0, 0), (7, .if_icmp .ge 59, 3, 2, 66, 0), (10, .aload_n 0, 1, 1, 0, 0), (11, .getfield 26, 3, 3, 5, 0), (14, .iload_n 1, 1, 1, 0, 0), (15, .invokevirtual 40, 3, 7, 36, 0), (18, .ifCond .eq 48, 3, 2, 66, 0), (21, .aload_n 0, 1, 1, 0, 0), (22, .getfield 20, 3, 3, 5, 2), (25, .iload_n 1, 1, 1, 0, 0), (26, .iconst 1, 1, 0, 0, 0), (27, .invokevirtual 44, 3, 7, 55, 0), (30, .aload_n 0, 1, 1, 0, 0), (31, .getfield 14, 3, 3, 5, 1), (34, .iload_n 1, 1, 1, 0, 0), (35, .invokevirtual 48, 3, 7, 39, 0), (38, .istore_n 3, 1, 1, 0, 0), (39, .aload_n 0, 1, 1, 0, 0), (40, .getfield 14, 3, 3, 5, 1), (43, .iload_n 1, 1, 1, 0, 0), (44, .iconst 1, 1, 0, 0, 0), (45, .iload_n 3, 1, 1, 0, 0), (46, .isub, 1, 0, 0, 0), (47, .invokevirtual 52, 3, 7, 4, 0), (50, .aload_n 0, 1, 1, 0, 0), (51, .getfield 26, 3, 3, 5, 0), (54, .iload_n 1, 1, 1, 0, 0), (55, .iload_n 3, 1, 1, 0, 0), (56, .invokevirtual 55, 3, 7, 73, 0), (59, .istore_n 1, 1, 1, 0, 0), (60, .iinc 2 1, 3, 1, 0, 0), (63, .goto (-59), 3, 2, 4, 0), (66, .aload_n 0, 1, 1, 0, 0), (67, .getfield 20, 3, 3, 5, 2), (70, .iload_n 1, 1, 1, 0, 0), (71, .iconst 1, 1, 0, 0, 0), (72, .invokevirtual 44, 3, 7, 55, 0), (75, .iload_n 1, 1, 1, 0, 0), (76, .bipush 20, 2, 0, 0, 0), (78, .isub, 1, 0, 0, 0), (79, .ireturn, 1, 8, 0, 0)]
def am_ct_213 : List (Nat × Instr × Nat × Nat × Nat × Nat) := [(0, .aload_n 0, 1, 1, 0, 0), (1, .getfield 26, 3, 3, 5, 0), (4, .iconst 0, 1, 0, 0, 0), (5, .invokevirtual 40, 3, 7, 36, 0), (8, .ifCond .ne 5, 3, 2, 13, 0), (11, .iconst 0, 1, 0, 0, 0), (12, .ireturn, 1, 8, 0, 0), (13, .aload_n 0, 1, 1, 0, 0), (14, .invokevirtual 59, 3, 7, 211, 0), (17, .iconst 0, 1, 0, 0, 0), (18, .istore_n 3, 1, 1, 0, 0), (19, .iload_n 3, 1, 1, 0, 0), (20, .iload_n 1, 1, 1, 0, 0), (21, .if_icmp .ge 14, 3, 2, 35, 0), (24, .aload_n 0, 1, 1, 0, 0), (25, .invokevirtual 62, 3, 7, 212, 0), (28, .pop, 1, 0, 0, 0), (29, .iinc 3 1, 3, 1, 0, 0), (32, .goto (-13), 3, 2, 19, 0), (35, .aload_n 0, 1, 1, 0, 0), (36, .getfield 20, 3, 3, 5, 2), (39, .iload_n 2, 1, 1, 0, 0), (40, .invokevirtual 48, 3, 7, 39, 0), (43, .ireturn, 1, 8, 0, 0)]
def am_ct_214 : List (Nat × Instr × Nat × Nat × Nat × Nat) := [(0, .aload_n 0, 1, 1, 0, 0), (1, .getfield 20, 3, 3, 5, 2), (4, .invokevirtual 37, 3, 7, 187, 0), (7, .aload_n 0, 1, 1, 0, 0), (8, .getfield 20, 3, 3, 5, 2), (11, .iconst 0, 1, 0, 0, 0), (12, .iload_n 1, 1, 1, 0, 0), (13, .invokevirtual 52, 3, 7, 4, 0), (16, .iconst 0, 1, 0, 0, 0), (17, .istore_n 3, 1, 1, 0, 0), (18, .iload_n 3, 1, 1, 0, 0), (19, .aload_n 0, 1, 1, 0, 0), (20, .getfield 26, 3, 3, 5, 0), (23, .getfield 66, 3, 3, 101, 0), (26, .if_icmp .ge 78, 3, 2, 104, 0), (29, .aload_n 0, 1, 1, 0, 0), (30, .getfield 26, 3, 3, 5, 0), (33, .getfield 30, 3, 3, 101, 1), (36, .iload_n 3, 1, 1, 0, 0), (37, .invokevirtual 48, 3, 7, 39, 0), (40, .istore 4, 2, 1, 0, 0), (42, .aload_n 0, 1, 1, 0, 0), (43, .getfield 20, 3, 3, 5, 2), (46, .iload_n 3, 1, 1, 0, 0), (47, .invokevirtual 48, 3, 7, 39, 0), (50, .istore 5, 2, 1, 0, 0), (52, .aload_n 0, 1, 1, 0, 0), (53, .getfield 20, 3, 3, 5, 2), (56, .aload_n 0, 1, 1, 0, 0), (57, .getfield 26, 3, 3, 5, 0), (60, .iload_n 3, 1, 1, 0, 0), (61, .iload 4, 2, 1, 0, 0), (63, .invokevirtual 55, 3, 7, 73, 0), (66, .iload 5, 2, 1, 0, 0), (68, .iconst 1, 1, 0, 0, 0), (69, .iadd, 1, 0, 0, 0), (70, .iconst 2, 1, 0, 0, 0), (71, .idiv, 1, 0, 0, 0), (72, .invokevirtual 44, 3, 7, 55, 0), (75, .aload_n 0, 1, 1, 0, 0), (76, .getfield 20, 3, 3, 5, 2), (79, .aload_n 0, 1, 1, 0, 0), (80, .getfield 26, 3, 3, 5, 0), (83, .iload_n 3, 1, 1, 0, 0), (84, .iconst 1, 1, 0, 0, 0), (85, .iload 4, 2, 1, 0, 0), (87, .isub, 1, 0, 0, 0), (88, .invokevirtual 55, 3, 7, 73, 0), (91, .iload 5, 2, 1, 0, 0), (93, .iconst 2, 1, 0, 0, 0), (94, .idiv, 1, 0, 0, 0), (95, .invokevirtual 44, 3, 7, 55, 0), (98, .iinc 3 1, 3, 1, 0, 0), (101, .goto (-83), 3, 2, 18, 0), (104, .aload_n 0, 1, 1, 0, 0), (105, .getfield 20, 3, 3, 5, 2), (108, .iload_n 2, 1, 1, 0, 0), (109, .invokevirtual 48, 3, 7, 39, 0), (112, .ireturn, 1, 8, 0, 0)]
def am_ct_215 : List (Nat × Instr × Nat × Nat × Nat × Nat) := [(0, .aload_n 0, 1, 1, 0, 0), (1, .getfield 12, 3, 3, 10, 0), (4, .getfield 18, 3, 3, 107, 8), (7, .iload_n 2, 1, 1, 0, 0), (8, .invokevirtual 99, 3, 7, 38, 0), (11, .ifCond .ne 14, 3, 2, 25, 0), (14, .new 102, 3, 9, 2, 0), (17, .dup, 1, 0, 0, 0), (18, .ldc_w 356, 3, 11, 0, 0), (21, .invokespecial 106, 3, 11, 0, 0), (24, .athrow, 1, 11, 0, 0), (25, .iload_n 1, 1, 1, 0, 0), (26, .invokestatic 358, 3, 7, 210, 0), (29, .ifCond .eq 12, 3, 2, 41, 0), (32, .iload_n 3, 1, 1, 0, 0), (33, .ifCond .eq 19, 3, 2, 52, 0), (36, .iload_n 3, 1, 1, 0, 0), (37, .iconst 1, 1, 0, 0, 0), (38, .if_icmp .eq 14, 3, 2, 52, 0), (41, .new 69, 3, 9, 0, 0), (44, .dup, 1, 0, 0, 0), (45, .ldc_w 361, 3, 11, 0, 0), (48, .invokespecial 73, 3, 11, 0, 0), (51, .athrow, 1, 11, 0, 0), (52, .iload_n 3, 1, 1, 0, 0), (53, .ifCond .ne 15, 3, 2, 68, 0), (56, .aload_n 0, 1, 1, 0, 0), (57, .getfield 25, 3, 3, 10, 1), (60, .iload_n 1, 1, 1, 0, 0), (61, .iload_n 2, 1, 1, 0, 0), (62, .invokevirtual 363, 3, 7, 213, 0), (65, .goto 12, 3, 2, 77, 0), (68, .aload_n 0, 1, 1, 0, 0), (69, .getfield 25, 3, 3, 10, 1), (72, .iload_n 1, 1, 1, 0, 0), (73, .iload_n 2, 1, 1, 0, 0), (74, .invokevirtual 366, 3, 7, 214, 0), (77, .ireturn, 1, 8, 0, 0)]
def am_ct_216 : List (Nat × Instr × Nat × Nat × Nat × Nat) := [(0, .aload 4, 2, 1, 0, 0), (2, .iconst 0, 1, 0, 0, 0), (3, .aload_n 0, 1, 1, 0, 0), (4, .iload_n 1, 1, 1, 0, 0), (5, .iload_n 2, 1, 1, 0, 0), (6, .iload_n 3, 1, 1, 0, 0), (7, .invokevirtual 79, 3, 7, 215, 0), (10, .i2l, 1, 0, 0, 0), (11, .lastore, 1, 4, 0, 0), (12, .goto 11, 3, 2, 23, 0), (15, .astore 5, 2, 1, 0, 0), (17, .iconst 1, 1, 0, 0, 0), (18, .ireturn, 1, 8, 0, 0), (19, .astore 5, 2, 1, 0, 0), (21, .iconst 2, 1, 0, 0, 0), (22, .ireturn, 1, 8, 0, 0), (23, .iconst 0, 1, 0, 0, 0), (24, .ireturn, 1, 8, 0, 0)]
def am_ct_217 : List (Nat × Instr × Nat × Nat × Nat × Nat) := [(0, .iload_n 0, 1, 1, 0, 0), (1, .iconst 0, 1, 0, 0, 0), (2, .sipush 1000, 3, 0, 0, 0), (5, .invokestatic 36, 3, 7, 26, 0), (8, .ireturn, 1, 8, 0, 0)]
def am_ct_218 : List (Nat × Instr × Nat × Nat × Nat × Nat) := [(0, .iconst 0, 1, 0, 0, 0), (1, .istore_n 2, 1, 1, 0, 0), (2, .iload_n 2, 1, 1, 0, 0), (3, .bipush 25, 2, 0, 0, 0), (5, .if_icmp .ge 16, 3, 2, 21, 0), (8, .aload_n 0, 1, 1, 0, 0), (9, .getfield 26, 3, 3, 11, 8), (12, .iload_n 2, 1, 1, 0, 0), (13, .iconst 0, 1, 0, 0, 0), (14, .iastore, 1, 4, 0, 0), (15, .iinc 2 1, 3, 1, 0, 0), (18, .goto (-16), 3, 2, 2, 0), (21, .aload_n 0, 1, 1, 0, 0), (22, .getfield 7, 3, 3, 11, 0), (25, .iconst 1, 1, 0, 0, 0), (26, .iaload, 1, 3, 0, 0), (27, .ifCond .le 10, 3, 2, 37, 0), (30, .aload_n 0, 1, 1, 0, 0), (31, .getfield 26, 3, 3, 11, 8), (34, .iconst 0, 1, 0, 0, 0), (35, .iload_n 1, 1, 1, 0, 0), (36, .iastore, 1, 4, 0, 0), (37, .iconst 0, 1, 0, 0, 0), (38, .istore_n 2, 1, 1, 0, 0), (39, .iload_n 2, 1, 1, 0, 0), (40, .aload_n 0, 1, 1, 0, 0), (41, .getfield 7, 3, 3, 11, 0), (44, .iconst 1, 1, 0, 0, 0), (45, .iaload, 1, 3, 0, 0), (46, .if_icmp .ge 69, 3, 2, 115, 0), (49, .aload_n 0, 1, 1, 0, 0), (50, .getfield 26, 3, 3, 11, 8), (53, .aload_n 0, 1, 1, 0, 0), (54, .iload_n 2, 1, 1, 0, 0), (55, .iconst 2, 1, 0, 0, 0), (56, .aload_n 0, 1, 1, 0, 0), (57, .iload_n 2, 1, 1, 0, 0), (58, .iconst 0, 1, 0, 0, 0), (59, .invokevirtual 54, 3, 7, 48, 0), (62, .iadd, 1, 0, 0, 0), (63, .invokevirtual 54, 3, 7, 48, 0), (66, .dup2, 1, 0, 0, 0), (67, .iaload, 1, 3, 0, 0), (68, .aload_n 0, 1, 1, 0, 0), (69, .getfield 26, 3, 3, 11, 8), (72, .iload_n 2, 1, 1, 0, 0), (73, .iaload, 1, 3, 0, 0), (74, .iconst 1, 1, 0, 0, 0), (75, .iadd, 1, 0, 0, 0), (76, .iconst 2, 1, 0, 0, 0), (77, .idiv, 1, 0, 0, 0), (78, .iadd, 1, 0, 0, 0), (79, .iastore, 1, 4, 0, 0), (80, .aload_n 0, 1, 1, 0, 0), (81, .getfield 26, 3, 3, 11, 8), (84, .aload_n 0, 1, 1, 0, 0), (85, .iload_n 2, 1, 1, 0, 0), (86, .iconst 3, 1, 0, 0, 0), (87, .aload_n 0, 1, 1, 0, 0), (88, .iload_n 2, 1, 1, 0, 0), (89, .iconst 0, 1, 0, 0, 0), (90, .invokevirtual 54, 3, 7, 48, 0), (93, .isub, 1, 0, 0, 0), (94, .invokevirtual 54, 3, 7, 48, 0), (97, .dup2, 1, 0, 0, 0), (98, .iaload, 1, 3, 0, 0), (99, .aload_n 0, 1, 1, 0, 0), (100, .getfield 26, 3, 3, 11, 8), (103, .iload_n 2, 1, 1, 0, 0), (104, .iaload, 1, 3, 0, 0), (105, .iconst 2, 1, 0, 0, 0), (106, .idiv, 1, 0, 0, 0), (107, .iadd, 1, 0, 0, 0), (108, .iastore, 1, 4, 0, 0), (109, .iinc 2 1, 3, 1, 0, 0), (112, .goto (-73), 3, 2, 39, 0), (115, .return_, 1, 8, 0, 0)]
def am_ct_219 : List (Nat × Instr × Nat × Nat × Nat × Nat) := [(0, .aload_n 0, 1, 1, 0, 0), (1, .aload_n 0, 1, 1, 0, 0), (2, .iload_n 2, 1, 1, 0, 0), (3, .invokevirtual 82, 3, 7, 46, 0), (6, .ifCond .ne 7, 3, 2, 13, 0), (9, .iconst 1, 1, 0, 0, 0), (10, .goto 24, 3, 2, 34, 0), (13, .iload_n 1, 1, 1, 0, 0), (14, .invokestatic 203, 3, 7, 217, 0), (17, .ifCond .eq 12, 3, 2, 29, 0), (20, .iload_n 3, 1, 1, 0, 0), (21, .iconst 0, 1, 0, 0, 0), (22, .iconst 1, 1, 0, 0, 0), (23, .invokestatic 36, 3, 7, 26, 0), (26, .ifCond .ne 7, 3, 2, 33, 0), (29, .iconst 2, 1, 0, 0, 0), (30, .goto 4, 3, 2, 34, 0), (33, .iconst 0, 1, 0, 0, 0), (34, .invokevirtual 91, 3, 7, 29, 0), (37, .ifCond .ne 5, 3, 2, 42, 0), (40, .iconst 0, 1, 0, 0, 0), (41, .ireturn, 1, 8, 0, 0), (42, .aload_n 0, 1, 1, 0, 0), (43, .iload_n 1, 1, 1, 0, 0), (44, .invokevirtual 206, 3, 7, 218, 0), (47, .aload_n 0, 1, 1, 0, 0), (48, .getfield 26, 3, 3, 11, 8), (51, .iload_n 2, 1, 1, 0, 0), (52, .iaload, 1, 3, 0, 0), (53, .ireturn, 1, 8, 0, 0)]
def am_ct_220 : List (Nat × Instr × Nat × Nat × Nat × Nat) := [(0, .aload_n 0, 1, 1, 0, 0), (1, .getfield 26, 3, 3, 5, 0), (4, .getfield 30, 3, 3, 101, 1), (7, .iload_n 2, 1, 1, 0, 0), (8, .invokevirtual 48, 3, 7, 39, 0), (11, .aload_n 0, 1, 1, 0, 0), (12, .iload_n 1, 1, 1, 0, 0), (13, .iload_n 2, 1, 1, 0, 0), (14, .invokevirtual 70, 3, 7, 214, 0), (17, .iadd, 1, 0, 0, 0), (18, .iconst 2, 1, 0, 0, 0), (19, .irem, 1, 0, 0, 0), (20, .ireturn, 1, 8, 0, 0)]
def am_ct_221 : List (Nat × Instr × Nat × Nat × Nat × Nat) := [(0, .aload_n 0, 1, 1, 0, 0), (1, .getfield 12, 3, 3, 10, 0), (4, .getfield 18, 3, 3, 107, 8), (7, .iload_n 2, 1, 1, 0, 0), (8, .invokevirtual 113, 3, 7, 36, 0), (11, .ifCond .ne 13, 3, 2, 24, 0), (14, .new 102, 3, 9, 2, 0), (17, .dup, 1, 0, 0, 0), (18, .ldc 116, 2, 11, 0, 0), (20, .invokespecial 106, 3, 11, 0, 0), (23, .athrow, 1, 11, 0, 0), (24, .iload_n 1, 1, 1, 0, 0), (25, .invokestatic 358, 3, 7, 210, 0), (28, .ifCond .ne 14, 3, 2, 42, 0), (31, .new 69, 3, 9, 0, 0), (34, .dup, 1, 0, 0, 0), (35, .ldc_w 369, 3, 11, 0, 0), (38, .invokespecial 73, 3, 11, 0, 0), (41, .athrow, 1, 11, 0, 0), (42, .aload_n 0, 1, 1, 0, 0), (43, .getfield 25, 3, 3, 10, 1), (46, .iload_n 1, 1, 1, 0, 0), (47, .iload_n 2, 1, 1, 0, 0), (48, .invokevirtual 371, 3, 7, 220, 0), (51, .ireturn, 1, 8, 0, 0)]
def am_ct_222 : List (Nat × Instr × Nat × Nat × Nat × Nat) := [(0, .aload_n 3, 1, 1, 0, 0), (1, .iconst 0, 1, 0, 0, 0), (2, .aload_n 0, 1, 1, 0, 0), (3, .iload_n 1, 1, 1, 0, 0), (4, .iload_n 2, 1, 1, 0, 0), (5, .invokevirtual 82, 3, 7, 221, 0), (8, .i2l, 1, 0, 0, 0), (9, .lastore, 1, 4, 0, 0), (10, .goto 11, 3, 2, 21, 0), (13, .astore 4, 2, 1, 0, 0), (15, .iconst 1, 1, 0, 0, 0), (16, .ireturn, 1, 8, 0, 0), (17, .astore 4, 2, 1, 0, 0), (19, .iconst 2, 1, 0, 0, 0), (20, .ireturn, 1, 8, 0, 0), (21, .iconst 0, 1, 0, 0, 0), (22, .ireturn, 1, 8, 0, 0)]
def am_ct_223 : List (Nat × Instr × Nat × Nat × Nat × Nat) := [(0, .aload_n 0, 1, 1, 0, 0), (1, .aload_n 0, 1, 1, 0, 0), (2, .iload_n 2, 1, 1, 0, 0), (3, .invokevirtual 40, 3, 7, 44, 0), (6, .ifCond .ne 7, 3, 2, 13, 0), (9, .iconst 1, 1, 0, 0, 0), (10, .goto 15, 3, 2, 25, 0), (13, .iload_n 1, 1, 1, 0, 0), (14, .invokestatic 203, 3, 7, 217, 0), (17, .ifCond .ne 7, 3, 2, 24, 0), (20, .iconst 2, 1, 0, 0, 0), (21, .goto 4, 3, 2, 25, 0), (24, .iconst 0, 1, 0, 0, 0), (25, .invokevirtual 91, 3, 7, 29, 0), (28, .ifCond .ne 5, 3, 2, 33, 0), (31, .iconst 0, 1, 0, 0, 0), (32, .ireturn, 1, 8, 0, 0), (33, .aload_n 0, 1, 1, 0, 0), (34, .iload_n 1, 1, 1, 0, 0), (35, .invokevirtual 206, 3, 7, 218, 0), (38, .aload_n 0, 1, 1, 0, 0), (39, .iload_n 2, 1, 1, 0, 0), (40, .iconst 0, 1, 0, 0, 0), (41, .invokevirtual 54, 3, 7, 48, 0), (44, .aload_n 0, 1, 1, 0, 0), (45, .getfield 26, 3, 3, 11, 8), (48, .iload_n 2, 1, 1, 0, 0), (49, .iaload, 1, 3, 0, 0), (50, .iadd, 1, 0, 0, 0), (51, .iconst 2, 1, 0, 0, 0), (52, .irem, 1, 0, 0, 0), (53, .ireturn, 1, 8, 0, 0)]
def am_ct_224 : List (Nat × Instr × Nat × Nat × Nat × Nat) := [(0, .aload_n 0, 1, 1, 0, 0), (1, .getfield 26, 3, 3, 5, 0), (4, .iconst 0, 1, 0, 0, 0), (5, .invokevirtual 40, 3, 7, 36, 0), (8, .ifCond .ne 5, 3, 2, 13, 0), (11, .iconst (-1), 1, 0, 0, 0), (12, .ireturn, 1, 8, 0, 0), (13, .aload_n 0, 1, 1, 0, 0), (14, .invokevirtual 59, 3, 7, 211, 0), (17, .iconst 0, 1, 0, 0, 0), (18, .istore_n 2, 1, 1, 0, 0), (19, .iload_n 2, 1, 1, 0, 0), (20, .iload_n 1, 1, 1, 0, 0), (21, .if_icmp .ge 14, 3, 2, 35, 0), (24, .aload_n 0, 1, 1, 0, 0), (25, .invokevirtual 62, 3, 7, 212, 0), (28, .pop, 1, 0, 0, 0), (29, .iinc 2 1, 3, 1, 0, 0), (32, .goto (-13), 3, 2, 19, 0), (35, .aload_n 0, 1, 1, 0, 0), (36, .invokevirtual 62, 3, 7, 212, 0), (39, .ireturn, 1, 8, 0, 0)]
def am_ct_225 : List (Nat × Instr × Nat × Nat × Nat × Nat) := [(0, .iload_n 1, 1, 1, 0, 0), (1, .ifCond .lt 10, 3, 2, 11, 0), (4, .iload_n 1, 1, 1, 0, 0), (5, .sipush 1000, 3, 0, 0, 0), (8, .if_icmp .lt 14, 3, 2, 22, 0), (11, .new 69, 3, 9, 0, 0), (14, .dup, 1, 0, 0, 0), (15, .ldc_w 374, 3, 11, 0, 0), (18, .invokespecial 73, 3, 11, 0, 0), (21, .athrow, 1, 11, 0, 0), (22, .aload_n 0, 1, 1, 0, 0), (23, .getfield 25, 3, 3, 10, 1), (26, .iload_n 1, 1, 1, 0, 0), (27, .invokevirtual 376, 3, 7, 224, 0), (30, .ireturn, 1, 8, 0, 0)]
def am_ct_226 : List (Nat × Instr × Nat × Nat × Nat × Nat) := [(0, .aload_n 2, 1, 1, 0, 0), (1, .iconst 0, 1, 0, 0, 0), (2, .aload_n 0, 1, 1, 0, 0), (3, .iload_n 1, 1, 1, 0, 0), (4, .invokevirtual 85, 3, 7, 225, 0), (7, .i2l, 1, 0, 0, 0), (8, .lastore, 1, 4, 0, 0), (9, .goto 6, 3, 2, 15, 0), (12, .astore_n 3, 1, 1, 0, 0), (13, .iconst 1, 1, 0, 0, 0), (14, .ireturn, 1, 8, 0, 0), (15, .iconst 0, 1, 0, 0, 0), (16, .ireturn, 1, 8, 0, 0)]
def am_ct_227 : List (Nat × Instr × Nat × Nat × Nat × Nat) := [(0, .aload_n 0, 1, 1, 0, 0), (1, .iload_n 1, 1, 1, 0, 0), (2, .iconst 0, 1, 0, 0, 0), (3, .sipush 999, 3, 0, 0, 0), (6, .invokestatic 36, 3, 7, 26, 0), (9, .ifCond .eq 7, 3, 2, 16, 0), (12, .iconst 0, 1, 0, 0, 0), (13, .goto 4, 3, 2, 17, 0), (16, .iconst 1, 1, 0, 0, 0), (17, .invokevirtual 91, 3, 7, 29, 0), (20, .ifCond .ne 5, 3, 2, 25, 0), (23, .iconst 0, 1, 0, 0, 0), (24, .ireturn, 1, 8, 0, 0), (25, .iconst 0, 1, 0, 0, 0), (26, .istore_n 2, 1, 1, 0, 0), (27, .iload_n 2, 1, 1, 0, 0), (28, .iconst 5, 1, 0, 0, 0), (29, .if_icmp .ge 46, 3, 2, 75, 0), (32, .aload_n 0, 1, 1, 0, 0), (33, .iload_n 1, 1, 1, 0, 0), (34, .invokevirtual 206, 3, 7, 218, 0), (37, .aload_n 0, 1, 1, 0, 0), (38, .getfield 26, 3, 3, 11, 8), (41, .bipush 20, 2, 0, 0, 0), (43, .iload_n 2, 1, 1, 0, 0), (44, .iadd, 1, 0, 0, 0), (45, .iaload, 1, 3, 0, 0), (46, .istore_n 3, 1, 1, 0, 0), (47, .aload_n 0, 1, 1, 0, 0), (48, .iload_n 1, 1, 1, 0, 0), (49, .iconst 1, 1, 0, 0, 0), (50, .iadd, 1, 0, 0, 0), (51, .invokevirtual 206, 3, 7, 218, 0), (54, .aload_n 0, 1, 1, 0, 0), (55, .getfield 26, 3, 3, 11, 8), (58, .bipush 20, 2, 0, 0, 0), (60, .iload_n 2, 1, 1, 0, 0), (61, .iadd, 1, 0, 0, 0), (62, .iaload, 1, 3, 0, 0), (63, .iload_n 3, 1, 1, 0, 0), (64, .if_icmp .le 5, 3, 2, 69, 0), (67, .iload_n 2, 1, 1, 0, 0), (68, .ireturn, 1, 8, 0, 0), (69, .iinc 2 1, 3, 1, 0, 0), (72, .goto (-45), 3, 2, 27, 0), (75, .iconst (-1), 1, 0, 0, 0), (76, .ireturn, 1, 8, 0, 0)]
def am_ct_228 : List (Nat × Instr × Nat × Nat × Nat × Nat) := [(0, .aload_n 0, 1, 1, 0, 0), (1, .getfield 26, 3, 3, 5, 0), (4, .iconst 0, 1, 0, 0, 0), (5, .invokevirtual 40, 3, 7, 36, 0), (8, .ifCond .ne 5, 3, 2, 13, 0), (11, .iconst (-1), 1, 0, 0, 0), (12, .ireturn, 1, 8, 0, 0), (13, .aload_n 0, 1, 1, 0, 0), (14, .invokevirtual 59, 3, 7, 211, 0), (17, .iconst 0, 1, 0, 0, 0), (18, .istore_n 2, 1, 1, 0, 0), (19, .iload_n 2, 1, 1, 0, 0), (20, .sipush 4096, 3, 0, 0, 0), (23, .if_icmp .ge 19, 3, 2, 42, 0), (26, .aload_n 0, 1, 1, 0, 0), (27, .invokevirtual 62, 3, 7, 212, 0), (30, .iload_n 1, 1, 1, 0, 0), (31, .if_icmp .ne 5, 3, 2, 36, 0), (34, .iload_n 2, 1, 1, 0, 0), (35, .ireturn, 1, 8, 0, 0), (36, .iinc 2 1, 3, 1, 0, 0), (39, .goto (-20), 3, 2, 19, 0), (42, .iconst (-1), 1, 0, 0, 0), (43, .ireturn, 1, 8, 0, 0)]
def am_ct_229 : List (Nat × Instr × Nat × Nat × Nat × Nat) := [(0, .iload_n 1, 1, 1, 0, 0), (1, .invokestatic 153, 3, 7, 91, 0), (4, .ifCond .ne 13, 3, 2, 17, 0), (7, .new 102, 3, 9, 2, 0), (10, .dup, 1, 0, 0, 0), (11, .ldc 156, 2, 11, 0, 0), (13, .invokespecial 106, 3, 11, 0, 0), (16, .athrow, 1, 11, 0, 0), (17, .aload_n 0, 1, 1, 0, 0), (18, .getfield 25, 3, 3, 10, 1), (21, .iload_n 1, 1, 1, 0, 0), (22, .invokevirtual 379, 3, 7, 228, 0), (25, .ireturn, 1, 8, 0, 0)]
def am_ct_230 : List (Nat × Instr × Nat × Nat × Nat × Nat) := [(0, .aload_n 2, 1, 1, 0, 0), (1, .iconst 0, 1, 0, 0, 0), (2, .aload_n 0, 1, 1, 0, 0), (3, .iload_n 1, 1, 1, 0, 0), (4, .invokevirtual 88, 3, 7, 229, 0), (7, .i2l, 1, 0, 0, 0), (8, .lastore, 1, 4, 0, 0), (9, .goto 6, 3, 2, 15, 0), (12, .astore_n 3, 1, 1, 0, 0), (13, .iconst 1, 1, 0, 0, 0), (14, .ireturn, 1, 8, 0, 0), (15, .iconst 0, 1, 0, 0, 0), (16, .ireturn, 1, 8, 0, 0)]
def am_ct_231 : List (Nat × Instr × Nat × Nat × Nat × Nat) := [(0, .aload_n 0, 1, 1, 0, 0), (1, .iload_n 1, 1, 1, 0, 0), (2, .invokestatic 44, 3, 7, 45, 0), (5, .ifCond .eq 7, 3, 2, 12, 0), (8, .iconst 0, 1, 0, 0, 0), (9, .goto 4, 3, 2, 13, 0), (12, .iconst 1, 1, 0, 0, 0), (13, .invokevirtual 91, 3, 7, 29, 0), (16, .ifCond .ne 5, 3, 2, 21, 0), (19, .iconst 0, 1, 0, 0, 0), (20, .ireturn, 1, 8, 0, 0), (21, .iconst 0, 1, 0, 0, 0), (22, .istore_n 2, 1, 1, 0, 0), (23, .iload_n 2, 1, 1, 0, 0), (24, .sipush 4096, 3, 0, 0, 0), (27, .if_icmp .ge 30, 3, 2, 57, 0), (30, .aload_n 0, 1, 1, 0, 0), (31, .iload_n 2, 1, 1, 0, 0), (32, .iconst 1, 1, 0, 0, 0), (33, .iadd, 1, 0, 0, 0), (34, .invokevirtual 206, 3, 7, 218, 0), (37, .aload_n 0, 1, 1, 0, 0), (38, .getfield 26, 3, 3, 11, 8), (41, .bipush 20, 2, 0, 0, 0), (43, .iload_n 1, 1, 1, 0, 0), (44, .iadd, 1, 0, 0, 0), (45, .iaload, 1, 3, 0, 0), (46, .ifCond .le 5, 3, 2, 51, 0), (49, .iload_n 2, 1, 1, 0, 0), (50, .ireturn, 1, 8, 0, 0), (51, .iinc 2 1, 3, 1, 0, 0), (54, .goto (-31), 3, 2, 23, 0), (57, .iconst (-1), 1, 0, 0, 0), (58, .ireturn, 1, 8, 0, 0)]
def am_ct_232 : List (Nat × Instr × Nat × Nat × Nat × Nat) := [(0, .iconst 0, 1, 0, 0, 0), (1, .istore_n 2, 1, 1, 0, 0), (2, .iload_n 2, 1, 1, 0, 0), (3, .aload_n 0, 1, 1, 0, 0), (4, .getfield 13, 3, 3, 6, 0), (7, .arraylength, 1, 3, 0, 0), (8, .if_icmp .ge 25, 3, 2, 33, 0), (11, .aload_n 0, 1, 1, 0, 0), (12, .getfield 13, 3, 3, 6, 0), (15, .iload_n 2, 1, 1, 0, 0), (16, .iaload, 1, 3, 0, 0), (17, .aload_n 1, 1, 1, 0, 0), (18, .iload_n 2, 1, 1, 0, 0), (19, .invokevirtual 19, 3, 7, 39, 0), (22, .if_icmp .eq 5, 3, 2, 27, 0), (25, .iconst 0, 1, 0, 0, 0), (26, .ireturn, 1, 8, 0, 0), (27, .iinc 2 1, 3, 1, 0, 0), (30, .goto (-28), 3, 2, 2, 0), (33, .iconst 1, 1, 0, 0, 0), (34, .ireturn, 1, 8, 0, 0)]
def am_ct_233 : List (Nat × Instr × Nat × Nat × Nat × Nat) := [(0, .aload_n 0, 1, 1, 0, 0), (1, .getfield 26, 3, 3, 5, 0), (4, .iconst 0, 1, 0, 0, 0), (5, .invokevirtual 40, 3, 7, 36, 0), (8, .ifCond .ne 5, 3, 2, 13, 0), (11, .iconst (-1), 1, 0, 0, 0), (12, .ireturn, 1, 8, 0, 0), (13, .aload_n 0, 1, 1, 0, 0), (14, .invokevirtual 59, 3, 7, 211, 0), (17, .iconst 1, 1, 0, 0, 0), (18, .istore_n 1, 1, 1, 0, 0), (19, .iload_n 1, 1, 1, 0, 0), (20, .sipush 4096, 3, 0, 0, 0), (23, .if_icmp .ge 33, 3, 2, 56, 0), (26, .aload_n 0, 1, 1, 0, 0), (27, .invokevirtual 62, 3, 7, 212, 0), (30, .pop, 1, 0, 0, 0), (31, .aload_n 0, 1, 1, 0, 0), (32, .getfield 14, 3, 3, 5, 1), (35, .aload_n 0, 1, 1, 0, 0), (36, .getfield 26, 3, 3, 5, 0), (39, .getfield 30, 3, 3, 101, 1), (42, .invokevirtual 73, 3, 7, 232, 0), (45, .ifCond .eq 5, 3, 2, 50, 0), (48, .iload_n 1, 1, 1, 0, 0), (49, .ireturn, 1, 8, 0, 0), (50, .iinc 1 1, 3, 1, 0, 0), (53, .goto (-34), 3, 2, 19, 0), (56, .sipush 4096, 3, 0, 0, 0), (59, .ireturn, 1, 8, 0, 0)]
def am_ct_234 : List (Nat × Instr × Nat × Nat × Nat × Nat) := [(0, .aload_n 0, 1, 1, 0, 0), (1, .getfield 25, 3, 3, 10, 1), (4, .invokevirtual 382, 3, 7, 233, 0), (7, .ireturn, 1, 8, 0, 0)]
def am_ct_235 : List (Nat × Instr × Nat × Nat × Nat × Nat) := [(0, .aload_n 0, 1, 1, 0, 0), (1, .iload_n 1, 1, 1, 0, 0), (2, .invokevirtual 206, 3, 7, 218, 0), (5, .iconst 1, 1, 0, 0, 0), (6, .istore_n 2, 1, 1, 0, 0), (7, .iconst 0, 1, 0, 0, 0), (8, .istore_n 3, 1, 1, 0, 0), (9, .iload_n 3, 1, 1, 0, 0), (10, .aload_n 0, 1, 1, 0, 0), (11, .getfield 7, 3, 3, 11, 0), (14, .iconst 1, 1, 0, 0, 0), (15, .iaload, 1, 3, 0, 0), (16, .if_icmp .ge 30, 3, 2, 46, 0), (19, .iload_n 2, 1, 1, 0, 0), (20, .ifCond .eq 18, 3, 2, 38, 0), (23, .aload_n 0, 1, 1, 0, 0), (24, .getfield 26, 3, 3, 11, 8), (27, .iload_n 3, 1, 1, 0, 0), (28, .iaload, 1, 3, 0, 0), (29, .iconst 2, 1, 0, 0, 0), (30, .irem, 1, 0, 0, 0), (31, .ifCond .ne 7, 3, 2, 38, 0), (34, .iconst 1, 1, 0, 0, 0), (35, .goto 4, 3, 2, 39, 0), (38, .iconst 0, 1, 0, 0, 0), (39, .istore_n 2, 1, 1, 0, 0), (40, .iinc 3 1, 3, 1, 0, 0), (43, .goto (-34), 3, 2, 9, 0), (46, .iload_n 2, 1, 1, 0, 0), (47, .ireturn, 1, 8, 0, 0)]
def am_ct_236 : List (Nat × Instr × Nat × Nat × Nat × Nat) := [(0, .aload_n 0, 1, 1, 0, 0), (1, .iconst 0, 1, 0, 0, 0), (2, .putfield 32, 3, 4, 11, 7), (5, .iconst 1, 1, 0, 0, 0), (6, .istore_n 1, 1, 1, 0, 0), (7, .iload_n 1, 1, 1, 0, 0), (8, .sipush 4096, 3, 0, 0, 0), (11, .if_icmp .ge 17, 3, 2, 28, 0), (14, .aload_n 0, 1, 1, 0, 0), (15, .iload_n 1, 1, 1, 0, 0), (16, .invokevirtual 209, 3, 7, 235, 0), (19, .ifCond .ne 9, 3, 2, 28, 0), (22, .iinc 1 1, 3, 1, 0, 0), (25, .goto (-18), 3, 2, 7, 0), (28, .aload_n 0, 1, 1, 0, 0), (29, .getfield 7, 3, 3, 11, 0), (32, .iconst 1, 1, 0, 0, 0), (33, .iaload, 1, 3, 0, 0), (34, .ifCond .ne 7, 3, 2, 41, 0), (37, .iconst (-1), 1, 0, 0, 0), (38, .goto 4, 3, 2, 42, 0), (41, .iload_n 1, 1, 1, 0, 0), (42, .ireturn, 1, 8, 0, 0)]
def am_ct_237 : List (Nat × Instr × Nat × Nat × Nat × Nat) := [(0, .aload_n 0, 1, 1, 0, 0), (1, .getfield 23, 3, 3, 5, 3), (4, .invokevirtual 37, 3, 7, 187, 0), (7, .aload_n 0, 1, 1, 0, 0), (8, .getfield 26, 3, 3, 5, 0), (11, .getfield 66, 3, 3, 101, 0), (14, .iconst 1, 1, 0, 0, 0), (15, .isub, 1, 0, 0, 0), (16, .istore_n 2, 1, 1, 0, 0), (17, .iload_n 2, 1, 1, 0, 0), (18, .ifCond .lt 73, 3, 2, 91, 0), (21, .aload_n 0, 1, 1, 0, 0), (22, .getfield 23, 3, 3, 5, 3), (25, .aload_n 0, 1, 1, 0, 0), (26, .getfield 26, 3, 3, 5, 0), (29, .iload_n 2, 1, 1, 0, 0), (30, .iconst 0, 1, 0, 0, 0), (31, .invokevirtual 55, 3, 7, 73, 0), (34, .invokevirtual 48, 3, 7, 39, 0), (37, .istore_n 3, 1, 1, 0, 0), (38, .aload_n 0, 1, 1, 0, 0), (39, .getfield 23, 3, 3, 5, 3), (42, .aload_n 0, 1, 1, 0, 0), (43, .getfield 26, 3, 3, 5, 0), (46, .iload_n 2, 1, 1, 0, 0), (47, .iconst 1, 1, 0, 0, 0), (48, .invokevirtual 55, 3, 7, 73, 0), (51, .invokevirtual 48, 3, 7, 39, 0), (54, .istore 4, 2, 1, 0, 0), (56, .aload_n 0, 1, 1, 0, 0), (57, .getfield 23, 3, 3, 5, 3), (60, .iload_n 2, 1, 1, 0, 0), (61, .iconst 1, 1, 0, 0, 0), (62, .iload_n 1, 1, 1, 0, 0), (63, .ifCond .eq 12, 3, 2, 75, 0), (66, .iload_n 3, 1, 1, 0, 0), (67, .iload 4, 2, 1, 0, 0), (69, .invokestatic 77, 3, 6, 2, 0), (72, .goto 9, 3, 2, 81, 0), (75, .iload_n 3, 1, 1, 0, 0), (76, .iload 4, 2, 1, 0, 0), (78, .invokestatic 82, 3, 6, 3, 0), (81, .iadd, 1, 0, 0, 0), (82, .invokevirtual 52, 3, 7, 4, 0), (85, .iinc 2 (-1), 3, 1, 0, 0), (88, .goto (-71), 3, 2, 17, 0), (91, .aload_n 0, 1, 1, 0, 0), (92, .getfield 23, 3, 3, 5, 3), (95, .iconst 0, 1, 0, 0, 0), (96, .invokevirtual 48, 3, 7, 39, 0), (99, .ireturn, 1, 8, 0, 0)]
def am_ct_238 : List (Nat × Instr × Nat × Nat × Nat × Nat) := [(0, .aload_n 0, 1, 1, 0, 0), (1, .getfield 25, 3, 3, 10, 1), (4, .iload_n 1, 1, 1, 0, 0), (5, .invokevirtual 385, 3, 7, 237, 0), (8, .ireturn, 1, 8, 0, 0)]
def am_ct_239 : List (Nat × Instr × Nat × Nat × Nat × Nat) := [(0, .aload_n 0, 1, 1, 0, 0), (1, .iconst 0, 1, 0, 0, 0), (2, .putfield 32, 3, 4, 11, 7), (5, .iconst 0, 1, 0, 0, 0), (6, .istore_n 2, 1, 1, 0, 0), (7, .iload_n 2, 1, 1, 0, 0), (8, .bipush 25, 2, 0, 0, 0), (10, .if_icmp .ge 16, 3, 2, 26, 0), (13, .aload_n 0, 1, 1, 0, 0), (14, .getfield 26, 3, 3, 11, 8), (17, .iload_n 2, 1, 1, 0, 0), (18, .iconst 0, 1, 0, 0, 0), (19, .iastore, 1, 4, 0, 0), (20, .iinc 2 1, 3, 1, 0, 0), (23, .goto (-16), 3, 2, 7, 0), (26, .aload_n 0, 1, 1, 0, 0), (27, .getfield 7, 3, 3, 11, 0), (30, .iconst 1, 1, 0, 0, 0), (31, .iaload, 1, 3, 0, 0), (32, .iconst 1, 1, 0, 0, 0), (33, .isub, 1, 0, 0, 0), (34, .istore_n 2, 1, 1, 0, 0), (35, .iload_n 2, 1, 1, 0, 0), (36, .ifCond .lt 63, 3, 2, 99, 0), (39, .aload_n 0, 1, 1, 0, 0), (40, .getfield 26, 3, 3, 11, 8), (43, .aload_n 0, 1, 1, 0, 0), (44, .iload_n 2, 1, 1, 0, 0), (45, .iconst 2, 1, 0, 0, 0), (46, .invokevirtual 54, 3, 7, 48, 0), (49, .iaload, 1, 3, 0, 0), (50, .istore_n 3, 1, 1, 0, 0), (51, .aload_n 0, 1, 1, 0, 0), (52, .getfield 26, 3, 3, 11, 8), (55, .aload_n 0, 1, 1, 0, 0), (56, .iload_n 2, 1, 1, 0, 0), (57, .iconst 3, 1, 0, 0, 0), (58, .invokevirtual 54, 3, 7, 48, 0), (61, .iaload, 1, 3, 0, 0), (62, .istore 4, 2, 1, 0, 0), (64, .aload_n 0, 1, 1, 0, 0), (65, .getfield 26, 3, 3, 11, 8), (68, .iload_n 2, 1, 1, 0, 0), (69, .iconst 1, 1, 0, 0, 0), (70, .iload_n 3, 1, 1, 0, 0), (71, .iload 4, 2, 1, 0, 0), (73, .if_icmp .le 7, 3, 2, 80, 0), (76, .iconst 1, 1, 0, 0, 0), (77, .goto 4, 3, 2, 81, 0), (80, .iconst 0, 1, 0, 0, 0), (81, .iload_n 1, 1, 1, 0, 0), (82, .if_icmp .ne 7, 3, 2, 89, 0), (85, .iload_n 3, 1, 1, 0, 0), (86, .goto 5, 3, 2, 91, 0), (89, .iload 4, 2, 1, 0, 0), (91, .iadd, 1, 0, 0, 0), (92, .iastore, 1, 4, 0, 0), (93, .iinc 2 (-1), 3, 1, 0, 0), (96, .goto (-61), 3, 2, 35, 0), (99, .aload_n 0, 1, 1, 0, 0), (100, .getfield 26, 3, 3, 11, 8), (103, .iconst 0, 1, 0, 0, 0), (104, .iaload, 1, 3, 0, 0), (105, .ireturn, 1, 8, 0, 0)]
def am_ct_240 : List (Nat × Instr × Nat × Nat × Nat × Nat) := [(0, .new 8, 3, 5, 10, 6), (3, .dup, 1, 0, 0, 0), (4, .invokespecial 91, 3, 7, 11, 0), (7, .astore_n 1, 1, 1, 0, 0), (8, .new 92, 3, 5, 11, 13), (11, .dup, 1, 0, 0, 0), (12, .invokespecial 94, 3, 7, 12, 0), (15, .astore_n 2, 1, 1, 0, 0), (16, .iconst 1, 1, 0, 0, 0), (17, .newarray .long, 2, 5, 0, 0), (19, .astore_n 3, 1, 1, 0, 0), (20, .iconst 0, 1, 0, 0, 0), (21, .istore 4, 2, 1, 0, 0), (23, .iload 4, 2, 10, 0, 0), (25, .aload_n 0, 1, 1, 0, 0), (26, .arraylength, 1, 3, 0, 0), (27, .iconst 4, 1, 0, 0, 0), (28, .isub, 1, 0, 0, 0), (29, .if_icmp .gt 1720, 3, 2, 1749, 0), (32, .aload_n 0, 1, 1, 0, 0), (33, .iload 4, 2, 1, 0, 0), (35, .iaload, 1, 3, 0, 0), (36, .bipush 31, 2, 0, 0, 0), (38, .iand, 1, 0, 0, 0), (39, .tableswitch 1704 0 28 #[129, 185, 265, 333, 389, 457, 513, 569, 625, 681, 694, 707, 751, 795, 851, 907, 975, 1043, 1111, 1167, 1235, 1291, 1347, 1390, 1470, 1538, 1594, 1650, 1663], 129, 2, 0, 0), (168, .aload_n 1, 1, 1, 0, 0), (169, .aload_n 0, 1, 1, 0, 0), (170, .iload 4, 2, 1, 0, 0), (172, .iconst 1, 1, 0, 0, 0), (173, .iadd, 1, 0, 0, 0), (174, .iaload, 1, 3, 0, 0), (175, .aload_n 3, 1, 1, 0, 0), (176, .invokestatic 95, 3, 7, 25, 0), (179, .istore 5, 2, 1, 0, 0), (181, .aload_n 2, 1, 1, 0, 0), (182, .aload_n 0, 1, 1, 0, 0), (183, .iload 4, 2, 1, 0, 0), (185, .iconst 1, 1, 0, 0, 0), (186, .iadd, 1, 0, 0, 0), (187, .iaload, 1, 3, 0, 0), (188, .invokevirtual 100, 3, 7, 34, 0), (191, .istore 6, 2, 1, 0, 0), (193, .aload_n 2, 1, 1, 0, 0), (194, .invokevirtual 101, 3, 7, 35, 0), (197, .iload 5, 2, 1, 0, 0), (199, .if_icmp .eq 5, 3, 2, 204, 0), (202, .iconst 0, 1, 0, 0, 0), (203, .ireturn, 1, 8, 0, 0), (204, .iload 5, 2, 1, 0, 0), (206, .ifCond .ne 15, 3, 2, 221, 0), (209, .aload_n 3, 1, 1, 0, 0), (210, .iconst 0, 1, 0, 0, 0), (211, .laload, 1, 3, 0, 0), (212, .iload 6, 2, 1, 0, 0), (214, .i2l, 1, 0, 0, 0), (215, .lcmp, 1, 0, 0, 0), (216, .ifCond .eq 5, 3, 2, 221, 0), (219, .iconst 0, 1, 0, 0, 0), (220, .ireturn, 1, 8, 0, 0), (221, .goto 1522, 3, 2, 1743, 0), (224, .aload_n 1, 1, 1, 0, 0), (225, .aload_n 0, 1, 1, 0, 0), (226, .iload 4, 2, 1, 0, 0), (228, .iconst 1, 1, 0, 0, 0), (229, .iadd, 1, 0, 0, 0), (230, .iaload, 1, 3, 0, 0), (231, .aload_n 0, 1, 1, 0, 0), (232, .iload 4, 2, 1, 0, 0), (234, .iconst 2, 1, 0, 0, 0), (235, .iadd, 1, 0, 0, 0), (236, .iaload, 1, 3, 0, 0), (237, .aload_n 0, 1, 1, 0, 0), (238, .iload 4, 2, 1, 0, 0), (240, .iconst 3, 1, 0, 0, 0), (241, .iadd, 1, 0, 0, 0), (242, .iaload, 1, 3, 0, 0), (243, .aload_n 3, 1, 1, 0, 0), (244, .invokestatic 104, 3, 7, 43, 0), (247, .istore 5, 2, 1, 0, 0), (249, .aload_n 2, 1, 1, 0, 0), (250, .aload_n 0, 1, 1, 0, 0), (251, .iload 4, 2, 1, 0, 0), (253, .iconst 1, 1, 0, 0, 0), (254, .iadd, 1, 0, 0, 0), (255, .iaload, 1, 3, 0, 0), (256, .aload_n 0, 1, 1, 0, 0), (257, .iload 4, 2, 1, 0, 0), (259, .iconst 2, 1, 0, 0, 0), (260, .iadd, 1, 0, 0, 0), (261, .iaload, 1, 3, 0, 0), (262, .aload_n 0, 1, 1, 0, 0), (263, .iload 4, 2, 1, 0, 0), (265, .iconst 3, 1, 0, 0, 0), (266, .iadd, 1, 0, 0, 0), (267, .iaload, 1, 3, 0, 0), (268, .invokevirtual 107, 3, 7, 50, 0), (271, .istore 6, 2, 1, 0, 0), (273, .aload_n 2, 1, 1, 0, 0), (274, .invokevirtual 101, 3, 7, 35, 0), (277, .iload 5, 2, 1, 0, 0), (279, .if_icmp .eq 5, 3, 2, 284, 0), (282, .iconst 0, 1, 0, 0, 0), (283, .ireturn, 1, 8, 0, 0), (284, .iload 5, 2, 1, 0, 0), (286, .ifCond .ne 15, 3, 2, 301, 0), (289, .aload_n 3, 1, 1, 0, 0), (290, .iconst 0, 1, 0, 0, 0), (291, .laload, 1, 3, 0, 0), (292, .iload 6, 2, 1, 0, 0), (294, .i2l, 1, 0, 0, 0), (295, .lcmp, 1, 0, 0, 0), (296, .ifCond .eq 5, 3, 2, 301, 0), (299, .iconst 0, 1, 0, 0, 0), (300, .ireturn, 1, 8, 0, 0), (301, .goto 1442, 3, 2, 1743, 0), (304, .aload_n 1, 1, 1, 0, 0), (305, .aload_n 0, 1, 1, 0, 0), (306, .iload 4, 2, 1, 0, 0), (308, .iconst 1, 1, 0, 0, 0), (309, .iadd, 1, 0, 0, 0), (310, .iaload, 1, 3, 0, 0), (311, .aload_n 0, 1, 1, 0, 0), (312, .iload 4, 2, 1, 0, 0), (314, .iconst 2, 1, 0, 0, 0), (315, .iadd, 1, 0, 0, 0), (316, .iaload, 1, 3, 0, 0), (317, .aload_n 3, 1, 1, 0, 0), (318, .invokestatic 108, 3, 7, 53, 0), (321, .istore 5, 2, 1, 0, 0), (323, .aload_n 2, 1, 1, 0, 0), (324, .aload_n 0, 1, 1, 0, 0), (325, .iload 4, 2, 1, 0, 0), (327, .iconst 1, 1, 0, 0, 0), (328, .iadd, 1, 0, 0, 0), (329, .iaload, 1, 3, 0, 0), (330, .aload_n 0, 1, 1, 0, 0), (331, .iload 4, 2, 1, 0, 0), (333, .iconst 2, 1, 0, 0, 0), (334, .iadd, 1, 0, 0, 0), (335, .iaload, 1, 3, 0, 0), (336, .invokevirtual 111, 3, 7, 54, 0), (339, .istore 6, 2, 1, 0, 0), (341, .aload_n 2, 1, 1, 0, 0), (342, .invokevirtual 101, 3, 7, 35, 0), (345, .iload 5, 2, 1, 0, 0), (347, .if_icmp .eq 5, 3, 2, 352, 0), (350, .iconst 0, 1, 0, 0, 0), (351, .ireturn, 1, 8, 0, 0), (352, .iload 5, 2, 1, 0, 0), (354, .ifCond .ne 15, 3, 2, 369, 0), (357, .aload_n 3, 1, 1, 0, 0), (358, .iconst 0, 1, 0, 0, 0), (359, .laload, 1, 3, 0, 0), (360, .iload 6, 2, 1, 0, 0), (362, .i2l, 1, 0, 0, 0), (363, .lcmp, 1, 0, 0, 0), (364, .ifCond .eq 5, 3, 2, 369, 0), (367, .iconst 0, 1, 0, 0, 0), (368, .ireturn, 1, 8, 0, 0), (369, .goto 1374, 3, 2, 1743, 0), (372, .aload_n 1, 1, 1, 0, 0), (373, .aload_n 0, 1, 1, 0, 0), (374, .iload 4, 2, 1, 0, 0), (376, .iconst 1, 1, 0, 0, 0), (377, .iadd, 1, 0, 0, 0), (378, .iaload, 1, 3, 0, 0), (379, .aload_n 3, 1, 1, 0, 0), (380, .invokestatic 112, 3, 7, 58, 0), (383, .istore 5, 2, 1, 0, 0), (385, .aload_n 2, 1, 1, 0, 0), (386, .aload_n 0, 1, 1, 0, 0), (387, .iload 4, 2, 1, 0, 0), (389, .iconst 1, 1, 0, 0, 0), (390, .iadd, 1, 0, 0, 0), (391, .iaload, 1, 3, 0, 0), (392, .invokevirtual 114, 3, 7, 60, 0), (395, .istore 6, 2, 1, 0, 0), (397, .aload_n 2, 1, 1, 0, 0), (398, .invokevirtual 101, 3, 7, 35, 0), (401, .iload 5, 2, 1, 0, 0), (403, .if_icmp .eq 5, 3, 2, 408, 0), (406, .iconst 0, 1, 0, 0, 0), (407, .ireturn, 1, 8, 0, 0), (408, .iload 5, 2, 1, 0, 0), (410, .ifCond .ne 15, 3, 2, 425, 0), (413, .aload_n 3, 1, 1, 0, 0), (414, .iconst 0, 1, 0, 0, 0), (415, .laload, 1, 3, 0, 0), (416, .iload 6, 2, 1, 0, 0), (418, .i2l, 1, 0, 0, 0), (419, .lcmp, 1, 0, 0, 0), (420, .ifCond .eq 5, 3, 2, 425, 0), (423, .iconst 0, 1, 0, 0, 0), (424, .ireturn, 1, 8, 0, 0), (425, .goto 1318, 3, 2, 1743, 0), (428, .aload_n 1, 1, 1, 0, 0), (429, .aload_n 0, 1, 1, 0, 0), (430, .iload 4, 2, 1, 0, 0), (432, .iconst 1, 1, 0, 0, 0), (433, .iadd, 1, 0, 0, 0), (434, .iaload, 1, 3, 0, 0), (435, .aload_n 0, 1, 1, 0, 0), (436, .iload 4, 2, 1, 0, 0), (438, .iconst 2, 1, 0, 0, 0), (439, .iadd, 1, 0, 0, 0), (440, .iaload, 1, 3, 0, 0), (441, .aload_n 3, 1, 1, 0, 0), (442, .invokestatic 115, 3, 7, 62, 0), (445, .istore 5, 2, 1, 0, 0), (447, .aload_n 2, 1, 1, 0, 0), (448, .aload_n 0, 1, 1, 0, 0), (449, .iload 4, 2, 1, 0, 0), (451, .iconst 1, 1, 0, 0, 0), (452, .iadd, 1, 0, 0, 0), (453, .iaload, 1, 3, 0, 0), (454, .aload_n 0, 1, 1, 0, 0), (455, .iload 4, 2, 1, 0, 0), (457, .iconst 2, 1, 0, 0, 0), (458, .iadd, 1, 0, 0, 0), (459, .iaload, 1, 3, 0, 0), (460, .invokevirtual 117, 3, 7, 63, 0), (463, .istore 6, 2, 1, 0, 0), (465, .aload_n 2, 1, 1, 0, 0), (466, .invokevirtual 101, 3, 7, 35, 0), (469, .iload 5, 2, 1, 0, 0), (471, .if_icmp .eq 5, 3, 2, 476, 0), (474, .iconst 0, 1, 0, 0, 0), (475, .ireturn, 1, 8, 0, 0), (476, .iload 5, 2, 1, 0, 0), (478, .ifCond .ne 15, 3, 2, 493, 0), (481, .aload_n 3, 1, 1, 0, 0), (482, .iconst 0, 1, 0, 0, 0), (483, .laload, 1, 3, 0, 0), (484, .iload 6, 2, 1, 0, 0), (486, .i2l, 1, 0, 0, 0), (487, .lcmp, 1, 0, 0, 0), (488, .ifCond .eq 5, 3, 2, 493, 0), (491, .iconst 0, 1, 0, 0, 0), (492, .ireturn, 1, 8, 0, 0), (493, .goto 1250, 3, 2, 1743, 0), (496, .aload_n 1, 1, 1, 0, 0), (497, .aload_n 0, 1, 1, 0, 0), (498, .iload 4, 2, 1, 0, 0), (500, .iconst 1, 1, 0, 0, 0), (501, .iadd, 1, 0, 0, 0), (502, .iaload, 1, 3, 0, 0), (503, .aload_n 3, 1, 1, 0, 0), (504, .invokestatic 118, 3, 7, 67, 0), (507, .istore 5, 2, 1, 0, 0), (509, .aload_n 2, 1, 1, 0, 0), (510, .aload_n 0, 1, 1, 0, 0), (511, .iload 4, 2, 1, 0, 0), (513, .iconst 1, 1, 0, 0, 0), (514, .iadd, 1, 0, 0, 0), (515, .iaload, 1, 3, 0, 0), (516, .invokevirtual 120, 3, 7, 70, 0), (519, .istore 6, 2, 1, 0, 0), (521, .aload_n 2, 1, 1, 0, 0), (522, .invokevirtual 101, 3, 7, 35, 0), (525, .iload 5, 2, 1, 0, 0), (527, .if_icmp .eq 5, 3, 2, 532, 0), (530, .iconst 0, 1, 0, 0, 0), (531, .ireturn, 1, 8, 0, 0), (532, .iload 5, 2, 1, 0, 0), (534, .ifCond .ne 15, 3, 2, 549, 0), (537, .aload_n 3, 1, 1, 0, 0), (538, .iconst 0, 1, 0, 0, 0), (539, .laload, 1, 3, 0, 0), (540, .iload 6, 2, 1, 0, 0), (542, .i2l, 1, 0, 0, 0), (543, .lcmp, 1, 0, 0, 0), (544, .ifCond .eq 5, 3, 2, 549, 0), (547, .iconst 0, 1, 0, 0, 0), (548, .ireturn, 1, 8, 0, 0), (549, .goto 1194, 3, 2, 1743, 0), (552, .aload_n 1, 1, 1, 0, 0), (553, .aload_n 0, 1, 1, 0, 0), (554, .iload 4, 2, 1, 0, 0), (556, .iconst 1, 1, 0, 0, 0), (557, .iadd, 1, 0, 0, 0), (558, .iaload, 1, 3, 0, 0), (559, .aload_n 3, 1, 1, 0, 0), (560, .invokestatic 121, 3, 7, 82, 0), (563, .istore 5, 2, 1, 0, 0), (565, .aload_n 2, 1, 1, 0, 0), (566, .aload_n 0, 1, 1, 0, 0), (567, .iload 4, 2, 1, 0, 0), (569, .iconst 1, 1, 0, 0, 0), (570, .iadd, 1, 0, 0, 0), (571, .iaload, 1, 3, 0, 0), (572, .invokevirtual 123, 3, 7, 90, 0), (575, .istore 6, 2, 1, 0, 0), (577, .aload_n 2, 1, 1, 0, 0), (578, .invokevirtual 101, 3, 7, 35, 0), (581, .iload 5, 2, 1, 0, 0), (583, .if_icmp .eq 5, 3, 2, 588, 0), (586, .iconst 0, 1, 0, 0, 0), (587, .ireturn, 1, 8, 0, 0), (588, .iload 5, 2, 1, 0, 0), (590, .ifCond .ne 15, 3, 2, 605, 0), (593, .aload_n 3, 1, 1, 0, 0), (594, .iconst 0, 1, 0, 0, 0), (595, .laload, 1, 3, 0, 0), (596, .iload 6, 2, 1, 0, 0), (598, .i2l, 1, 0, 0, 0), (599, .lcmp, 1, 0, 0, 0), (600, .ifCond .eq 5, 3, 2, 605, 0), (603, .iconst 0, 1, 0, 0, 0), (604, .ireturn, 1, 8, 0, 0), (605, .goto 1138, 3, 2, 1743, 0), (608, .aload_n 1, 1, 1, 0, 0), (609, .aload_n 0, 1, 1, 0, 0), (610, .iload 4, 2, 1, 0, 0), (612, .iconst 1, 1, 0, 0, 0), (613, .iadd, 1, 0, 0, 0), (614, .iaload, 1, 3, 0, 0), (615, .aload_n 3, 1, 1, 0, 0), (616, .invokestatic 124, 3, 7, 94, 0), (619, .istore 5, 2, 1, 0, 0), (621, .aload_n 2, 1, 1, 0, 0), (622, .aload_n 0, 1, 1, 0, 0), (623, .iload 4, 2, 1, 0, 0), (625, .iconst 1, 1, 0, 0, 0), (626, .iadd, 1, 0, 0, 0), (627, .iaload, 1, 3, 0, 0), (628, .invokevirtual 126, 3, 7, 95, 0), (631, .istore 6, 2, 1, 0, 0), (633, .aload_n 2, 1, 1, 0, 0), (634, .invokevirtual 101, 3, 7, 35, 0), (637, .iload 5, 2, 1, 0, 0), (639, .if_icmp .eq 5, 3, 2, 644, 0), (642, .iconst 0, 1, 0, 0, 0), (643, .ireturn, 1, 8, 0, 0), (644, .iload 5, 2, 1, 0, 0), (646, .ifCond .ne 15, 3, 2, 661, 0), (649, .aload_n 3, 1, 1, 0, 0), (650, .iconst 0, 1, 0, 0, 0), (651, .laload, 1, 3, 0, 0), (652, .iload 6, 2, 1, 0, 0), (654, .i2l, 1, 0, 0, 0), (655, .lcmp, 1, 0, 0, 0), (656, .ifCond .eq 5, 3, 2, 661, 0), (659, .iconst 0, 1, 0, 0, 0), (660, .ireturn, 1, 8, 0, 0), (661, .goto 1082, 3, 2, 1743, 0), (664, .aload_n 1, 1, 1, 0, 0), (665, .aload_n 0, 1, 1, 0, 0), (666, .iload 4, 2, 1, 0, 0), (668, .iconst 1, 1, 0, 0, 0), (669, .iadd, 1, 0, 0, 0), (670, .iaload, 1, 3, 0, 0), (671, .aload_n 3, 1, 1, 0, 0), (672, .invokestatic 127, 3, 7, 99, 0), (675, .istore 5, 2, 1, 0, 0), (677, .aload_n 2, 1, 1, 0, 0), (678, .aload_n 0, 1, 1, 0, 0), (679, .iload 4, 2, 1, 0, 0), (681, .iconst 1, 1, 0, 0, 0), (682, .iadd, 1, 0, 0, 0), (683, .iaload, 1, 3, 0, 0), (684, .invokevirtual 129, 3, 7, 100, 0), (687, .istore 6, 2, 1, 0, 0), (689, .aload_n 2, 1, 1, 0, 0), (690, .invokevirtual 101, 3, 7, 35, 0), (693, .iload 5, 2, 1, 0, 0), (695, .if_icmp .eq 5, 3, 2, 700, 0), (698, .iconst 0, 1, 0, 0, 0), (699, .ireturn, 1, 8, 0, 0), (700, .iload 5, 2, 1, 0, 0), (702, .ifCond .ne 15, 3, 2, 717, 0), (705, .aload_n 3, 1, 1, 0, 0), (706, .iconst 0, 1, 0, 0, 0), (707, .laload, 1, 3, 0, 0), (708, .iload 6, 2, 1, 0, 0), (710, .i2l, 1, 0, 0, 0), (711, .lcmp, 1, 0, 0, 0), (712, .ifCond .eq 5, 3, 2, 717, 0), (715, .iconst 0, 1, 0, 0, 0), (716, .ireturn, 1, 8, 0, 0), (717, .goto 1026, 3, 2, 1743, 0), (720, .aload_n 1, 1, 1, 0, 0), (721, .invokevirtual 130, 3, 7, 102, 0), (724, .aload_n 2, 1, 1, 0, 0), (725, .invokevirtual 133, 3, 7, 103, 0), (728, .if_icmp .eq 1015, 3, 2, 1743, 0), (731, .iconst 0, 1, 0, 0, 0), (732, .ireturn, 1, 8, 0, 0), (733, .aload_n 1, 1, 1, 0, 0), (734, .invokevirtual 134, 3, 7, 118, 0), (737, .aload_n 2, 1, 1, 0, 0), (738, .invokevirtual 137, 3, 7, 127, 0), (741, .if_icmp .eq 1002, 3, 2, 1743, 0), (744, .iconst 0, 1, 0, 0, 0), (745, .ireturn, 1, 8, 0, 0), (746, .aload_n 1, 1, 1, 0, 0), (747, .aload_n 3, 1, 1, 0, 0), (748, .invokestatic 138, 3, 7, 137, 0), (751, .istore 5, 2, 1, 0, 0), (753, .aload_n 2, 1, 1, 0, 0), (754, .invokevirtual 141, 3, 7, 138, 0), (757, .istore 6, 2, 1, 0, 0), (759, .aload_n 2, 1, 1, 0, 0), (760, .invokevirtual 101, 3, 7, 35, 0), (763, .iload 5, 2, 1, 0, 0), (765, .if_icmp .eq 5, 3, 2, 770, 0), (768, .iconst 0, 1, 0, 0, 0), (769, .ireturn, 1, 8, 0, 0), (770, .iload 5, 2, 1, 0, 0), (772, .ifCond .ne 15, 3, 2, 787, 0), (775, .aload_n 3, 1, 1, 0, 0), (776, .iconst 0, 1, 0, 0, 0), (777, .laload, 1, 3, 0, 0), (778, .iload 6, 2, 1, 0, 0), (780, .i2l, 1, 0, 0, 0), (781, .lcmp, 1, 0, 0, 0), (782, .ifCond .eq 5, 3, 2, 787, 0), (785, .iconst 0, 1, 0, 0, 0), (786, .ireturn, 1, 8, 0, 0), (787, .goto 956, 3, 2, 1743, 0), (790, .aload_n 1, 1, 1, 0, 0), (791, .aload_n 3, 1, 1, 0, 0), (792, .invokestatic 142, 3, 7, 143, 0), (795, .istore 5, 2, 1, 0, 0), (797, .aload_n 2, 1, 1, 0, 0), (798, .invokevirtual 144, 3, 7, 144, 0), (801, .istore 6, 2, 1, 0, 0), (803, .aload_n 2, 1, 1, 0, 0), (804, .invokevirtual 101, 3, 7, 35, 0), (807, .iload 5, 2, 1, 0, 0), (809, .if_icmp .eq 5, 3, 2, 814, 0), (812, .iconst 0, 1, 0, 0, 0), (813, .ireturn, 1, 8, 0, 0), (814, .iload 5, 2, 1, 0, 0), (816, .ifCond .ne 15, 3, 2, 831, 0), (819, .aload_n 3, 1, 1, 0, 0), (820, .iconst 0, 1, 0, 0, 0), (821, .laload, 1, 3, 0, 0), (822, .iload 6, 2, 1, 0, 0), (824, .i2l, 1, 0, 0, 0), (825, .lcmp, 1, 0, 0, 0), (826, .ifCond .eq 5, 3, 2, 831, 0), (829, .iconst 0, 1, 0, 0, 0), (830, .ireturn, 1, 8, 0, 0), (831, .goto 912, 3, 2, 1743, 0), (834, .aload_n 1, 1, 1, 0, 0), (835, .aload_n 0, 1, 1, 0, 0), (836, .iload 4, 2, 1, 0, 0), (838, .iconst 1, 1, 0, 0, 0), (839, .iadd, 1, 0, 0, 0), (840, .iaload, 1, 3, 0, 0), (841, .aload_n 3, 1, 1, 0, 0), (842, .invokestatic 145, 3, 7, 147, 0), (845, .istore 5, 2, 1, 0, 0), (847, .aload_n 2, 1, 1, 0, 0), (848, .aload_n 0, 1, 1, 0, 0), (849, .iload 4, 2, 1, 0, 0), (851, .iconst 1, 1, 0, 0, 0), (852, .iadd, 1, 0, 0, 0), (853, .iaload, 1, 3, 0, 0), (854, .invokevirtual 147, 3, 7, 149, 0), (857, .istore 6, 2, 1, 0, 0), (859, .aload_n 2, 1, 1, 0, 0), (860, .invokevirtual 101, 3, 7, 35, 0), (863, .iload 5, 2, 1, 0, 0), (865, .if_icmp .eq 5, 3, 2, 870, 0), (868, .iconst 0, 1, 0, 0, 0), (869, .ireturn, 1, 8, 0, 0), (870, .iload 5, 2, 1, 0, 0), (872, .ifCond .ne 15, 3, 2, 887, 0), (875, .aload_n 3, 1, 1, 0, 0), (876, .iconst 0, 1, 0, 0, 0), (877, .laload, 1, 3, 0, 0), (878, .iload 6, 2, 1, 0, 0), (880, .i2l, 1, 0, 0, 0), (881, .lcmp, 1, 0, 0, 0), (882, .ifCond .eq 5, 3, 2, 887, 0), (885, .iconst 0, 1, 0, 0, 0), (886, .ireturn, 1, 8, 0, 0), (887, .goto 856, 3, 2, 1743, 0), (890, .aload_n 1, 1, 1, 0, 0), (891, .aload_n 0, 1, 1, 0, 0), (892, .iload 4, 2, 1, 0, 0), (894, .iconst 1, 1, 0, 0, 0), (895, .iadd, 1, 0, 0, 0), (896, .iaload, 1, 3, 0, 0), (897, .aload_n 3, 1, 1, 0, 0), (898, .invokestatic 148, 3, 7, 152, 0), (901, .istore 5, 2, 1, 0, 0), (903, .aload_n 2, 1, 1, 0, 0), (904, .aload_n 0, 1, 1, 0, 0), (905, .iload 4, 2, 1, 0, 0), (907, .iconst 1, 1, 0, 0, 0), (908, .iadd, 1, 0, 0, 0), (909, .iaload, 1, 3, 0, 0), (910, .invokevirtual 150, 3, 7, 153, 0), (913, .istore 6, 2, 1, 0, 0), (915, .aload_n 2, 1, 1, 0, 0), (916, .invokevirtual 101, 3, 7, 35, 0), (919, .iload 5, 2, 1, 0, 0), (921, .if_icmp .eq 5, 3, 2, 926, 0), (924, .iconst 0, 1, 0, 0, 0), (925, .ireturn, 1, 8, 0, 0), (926, .iload 5, 2, 1, 0, 0), (928, .ifCond .ne 15, 3, 2, 943, 0), (931, .aload_n 3, 1, 1, 0, 0), (932, .iconst 0, 1, 0, 0, 0), (933, .laload, 1, 3, 0, 0), (934, .iload 6, 2, 1, 0, 0), (936, .i2l, 1, 0, 0, 0), (937, .lcmp, 1, 0, 0, 0), (938, .ifCond .eq 5, 3, 2, 943, 0), (941, .iconst 0, 1, 0, 0, 0), (942, .ireturn, 1, 8, 0, 0), (943, .goto 800, 3, 2, 1743, 0), (946, .aload_n 1, 1, 1, 0, 0), (947, .aload_n 0, 1, 1, 0, 0), (948, .iload 4, 2, 1, 0, 0), (950, .iconst 1, 1, 0, 0, 0), (951, .iadd, 1, 0, 0, 0), (952, .iaload, 1, 3, 0, 0), (953, .aload_n 0, 1, 1, 0, 0), (954, .iload 4, 2, 1, 0, 0), (956, .iconst 2, 1, 0, 0, 0), (957, .iadd, 1, 0, 0, 0), (958, .iaload, 1, 3, 0, 0), (959, .aload_n 3, 1, 1, 0, 0), (960, .invokestatic 151, 3, 7, 157, 0), (963, .istore 5, 2, 1, 0, 0), (965, .aload_n 2, 1, 1, 0, 0), (966, .aload_n 0, 1, 1, 0, 0), (967, .iload 4, 2, 1, 0, 0), (969, .iconst 1, 1, 0, 0, 0), (970, .iadd, 1, 0, 0, 0), (971, .iaload, 1, 3, 0, 0), (972, .aload_n 0, 1, 1, 0, 0), (973, .iload 4, 2, 1, 0, 0), (975, .iconst 2, 1, 0, 0, 0), (976, .iadd, 1, 0, 0, 0), (977, .iaload, 1, 3, 0, 0), (978, .invokevirtual 153, 3, 7, 160, 0), (981, .istore 6, 2, 1, 0, 0), (983, .aload_n 2, 1, 1, 0, 0), (984, .invokevirtual 101, 3, 7, 35, 0), (987, .iload 5, 2, 1, 0, 0), (989, .if_icmp .eq 5, 3, 2, 994, 0), (992, .iconst 0, 1, 0, 0, 0), (993, .ireturn, 1, 8, 0, 0), (994, .iload 5, 2, 1, 0, 0), (996, .ifCond .ne 15, 3, 2, 1011, 0), (999, .aload_n 3, 1, 1, 0, 0), (1000, .iconst 0, 1, 0, 0, 0), (1001, .laload, 1, 3, 0, 0), (1002, .iload 6, 2, 1, 0, 0), (1004, .i2l, 1, 0, 0, 0), (1005, .lcmp, 1, 0, 0, 0), (1006, .ifCond .eq 5, 3, 2, 1011, 0), (1009, .iconst 0, 1, 0, 0, 0), (1010, .ireturn, 1, 8, 0, 0), (1011, .goto 732, 3, 2, 1743, 0), (1014, .aload_n 1, 1, 1, 0, 0), (1015, .aload_n 0, 1, 1, 0, 0), (1016, .iload 4, 2, 1, 0, 0), (1018, .iconst 1, 1, 0, 0, 0), (1019, .iadd, 1, 0, 0, 0), (1020, .iaload, 1, 3, 0, 0), (1021, .aload_n 0, 1, 1, 0, 0), (1022, .iload 4, 2, 1, 0, 0), (1024, .iconst 2, 1, 0, 0, 0), (1025, .iadd, 1, 0, 0, 0), (1026, .iaload, 1, 3, 0, 0), (1027, .aload_n 3, 1, 1, 0, 0), (1028, .invokestatic 154, 3, 7, 164, 0), (1031, .istore 5, 2, 1, 0, 0), (1033, .aload_n 2, 1, 1, 0, 0), (1034, .aload_n 0, 1, 1, 0, 0), (1035, .iload 4, 2, 1, 0, 0), (1037, .iconst 1, 1, 0, 0, 0), (1038, .iadd, 1, 0, 0, 0), (1039, .iaload, 1, 3, 0, 0), (1040, .aload_n 0, 1, 1, 0, 0), (1041, .iload 4, 2, 1, 0, 0), (1043, .iconst 2, 1, 0, 0, 0), (1044, .iadd, 1, 0, 0, 0), (1045, .iaload, 1, 3, 0, 0), (1046, .invokevirtual 156, 3, 7, 166, 0), (1049, .istore 6, 2, 1, 0, 0), (1051, .aload_n 2, 1, 1, 0, 0), (1052, .invokevirtual 101, 3, 7, 35, 0), (1055, .iload 5, 2, 1, 0, 0), (1057, .if_icmp .eq 5, 3, 2, 1062, 0), (1060, .iconst 0, 1, 0, 0, 0), (1061, .ireturn, 1, 8, 0, 0), (1062, .iload 5, 2, 1, 0, 0), (1064, .ifCond .ne 15, 3, 2, 1079, 0), (1067, .aload_n 3, 1, 1, 0, 0), (1068, .iconst 0, 1, 0, 0, 0), (1069, .laload, 1, 3, 0, 0), (1070, .iload 6, 2, 1, 0, 0), (1072, .i2l, 1, 0, 0, 0), (1073, .lcmp, 1, 0, 0, 0), (1074, .ifCond .eq 5, 3, 2, 1079, 0), (1077, .iconst 0, 1, 0, 0, 0), (1078, .ireturn, 1, 8, 0, 0), (1079, .goto 664, 3, 2, 1743, 0), (1082, .aload_n 1, 1, 1, 0, 0), (1083, .aload_n 0, 1, 1, 0, 0), (1084, .iload 4, 2, 1, 0, 0), (1086, .iconst 1, 1, 0, 0, 0), (1087, .iadd, 1, 0, 0, 0), (1088, .iaload, 1, 3, 0, 0), (1089, .aload_n 0, 1, 1, 0, 0), (1090, .iload 4, 2, 1, 0, 0), (1092, .iconst 2, 1, 0, 0, 0), (1093, .iadd, 1, 0, 0, 0), (1094, .iaload, 1, 3, 0, 0), (1095, .aload_n 3, 1, 1, 0, 0), (1096, .invokestatic 157, 3, 7, 169, 0), (1099, .istore 5, 2, 1, 0, 0), (1101, .aload_n 2, 1, 1, 0, 0), (1102, .aload_n 0, 1, 1, 0, 0), (1103, .iload 4, 2, 1, 0, 0), (1105, .iconst 1, 1, 0, 0, 0), (1106, .iadd, 1, 0, 0, 0), (1107, .iaload, 1, 3, 0, 0), (1108, .aload_n 0, 1, 1, 0, 0), (1109, .iload 4, 2, 1, 0, 0), (1111, .iconst 2, 1, 0, 0, 0), (1112, .iadd, 1, 0, 0, 0), (1113, .iaload, 1, 3, 0, 0), (1114, .invokevirtual 159, 3, 7, 171, 0), (1117, .istore 6, 2, 1, 0, 0), (1119, .aload_n 2, 1, 1, 0, 0), (1120, .invokevirtual 101, 3, 7, 35, 0), (1123, .iload 5, 2, 1, 0, 0), (1125, .if_icmp .eq 5, 3, 2, 1130, 0), (1128, .iconst 0, 1, 0, 0, 0), (1129, .ireturn, 1, 8, 0, 0), (1130, .iload 5, 2, 1, 0, 0), (1132, .ifCond .ne 15, 3, 2, 1147, 0), (1135, .aload_n 3, 1, 1, 0, 0), (1136, .iconst 0, 1, 0, 0, 0), (1137, .laload, 1, 3, 0, 0), (1138, .iload 6, 2, 1, 0, 0), (1140, .i2l, 1, 0, 0, 0), (1141, .lcmp, 1, 0, 0, 0), (1142, .ifCond .eq 5, 3, 2, 1147, 0), (1145, .iconst 0, 1, 0, 0, 0), (1146, .ireturn, 1, 8, 0, 0), (1147, .goto 596, 3, 2, 1743, 0), (1150, .aload_n 1, 1, 1, 0, 0), (1151, .aload_n 0, 1, 1, 0, 0), (1152, .iload 4, 2, 1, 0, 0), (1154, .iconst 1, 1, 0, 0, 0), (1155, .iadd, 1, 0, 0, 0), (1156, .iaload, 1, 3, 0, 0), (1157, .aload_n 3, 1, 1, 0, 0), (1158, .invokestatic 160, 3, 7, 173, 0), (1161, .istore 5, 2, 1, 0, 0), (1163, .aload_n 2, 1, 1, 0, 0), (1164, .aload_n 0, 1, 1, 0, 0), (1165, .iload 4, 2, 1, 0, 0), (1167, .iconst 1, 1, 0, 0, 0), (1168, .iadd, 1, 0, 0, 0), (1169, .iaload, 1, 3, 0, 0), (1170, .invokevirtual 162, 3, 7, 174, 0), (1173, .istore 6, 2, 1, 0, 0), (1175, .aload_n 2, 1, 1, 0, 0), (1176, .invokevirtual 101, 3, 7, 35, 0), (1179, .iload 5, 2, 1, 0, 0), (1181, .if_icmp .eq 5, 3, 2, 1186, 0), (1184, .iconst 0, 1, 0, 0, 0), (1185, .ireturn, 1, 8, 0, 0), (1186, .iload 5, 2, 1, 0, 0), (1188, .ifCond .ne 15, 3, 2, 1203, 0), (1191, .aload_n 3, 1, 1, 0, 0), (1192, .iconst 0, 1, 0, 0, 0), (1193, .laload, 1, 3, 0, 0), (1194, .iload 6, 2, 1, 0, 0), (1196, .i2l, 1, 0, 0, 0), (1197, .lcmp, 1, 0, 0, 0), (1198, .ifCond .eq 5, 3, 2, 1203, 0), (1201, .iconst 0, 1, 0, 0, 0), (1202, .ireturn, 1, 8, 0, 0), (1203, .goto 540, 3, 2, 1743, 0), (1206, .aload_n 1, 1, 1, 0, 0), (1207, .aload_n 0, 1, 1, 0, 0), (1208, .iload 4, 2, 1, 0, 0), (1210, .iconst 1, 1, 0, 0, 0), (1211, .iadd, 1, 0, 0, 0), (1212, .iaload, 1, 3, 0, 0), (1213, .aload_n 0, 1, 1, 0, 0), (1214, .iload 4, 2, 1, 0, 0), (1216, .iconst 2, 1, 0, 0, 0), (1217, .iadd, 1, 0, 0, 0), (1218, .iaload, 1, 3, 0, 0), (1219, .aload_n 3, 1, 1, 0, 0), (1220, .invokestatic 163, 3, 7, 179, 0), (1223, .istore 5, 2, 1, 0, 0), (1225, .aload_n 2, 1, 1, 0, 0), (1226, .aload_n 0, 1, 1, 0, 0), (1227, .iload 4, 2, 1, 0, 0), (1229, .iconst 1, 1, 0, 0, 0), (1230, .iadd, 1, 0, 0, 0), (1231, .iaload, 1, 3, 0, 0), (1232, .aload_n 0, 1, 1, 0, 0), (1233, .iload 4, 2, 1, 0, 0), (1235, .iconst 2, 1, 0, 0, 0), (1236, .iadd, 1, 0, 0, 0), (1237, .iaload, 1, 3, 0, 0), (1238, .invokevirtual 165, 3, 7, 181, 0), (1241, .istore 6, 2, 1, 0, 0), (1243, .aload_n 2, 1, 1, 0, 0), (1244, .invokevirtual 101, 3, 7, 35, 0), (1247, .iload 5, 2, 1, 0, 0), (1249, .if_icmp .eq 5, 3, 2, 1254, 0), (1252, .iconst 0, 1, 0, 0, 0), (1253, .ireturn, 1, 8, 0, 0), (1254, .iload 5, 2, 1, 0, 0), (1256, .ifCond .ne 15, 3, 2, 1271, 0), (1259, .aload_n 3, 1, 1, 0, 0), (1260, .iconst 0, 1, 0, 0, 0), (1261, .laload, 1, 3, 0, 0), (1262, .iload 6, 2, 1, 0, 0), (1264, .i2l, 1, 0, 0, 0), (1265, .lcmp, 1, 0, 0, 0), (1266, .ifCond .eq 5, 3, 2, 1271, 0), (1269, .iconst 0, 1, 0, 0, 0), (1270, .ireturn, 1, 8, 0, 0), (1271, .goto 472, 3, 2, 1743, 0), (1274, .aload_n 1, 1, 1, 0, 0), (1275, .aload_n 0, 1, 1, 0, 0), (1276, .iload 4, 2, 1, 0, 0), (1278, .iconst 1, 1, 0, 0, 0), (1279, .iadd, 1, 0, 0, 0), (1280, .iaload, 1, 3, 0, 0), (1281, .aload_n 3, 1, 1, 0, 0), (1282, .invokestatic 166, 3, 7, 184, 0), (1285, .istore 5, 2, 1, 0, 0), (1287, .aload_n 2, 1, 1, 0, 0), (1288, .aload_n 0, 1, 1, 0, 0), (1289, .iload 4, 2, 1, 0, 0), (1291, .iconst 1, 1, 0, 0, 0), (1292, .iadd, 1, 0, 0, 0), (1293, .iaload, 1, 3, 0, 0), (1294, .invokevirtual 168, 3, 7, 186, 0), (1297, .istore 6, 2, 1, 0, 0), (1299, .aload_n 2, 1, 1, 0, 0), (1300, .invokevirtual 101, 3, 7, 35, 0), (1303, .iload 5, 2, 1, 0, 0), (1305, .if_icmp .eq 5, 3, 2, 1310, 0), (1308, .iconst 0, 1, 0, 0, 0), (1309, .ireturn, 1, 8, 0, 0), (1310, .iload 5, 2, 1, 0, 0), (1312, .ifCond .ne 15, 3, 2, 1327, 0), (1315, .aload_n 3, 1, 1, 0, 0), (1316, .iconst 0, 1, 0, 0, 0), (1317, .laload, 1, 3, 0, 0), (1318, .iload 6, 2, 1, 0, 0), (1320, .i2l, 1, 0, 0, 0), (1321, .lcmp, 1, 0, 0, 0), (1322, .ifCond .eq 5, 3, 2, 1327, 0), (1325, .iconst 0, 1, 0, 0, 0), (1326, .ireturn, 1, 8, 0, 0), (1327, .goto 416, 3, 2, 1743, 0), (1330, .aload_n 1, 1, 1, 0, 0), (1331, .aload_n 0, 1, 1, 0, 0), (1332, .iload 4, 2, 1, 0, 0), (1334, .iconst 1, 1, 0, 0, 0), (1335, .iadd, 1, 0, 0, 0), (1336, .iaload, 1, 3, 0, 0), (1337, .aload_n 3, 1, 1, 0, 0), (1338, .invokestatic 169, 3, 7, 198, 0), (1341, .istore 5, 2, 1, 0, 0), (1343, .aload_n 2, 1, 1, 0, 0), (1344, .aload_n 0, 1, 1, 0, 0), (1345, .iload 4, 2, 1, 0, 0), (1347, .iconst 1, 1, 0, 0, 0), (1348, .iadd, 1, 0, 0, 0), (1349, .iaload, 1, 3, 0, 0), (1350, .invokevirtual 171, 3, 7, 206, 0), (1353, .istore 6, 2, 1, 0, 0), (1355, .aload_n 2, 1, 1, 0, 0), (1356, .invokevirtual 101, 3, 7, 35, 0), (1359, .iload 5, 2, 1, 0, 0), (1361, .if_icmp .eq 5, 3, 2, 1366, 0), (1364, .iconst 0, 1, 0, 0, 0), (1365, .ireturn, 1, 8, 0, 0), (1366, .iload 5, 2, 1, 0, 0), (1368, .ifCond .ne 15, 3, 2, 1383, 0), (1371, .aload_n 3, 1, 1, 0, 0), (1372, .iconst 0, 1, 0, 0, 0), (1373, .laload, 1, 3, 0, 0), (1374, .iload 6, 2, 1, 0, 0), (1376, .i2l, 1, 0, 0, 0), (1377, .lcmp, 1, 0, 0, 0), (1378, .ifCond .eq 5, 3, 2, 1383, 0), (1381, .iconst 0, 1, 0, 0, 0), (1382, .ireturn, 1, 8, 0, 0), (1383, .goto 360, 3, 2, 1743, 0), (1386, .aload_n 1, 1, 1, 0, 0), (1387, .invokevirtual 172, 3, 7, 208, 0), (1390, .f2d, 1, 0, 0, 0), (1391, .dstore 5, 2, 1, 0, 0), (1393, .aload_n 2, 1, 1, 0, 0), (1394, .invokevirtual 176, 3, 7, 209, 0), (1397, .f2d, 1, 0, 0, 0), (1398, .dstore 7, 2, 1, 0, 0), (1400, .dload 5, 2, 1, 0, 0), (1402, .dload 7, 2, 1, 0, 0), (1404, .dcmp .l, 1, 0, 0, 0), (1405, .ifCond .eq 21, 3, 2, 1426, 0), (1408, .dload 5, 2, 1, 0, 0), (1410, .dload 5, 2, 1, 0, 0), (1412, .dcmp .l, 1, 0, 0, 0), (1413, .ifCond .eq 11, 3, 2, 1424, 0), (1416, .dload 7, 2, 1, 0, 0), (1418, .dload 7, 2, 1, 0, 0), (1420, .dcmp .l, 1, 0, 0, 0), (1421, .ifCond .ne 5, 3, 2, 1426, 0), (1424, .iconst 0, 1, 0, 0, 0), (1425, .ireturn, 1, 8, 0, 0), (1426, .goto 317, 3, 2, 1743, 0), (1429, .aload_n 1, 1, 1, 0, 0), (1430, .aload_n 0, 1, 1, 0, 0), (1431, .iload 4, 2, 1, 0, 0), (1433, .iconst 1, 1, 0, 0, 0), (1434, .iadd, 1, 0, 0, 0), (1435, .iaload, 1, 3, 0, 0), (1436, .aload_n 0, 1, 1, 0, 0), (1437, .iload 4, 2, 1, 0, 0), (1439, .iconst 2, 1, 0, 0, 0), (1440, .iadd, 1, 0, 0, 0), (1441, .iaload, 1, 3, 0, 0), (1442, .aload_n 0, 1, 1, 0, 0), (1443, .iload 4, 2, 1, 0, 0), (1445, .iconst 3, 1, 0, 0, 0), (1446, .iadd, 1, 0, 0, 0), (1447, .iaload, 1, 3, 0, 0), (1448, .aload_n 3, 1, 1, 0, 0), (1449, .invokestatic 177, 3, 7, 216, 0), (1452, .istore 5, 2, 1, 0, 0), (1454, .aload_n 2, 1, 1, 0, 0), (1455, .aload_n 0, 1, 1, 0, 0), (1456, .iload 4, 2, 1, 0, 0), (1458, .iconst 1, 1, 0, 0, 0), (1459, .iadd, 1, 0, 0, 0), (1460, .iaload, 1, 3, 0, 0), (1461, .aload_n 0, 1, 1, 0, 0), (1462, .iload 4, 2, 1, 0, 0), (1464, .iconst 2, 1, 0, 0, 0), (1465, .iadd, 1, 0, 0, 0), (1466, .iaload, 1, 3, 0, 0), (1467, .aload_n 0, 1, 1, 0, 0), (1468, .iload 4, 2, 1, 0, 0), (1470, .iconst 3, 1, 0, 0, 0), (1471, .iadd, 1, 0, 0, 0), (1472, .iaload, 1, 3, 0, 0), (1473, .invokevirtual 179, 3, 7, 219, 0), (1476, .istore 6, 2, 1, 0, 0), (1478, .aload_n 2, 1, 1, 0, 0), (1479, .invokevirtual 101, 3, 7, 35, 0), (1482, .iload 5, 2, 1, 0, 0), (1484, .if_icmp .eq 5, 3, 2, 1489, 0), (1487, .iconst 0, 1, 0, 0, 0), (1488, .ireturn, 1, 8, 0, 0), (1489, .iload 5, 2, 1, 0, 0), (1491, .ifCond .ne 15, 3, 2, 1506, 0), (1494, .aload_n 3, 1, 1, 0, 0), (1495, .iconst 0, 1, 0, 0, 0), (1496, .laload, 1, 3, 0, 0), (1497, .iload 6, 2, 1, 0, 0), (1499, .i2l, 1, 0, 0, 0), (1500, .lcmp, 1, 0, 0, 0), (1501, .ifCond .eq 5, 3, 2, 1506, 0), (1504, .iconst 0, 1, 0, 0, 0), (1505, .ireturn, 1, 8, 0, 0), (1506, .goto 237, 3, 2, 1743, 0), (1509, .aload_n 1, 1, 1, 0, 0), (1510, .aload_n 0, 1, 1, 0, 0), (1511, .iload 4, 2, 1, 0, 0), (1513, .iconst 1, 1, 0, 0, 0), (1514, .iadd, 1, 0, 0, 0), (1515, .iaload, 1, 3, 0, 0), (1516, .aload_n 0, 1, 1, 0, 0), (1517, .iload 4, 2, 1, 0, 0), (1519, .iconst 2, 1, 0, 0, 0), (1520, .iadd, 1, 0, 0, 0), (1521, .iaload, 1, 3, 0, 0), (1522, .aload_n 3, 1, 1, 0, 0), (1523, .invokestatic 180, 3, 7, 222, 0), (1526, .istore 5, 2, 1, 0, 0), (1528, .aload_n 2, 1, 1, 0, 0), (1529, .aload_n 0, 1, 1, 0, 0), (1530, .iload 4, 2, 1, 0, 0), (1532, .iconst 1, 1, 0, 0, 0), (1533, .iadd, 1, 0, 0, 0), (1534, .iaload, 1, 3, 0, 0), (1535, .aload_n 0, 1, 1, 0, 0), (1536, .iload 4, 2, 1, 0, 0), (1538, .iconst 2, 1, 0, 0, 0), (1539, .iadd, 1, 0, 0, 0), (1540, .iaload, 1, 3, 0, 0), (1541, .invokevirtual 182, 3, 7, 223, 0), (1544, .istore 6, 2, 1, 0, 0), (1546, .aload_n 2, 1, 1, 0, 0), (1547, .invokevirtual 101, 3, 7, 35, 0), (1550, .iload 5, 2, 1, 0, 0), (1552, .if_icmp .eq 5, 3, 2, 1557, 0), (1555, .iconst 0, 1, 0, 0, 0), (1556, .ireturn, 1, 8, 0, 0), (1557, .iload 5, 2, 1, 0, 0), (1559, .ifCond .ne 15, 3, 2, 1574, 0), (1562, .aload_n 3, 1, 1, 0, 0), (1563, .iconst 0, 1, 0, 0, 0), (1564, .laload, 1, 3, 0, 0), (1565, .iload 6, 2, 1, 0, 0), (1567, .i2l, 1, 0, 0, 0), (1568, .lcmp, 1, 0, 0, 0), (1569, .ifCond .eq 5, 3, 2, 1574, 0), (1572, .iconst 0, 1, 0, 0, 0), (1573, .ireturn, 1, 8, 0, 0), (1574, .goto 169, 3, 2, 1743, 0), (1577, .aload_n 1, 1, 1, 0, 0), (1578, .aload_n 0, 1, 1, 0, 0), (1579, .iload 4, 2, 1, 0, 0), (1581, .iconst 1, 1, 0, 0, 0), (1582, .iadd, 1, 0, 0, 0), (1583, .iaload, 1, 3, 0, 0), (1584, .aload_n 3, 1, 1, 0, 0), (1585, .invokestatic 183, 3, 7, 226, 0), (1588, .istore 5, 2, 1, 0, 0), (1590, .aload_n 2, 1, 1, 0, 0), (1591, .aload_n 0, 1, 1, 0, 0), (1592, .iload 4, 2, 1, 0, 0), (1594, .iconst 1, 1, 0, 0, 0), (1595, .iadd, 1, 0, 0, 0), (1596, .iaload, 1, 3, 0, 0), (1597, .invokevirtual 185, 3, 7, 227, 0), (1600, .istore 6, 2, 1, 0, 0), (1602, .aload_n 2, 1, 1, 0, 0), (1603, .invokevirtual 101, 3, 7, 35, 0), (1606, .iload 5, 2, 1, 0, 0), (1608, .if_icmp .eq 5, 3, 2, 1613, 0), (1611, .iconst 0, 1, 0, 0, 0), (1612, .ireturn, 1, 8, 0, 0), (1613, .iload 5, 2, 1, 0, 0), (1615, .ifCond .ne 15, 3, 2, 1630, 0), (1618, .aload_n 3, 1, 1, 0, 0), (1619, .iconst 0, 1, 0, 0, 0), (1620, .laload, 1, 3, 0, 0), (1621, .iload 6, 2, 1, 0, 0), (1623, .i2l, 1, 0, 0, 0), (1624, .lcmp, 1, 0, 0, 0), (1625, .ifCond .eq 5, 3, 2, 1630, 0), (1628, .iconst 0, 1, 0, 0, 0), (1629, .ireturn, 1, 8, 0, 0), (1630, .goto 113, 3, 2, 1743, 0), (1633, .aload_n 1, 1, 1, 0, 0), (1634, .aload_n 0, 1, 1, 0, 0), (1635, .iload 4, 2, 1, 0, 0), (1637, .iconst 1, 1, 0, 0, 0), (1638, .iadd, 1, 0, 0, 0), (1639, .iaload, 1, 3, 0, 0), (1640, .aload_n 3, 1, 1, 0, 0), (1641, .invokestatic 186, 3, 7, 230, 0), (1644, .istore 5, 2, 1, 0, 0), (1646, .aload_n 2, 1, 1, 0, 0), (1647, .aload_n 0, 1, 1, 0, 0), (1648, .iload 4, 2, 1, 0, 0), (1650, .iconst 1, 1, 0, 0, 0), (1651, .iadd, 1, 0, 0, 0), (1652, .iaload, 1, 3, 0, 0), (1653, .invokevirtual 188, 3, 7, 231, 0), (1656, .istore 6, 2, 1, 0, 0), (1658, .aload_n 2, 1, 1, 0, 0), (1659, .invokevirtual 101, 3, 7, 35, 0), (1662, .iload 5, 2, 1, 0, 0), (1664, .if_icmp .eq 5, 3, 2, 1669, 0), (1667, .iconst 0, 1, 0, 0, 0), (1668, .ireturn, 1, 8, 0, 0), (1669, .iload 5, 2, 1, 0, 0), (1671, .ifCond .ne 15, 3, 2, 1686, 0), (1674, .aload_n 3, 1, 1, 0, 0), (1675, .iconst 0, 1, 0, 0, 0), (1676, .laload, 1, 3, 0, 0), (1677, .iload 6, 2, 1, 0, 0), (1679, .i2l, 1, 0, 0, 0), (1680, .lcmp, 1, 0, 0, 0), (1681, .ifCond .eq 5, 3, 2, 1686, 0), (1684, .iconst 0, 1, 0, 0, 0), (1685, .ireturn, 1, 8, 0, 0), (1686, .goto 57, 3, 2, 1743, 0), (1689, .aload_n 1, 1, 1, 0, 0), (1690, .invokevirtual 189, 3, 7, 234, 0), (1693, .aload_n 2, 1, 1, 0, 0), (1694, .invokevirtual 192, 3, 7, 236, 0), (1697, .if_icmp .eq 46, 3, 2, 1743, 0), (1700, .iconst 0, 1, 0, 0, 0), (1701, .ireturn, 1, 8, 0, 0), (1702, .aload_n 1, 1, 1, 0, 0), (1703, .aload_n 0, 1, 1, 0, 0), (1704, .iload 4, 2, 1, 0, 0), (1706, .iconst 1, 1, 0, 0, 0), (1707, .iadd, 1, 0, 0, 0), (1708, .iaload, 1, 3, 0, 0), (1709, .ifCond .eq 7, 3, 2, 1716, 0), (1712, .iconst 1, 1, 0, 0, 0), (1713, .goto 4, 3, 2, 1717, 0), (1716, .iconst 0, 1, 0, 0, 0), (1717, .invokevirtual 193, 3, 7, 238, 0), (1720, .aload_n 2, 1, 1, 0, 0), (1721, .aload_n 0, 1, 1, 0, 0), (1722, .iload 4, 2, 1, 0, 0), (1724, .iconst 1, 1, 0, 0, 0), (1725, .iadd, 1, 0, 0, 0), (1726, .iaload, 1, 3, 0, 0), (1727, .ifCond .eq 7, 3, 2, 1734, 0), (1730, .iconst 1, 1, 0, 0, 0), (1731, .goto 4, 3, 2, 1735, 0), (1734, .iconst 0, 1, 0, 0, 0), (1735, .invokevirtual 197, 3, 7, 239, 0), (1738, .if_icmp .eq 5, 3, 2, 1743, 0), (1741, .iconst 0, 1, 0, 0, 0), (1742, .ireturn, 1, 8, 0, 0), (1743, .iinc 4 4, 3, 1, 0, 0), (1746, .goto (-1723), 3, 2, 23, 0), (1749, .iconst 1, 1, 0, 0, 0), (1750, .ireturn, 1, 8, 0, 0)]
def am_ys : List (MethodName) := [yX6_init, yX1_init, yX0_init, yX8_init, yX6_put, yX7_init, yX5_init, yX3_init, yX4_init, yX9_init, yX2_init, yX10_init, yX11_init, yX10_isPitch, yX1_hasRoom, yX2_placeOf, yX6_copyFrom, yX1_copyFrom, yX0_copyFrom, yX8_copyFrom, yX7_copyFrom, yX9_store, yX2_push, yX1_build, yX10_gate, yL_gate, yX11_in, yX11_isPitch, yX11_gateError, yX11_holds, yX11_copy, yX11_save, yX11_put, yX11_doGate, yX11_gate, yX11_thrown, yX1_exists, yX1_hasExit, yX1_hasTarget, yX6_at, yX6_exchange, yX1_connect, yX10_lead, yL_lead, yX11_isGate, yX11_isBin, yX11_isTarget, yX11_leadError, yX11_of, yX11_doLead, yX11_lead, yX1_changePitch, yX10_tune, yL_tune, yX11_tune, yX6_raise, yX1_turnByHand, yX10_flip, yL_flip, yX11_doFlip, yX11_flip, yX10_set, yL_set, yX11_set, yX7_mayAwait, yX7_await, yX10_drop, yL_drop, yX11_dropError, yX11_doDrop, yX11_drop, yX8_placeOf, yX8_add, yX1_targetOf, yX1_letOut, yX0_advance, yX7_passGates, yX0_add, yX7_dropIfDue, yX7_liftIfDue, yX7_passBeats, yX10_play, yL_play, yX11_ring, yX11_passGate, yX11_takeOut, yX11_dropOne, yX11_lift, yX11_beat, yX11_doPlay, yX11_play, yX10_isBin, yX7_bringBackAll, yX10_empty, yL_empty, yX11_empty, yX4_isFull, yX4_add, yX10_append, yL_append, yX11_append, yX4_clear, yX10_clearBuffer, yX11_clearBuffer, yX4_mayEnd, yX4_takeSeparator, yX4_greatest, yX4_takeKind, yX4_isDigit, yX4_takeNumber, yX4_longer, yX4_takeExit, yX4_takeMoreOfNumber, yX4_takeTarget, yX4_takeMoreOfTarget, yX4_takeBin, yX4_take, yX4_read, yX10_firstError, yX11_isNext, yX11_readNumber, yX11_takes, yX11_readLead, yX11_readOrder, yX11_canDo, yX11_does, yX11_readText, yX11_firstError, yX4_isOrderText, yX4_orderCount, yX4_numberOf, yX4_kindOf, yX4_targetOf, yX10_mayObey, yX4_exitOf, yX10_obey, yX10_execute, yL_execute, yX11_execute, yX2_size, yX9_fetch, yX2_pop, yX10_undo, yL_undo, yX11_undo, yX10_isSlot, yX10_keep, yL_keep, yX11_isSlot, yX11_keep, yX9_holds, yX10_goBack, yL_goBack, yX11_goBack, yX1_leaversOf, yX0_howManyAt, yX10_gateOf, yL_gateOf, yX11_ofBall, yX11_ballsAt, yX11_gateOf, yX1_stepsFrom, yX1_binFrom, yX10_ball, yL_ball, yX11_wayFrom, yX11_ball, yX1_exitsInto, yX10_bin, yL_bin, yX11_exitsTo, yX11_bin, yX10_count, yL_count, yX11_count, yX8_beatAt, yX8_gateAt, yX8_pitchAt, yX10_note, yL_note, yX11_ofNote, yX11_note, yX3_chordOf, yX10_chord, yL_chord, yX11_chordOf, yX11_chord, yX6_wipe, yX3_tallyPitches, yX3_differentPitches, yX3_commonestPitch, yX3_gatherChords, yX3_isFirstOfItsKind, yX3_differentChords, yJ6_bitCount_0f7a4, yX3_widestChord, yX3_steps, yX10_notes, yL_notes, yX11_notesOf, yX11_pitches, yX11_commonest, yX11_isNewChord, yX11_chords, yX11_widestChord, yX11_steps, yX11_notes, yX3_pitchSum, yX10_meanPitch, yX11_meanPitch, yX10_isRollCount, yX5_begin, yX5_rollOne, yX5_ballByBall, yX5_gateByGate, yX10_rolled, yL_rolled, yX11_isCount, yX11_rollOut, yX11_rolled, yX5_sideLater, yX10_sideAfter, yL_sideAfter, yX11_sideAfter, yX5_binAt, yX10_binOf, yL_binOf, yX11_binOf, yX5_firstBallInto, yX10_firstInto, yL_firstInto, yX11_firstInto, yX6_sameAs, yX5_ballsUntilSame, yX10_period, yX11_areAsNow, yX11_period, yX5_wayLength, yX10_way, yX11_way, yL_law]
def am_bs : List (ByteArray) := [cX6_init, cX1_init, cX0_init, cX8_init, cX6_put, cX7_init, cX5_init, cX3_init, cX4_init, cX9_init, cX2_init, cX10_init, cX11_init, cX10_isPitch, cX1_hasRoom, cX2_placeOf, cX6_copyFrom, cX1_copyFrom, cX0_copyFrom, cX8_copyFrom, cX7_copyFrom, cX9_store, cX2_push, cX1_build, cX10_gate, cL_gate, cX11_in, cX11_isPitch, cX11_gateError, cX11_holds, cX11_copy, cX11_save, cX11_put, cX11_doGate, cX11_gate, cX11_thrown, cX1_exists, cX1_hasExit, cX1_hasTarget, cX6_at, cX6_exchange, cX1_connect, cX10_lead, cL_lead, cX11_isGate, cX11_isBin, cX11_isTarget, cX11_leadError, cX11_of, cX11_doLead, cX11_lead, cX1_changePitch, cX10_tune, cL_tune, cX11_tune, cX6_raise, cX1_turnByHand, cX10_flip, cL_flip, cX11_doFlip, cX11_flip, cX10_set, cL_set, cX11_set, cX7_mayAwait, cX7_await, cX10_drop, cL_drop, cX11_dropError, cX11_doDrop, cX11_drop, cX8_placeOf, cX8_add, cX1_targetOf, cX1_letOut, cX0_advance, cX7_passGates, cX0_add, cX7_dropIfDue, cX7_liftIfDue, cX7_passBeats, cX10_play, cL_play, cX11_ring, cX11_passGate, cX11_takeOut, cX11_dropOne, cX11_lift, cX11_beat, cX11_doPlay, cX11_play, cX10_isBin, cX7_bringBackAll, cX10_empty, cL_empty, cX11_empty, cX4_isFull, cX4_add, cX10_append, cL_append, cX11_append, cX4_clear, cX10_clearBuffer, cX11_clearBuffer, cX4_mayEnd, cX4_takeSeparator, cX4_greatest, cX4_takeKind, cX4_isDigit, cX4_takeNumber, cX4_longer, cX4_takeExit, cX4_takeMoreOfNumber, cX4_takeTarget, cX4_takeMoreOfTarget, cX4_takeBin, cX4_take, cX4_read, cX10_firstError, cX11_isNext, cX11_readNumber, cX11_takes, cX11_readLead, cX11_readOrder, cX11_canDo, cX11_does, cX11_readText, cX11_firstError, cX4_isOrderText, cX4_orderCount, cX4_numberOf, cX4_kindOf, cX4_targetOf, cX10_mayObey, cX4_exitOf, cX10_obey, cX10_execute, cL_execute, cX11_execute, cX2_size, cX9_fetch, cX2_pop, cX10_undo, cL_undo, cX11_undo, cX10_isSlot, cX10_keep, cL_keep, cX11_isSlot, cX11_keep, cX9_holds, cX10_goBack, cL_goBack, cX11_goBack, cX1_leaversOf, cX0_howManyAt, cX10_gateOf, cL_gateOf, cX11_ofBall, cX11_ballsAt, cX11_gateOf, cX1_stepsFrom, cX1_binFrom, cX10_ball, cL_ball, cX11_wayFrom, cX11_ball, cX1_exitsInto, cX10_bin, cL_bin, cX11_exitsTo, cX11_bin, cX10_count, cL_count, cX11_count, cX8_beatAt, cX8_gateAt, cX8_pitchAt, cX10_note, cL_note, cX11_ofNote, cX11_note, cX3_chordOf, cX10_chord, cL_chord, cX11_chordOf, cX11_chord, cX6_wipe, cX3_tallyPitches, cX3_differentPitches, cX3_commonestPitch, cX3_gatherChords, cX3_isFirstOfItsKind, cX3_differentChords, cJ6_bitCount_0f7a4, cX3_widestChord, cX3_steps, cX10_notes, cL_notes, cX11_notesOf, cX11_pitches, cX11_commonest, cX11_isNewChord, cX11_chords, cX11_widestChord, cX11_steps, cX11_notes, cX3_pitchSum, cX10_meanPitch, cX11_meanPitch, cX10_isRollCount, cX5_begin, cX5_rollOne, cX5_ballByBall, cX5_gateByGate, cX10_rolled, cL_rolled, cX11_isCount, cX11_rollOut, cX11_rolled, cX5_sideLater, cX10_sideAfter, cL_sideAfter, cX11_sideAfter, cX5_binAt, cX10_binOf, cL_binOf, cX11_binOf, cX5_firstBallInto, cX10_firstInto, cL_firstInto, cX11_firstInto, cX6_sameAs, cX5_ballsUntilSame, cX10_period, cX11_areAsNow, cX11_period, cX5_wayLength, cX10_way, cX11_way, cL_law]
def am_mLs : List (Nat) := [2, 1, 1, 1, 3, 1, 2, 2, 1, 3, 1, 1, 1, 1, 1, 2, 2, 2, 2, 2, 2, 3, 2, 3, 2, 4, 3, 1, 2, 2, 5, 2, 4, 4, 2, 1, 2, 3, 2, 2, 4, 4, 4, 6, 2, 1, 2, 5, 3, 5, 4, 3, 3, 5, 4, 3, 2, 2, 4, 2, 2, 3, 5, 4, 2, 2, 2, 4, 2, 2, 2, 2, 5, 3, 3, 4, 6, 2, 2, 3, 4, 2, 4, 3, 5, 3, 2, 3, 3, 4, 2, 1, 3, 2, 4, 3, 1, 2, 2, 4, 2, 2, 1, 2, 1, 1, 1, 2, 1, 4, 3, 2, 4, 2, 3, 2, 2, 2, 1, 3, 5, 3, 2, 1, 1, 1, 3, 1, 1, 1, 2, 2, 2, 4, 2, 3, 3, 3, 2, 1, 3, 2, 1, 3, 1, 1, 2, 4, 1, 2, 2, 2, 4, 2, 3, 4, 3, 5, 3, 4, 3, 4, 4, 3, 5, 5, 3, 4, 3, 5, 4, 3, 2, 4, 2, 2, 2, 2, 4, 5, 3, 3, 4, 2, 4, 4, 2, 2, 2, 3, 3, 3, 3, 3, 1, 3, 5, 2, 4, 4, 3, 3, 5, 3, 5, 5, 2, 3, 2, 3, 1, 1, 4, 4, 6, 4, 6, 1, 3, 4, 3, 3, 5, 3, 3, 2, 4, 4, 3, 2, 4, 3, 3, 2, 1, 4, 2, 5, 2, 5, 9]
def am_rets : List (Option FieldType) := [none, none, none, none, none, none, none, none, none, none, none, none, none, (some .boolean), (some .boolean), (some .int), none, none, none, none, none, none, none, (some .int), (some .int), (some .int), (some .boolean), (some .boolean), (some .int), (some .boolean), none, none, none, (some .int), (some .int), (some .int), (some .boolean), (some .boolean), (some .boolean), (some .int), (some .int), (some .int), (some .int), (some .int), (some .boolean), (some .boolean), (some .boolean), (some .int), (some .int), (some .int), (some .int), (some .int), (some .int), (some .int), (some .int), none, (some .int), (some .int), (some .int), (some .int), (some .int), (some .int), (some .int), (some .int), (some .boolean), (some .int), (some .int), (some .int), (some .int), (some .int), (some .int), (some .int), none, (some .int), (some .int), none, none, none, none, none, (some .int), (some .int), (some .int), none, (some .int), none, none, none, none, (some .int), (some .int), (some .boolean), (some .int), (some .int), (some .int), (some .int), (some .boolean), (some .int), (some .int), (some .int), (some .int), (some .int), (some .int), (some .int), (some .boolean), (some .boolean), (some .int), (some .boolean), (some .boolean), (some .boolean), (some .int), (some .boolean), (some .boolean), (some .boolean), (some .boolean), (some .boolean), (some .boolean), (some .int), (some .int), (some .boolean), (some .boolean), (some .boolean), (some .boolean), (some .boolean), (some .boolean), (some .int), (some .boolean), (some .int), (some .boolean), (some .int), (some .int), (some .int), (some .int), (some .boolean), (some .int), (some .boolean), (some .int), (some .int), (some .int), (some .int), none, (some .int), (some .int), (some .int), (some .int), (some .boolean), (some .int), (some .int), (some .boolean), (some .int), (some .boolean), (some .int), (some .int), (some .int), (some .int), (some .int), (some .int), (some .int), (some .int), (some .int), (some .int), (some .int), (some .int), (some .int), (some .int), (some .int), (some .int), (some .int), (some .int), (some .int), (some .int), (some .int), (some .int), (some .int), (some .int), (some .int), (some .int), (some .int), (some .int), (some .int), (some .int), (some .int), (some .int), (some .int), (some .int), (some .int), (some .int), none, none, (some .int), (some .int), none, (some .boolean), (some .int), (some .int), (some .int), (some .int), (some .int), (some .int), (some .int), (some .int), (some .int), (some .boolean), (some .int), (some .int), (some .int), (some .int), (some .int), (some .float), (some .float), (some .boolean), none, (some .int), (some .int), (some .int), (some .int), (some .int), (some .boolean), none, (some .int), (some .int), (some .int), (some .int), (some .int), (some .int), (some .int), (some .int), (some .int), (some .int), (some .int), (some .int), (some .int), (some .boolean), (some .int), (some .int), (some .boolean), (some .int), (some .int), (some .int), (some .int), (some .boolean)]
def am_cis : List (Nat) := [6, 1, 0, 8, 6, 7, 5, 3, 4, 9, 2, 10, 11, 10, 1, 2, 6, 1, 0, 8, 7, 9, 2, 1, 10, 99, 11, 11, 11, 11, 11, 11, 11, 11, 11, 11, 1, 1, 1, 6, 6, 1, 10, 99, 11, 11, 11, 11, 11, 11, 11, 1, 10, 99, 11, 6, 1, 10, 99, 11, 11, 10, 99, 11, 7, 7, 10, 99, 11, 11, 11, 8, 8, 1, 1, 0, 7, 0, 7, 7, 7, 10, 99, 11, 11, 11, 11, 11, 11, 11, 11, 10, 7, 10, 99, 11, 4, 4, 10, 99, 11, 4, 10, 11, 4, 4, 4, 4, 4, 4, 4, 4, 4, 4, 4, 4, 4, 4, 10, 11, 11, 11, 11, 11, 11, 11, 11, 11, 4, 4, 4, 4, 4, 10, 4, 10, 10, 99, 11, 2, 9, 2, 10, 99, 11, 10, 10, 99, 11, 11, 9, 10, 99, 11, 1, 0, 10, 99, 11, 11, 11, 1, 1, 10, 99, 11, 11, 1, 10, 99, 11, 11, 10, 99, 11, 8, 8, 8, 10, 99, 11, 11, 3, 10, 99, 11, 11, 6, 3, 3, 3, 3, 3, 3, 99, 3, 3, 10, 99, 11, 11, 11, 11, 11, 11, 11, 11, 3, 10, 11, 10, 5, 5, 5, 5, 10, 99, 11, 11, 11, 5, 10, 99, 11, 5, 10, 99, 11, 5, 10, 99, 11, 6, 5, 10, 11, 11, 5, 10, 11, 99]
def am_nps : List (Nat) := [2, 1, 1, 1, 3, 1, 2, 2, 1, 2, 1, 1, 1, 1, 1, 2, 2, 2, 2, 2, 2, 3, 2, 2, 2, 3, 3, 1, 2, 2, 4, 1, 4, 2, 2, 1, 2, 3, 2, 2, 3, 4, 4, 5, 2, 1, 2, 4, 3, 4, 4, 3, 3, 4, 3, 3, 2, 2, 3, 2, 2, 3, 4, 3, 2, 2, 2, 3, 2, 2, 2, 2, 4, 3, 2, 4, 1, 2, 1, 1, 2, 2, 3, 2, 2, 2, 1, 1, 1, 2, 2, 1, 2, 2, 3, 2, 1, 2, 2, 3, 2, 1, 1, 1, 1, 1, 1, 2, 1, 2, 3, 2, 2, 2, 2, 2, 2, 1, 1, 3, 4, 2, 1, 1, 1, 1, 2, 1, 1, 1, 2, 2, 2, 3, 2, 2, 1, 2, 1, 1, 3, 2, 1, 2, 1, 1, 2, 3, 1, 2, 2, 2, 3, 2, 3, 2, 3, 4, 3, 2, 3, 2, 2, 3, 4, 3, 3, 2, 3, 4, 2, 3, 2, 3, 2, 2, 2, 2, 3, 4, 3, 3, 2, 2, 3, 2, 2, 1, 1, 1, 1, 1, 2, 1, 1, 1, 2, 2, 3, 2, 1, 1, 2, 1, 1, 2, 2, 1, 1, 1, 1, 1, 1, 3, 3, 4, 5, 1, 2, 4, 3, 3, 4, 3, 2, 2, 3, 2, 2, 2, 3, 2, 2, 1, 1, 2, 1, 2, 2, 2, 1]
def am_frs : List (Nat) := [1, 2, 2, 2, 0, 3, 2, 2, 2, 4, 5, 6, 1, 0, 0, 0, 1, 2, 2, 2, 3, 4, 5, 1, 6, 7, 0, 1, 2, 0, 0, 1, 0, 1, 3, 0, 0, 1, 1, 0, 1, 2, 6, 7, 1, 1, 2, 3, 0, 1, 4, 2, 6, 7, 2, 0, 1, 6, 7, 1, 2, 6, 7, 2, 0, 0, 6, 7, 1, 0, 2, 0, 1, 1, 2, 1, 3, 1, 2, 1, 4, 6, 7, 1, 2, 0, 0, 0, 3, 4, 5, 0, 2, 6, 7, 2, 0, 1, 6, 7, 1, 0, 1, 0, 1, 2, 0, 1, 0, 1, 1, 1, 2, 1, 2, 1, 3, 4, 5, 1, 2, 2, 3, 4, 4, 5, 6, 7, 5, 0, 1, 1, 1, 2, 1, 5, 6, 7, 7, 0, 4, 5, 6, 7, 1, 0, 6, 7, 1, 2, 1, 6, 7, 2, 1, 1, 6, 7, 0, 1, 2, 2, 2, 6, 7, 1, 2, 2, 6, 7, 1, 2, 6, 7, 1, 1, 1, 1, 6, 7, 0, 1, 2, 6, 7, 1, 2, 0, 2, 3, 3, 2, 1, 3, 0, 3, 2, 6, 7, 1, 2, 2, 2, 3, 2, 1, 4, 2, 3, 1, 0, 2, 2, 3, 2, 6, 7, 1, 1, 3, 3, 6, 7, 2, 3, 6, 7, 2, 3, 6, 7, 2, 1, 3, 4, 2, 3, 2, 3, 1, 8]
def am_los : List (Nat) := [21, 42, 42, 42, 0, 62, 42, 42, 42, 82, 104, 124, 20, 0, 0, 0, 26, 47, 47, 47, 68, 89, 111, 22, 132, 153, 0, 22, 42, 0, 0, 24, 0, 23, 63, 0, 0, 21, 21, 0, 22, 45, 132, 155, 22, 22, 43, 64, 0, 23, 88, 45, 132, 154, 45, 0, 22, 132, 153, 23, 45, 132, 154, 45, 0, 0, 132, 153, 22, 0, 45, 0, 22, 21, 43, 22, 65, 22, 43, 22, 90, 132, 153, 22, 44, 0, 0, 0, 68, 90, 113, 0, 45, 132, 153, 45, 0, 22, 90, 111, 22, 0, 21, 0, 21, 41, 0, 22, 0, 22, 20, 22, 43, 22, 42, 22, 66, 87, 108, 22, 44, 44, 68, 89, 88, 113, 133, 155, 108, 0, 21, 21, 21, 42, 21, 113, 135, 157, 155, 0, 89, 111, 132, 152, 24, 0, 111, 132, 22, 42, 21, 132, 153, 45, 21, 21, 90, 112, 0, 22, 45, 43, 43, 90, 112, 22, 46, 43, 90, 112, 22, 45, 90, 111, 22, 21, 21, 21, 90, 113, 0, 22, 42, 90, 111, 22, 45, 0, 42, 63, 63, 42, 21, 64, 0, 64, 42, 90, 111, 22, 45, 45, 45, 69, 45, 22, 91, 42, 64, 22, 0, 47, 43, 67, 43, 90, 113, 22, 22, 64, 68, 90, 112, 44, 67, 90, 111, 44, 67, 90, 111, 44, 21, 67, 88, 44, 67, 43, 67, 22, 180]
def am_hhs : List (List (Nat × Nat × Nat × Nat)) := [[], [], [], [], [], [], [], [], [], [], [], [], [], [], [], [], [], [], [], [], [], [], [], [], [], [(0, 9, 12, 13), (0, 9, 15, 15)], [], [], [], [], [], [], [], [], [], [], [], [], [], [], [], [], [], [(0, 12, 15, 21), (0, 12, 19, 13)], [], [], [], [], [], [], [], [], [], [(0, 10, 13, 21), (0, 10, 17, 13)], [], [], [], [], [(0, 9, 12, 21)], [], [], [], [(0, 10, 13, 21), (0, 10, 17, 13)], [], [], [], [], [(0, 9, 12, 13), (0, 9, 15, 15)], [], [], [], [], [], [], [], [], [], [], [], [], [], [], [(0, 9, 12, 13)], [], [], [], [], [], [], [], [], [], [], [], [(0, 9, 12, 21)], [], [], [], [], [(0, 9, 12, 13), (0, 9, 15, 15)], [], [], [], [], [], [], [], [], [], [], [], [], [], [], [], [], [], [], [], [], [], [], [], [], [], [], [], [], [], [], [], [], [], [], [], [], [], [(0, 8, 11, 13)], [], [], [], [], [], [(0, 8, 11, 15)], [], [], [], [(0, 9, 12, 13)], [], [], [], [], [(0, 9, 12, 13), (0, 9, 15, 15)], [], [], [], [], [(0, 10, 13, 21), (0, 10, 17, 13)], [], [], [], [], [], [], [(0, 10, 13, 13)], [], [], [], [], [(0, 10, 13, 21), (0, 10, 17, 13)], [], [], [], [(0, 9, 12, 13)], [], [], [], [], [], [(0, 10, 13, 13)], [], [], [], [], [(0, 9, 12, 13)], [], [], [], [], [], [], [], [], [], [], [], [], [], [(0, 9, 12, 13)], [], [], [], [], [], [], [], [], [], [], [], [], [], [], [], [], [], [(0, 12, 15, 21), (0, 12, 19, 13)], [], [], [], [], [], [(0, 10, 13, 21), (0, 10, 17, 13)], [], [], [], [(0, 9, 12, 13)], [], [], [], [(0, 9, 12, 21)], [], [], [], [], [], [], [], [], [], []]
def am_cts : List (List (Nat × Instr × Nat × Nat × Nat × Nat)) := [am_ct_0, am_ct_1, am_ct_2, am_ct_3, am_ct_4, am_ct_5, am_ct_6, am_ct_7, am_ct_8, am_ct_9, am_ct_10, am_ct_11, am_ct_12, am_ct_13, am_ct_14, am_ct_15, am_ct_16, am_ct_17, am_ct_18, am_ct_19, am_ct_20, am_ct_21, am_ct_22, am_ct_23, am_ct_24, am_ct_25, am_ct_26, am_ct_27, am_ct_28, am_ct_29, am_ct_30, am_ct_31, am_ct_32, am_ct_33, am_ct_34, am_ct_35, am_ct_36, am_ct_37, am_ct_38, am_ct_39, am_ct_40, am_ct_41, am_ct_42, am_ct_43, am_ct_44, am_ct_45, am_ct_46, am_ct_47, am_ct_48, am_ct_49, am_ct_50, am_ct_51, am_ct_52, am_ct_53, am_ct_54, am_ct_55, am_ct_56, am_ct_57, am_ct_58, am_ct_59, am_ct_60, am_ct_61, am_ct_62, am_ct_63, am_ct_64, am_ct_65, am_ct_66, am_ct_67, am_ct_68, am_ct_69, am_ct_70, am_ct_71, am_ct_72, am_ct_73, am_ct_74, am_ct_75, am_ct_76, am_ct_77, am_ct_78, am_ct_79, am_ct_80, am_ct_81, am_ct_82, am_ct_83, am_ct_84, am_ct_85, am_ct_86, am_ct_87, am_ct_88, am_ct_89, am_ct_90, am_ct_91, am_ct_92, am_ct_93, am_ct_94, am_ct_95, am_ct_96, am_ct_97, am_ct_98, am_ct_99, am_ct_100, am_ct_101, am_ct_102, am_ct_103, am_ct_104, am_ct_105, am_ct_106, am_ct_107, am_ct_108, am_ct_109, am_ct_110, am_ct_111, am_ct_112, am_ct_113, am_ct_114, am_ct_115, am_ct_116, am_ct_117, am_ct_118, am_ct_119, am_ct_120, am_ct_121, am_ct_122, am_ct_123, am_ct_124, am_ct_125, am_ct_126, am_ct_127, am_ct_128, am_ct_129, am_ct_130, am_ct_131, am_ct_132, am_ct_133, am_ct_134, am_ct_135, am_ct_136, am_ct_137, am_ct_138, am_ct_139, am_ct_140, am_ct_141, am_ct_142, am_ct_143, am_ct_144, am_ct_145, am_ct_146, am_ct_147, am_ct_148, am_ct_149, am_ct_150, am_ct_151, am_ct_152, am_ct_153, am_ct_154, am_ct_155, am_ct_156, am_ct_157, am_ct_158, am_ct_159, am_ct_160, am_ct_161, am_ct_162, am_ct_163, am_ct_164, am_ct_165, am_ct_166, am_ct_167, am_ct_168, am_ct_169, am_ct_170, am_ct_171, am_ct_172, am_ct_173, am_ct_174, am_ct_175, am_ct_176, am_ct_177, am_ct_178, am_ct_179, am_ct_180, am_ct_181, am_ct_182, am_ct_183, am_ct_184, am_ct_185, am_ct_186, am_ct_187, am_ct_188, am_ct_189, am_ct_190, am_ct_191, am_ct_192, am_ct_193, am_ct_194, am_ct_195, am_ct_196, am_ct_197, am_ct_198, am_ct_199, am_ct_200, am_ct_201, am_ct_202, am_ct_203, am_ct_204, am_ct_205, am_ct_206, am_ct_207, am_ct_208, am_ct_209, am_ct_210, am_ct_211, am_ct_212, am_ct_213, am_ct_214, am_ct_215, am_ct_216, am_ct_217, am_ct_218, am_ct_219, am_ct_220, am_ct_221, am_ct_222, am_ct_223, am_ct_224, am_ct_225, am_ct_226, am_ct_227, am_ct_228, am_ct_229, am_ct_230, am_ct_231, am_ct_232, am_ct_233, am_ct_234, am_ct_235, am_ct_236, am_ct_237, am_ct_238, am_ct_239, am_ct_240]
def am_y (i : Nat) : MethodName := am_ys.getD i ⟨"", "", ""⟩
def am_b (i : Nat) : ByteArray := am_bs.getD i ByteArray.empty
def am_mL (i : Nat) : Nat := am_mLs.getD i 0
def am_ret (i : Nat) : Option FieldType := am_rets.getD i none
def am_np (i : Nat) : Nat := am_nps.getD i 0
def am_ci (i : Nat) : Nat := am_cis.getD i 99
def am_fr (i : Nat) : Nat := am_frs.getD i 0
def am_lo (i : Nat) : Nat := am_los.getD i 0
def am_hh (i : Nat) : List (Nat × Nat × Nat × Nat) := am_hhs.getD i []
def am_ct (i : Nat) : List (Nat × Instr × Nat × Nat × Nat × Nat) := am_cts.getD i []
def am_fetch (i pc : Nat) : Option (Instr × Nat × Nat × Nat × Nat) := ((am_ct i).find? (fun q => q.1 == pc)).map (fun q => q.2)
def am_M : Nat := 241
end
section
/-! THE CLASS'S OWN RUNNING, AS A FUNCTION: objects and arrays by numbers, ints in one table D, references fixed in a skeleton SK; am_run is proved of the machine once (part 06), all else speaks of am_run alone. -/
abbrev am_DD : Type := Nat → Nat → Int32
abbrev am_SC : Type := (Nat × List (Option Value)) ⊕ (Nat × Nat × List (Option Nat))
abbrev am_LL : Type := List (Option Value)
def am_upd (D : am_DD) (a k : Nat) (v : Int32) : am_DD := fun a' k' => if a' = a then (if k' = k then v else D a' k') else D a' k'
def am_at (SK : List am_SC) (k : Nat) : Option am_SC := if k < 1000000 then SK[k]? else none
def am_cls (ci : Nat) : String × u_T × Nat := vwCl.getD ci ("", fun _ => ("", "", "", false), 0)
def am_tys : List (Nat → FieldType) := [tyX0, tyX1, tyX2, tyX3, tyX4, tyX5, tyX6, tyX7, tyX8, tyX9, tyX10, tyX11]
def am_ty (ci : Nat) : Nat → FieldType := am_tys.getD ci (fun _ => .int)
/-- what stands on the stack alone -/
def am_stk : Instr → List Value → Option (List Value)
  | .iconst n, S => some (.int (Int32.ofInt n) :: S)
  | .bipush n, S => some (.int (Int8.ofInt n).toInt32 :: S)
  | .sipush n, S => some (.int (Int16.ofInt n).toInt32 :: S)
  | .fconst k, S => if k = 0 then some (.float FP.fconst0 :: S) else none
  | .iadd, .int y :: .int x :: S => some (.int (x + y) :: S)
  | .isub, .int y :: .int x :: S => some (.int (x - y) :: S)
  | .imul, .int y :: .int x :: S => some (.int (x * y) :: S)
  | .idiv, .int y :: .int x :: S => if y = 0 then none else some (.int (x / y) :: S)
  | .irem, .int y :: .int x :: S => if y = 0 then none else some (.int (x - x / y * y) :: S)
  | .iand, .int y :: .int x :: S => some (.int (x &&& y) :: S)
  | .ior, .int y :: .int x :: S => some (.int (x ||| y) :: S)
  | .ishl, .int y :: .int x :: S => some (.int (x <<< (y &&& 31)) :: S)
  | .iushr, .int y :: .int x :: S => some (.int (x.toUInt32 >>> (y.toUInt32 &&& Int32.toUInt32 31)).toInt32 :: S)
  | .i2l, .int x :: S => some (.long x.toInt64 :: S)
  | .i2f, .int x :: S => some (.float (FP.i2f x) :: S)
  | .f2d, .float x :: S => if FP.f2d x &&& 0x7fffffffffffffff ≤ 0x7ff0000000000000 then some (.double (FP.f2d x) :: S) else none
  | .fdiv, .float y :: .float x :: S => if FP.fdiv x y &&& 0x7fffffff ≤ 0x7f800000 then some (.float (FP.fdiv x y) :: S) else none
  | .lcmp, .long y :: .long x :: S => some (.int (lg_cmp x y) :: S)
  | .dcmp op, .double y :: .double x :: S => some (.int (Op.cmpValue (FP.dcmp x y) op) :: S)
  | .dup, v :: S => if v.category = 1 then some (v :: v :: S) else none
  | .dup2, v :: w :: S => if v.category = 1 ∧ w.category = 1 then some (v :: w :: v :: w :: S) else none
  | .pop, v :: S => if v.category = 1 then some S else none
  | _, _ => none
def am_clear (L : am_LL) (i : Nat) : Bool := match i with
  | 0 => true
  | j + 1 => match L.getD j none with
    | some w => decide (w.category = 1)
    | none => true
def am_st1 (L : am_LL) (i : Nat) (v : Value) : Option am_LL := if i < L.length ∧ v.category = 1 ∧ am_clear L i = true then some (L.set i (some v)) else none
def am_st2 (L : am_LL) (i : Nat) (v : Value) : Option am_LL := if i + 1 < L.length ∧ v.category = 2 ∧ am_clear L i = true then some ((L.set i (some v)).set (i + 1) none) else none
def am_isI : Value → Bool
  | .int _ => true
  | _ => false
def am_isR : Value → Bool
  | .ref _ => true
  | _ => false
def am_isD : Value → Bool
  | .double _ => true
  | _ => false
def am_ld (f : Value → Bool) (L : am_LL) (i : Nat) (S : List Value) : Option (am_LL × List Value) := match L.getD i none with
  | some v => if f v = true then some (L, v :: S) else none
  | none => none
def am_loc : Instr → am_LL → List Value → Option (am_LL × List Value)
  | .iload_n k, L, S => am_ld am_isI L k S
  | .iload i, L, S => am_ld am_isI L i S
  | .aload_n k, L, S => am_ld am_isR L k S
  | .aload i, L, S => am_ld am_isR L i S
  | .dload_n k, L, S => am_ld am_isD L k S
  | .dload i, L, S => am_ld am_isD L i S
  | .istore_n k, L, .int x :: S => (am_st1 L k (.int x)).map (fun L' => (L', S))
  | .istore i, L, .int x :: S => (am_st1 L i (.int x)).map (fun L' => (L', S))
  | .astore_n k, L, .ref x :: S => (am_st1 L k (.ref x)).map (fun L' => (L', S))
  | .astore i, L, .ref x :: S => (am_st1 L i (.ref x)).map (fun L' => (L', S))
  | .dstore_n k, L, .double x :: S => (am_st2 L k (.double x)).map (fun L' => (L', S))
  | .dstore i, L, .double x :: S => (am_st2 L i (.double x)).map (fun L' => (L', S))
  | .iinc i n, L, S => match L.getD i none with
    | some (.int x) => (am_st1 L i (.int (x + Int32.ofInt n))).map (fun L' => (L', S))
    | _ => none
  | _, _, _ => none
def am_go (c : Bool) (a pc : Nat) (S : List Value) : Option (Nat × List Value) := some (if c = true then a else pc + 3, S)
def am_jump (pc : Nat) (off : Int) (S : List Value) : Option (Nat × List Value) := if 0 ≤ (pc : Int) + off then some (((pc : Int) + off).toNat, S) else none
def am_br : Instr → Nat → Nat → List Value → Option (Nat × List Value)
  | .goto _, a, _, S => some (a, S)
  | .ifCond .eq _, a, pc, .int x :: S => am_go (decide (x = 0)) a pc S
  | .ifCond .ne _, a, pc, .int x :: S => am_go (decide (¬ x = 0)) a pc S
  | .ifCond .lt _, a, pc, .int x :: S => am_go (decide (x < 0)) a pc S
  | .ifCond .ge _, a, pc, .int x :: S => am_go (decide (0 ≤ x)) a pc S
  | .ifCond .gt _, a, pc, .int x :: S => am_go (decide (0 < x)) a pc S
  | .ifCond .le _, a, pc, .int x :: S => am_go (decide (x ≤ 0)) a pc S
  | .if_icmp .eq _, a, pc, .int y :: .int x :: S => am_go (decide (x = y)) a pc S
  | .if_icmp .ne _, a, pc, .int y :: .int x :: S => am_go (decide (¬ x = y)) a pc S
  | .if_icmp .lt _, a, pc, .int y :: .int x :: S => am_go (decide (x < y)) a pc S
  | .if_icmp .ge _, a, pc, .int y :: .int x :: S => am_go (decide (y ≤ x)) a pc S
  | .if_icmp .gt _, a, pc, .int y :: .int x :: S => am_go (decide (y < x)) a pc S
  | .if_icmp .le _, a, pc, .int y :: .int x :: S => am_go (decide (x ≤ y)) a pc S
  | .ifnull _, _, pc, .ref _ :: S => some (pc + 3, S)
  | .ifnull _, a, _, .null :: S => some (a, S)
  | .tableswitch d lo hi offs, _, pc, .int x :: S => if x.toInt < lo ∨ hi < x.toInt then am_jump pc d S else match offs[(x.toInt - lo).toNat]? with
    | some off => am_jump pc off S
    | none => none
  | .lookupswitch d ps, _, pc, .int x :: S => am_jump pc (Op.lookupswitch.offset ps.toList d x.toInt) S
  | _, _, _, _ => none
def am_scr : Nat := 1000000
/-- reads of the heap; scr: the law's own script, in its frame alone -/
def am_rd (scr : Option (Nat × (Nat → Int32))) : Instr → Nat → Nat → List Value → List am_SC → am_DD → Option (List Value)
  | .getfield _, a, b, .ref r :: S, SK, D => match am_at SK r with
    | some (.inl (ci, fs)) => if ci = a % 100 ∧ b < (am_cls (a % 100)).2.2 then match fs[b]? with
      | some (some v) => some (v :: S)
      | some none => some (.int (D r b) :: S)
      | none => none else none
    | _ => none
  | .iaload, _, _, .int i :: .ref r :: S, SK, D => if r = am_scr then match scr with
      | some (n, xs) => if i < 0 ∨ n ≤ i.toNatClampNeg then none else some (.int (xs i.toNatClampNeg) :: S)
      | none => none
    else match am_at SK r with
    | some (.inr (0, n, _)) => if i < 0 ∨ n ≤ i.toNatClampNeg then none else some (.int (D r i.toNatClampNeg) :: S)
    | _ => none
  | .baload, _, _, .int i :: .ref r :: S, SK, D => match am_at SK r with
    | some (.inr (1, n, _)) => if i < 0 ∨ n ≤ i.toNatClampNeg then none else some (.int (D r i.toNatClampNeg) :: S)
    | _ => none
  | .laload, _, _, .int i :: .ref r :: S, SK, D => match am_at SK r with
    | some (.inr (2, n, _)) => if i < 0 ∨ n ≤ i.toNatClampNeg then none else some (.long (D r i.toNatClampNeg).toInt64 :: S)
    | _ => none
  | .aaload, _, _, .int i :: .ref r :: S, SK, _ => match am_at SK r with
    | some (.inr (3, n, rs)) => if i < 0 ∨ n ≤ i.toNatClampNeg then none else some ((match rs.getD i.toNatClampNeg none with
      | some q => .ref q
      | none => .null) :: S)
    | _ => none
  | .arraylength, _, _, .ref r :: S, SK, _ => match am_at SK r with
    | some (.inr (_, n, _)) => some (.int (Int32.ofNat n) :: S)
    | _ => none
  | _, _, _, _, _, _ => none
/-- writes; references only while al: while things are made -/
def am_wr (al : Bool) : Instr → Nat → Nat → List Value → List am_SC → am_DD → Option (List Value × List am_SC × am_DD)
  | .putfield _, a, b, v :: .ref r :: S, SK, D => match am_at SK r with
    | some (.inl (ci, fs)) => if ci = a % 100 ∧ b < (am_cls (a % 100)).2.2 then match v, fs[b]? with
      | .int x, some none => if am_ty (a % 100) b = .int then some (S, SK, am_upd D r b x) else none
      | .ref q, some (some _) => if refKind (am_ty (a % 100) b) = true ∧ al = true then some (S, SK.set r (.inl (ci, fs.set b (some (.ref q)))), D) else none
      | _, _ => none else none
    | _ => none
  | .iastore, _, _, .int x :: .int i :: .ref r :: S, SK, D => match am_at SK r with
    | some (.inr (0, n, _)) => if i < 0 ∨ n ≤ i.toNatClampNeg then none else some (S, SK, am_upd D r i.toNatClampNeg x)
    | _ => none
  | .bastore, _, _, .int x :: .int i :: .ref r :: S, SK, D => match am_at SK r with
    | some (.inr (1, n, _)) => if i < 0 ∨ n ≤ i.toNatClampNeg then none else some (S, SK, am_upd D r i.toNatClampNeg (vp_nar .boolean x))
    | _ => none
  | .lastore, _, _, .long x :: .int i :: .ref r :: S, SK, D => match am_at SK r with
    | some (.inr (2, n, _)) => if i < 0 ∨ n ≤ i.toNatClampNeg ∨ ¬ x.toInt32.toInt64 = x then none else some (S, SK, am_upd D r i.toNatClampNeg x.toInt32)
    | _ => none
  | .aastore, _, _, .ref q :: .int i :: .ref r :: S, SK, D => match am_at SK r, am_at SK q with
    | some (.inr (3, n, rs)), some (.inl (7, _)) => if i < 0 ∨ n ≤ i.toNatClampNeg ∨ ¬ n = rs.length ∨ al = false then none else some (S, SK.set r (.inr (3, n, rs.set i.toNatClampNeg (some q))), D)
    | _, _ => none
  | _, _, _, _, _, _ => none
def am_dflt (ci : Nat) : List (Option Value) := (List.range (am_cls ci).2.2).map (fun j => if am_ty ci j = .int then none else some .null)
/-- what makes a thing: the new stack, the new skeleton, its slots -/
def am_nw (al : Bool) : Instr → Nat → List Value → List am_SC → Option (List Value × List am_SC × Nat)
  | .new _, a, S, SK => if al = true ∧ SK.length < 1000000 ∧ a < 12 then some (.ref SK.length :: S, SK ++ [.inl (a, am_dflt a)], (am_cls a).2.2) else none
  | .newarray .int, _, .int n :: S, SK => if al = true ∧ SK.length < 1000000 ∧ ¬ n < 0 ∧ n.toNatClampNeg ≤ 100000 then some (.ref SK.length :: S, SK ++ [.inr (0, n.toNatClampNeg, [])], n.toNatClampNeg) else none
  | .newarray .boolean, _, .int n :: S, SK => if al = true ∧ SK.length < 1000000 ∧ ¬ n < 0 ∧ n.toNatClampNeg ≤ 100000 then some (.ref SK.length :: S, SK ++ [.inr (1, n.toNatClampNeg, [])], n.toNatClampNeg) else none
  | .newarray .long, _, .int n :: S, SK => if al = true ∧ SK.length < 1000000 ∧ ¬ n < 0 ∧ n.toNatClampNeg ≤ 100000 then some (.ref SK.length :: S, SK ++ [.inr (2, n.toNatClampNeg, [])], n.toNatClampNeg) else none
  | .anewarray _, _, .int n :: S, SK => if al = true ∧ SK.length < 1000000 ∧ ¬ n < 0 ∧ n.toNatClampNeg ≤ 100000 then some (.ref SK.length :: S, SK ++ [.inr (3, n.toNatClampNeg, List.replicate n.toNatClampNeg none)], n.toNatClampNeg) else none
  | _, _, _, _ => none
def am_words (S : List Value) : Nat := (S.map fun v => v.category).sum
def am_cpy (D : am_DD) (q sp r dp n : Nat) : am_DD := fun a k => if a = r then va_cpy (D q) (D r) sp dp n k else D a k
/-- calls of the JDK's own: Object(), Math.max, Math.min, arraycopy; a number out of the pool -/
def am_lib : Nat → Nat → List Value → List am_SC → am_DD → Option (List Value × am_DD)
  | 1, _, .ref _ :: S, _, D => if am_words S ≤ 8 then some (S, D) else none
  | 2, _, .int y :: .int x :: S, _, D => if am_words S ≤ 8 then some (.int (if x < y then y else x) :: S, D) else none
  | 3, _, .int y :: .int x :: S, _, D => if am_words S ≤ 8 then some (.int (if y < x then y else x) :: S, D) else none
  | 4, _, .int n :: .int dp :: .ref r :: .int sp :: .ref q :: S, SK, D => match am_at SK q, am_at SK r with
    | some (.inr (0, n0, _)), some (.inr (0, n1, _)) => if am_words S ≤ 8 ∧ ¬ sp < 0 ∧ ¬ dp < 0 ∧ ¬ n < 0 ∧ sp.toNatClampNeg + n.toNatClampNeg ≤ n0 ∧ dp.toNatClampNeg + n.toNatClampNeg ≤ n1 then some (S, am_cpy D q sp.toNatClampNeg r dp.toNatClampNeg n.toNatClampNeg) else none
    | _, _ => none
  | 5, b, S, _, D => some (.int (Int32.ofNat b) :: S, D)
  | _, _, _, _, _ => none
/-- one instruction that is no call and no end: pc, locals, stack, skeleton, ints, cells made, slots made -/
def am_step (al : Bool) (scr : Option (Nat × (Nat → Int32))) (ins : Instr) (len g a b pc : Nat) (L : am_LL) (S : List Value) (SK : List am_SC) (D : am_DD) : Option (Nat × am_LL × List Value × List am_SC × am_DD × Nat × Nat) :=
  match g with
  | 0 => match am_stk ins S with
    | some S' => some (pc + len, L, S', SK, D, 0, 0)
    | none => none
  | 1 => match am_loc ins L S with
    | some (L', S') => some (pc + len, L', S', SK, D, 0, 0)
    | none => none
  | 2 => match am_br ins a pc S with
    | some (pc', S') => some (pc', L, S', SK, D, 0, 0)
    | none => none
  | 3 => match am_rd scr ins a b S SK D with
    | some S' => some (pc + len, L, S', SK, D, 0, 0)
    | none => none
  | 4 => match am_wr al ins a b S SK D with
    | some (S', SK', D') => some (pc + len, L, S', SK', D', 0, 0)
    | none => none
  | 5 => match am_nw al ins a S SK with
    | some (S', SK', k) => some (pc + len, L, S', SK', D, 1, k)
    | none => none
  | 6 => match am_lib a b S SK D with
    | some (S', D') => some (pc + 3, L, S', SK, D', 0, 0)
    | none => none
  | _ => none
abbrev am_R : Type := Nat × am_LL × List Value
/-- how a method has ended: with an answer, or with an exception of this number -/
def am_end (j : Nat) (r : am_R) : Option (Option Value ⊕ Nat) := match am_fetch j r.1 with
  | some (ins, _, g, a, _) => if g = 9 then (if am_words r.2.2 ≤ 8 then some (.inr a) else none) else if g = 8 then match ins, r.2.2 with
      | .ireturn, [.int v] => match am_ret j with
        | some ty => if narrow ty (.int v) = .int v then some (.inl (some (.int v))) else none
        | none => none
      | .freturn, [.float v] => if am_ret j = some .float then some (.inl (some (.float v))) else none
      | .return_, [] => if am_ret j = none then some (.inl none) else none
      | _, _ => none
    else none
  | none => none
def am_args (j : Nat) (S : List Value) : Option (List Value × List Value) :=
  if am_np j ≤ S.length ∧ am_words (S.drop (am_np j)) ≤ 8 ∧ (∀ v ∈ S.take (am_np j), v.category = 1) ∧ am_np j ≤ am_mL j then some ((S.take (am_np j)).reverse, S.drop (am_np j)) else none
def am_L0 (j : Nat) (As : List Value) : am_LL := As.map some ++ List.replicate (am_mL j - As.length) none
/-- the handler in method i of exception E thrown by the call at pc: where its code goes on behind its 'astore', and the local that is written -/
def am_hnd (i pc E : Nat) : Option (Nat × Nat) := match (am_hh i).find? (fun q => decide (q.1 ≤ pc) && decide (pc < q.2.1) && decide (q.2.2.2 = [13, 15, 21].getD E 0)) with
  | some q => match am_fetch i q.2.2.1 with
    | some (.astore_n k, _, _, _, _) => some (q.2.2.1 + 1, k)
    | some (.astore k, _, _, _, _) => some (q.2.2.1 + 2, k)
    | _ => none
  | none => none
/-- the thing that a method is called on: of its class; a constructor's: any -/
def am_rcv : Instr → Nat → List Value → List am_SC → Bool
  | .invokevirtual _, j, .ref r :: _, SK => match am_at SK r with
    | some (.inl (ci, _)) => decide (ci = am_ci j)
    | _ => false
  | .invokespecial _, _, .ref _ :: _, _ => true
  | .invokestatic _, _, _, _ => true
  | _, _, _, _ => false
def am_run (al : Bool) : Nat → Option (Nat × (Nat → Int32)) → Nat → Nat → am_LL → List Value → List am_SC → am_DD → Option (am_R × List am_SC × am_DD × Nat × Nat)
  | 0, _, _, _, _, _, _, _ => none
  | n + 1, scr, i, pc, L, S, SK, D => match am_fetch i pc with
    | none => none
    | some (ins, len, g, a, b) =>
      if 8 ≤ g then some ((pc, L, S), SK, D, 0, 0)
      else if g = 7 then match am_args a S with
        | none => none
        | some (As, S1) => if am_rcv ins a As SK = false then none else match am_run al n none a 0 (am_L0 a As) [] SK D with
          | none => none
          | some (r, SK1, D1, c1, s1) => match am_end a r with
            | none => none
            | some (.inl v) => match am_run al n scr i (pc + 3) L (v.toList ++ S1) SK1 D1 with
              | none => none
              | some (r2, SK2, D2, c2, s2) => some (r2, SK2, D2, c1 + c2, s1 + s2)
            | some (.inr E) => if al = true then none else match am_hnd i pc E with
              | none => none
              | some (t, k) => if am_clear L k = false then none else match am_run al n scr i t (L.set k none) [] SK1 D1 with
                | none => none
                | some (r2, SK2, D2, c2, s2) => some (r2, SK2, D2, c1 + 1 + c2, s1 + 6 + s2)
      else match am_step al scr ins len g a b pc L S SK D with
        | none => none
        | some (pc', L', S', SK', D', c1, s1) => match am_run al n scr i pc' L' S' SK' D' with
          | none => none
          | some (r2, SK2, D2, c2, s2) => some (r2, SK2, D2, c1 + c2, s1 + s2)
end
section
/-! what a row of the code tables rests on: its instruction, its words of the tables, its targets -/
def am_GW : List Cond := lw_tbl.filter goodWord
def am_nestW : Cond → Bool
  | .fieldLinkNest .. => true
  | .methodLinkNest .. => true
  | .declares _ => true
  | .castable .. => true
  | _ => false
def am_NW : List Cond := lw_tbl.filter am_nestW
def am_own (i : Nat) : String := (am_y i).cls
def am_code (j : Nat) : Cond := if am_hh j = [] then .code (am_y j) (am_b j) (am_mL j) (am_ret j) else .codeWith (am_y j) (am_b j) (am_mL j) (am_ret j) (am_hh j)
def am_en : List String := ["java/lang/IllegalArgumentException", "java/lang/IllegalStateException", "java/lang/IndexOutOfBoundsException"]
def am_ename (E : Nat) : String := am_en.getD E ""
def am_up2 : List String := ["java/lang/RuntimeException", "java/lang/Exception"]
def am_ic (E : Nat) : Nat := [73, 86, 106].getD E 0
def am_word (i : Nat) : Nat × Instr × Nat × Nat × Nat × Nat → List Cond
  | (_, .getfield idx, _, 3, a, b) => let C := (am_cls (a % 100)).2.1 b; if a < 100 then [.fieldLink (am_own i) idx C.1 C.2.1 C.2.2.1] else []
  | (_, .putfield idx, _, 4, a, b) => let C := (am_cls (a % 100)).2.1 b; if a < 100 then [.fieldLink (am_own i) idx C.1 C.2.1 C.2.2.1] else []
  | (_, .new idx, _, 5, a, _) => [.classLink (am_own i) idx (am_cls a).1, .instantiable (am_cls a).1 (am_cls a).2.2, .initialized (am_cls a).1]
  | (_, .newarray t, _, 5, _, _) => [.arrayClass (newarray.typeOf t)]
  | (_, .anewarray idx, _, 5, _, _) => [.classLink (am_own i) idx RX7]
  | (_, .invokespecial idx, _, 6, 1, _) => [.methodLink (am_own i) idx Lib.objectInit, .instanceMethod Lib.objectInit, .code Lib.objectInit ⟨#[0xb1]⟩ 1 none]
  | (_, .invokestatic idx, _, 6, 2, _) => [.methodLink (am_own i) idx Lib.Math.max.name, .static Lib.Math.max.name, .initialized "java/lang/Math", .code Lib.Math.max.name Lib.Math.max.code 2 (some .int)]
  | (_, .invokestatic idx, _, 6, 3, _) => [.methodLink (am_own i) idx Lib.Math.min.name, .static Lib.Math.min.name, .initialized "java/lang/Math", .code Lib.Math.min.name Lib.Math.min.code 2 (some .int)]
  | (_, .invokestatic idx, _, 6, 4, _) => [.methodLink (am_own i) idx arraycopyName, .native arraycopyName, .static arraycopyName, .initialized "java/lang/System"]
  | (_, .ldc_w idx, _, 6, 5, b) => [.constant (am_own i) idx (Int32.ofNat b)]
  | (_, .invokevirtual idx, _, 7, a, _) => [.methodLink (am_own i) idx (am_y a), .instanceMethod (am_y a), .selects (am_own a) (am_y a) (am_y a), .initialized (am_own a), am_code a]
  | (_, .invokespecial idx, _, 7, a, 0) => [.methodLink (am_own i) idx (am_y a), .instanceMethod (am_y a), .initialized (am_own a), am_code a]
  | (_, .invokespecial _, _, 7, a, _) => [.instanceMethod (am_y a), .initialized (am_own a), am_code a]
  | (_, .invokestatic idx, _, 7, a, _) => [.methodLink (am_own i) idx (am_y a), .static (am_y a), .initialized (am_own a), am_code a]
  | (_, .new ik, _, 9, a, _) => [.classLink (am_own i) ik (am_ename a), .initialized (am_ename a)]
  | _ => []
def am_nword (i : Nat) : Nat × Instr × Nat × Nat × Nat × Nat → List Cond
  | (_, .getfield idx, _, 3, a, b) => let C := (am_cls (a % 100)).2.1 b; if a < 100 then [] else [.fieldLinkNest (am_own i) idx C.1 C.2.1 C.2.2.1 RX10]
  | (_, .putfield idx, _, 4, a, b) => let C := (am_cls (a % 100)).2.1 b; if a < 100 then [] else [.fieldLinkNest (am_own i) idx C.1 C.2.1 C.2.2.1 RX10]
  | (_, .invokespecial idx, _, 7, a, 1) => [.methodLinkNest (am_own i) idx (am_y a) RX10]
  | _ => []
def am_chk (i : Nat) : Nat × Instr × Nat × Nat × Nat × Nat → Bool
  | (_, .iload_n _, l, 1, _, _) => l == 1
  | (_, .aload_n _, l, 1, _, _) => l == 1
  | (_, .dload_n _, l, 1, _, _) => l == 1
  | (_, .istore_n _, l, 1, _, _) => l == 1
  | (_, .astore_n _, l, 1, _, _) => l == 1
  | (_, .dstore_n _, l, 1, _, _) => l == 1
  | (_, .iload _, l, 1, _, _) => l == 2
  | (_, .aload _, l, 1, _, _) => l == 2
  | (_, .dload _, l, 1, _, _) => l == 2
  | (_, .istore _, l, 1, _, _) => l == 2
  | (_, .astore _, l, 1, _, _) => l == 2
  | (_, .dstore _, l, 1, _, _) => l == 2
  | (_, .iinc _ _, l, 1, _, _) => l == 3
  | (_, .bipush _, l, 0, _, _) => l == 2
  | (_, .sipush _, l, 0, _, _) => l == 3
  | (_, _, l, 0, _, _) => l == 1
  | (pc, .goto off, l, 2, a, _) => decide ((pc : Int) + off = (a : Int)) && l == 3
  | (pc, .ifCond _ off, l, 2, a, _) => decide ((pc : Int) + off = (a : Int)) && l == 3
  | (pc, .if_icmp _ off, l, 2, a, _) => decide ((pc : Int) + off = (a : Int)) && l == 3
  | (pc, .ifnull off, l, 2, a, _) => decide ((pc : Int) + off = (a : Int)) && l == 3
  | (_, .tableswitch .., _, 2, _, _) => true
  | (_, .lookupswitch _ ps, _, 2, _, _) => (ps.toList.zip (ps.toList.drop 1)).all (fun (a, next) => a.1 < next.1)
  | (_, .getfield _, l, 3, a, b) => l == 3 && decide (a % 100 < 12) && decide (((am_cls (a % 100)).2.1 b).1 = (am_cls (a % 100)).1)
  | (_, .arraylength, l, 3, _, _) => l == 1
  | (_, .iaload, l, 3, _, _) => l == 1
  | (_, .baload, l, 3, _, _) => l == 1
  | (_, .laload, l, 3, _, _) => l == 1
  | (_, .aaload, l, 3, _, _) => l == 1
  | (_, .putfield _, l, 4, a, b) => l == 3 && decide (a % 100 < 12) && decide (((am_cls (a % 100)).2.1 b).1 = (am_cls (a % 100)).1) && (!((am_cls (a % 100)).2.1 b).2.2.2 || (decide (a < 100) && decide ((am_y i).name = "<init>") && decide (((am_cls a).2.1 b).1 = am_own i)))
  | (_, .iastore, l, 4, _, _) => l == 1
  | (_, .bastore, l, 4, _, _) => l == 1
  | (_, .lastore, l, 4, _, _) => l == 1
  | (_, .aastore, l, 4, _, _) => l == 1
  | (_, .new _, l, 5, a, _) => l == 3 && decide (a < 12)
  | (_, .newarray _, l, 5, _, _) => l == 2
  | (_, .anewarray _, l, 5, _, _) => l == 3
  | (_, .invokespecial _, l, 6, 1, _) => l == 3 && decide (1 ≤ am_fr i) && decide (20 ≤ am_lo i)
  | (_, .invokestatic _, l, 6, 2, _) => l == 3 && decide (1 ≤ am_fr i) && decide (21 ≤ am_lo i)
  | (_, .invokestatic _, l, 6, 3, _) => l == 3 && decide (1 ≤ am_fr i) && decide (21 ≤ am_lo i)
  | (_, .invokestatic _, l, 6, 4, _) => l == 3 && decide (1 ≤ am_fr i) && decide (26 ≤ am_lo i)
  | (_, .ldc_w _, l, 6, 5, _) => l == 3
  | (_, .invokevirtual _, l, 7, a, _) => l == 3 && decide (am_fr a + 1 ≤ am_fr i) && decide (8 + (am_mL a + 11) + am_lo a ≤ am_lo i) && decide ((am_y a).cls ≠ "java/lang/invoke/MethodHandle") && decide ((am_y a).cls ≠ "java/lang/invoke/VarHandle") && decide ((parseMethodDescriptor (am_y a).desc).map (fun d => d.parameters.length + 1) = some (am_np a)) && decide (am_hh a = []) && decide (am_ci a < 12) && decide ((am_cls (am_ci a)).1 = am_own a)
  | (_, .invokespecial _, l, 7, a, b) => l == 3 && decide (am_fr a + 1 ≤ am_fr i) && decide (8 + (am_mL a + 11) + am_lo a ≤ am_lo i) && decide ((am_y a).cls ≠ "java/lang/invoke/MethodHandle") && decide ((am_y a).cls ≠ "java/lang/invoke/VarHandle") && decide ((parseMethodDescriptor (am_y a).desc).map (fun d => d.parameters.length + 1) = some (am_np a)) && decide (am_hh a = []) && decide ((am_y a).name = "<init>") && decide (am_ret a = none) && decide (b ≤ 1)
  | (_, .invokestatic _, l, 7, a, _) => l == 3 && decide (am_fr a + 1 ≤ am_fr i) && decide (8 + (am_mL a + 11) + am_lo a ≤ am_lo i) && decide ((am_y a).cls ≠ "java/lang/invoke/MethodHandle") && decide ((am_y a).cls ≠ "java/lang/invoke/VarHandle") && decide ((parseMethodDescriptor (am_y a).desc).map (fun d => d.parameters.length) = some (am_np a))
  | (_, .ireturn, _, 8, _, _) => true
  | (_, .freturn, _, 8, _, _) => true
  | (_, .return_, _, 8, _, _) => true
  | (_, _, _, 9, _, _) => true
  | (_, _, _, 10, _, _) => true
  | (_, _, _, 11, _, _) => true
  | _ => false
/-- a row of the table of method i stands as it should -/
def am_rowok (i : Nat) (q : Nat × Instr × Nat × Nat × Nat × Nat) : Bool :=
  decide (decode (am_b i) q.1 = .ok (q.2.1, q.2.2.1)) && am_chk i q
end
section
def am_row2 (i : Nat) (z : (Nat × Instr × Nat × Nat × Nat × Nat) × List Nat) : Bool := am_rowok i z.1 && (decide ((am_word i z.1 ++ am_nword i z.1).map some = z.2.map (fun p => lw_tbl[p]?)) && ((am_word i z.1).all goodWord && (am_nword i z.1).all am_nestW))
def am_ps_0 : List (List Nat) := [[], [107, 94, 95], [], [], [], [108, 109, 70, 110], [115], [111], []]
def am_ps_1 : List (List Nat) := [[], [121, 94, 95], [], [122, 103, 69], [], [], [123, 105, 69, 106], [127], [], [122, 103, 69], [], [], [123, 105, 69, 106], [130], [], [122, 103, 69], [], [], [123, 105, 69, 106], [133], [], [122, 103, 69], [], [], [123, 105, 69, 106], [135], [], [122, 103, 69], [], [], [123, 105, 69, 106], [136], []]
def am_ps_2 : List (List Nat) := [[], [155, 94, 95], [], [156, 103, 69], [], [], [157, 105, 69, 106], [161], [], [156, 103, 69], [], [], [157, 105, 69, 106], [164], [], [156, 103, 69], [], [], [157, 105, 69, 106], [166], []]
def am_ps_3 : List (List Nat) := [[], [182, 94, 95], [], [183, 103, 69], [], [], [184, 105, 69, 106], [192], [], [183, 103, 69], [], [], [184, 105, 69, 106], [193], [], [183, 103, 69], [], [], [184, 105, 69, 106], [194], []]
def am_ps_4 : List (List Nat) := [[], [], [], [], [111], [], [], [], [111], [], [], [], []]
def am_ps_5 : List (List Nat) := [[], [101, 94, 95], [], [], [214], [], [102, 103, 69], [], [], [104, 105, 69, 106], [222], [], [102, 103, 69], [], [], [104, 105, 69, 106], [224], [], [102, 103, 69], [], [], [104, 105, 69, 106], [226], [], [116, 117, 71], [], [119, 71, 120, 118], [229], [], [150, 151, 72], [], [153, 72, 154, 152], [230], [], [177, 178, 73], [], [180, 73, 181, 179], [233], [], [222], [], [], [208, 209, 210, 69, 211], [], [222], [], [], [208, 209, 210, 69, 211], []]
def am_ps_6 : List (List Nat) := [[], [262, 94, 95], [], [263, 103, 69], [], [], [264, 105, 69, 106], [266], [], [263, 103, 69], [], [], [264, 105, 69, 106], [267], [], [263, 103, 69], [], [], [264, 105, 69, 106], [268], [], [], [265], []]
def am_ps_7 : List (List Nat) := [[], [283, 94, 95], [], [284, 103, 69], [], [], [285, 105, 69, 106], [287], [], [284, 103, 69], [], [], [285, 105, 69, 106], [288], [], [], [286], []]
def am_ps_8 : List (List Nat) := [[], [304, 94, 95], [], [305, 103, 69], [], [], [306, 105, 69, 106], [309], [], [305, 103, 69], [], [], [306, 105, 69, 106], [312], [], [305, 103, 69], [], [], [306, 105, 69, 106], [313], [], [305, 103, 69], [], [], [306, 105, 69, 106], [314], [], [305, 103, 69], [], [], [306, 105, 69, 106], [315], []]
def am_ps_9 : List (List Nat) := [[], [344, 94, 95], [], [], [], [345, 109, 70, 110], [346], [351], [], [], [], [], [351], [], [], [], [351], [], [346, 97, 68], [], [348, 99, 68, 100], [], [], [], [], [349, 103, 69], [], [], [350, 105, 69, 106], [352], []]
def am_ps_10 : List (List Nat) := [[], [338, 94, 95], [], [339, 340, 78], [], [], [341, 342, 78, 343], [358], []]
def am_ps_11 : List (List Nat) := [[], [93, 94, 95], [], [96, 97, 68], [], [98, 99, 68, 100], [370], [], [257, 258, 74], [], [], [370], [228], [259, 260, 74, 261], [371], [], [278, 279, 75], [], [], [370], [232], [280, 281, 75, 282], [372], [], [299, 300, 76], [], [302, 76, 303, 301], [373], [], [333, 334, 77], [], [336, 77, 337, 335], [374], [], [368, 340, 78], [], [], [369, 342, 78, 343], [375], []]
def am_ps_12 : List (List Nat) := [[], [1132, 94, 95], [], [], [115], [1133], [], [], [115], [1134], [], [], [115], [1136], [], [], [1173], [1137], [], [], [115], [1138], [], [], [115], [1141], [], [], [115], [1144], [], [1133], [], [], [], [], [1133], [], [], [], [], [1133], [], [], [], []]
def am_ps_13 : List (List Nat) := [[], [], [], [], [], [], [], [], []]
def am_ps_14 : List (List Nat) := [[], [124], [], [], [], [], [], []]
def am_ps_15 : List (List Nat) := [[], [359], [], [], [], [], []]
def am_ps_16 : List (List Nat) := [[], [111], [], [], [111], [], [], [111], [], [], [111], [], [496, 497, 70, 498], [499, 501, 500, 85], []]
def am_ps_17 : List (List Nat) := [[], [], [124], [124], [], [127], [], [127], [657, 493, 494, 69, 495], [], [130], [], [130], [657, 493, 494, 69, 495], [], [133], [], [133], [657, 493, 494, 69, 495], [], [135], [], [135], [657, 493, 494, 69, 495], [], [136], [], [136], [657, 493, 494, 69, 495], []]
def am_ps_18 : List (List Nat) := [[], [], [158], [158], [], [161], [], [161], [662, 493, 494, 69, 495], [], [164], [], [164], [662, 493, 494, 69, 495], [], [166], [], [166], [662, 493, 494, 69, 495], []]
def am_ps_19 : List (List Nat) := [[], [], [185], [185], [], [], [187], [187], [], [], [189], [189], [], [192], [], [192], [667, 493, 494, 69, 495], [], [193], [], [193], [667, 493, 494, 69, 495], [], [194], [], [194], [667, 493, 494, 69, 495], []]
def am_ps_20 : List (List Nat) := [[], [], [212], [212], [], [], [214], [214], [], [], [216], [216], [], [], [218], [218], [], [], [220], [220], [], [222], [], [222], [652, 493, 494, 69, 495], [], [224], [], [224], [652, 493, 494, 69, 495], [], [226], [], [226], [652, 493, 494, 69, 495], [], [229], [], [229], [653, 654, 655, 71, 656], [], [230], [], [230], [658, 659, 660, 72, 661], [], [233], [], [233], [663, 664, 665, 73, 666], []]
def am_ps_21 : List (List Nat) := [[], [], [], [], [351], [], [], [], [351], [], [], [], [], [351], [], [], [], [648, 649, 650, 68, 651], [], [352], [], [], [668, 209, 210, 69, 211], []]
def am_ps_22 : List (List Nat) := [[], [358], [], [], [360], [640, 642, 14, 77, 643], [], [644, 645, 646, 78, 647], [], [360], [], [], [], [], [360], [], [], [360], [], [], [], [], [640, 642, 14, 77, 643], [359], []]
def am_ps_23 : List (List Nat) := [[], [124], [], [], [], [124], [], [], [124], [], [130], [], [], [673, 209, 210, 69, 211], [], [135], [], [], [], [], [673, 209, 210, 69, 211], [], [135], [], [], [], [], [], [], [673, 209, 210, 69, 211], [], []]
def am_ps_24 : List (List Nat) := [[], [545, 546, 67, 547], [], [548, 83], [], [], [], [], [], [370], [228], [616, 617, 618, 71, 619], [], [620, 84], [], [], [], [], [], [374], [], [370], [636, 637, 638, 77, 639], [], [370], [228], [], [669, 670, 671, 71, 672], []]
def am_ps_25 : List (List Nat) := [[], [], [], [], [541, 542, 543, 67, 544], [], [], [], [], [], [], [], [], [], [], []]
def am_ps_26 : List (List Nat) := [[], [], [], [], [], [], [], [], [], []]
def am_ps_27 : List (List Nat) := [[], [], [], [1189, 1190, 79, 1191], []]
def am_ps_28 : List (List Nat) := [[], [1186, 1187, 79, 1188], [], [], [], [], [1133], [], [], [], [], [], [], [], []]
def am_ps_29 : List (List Nat) := [[], [], [1140], [], [], [], [], [], []]
def am_ps_30 : List (List Nat) := [[], [], [], [], [], [], [], [], [], [], [], [], [], [], [], [], [], []]
def am_ps_31 : List (List Nat) := [[], [1135], [], [], [], [], [], [], [], [], [1134], [], [], [1134], [], [], [], [], [], [], [], [], [], [1135], [], [], [1135], [], [1133], [], [], [1134], [], [], [1135], [], [1200, 1201, 79, 1202], [], [], [1135], [], [], [1135], []]
def am_ps_32 : List (List Nat) := [[], [1133], [], [], [], [], [], [], [], [], [], []]
def am_ps_33 : List (List Nat) := [[], [1133], [], [], [], [], [], [], [], [], [], [], [], [], [1207, 1209, 27, 79, 1210], [], [], [], [], [], [], [1207, 1209, 27, 79, 1210], [], [], [], [], [1207, 1209, 27, 79, 1210], [], [], [], [], [1207, 1209, 27, 79, 1210], [], [1133], [], [], [], [], [], [], [], []]
def am_ps_34 : List (List Nat) := [[], [], [], [1182, 1184, 23, 79, 1185], [1192, 1194, 24, 79, 1195], [], [], [], [], [1196, 1198, 25, 79, 1199], [], [], [1203, 1205, 26, 79, 1206], []]
def am_ps_35 : List (List Nat) := [[], [1140], []]
def am_ps_36 : List (List Nat) := [[], [], [], [], [124], [], [], [], [], []]
def am_ps_37 : List (List Nat) := [[], [], [686, 485, 486, 71, 487], [], [], [], [], [], [], [], [], [], []]
def am_ps_38 : List (List Nat) := [[], [], [686, 485, 486, 71, 487], [], [], [], [], [], [], [], [], [], [], []]
def am_ps_39 : List (List Nat) := [[], [], [], [], [111], [], [], [], [111], [], [], [], [], []]
def am_ps_40 : List (List Nat) := [[], [], [525, 406, 407, 69, 408], [], [], [], [], [716, 209, 210, 69, 211], [], []]
def am_ps_41 : List (List Nat) := [[], [135], [], [], [], [], [], [], [712, 713, 714, 69, 715], []]
def am_ps_42 : List (List Nat) := [[], [370], [228], [], [], [682, 683, 684, 71, 685], [], [], [370], [228], [], [687, 688, 689, 71, 690], [], [691, 86], [], [], [], [], [], [], [], [548, 83], [], [], [], [], [], [374], [], [370], [636, 637, 638, 77, 639], [], [370], [228], [], [], [], [708, 709, 710, 71, 711], []]
def am_ps_43 : List (List Nat) := [[], [], [], [], [], [], [678, 679, 680, 67, 681], [], [], [], [], [], [], [], [], [], [], []]
def am_ps_44 : List (List Nat) := [[], [], [], [1133], [], [], [], [], [1189, 1190, 79, 1191], []]
def am_ps_45 : List (List Nat) := [[], [], [], [1189, 1190, 79, 1191], []]
def am_ps_46 : List (List Nat) := [[], [], [1219, 1221, 29, 79, 1222], [], [], [], [], [1227, 1228, 79, 1229], [], [], [], [], []]
def am_ps_47 : List (List Nat) := [[], [], [1219, 1221, 29, 79, 1222], [], [], [], [], [1189, 1190, 79, 1191], [], [], [], [1223, 1225, 30, 79, 1226], [], [], [], [], [], [], [], [], [], [], [], [], [], [], [], []]
def am_ps_48 : List (List Nat) := [[], [1133], [], [], [], [], [], [], [], [], []]
def am_ps_49 : List (List Nat) := [[], [], [], [], [], [1234, 1236, 32, 79, 1237], [], [], [], [], [], [], [], [1207, 1209, 27, 79, 1210], [], []]
def am_ps_50 : List (List Nat) := [[], [], [], [], [], [1215, 1217, 28, 79, 1218], [1192, 1194, 24, 79, 1195], [], [], [], [], [1196, 1198, 25, 79, 1199], [], [], [], [], [1230, 1232, 31, 79, 1233], []]
def am_ps_51 : List (List Nat) := [[], [130], [], [], [712, 713, 714, 69, 715], []]
def am_ps_52 : List (List Nat) := [[], [370], [228], [], [724, 485, 486, 71, 487], [], [691, 86], [], [], [], [], [], [545, 546, 67, 547], [], [548, 83], [], [], [], [], [], [374], [], [370], [636, 637, 638, 77, 639], [], [370], [228], [], [], [726, 727, 728, 71, 729], []]
def am_ps_53 : List (List Nat) := [[], [], [], [], [], [720, 721, 722, 67, 723], [], [], [], [], [], [], [], [], [], [], []]
def am_ps_54 : List (List Nat) := [[], [], [], [1219, 1221, 29, 79, 1222], [], [], [], [], [1186, 1187, 79, 1188], [], [], [], [], [1192, 1194, 24, 79, 1195], [], [], [], [], [1196, 1198, 25, 79, 1199], [], [], [], [1234, 1236, 32, 79, 1237], [], [], [], [], [], [1207, 1209, 27, 79, 1210], [], []]
def am_ps_55 : List (List Nat) := [[], [], [], [], [111], [], [], [], [111], [], [], [], [], [], [], []]
def am_ps_56 : List (List Nat) := [[], [133], [], [], [741, 511, 512, 69, 513], [], [127], [], [], [], [127], [], [520, 406, 407, 69, 408], [], [673, 209, 210, 69, 211], [], [127], [], [520, 406, 407, 69, 408], []]
def am_ps_57 : List (List Nat) := [[], [370], [228], [], [724, 485, 486, 71, 487], [], [691, 86], [], [], [], [], [], [374], [], [370], [636, 637, 638, 77, 639], [], [370], [228], [], [737, 738, 739, 71, 740], []]
def am_ps_58 : List (List Nat) := [[], [], [], [], [733, 734, 735, 67, 736], [], [], [], [], [], [], [], []]
def am_ps_59 : List (List Nat) := [[], [], [], [], [], [], [], [1234, 1236, 32, 79, 1237], [], [1207, 1209, 27, 79, 1210], [], [], [], [], [], [], [1234, 1236, 32, 79, 1237], [], [], [1207, 1209, 27, 79, 1210], [], [], [], [1234, 1236, 32, 79, 1237], []]
def am_ps_60 : List (List Nat) := [[], [], [], [1219, 1221, 29, 79, 1222], [], [], [], [], [1192, 1194, 24, 79, 1195], [], [], [], [], [1196, 1198, 25, 79, 1199], [], [], [1246, 1248, 33, 79, 1249], []]
def am_ps_61 : List (List Nat) := [[], [], [], [], [], [691, 86], [], [], [], [], [], [], [], [], [], [], [], [], [], [], [548, 83], [], [], [], [], [], [374], [], [370], [636, 637, 638, 77, 639], [], [370], [223], [], [], [751, 713, 714, 69, 715], []]
def am_ps_62 : List (List Nat) := [[], [], [], [], [], [745, 746, 747, 67, 748], [], [], [], [], [], [], [], [], [], [], []]
def am_ps_63 : List (List Nat) := [[], [], [], [], [1189, 1190, 79, 1191], [], [], [], [], [], [], [], [], [], [], [1189, 1190, 79, 1191], [], [], [], [], [1192, 1194, 24, 79, 1195], [], [], [], [], [1196, 1198, 25, 79, 1199], [], [1133], [], [], [], [], [], [], [1133], [], [], [], [], [], [], []]
def am_ps_64 : List (List Nat) := [[], [216], [], [], [], [], [], [], [], []]
def am_ps_65 : List (List Nat) := [[], [], [216], [], [], [216], [], [216], []]
def am_ps_66 : List (List Nat) := [[], [], [], [], [], [], [548, 83], [], [], [], [], [], [370], [], [760, 761, 762, 68, 763], [], [620, 84], [], [], [], [], [], [374], [], [370], [636, 637, 638, 77, 639], [], [370], [], [765, 766, 767, 68, 768], []]
def am_ps_67 : List (List Nat) := [[], [], [], [], [755, 756, 757, 67, 758], [], [], [], [], [], [], [], [], [], [], []]
def am_ps_68 : List (List Nat) := [[], [], [], [1189, 1190, 79, 1191], [], [], [], [], [1133], [], [], [], [], [], [], [], [], [], []]
def am_ps_69 : List (List Nat) := [[], [1133], [], [], [], [], [], [], [], [1133], [], [], []]
def am_ps_70 : List (List Nat) := [[], [], [], [1258, 1260, 34, 79, 1261], [1192, 1194, 24, 79, 1195], [], [], [], [], [1196, 1198, 25, 79, 1199], [], [], [1262, 1264, 35, 79, 1265], []]
def am_ps_71 : List (List Nat) := [[], [185], [], [], [], [], []]
def am_ps_72 : List (List Nat) := [[], [], [187], [471, 473, 10, 73, 474], [], [], [192], [], [], [790, 209, 210, 69, 211], [], [193], [], [], [790, 209, 210, 69, 211], [], [194], [], [], [790, 209, 210, 69, 211], [], [], [189], [], [], [189], [], [187], [], [], [], [], [187], [], [], [187], [], [], [], [], [471, 473, 10, 73, 474], [185], []]
def am_ps_73 : List (List Nat) := [[], [135], [], [], [], [], [], [520, 406, 407, 69, 408], []]
def am_ps_74 : List (List Nat) := [[], [127], [], [520, 406, 407, 69, 408], [], [], [136], [], [], [], [], [], [], [741, 511, 512, 69, 513], [], [127], [], [], [], [], [673, 209, 210, 69, 211], [], [], [], [795, 517, 518, 71, 519], []]
def am_ps_75 : List (List Nat) := [[], [161], [], [], [800, 209, 210, 69, 211], [], [164], [], [], [164], [], [801, 406, 407, 69, 408], [800, 209, 210, 69, 211], [], [166], [], [], [166], [], [801, 406, 407, 69, 408], [], [], [800, 209, 210, 69, 211], []]
def am_ps_76 : List (List Nat) := [[], [230], [159], [], [], [], [], [], [], [], [], [], [230], [162], [], [785, 406, 407, 69, 408], [], [], [233], [], [212], [], [], [229], [131], [], [785, 406, 407, 69, 408], [786, 787, 788, 73, 789], [], [229], [], [791, 792, 793, 71, 794], [], [], [], [], [], [230], [], [], [], [796, 797, 798, 72, 799], [], [], [], [224], [], [], [], [], [802, 511, 512, 69, 513], [], [226], [], [], [], [], [802, 511, 512, 69, 513], [], [], [], [230], [], [159], []]
def am_ps_77 : List (List Nat) := [[], [161], [], [158], [], [800, 209, 210, 69, 211], [], [164], [], [158], [], [800, 209, 210, 69, 211], [], [166], [], [158], [], [800, 209, 210, 69, 211], [], [], [158], [], [], [158], []]
def am_ps_78 : List (List Nat) := [[], [222], [], [785, 406, 407, 69, 408], [], [], [], [], [212], [], [], [], [], [216], [], [], [214], [], [], [229], [], [807, 485, 486, 71, 487], [], [], [], [214], [], [], [214], [], [], [216], [], [], [216], [], [], [218], [], [], [218], [], [230], [], [212], [808, 809, 810, 72, 811], []]
def am_ps_79 : List (List Nat) := [[], [], [], [], [], [], [], [], [224], [], [785, 406, 407, 69, 408], [], [224], [], [785, 406, 407, 69, 408], [], [], [], [], [], [], [224], [], [785, 406, 407, 69, 408], [], [222], [], [785, 406, 407, 69, 408], [], [], [224], [], [], [802, 511, 512, 69, 513], [], [], [214], [], [], [214], [], [], [220], [], [], [220], []]
def am_ps_80 : List (List Nat) := [[], [233], [190], [], [], [], [], [], [], [], [], [212], [], [], [212], [], [781, 783, 15, 68, 784], [], [803, 805, 16, 68, 806], [], [812, 814, 17, 68, 815], [], [], [], [233], [190], [], [], []]
def am_ps_81 : List (List Nat) := [[], [], [], [], [], [], [548, 83], [], [], [], [], [], [374], [], [370], [636, 637, 638, 77, 639], [], [370], [], [777, 778, 779, 68, 780], []]
def am_ps_82 : List (List Nat) := [[], [], [], [], [772, 773, 774, 67, 775], [], [], [], [], [], [], [], []]
def am_ps_83 : List (List Nat) := [[], [1133], [], [], [], [], [], [], [], [], [], [], [1133], [], [], [1133], [], [], [], [], [], [], [], [], [1133], [], [], [], [], [], [], [], [], [], [1133], [], [], [], [], [], [], [1133], [], [], [], [], [1133], [], [], [], [], [1133], [], [], [], [], [], [], [1133], [], [], [], [], [], [], [1234, 1236, 32, 79, 1237], [], [], [1133], [], [], [], [], [], [], [], [1133], [], [], [], [], [], [], []]
def am_ps_84 : List (List Nat) := [[], [], [], [], [], [], [], [1133], [], [], [], [], [], [], [], [], [1234, 1236, 32, 79, 1237], [], [], [], [1282, 1284, 39, 79, 1285], [], [], [], [], [], [], [], [], [], [], [1234, 1236, 32, 79, 1237], [], [], [1207, 1209, 27, 79, 1210], [], [], [], [], [], [], [1207, 1209, 27, 79, 1210], [], [1133], [], [], [], [], [], [], [], [], [1234, 1236, 32, 79, 1237], [], [], [1133], [], [], [], [], [], [], [], [], [], [1133], [], [], [], [], []]
def am_ps_85 : List (List Nat) := [[], [1133], [], [], [], [], [], [], [], [], [], [], [], [], [], [], [], [], [1133], [], [], [], [], [], [], [1133], [], [], [1133], [], [], [], [], [], [], [], []]
def am_ps_86 : List (List Nat) := [[], [], [], [1133], [], [], [], [], [], [], [1133], [], [], [], [], [], [], [1133], [], [], [], [], [1133], [], [], [], [], [1133], [], [], [], [], [], [], [1133], [], [], [], [], [], [], [], [1133], [], [], [], [], [], [], [], [1133], [], [], [], [], [], [], [], [1133], [], [], [], [], [], [], []]
def am_ps_87 : List (List Nat) := [[], [], [], [], [], [], [], [], [1133], [], [], [], [], [], [1133], [], [], [], [], [], [], [], [], [], [], [], [], [1133], [], [], [], [], [], [1133], [], [], [], [], [1133], [], [], [], [], [], [], [], [], [], [1133], [], [], [], [], [], [], [], [1133], [], [], [], [], [], [], []]
def am_ps_88 : List (List Nat) := [[], [1133], [], [], [], [], [], [], [], [], [], [], [1133], [], [], [], [], [], [1278, 1280, 38, 79, 1281], [], [], [], [], [], [1133], [], [], [], [], [], [], [], [], [], [], [], [1133], [], [], [], [], [], [], [], [], [], [], [], [], [1286, 1288, 40, 79, 1289], [], [], [], [], [1133], [], [], [], [1133], [], [], [], [], [], [1133], [], [], [], [], [1133], [], [], [], [], [1133], [], [], [], [], [1290, 1292, 41, 79, 1293], [], [1294, 1296, 42, 79, 1297], []]
def am_ps_89 : List (List Nat) := [[], [1133], [], [], [], [], [], [], [], [], [], [1274, 1276, 37, 79, 1277], [], [], [], [1133], [], [], [], [], []]
def am_ps_90 : List (List Nat) := [[], [], [], [], [1189, 1190, 79, 1191], [], [], [], [], [1192, 1194, 24, 79, 1195], [], [], [], [], [1196, 1198, 25, 79, 1199], [], [], [1270, 1272, 36, 79, 1273], []]
def am_ps_91 : List (List Nat) := [[], [], [], [], [], [], [], [], []]
def am_ps_92 : List (List Nat) := [[], [224], [], [], [831, 713, 714, 69, 715], [], [], [], [214], [], [], [214], [], []]
def am_ps_93 : List (List Nat) := [[], [823, 824, 67, 825], [], [691, 86], [], [], [], [], [], [374], [], [370], [636, 637, 638, 77, 639], [], [370], [], [827, 828, 829, 68, 830], []]
def am_ps_94 : List (List Nat) := [[], [], [], [], [819, 820, 821, 67, 822], [], [], [], [], [], [], [], []]
def am_ps_95 : List (List Nat) := [[], [], [1227, 1228, 79, 1229], [], [], [], [], [1192, 1194, 24, 79, 1195], [], [], [], [], [1196, 1198, 25, 79, 1199], [], [1133], [], [], [], [], [], [], [1133], [], [], [], [], [], [], [1133], [], [], [], [], [], [], [], []]
def am_ps_96 : List (List Nat) := [[], [307], [], [], [], [], [], []]
def am_ps_97 : List (List Nat) := [[], [309], [], [307], [], [428, 209, 210, 69, 211], [], [], [307], [], [], [307], [], [307], []]
def am_ps_98 : List (List Nat) := [[], [], [], [], [], [], [548, 83], [], [], [], [], [], [373], [840, 841, 842, 76, 843], [], [620, 84], [], [], [], [], [], [373], [], [845, 846, 847, 76, 848], []]
def am_ps_99 : List (List Nat) := [[], [], [], [], [835, 836, 837, 67, 838], [], [], [], [], [], [], [], [], [], [], []]
def am_ps_100 : List (List Nat) := [[], [], [], [], [1189, 1190, 79, 1191], [], [], [], [], [1139], [], [], [], [], [], [1192, 1194, 24, 79, 1195], [], [], [], [], [1138], [], [1139], [], [], [], [], [1139], [], [], [1139], [], [1139], []]
def am_ps_101 : List (List Nat) := [[], [307], [], [], [], [307], [], []]
def am_ps_102 : List (List Nat) := [[], [373], [393, 394, 395, 76, 396], []]
def am_ps_103 : List (List Nat) := [[], [], [1140], [], [1139], [], [], [], [1139], [], []]
def am_ps_104 : List (List Nat) := [[], [310], [], [], [312], [], [311], [405, 406, 407, 69, 408], [], [], [], [], [], [], [], [], [], []]
def am_ps_105 : List (List Nat) := [[], [417, 419, 2, 76, 420], [], [], [], [], [], [311], [], [], [311], [], [], [310], [], []]
def am_ps_106 : List (List Nat) := [[], [], [], [], [], [], [], [], [], [], [], []]
def am_ps_107 : List (List Nat) := [[], [425, 426, 76, 427], [], [], [], [], [312], [], [311], [], [428, 209, 210, 69, 211], [], [], [310], [], []]
def am_ps_108 : List (List Nat) := [[], [], [], [], [], [], [], [], [], []]
def am_ps_109 : List (List Nat) := [[], [312], [], [311], [405, 406, 407, 69, 408], [], [], [], [], [], [], [], [], [], [], [], [], [433, 434, 76, 435], [], [], [], [], [], [], [], [], [], [313], [], [311], [], [], [], [428, 209, 210, 69, 211], [], [], [310], [], []]
def am_ps_110 : List (List Nat) := [[], [], [], [433, 434, 76, 435], [], [], [], [], [], [], [], [], [], [], [], [], [], [], [], [], [], [], [], []]
def am_ps_111 : List (List Nat) := [[], [], [], [], [], [], [], [], [], [314], [], [311], [], [], [], [], [], [], [428, 209, 210, 69, 211], [], [], [310], [], []]
def am_ps_112 : List (List Nat) := [[], [312], [], [311], [405, 406, 407, 69, 408], [], [], [313], [], [311], [405, 406, 407, 69, 408], [], [], [425, 426, 76, 427], [440, 441, 76, 442], [], [], [], [], [313], [], [311], [], [428, 209, 210, 69, 211], [], [], [], [], [], [], [], [443, 445, 6, 76, 446], [], [], [], [], []]
def am_ps_113 : List (List Nat) := [[], [], [], [], [], [310], [], [], [], [433, 434, 76, 435], [], [], [], [], [315], [], [311], [], [], [], [428, 209, 210, 69, 211], [], [], [310], [], []]
def am_ps_114 : List (List Nat) := [[], [315], [], [311], [405, 406, 407, 69, 408], [], [], [440, 441, 76, 442], [], [], [], [], [], [], [315], [], [311], [], [428, 209, 210, 69, 211], [], []]
def am_ps_115 : List (List Nat) := [[], [433, 434, 76, 435], [], [], [], [], [], [], [], [], [], [315], [], [311], [], [], [], [], [], [428, 209, 210, 69, 211], [], [], [310], [], []]
def am_ps_116 : List (List Nat) := [[], [], [], [], [413, 415, 1, 76, 416], [], [], [310], [], [], [], [421, 423, 3, 76, 424], [], [], [], [429, 431, 4, 76, 432], [], [], [], [436, 438, 5, 76, 439], [], [], [], [447, 449, 7, 76, 450], [], [], [], [451, 453, 8, 76, 454], [], [], [], [455, 457, 9, 76, 458], [], [], []]
def am_ps_117 : List (List Nat) := [[], [], [310], [], [], [311], [], [], [], [], [307], [], [], [], [309], [], [405, 406, 407, 69, 408], [409, 411, 0, 76, 412], [], [], [], [], [], [], [307], []]
def am_ps_118 : List (List Nat) := [[], [373], [401, 402, 403, 76, 404], []]
def am_ps_119 : List (List Nat) := [[], [1142], [], [1139], [], [], [1138], [], [1142], [], [], [], [1189, 1190, 79, 1191], [], [], [], [], []]
def am_ps_120 : List (List Nat) := [[], [], [], [], [], [1326, 1328, 46, 79, 1329], [], [], [1138], [], [1142], [], [], [], [], [], [], [], [], [1138], [], [1142], [], [], [], [], [], [], [1142], [], [], [1142], [], [], [], [], [], [1326, 1328, 46, 79, 1329], [], [], [], [], [], [1138], [], [1142], [], [], [], [], [], [], [], [], [], [], [1138], [], [1142], [], [], [], [], [], [], [], [1142], [], [], [1142], [], [], [1144], [], [], [], [], []]
def am_ps_121 : List (List Nat) := [[], [], [], [1326, 1328, 46, 79, 1329], [], [], [], [1142], [], [], [], [], [], [], [1142], [], []]
def am_ps_122 : List (List Nat) := [[], [], [], [], [1322, 1324, 45, 79, 1325], [], [], [], [], [1144], [], [], [], [1334, 1336, 48, 79, 1337], [], [], [], [], [], [1334, 1336, 48, 79, 1337], [], [], [], [], [], [], [1144], [], [], [], [], [], [], [], [], [1334, 1336, 48, 79, 1337], [], [], [], [], [], [1322, 1324, 45, 79, 1325], [], [], [], [], [], [1322, 1324, 45, 79, 1325], [], [], [1144], [], [], [], [], [], [], [], []]
def am_ps_123 : List (List Nat) := [[], [], [1142], [], [1139], [], [], [1138], [], [1142], [], [], [], [1143], [], [], [1142], [], [], [1142], [], [1143], [], [], [], [], [], [1322, 1324, 45, 79, 1325], [], [], [1330, 1332, 47, 79, 1333], [], [], [], [], [], [1322, 1324, 45, 79, 1325], [], [], [], [], [], [1322, 1324, 45, 79, 1325], [], [], [], [], [], [1322, 1324, 45, 79, 1325], [], [], [], [1142], [], [], [1142], [], []]
def am_ps_124 : List (List Nat) := [[], [1143], [], [], [], [1144], [], [], [1182, 1184, 23, 79, 1185], [], [], [], [], [], [], [], [1144], [], [], [], [1144], [], [], [], [1144], [], [], [1215, 1217, 28, 79, 1218], [], [], [], [], [], [], [], [1144], [], [], [1258, 1260, 34, 79, 1261], [], [], [], [], [], [], [], [], [], [1144], [], [], [1219, 1221, 29, 79, 1222], []]
def am_ps_125 : List (List Nat) := [[], [1143], [], [], [], [1144], [], [], [1203, 1205, 26, 79, 1206], [], [], [], [1144], [], [], [], [1144], [], [], [], [1144], [], [], [1230, 1232, 31, 79, 1233], [], [], [], [1144], [], [], [1262, 1264, 35, 79, 1265], [], [], [], [1144], [], [], [1270, 1272, 36, 79, 1273], [], [], [], [1144], [], [], [1246, 1248, 33, 79, 1249], []]
def am_ps_126 : List (List Nat) := [[], [], [1142], [], [], [1145], [], [1318, 1320, 44, 79, 1321], [], [], [], [], [], [], [1338, 1340, 49, 79, 1341], [], [], [], [], [1342, 1344, 50, 79, 1345], [], [], [], [1145], [], [], [1145], [], [1142], [], [1139], [], [], [], [], [], [1334, 1336, 48, 79, 1337], [], [], [1318, 1320, 44, 79, 1321], [], [], [], [], [], [], [], []]
def am_ps_127 : List (List Nat) := [[], [], [1140], [], [], [1314, 1316, 43, 79, 1317], [], [], [1139], [], [], [1142], []]
def am_ps_128 : List (List Nat) := [[], [860, 402, 403, 76, 404], [], [307], [], [], [417, 419, 2, 76, 420], [], [], [], [], []]
def am_ps_129 : List (List Nat) := [[], [311], [], [], []]
def am_ps_130 : List (List Nat) := [[], [313], [], [405, 406, 407, 69, 408], []]
def am_ps_131 : List (List Nat) := [[], [312], [], [405, 406, 407, 69, 408], []]
def am_ps_132 : List (List Nat) := [[], [315], [], [405, 406, 407, 69, 408], []]
def am_ps_133 : List (List Nat) := [[], [373], [], [878, 879, 880, 76, 881], [], [], [370], [228], [616, 617, 618, 71, 619], [], [], [373], [], [882, 883, 884, 76, 885], [], [], [370], [228], [], [724, 485, 486, 71, 487], [], [], [370], [228], [], [687, 688, 689, 71, 690], [], [], [], [], [], [], [], [], [], [370], [], [760, 761, 762, 68, 763], [], [], [], [], [370], [228], [], [724, 485, 486, 71, 487], []]
def am_ps_134 : List (List Nat) := [[], [314], [], [405, 406, 407, 69, 408], []]
def am_ps_135 : List (List Nat) := [[], [373], [], [870, 871, 872, 76, 873], [], [], [], [], [874, 876, 19, 67, 877], [], [], [], [], [373], [], [878, 879, 880, 76, 881], [], [], [370], [228], [], [669, 670, 671, 71, 672], [], [], [], [370], [228], [], [], [373], [], [886, 887, 888, 76, 889], [], [373], [], [882, 883, 884, 76, 885], [708, 709, 710, 71, 711], [], [], [], [370], [], [765, 766, 767, 68, 768], [], [], [], [370], [], [777, 778, 779, 68, 780], [], [], [], [370], [228], [], [737, 738, 739, 71, 740], [], [], []]
def am_ps_136 : List (List Nat) := [[], [373], [856, 857, 858, 76, 859], [], [548, 83], [], [], [], [], [], [374], [], [370], [636, 637, 638, 77, 639], [], [373], [862, 863, 864, 76, 865], [], [], [], [], [], [], [], [], [866, 868, 18, 67, 869], [], [], [], [], [373], [393, 394, 395, 76, 396], [], [], []]
def am_ps_137 : List (List Nat) := [[], [], [], [852, 853, 854, 67, 855], [], [], [], [], [], [], [], []]
def am_ps_138 : List (List Nat) := [[], [], [], [1314, 1316, 43, 79, 1317], [], [], [], [], [1192, 1194, 24, 79, 1195], [], [], [], [], [1196, 1198, 25, 79, 1199], [], [], [1314, 1316, 43, 79, 1317], [], [], [], [1139], [], [], [], [1145], [], [], []]
def am_ps_139 : List (List Nat) := [[], [360], []]
def am_ps_140 : List (List Nat) := [[], [], [], [], [351], [], [], [], [351], [], [], [], [], [], [351], [], [], [648, 649, 650, 68, 651], []]
def am_ps_141 : List (List Nat) := [[], [360], [], [], [], [360], [], [], [360], [], [358], [], [], [360], [640, 642, 14, 77, 643], [], [906, 907, 908, 78, 909], [], [360], []]
def am_ps_142 : List (List Nat) := [[], [374], [897, 898, 899, 77, 900], [], [620, 84], [], [], [], [], [], [374], [], [370], [902, 903, 904, 77, 905], []]
def am_ps_143 : List (List Nat) := [[], [], [], [893, 894, 895, 67, 896], [], [], [], [], [], [], [], []]
def am_ps_144 : List (List Nat) := [[], [], [1135], [], [], [], [], [1192, 1194, 24, 79, 1195], [], [], [], [], [], [1135], [], [], [1135], [], [1134], [], [], [1135], [], [], [1133], [], [1200, 1201, 79, 1202], [], [1135], []]
def am_ps_145 : List (List Nat) := [[], [], [], [], [], [], [], [], []]
def am_ps_146 : List (List Nat) := [[], [917, 918, 67, 919], [], [548, 83], [], [], [], [], [], [375], [], [], [370], [921, 645, 646, 78, 647], [], [370], [213], []]
def am_ps_147 : List (List Nat) := [[], [], [], [], [913, 914, 915, 67, 916], [], [], [], [], [], [], [], []]
def am_ps_148 : List (List Nat) := [[], [], [], [1189, 1190, 79, 1191], []]
def am_ps_149 : List (List Nat) := [[], [], [1358, 1359, 79, 1360], [], [], [], [], [1192, 1194, 24, 79, 1195], [], [], [], [], [1133], [], [], [1136], [], [], [], [1200, 1201, 79, 1202], [], [1137], [], [], [], [], [1133], [], [], []]
def am_ps_150 : List (List Nat) := [[], [352], [], [933, 406, 407, 69, 408], [], [], [], [], [], []]
def am_ps_151 : List (List Nat) := [[], [917, 918, 67, 919], [], [548, 83], [], [], [], [], [], [375], [], [929, 930, 931, 78, 932], [], [620, 84], [], [], [], [], [], [374], [], [370], [636, 637, 638, 77, 639], [], [375], [], [], [370], [935, 907, 908, 78, 909], [], [370], [213], []]
def am_ps_152 : List (List Nat) := [[], [], [], [], [925, 926, 927, 67, 928], [], [], [], [], [], [], [], [], [], [], []]
def am_ps_153 : List (List Nat) := [[], [], [1358, 1359, 79, 1360], [], [], [], [], [1137], [], [], [], [], [], [], [1192, 1194, 24, 79, 1195], [], [], [], [], [1196, 1198, 25, 79, 1199], [], [1136], [], [], [], [], [1133], [], [1200, 1201, 79, 1202], [], [1133], [], [], []]
def am_ps_154 : List (List Nat) := [[], [136], [], [], [], [], [], [520, 406, 407, 69, 408], []]
def am_ps_155 : List (List Nat) := [[], [], [], [], [], [], [158], [], [], [], [161], [], [801, 406, 407, 69, 408], [], [], [], [], [], [], [], [], [], [], []]
def am_ps_156 : List (List Nat) := [[], [370], [228], [], [724, 485, 486, 71, 487], [], [691, 86], [], [], [], [], [], [], [], [370], [228], [129], [], [943, 406, 407, 69, 408], [], [], [370], [228], [132], [], [943, 406, 407, 69, 408], [], [], [370], [228], [], [], [], [], [944, 517, 518, 71, 519], [], [], [370], [228], [], [], [], [], [945, 946, 947, 71, 948], [], [], [370], [231], [], [949, 950, 951, 72, 952], [], [], [370], [228], [134], [], [943, 406, 407, 69, 408], [], [548, 83], [], [], [], []]
def am_ps_157 : List (List Nat) := [[], [], [], [], [], [939, 940, 941, 67, 942], [], [], [], [], [], [], [], [], [], [], []]
def am_ps_158 : List (List Nat) := [[], [1133], [], [], [], [], [], [], [], [], []]
def am_ps_159 : List (List Nat) := [[], [], [], [], [], [], [1133], [], [], [], [], [], [], [], [1373, 1375, 52, 79, 1376], [], [], [], [], [], [], [], [], [], [], []]
def am_ps_160 : List (List Nat) := [[], [], [], [1219, 1221, 29, 79, 1222], [], [], [], [], [], [], [1189, 1190, 79, 1191], [], [], [], [], [1192, 1194, 24, 79, 1195], [], [], [], [], [], [], [], [], [1369, 1371, 51, 79, 1372], [], [], [], [], [], [], [], [], [], [1234, 1236, 32, 79, 1237], []]
def am_ps_161 : List (List Nat) := [[], [], [], [], [], [], [], [], [], [686, 485, 486, 71, 487], [], [], [], [], [127], [], [520, 406, 407, 69, 408], [795, 517, 518, 71, 519], [], [], [], [], []]
def am_ps_162 : List (List Nat) := [[], [], [], [], [], [], [], [], [], [686, 485, 486, 71, 487], [], [], [], [], [127], [], [520, 406, 407, 69, 408], [795, 517, 518, 71, 519], [], [], [], [], [], [], []]
def am_ps_163 : List (List Nat) := [[], [], [], [], [], [], [], [548, 83], [], [], [], [], [], [], [370], [231], [160], [], [], [], [], [], [], [370], [231], [163], [], [943, 406, 407, 69, 408], [], [], [370], [231], [165], [], [943, 406, 407, 69, 408], [], [], [370], [231], [167], [], [943, 406, 407, 69, 408], [], [], [370], [228], [], [370], [231], [163], [], [943, 406, 407, 69, 408], [962, 963, 964, 71, 965], [], [], [370], [228], [], [370], [231], [163], [], [943, 406, 407, 69, 408], [966, 967, 968, 71, 969], []]
def am_ps_164 : List (List Nat) := [[], [], [], [], [], [957, 958, 959, 67, 960], [], [], [], [], [], [], [], []]
def am_ps_165 : List (List Nat) := [[], [], [], [], [], [], [], [], [], [], [], [], [], [1234, 1236, 32, 79, 1237], [], [1234, 1236, 32, 79, 1237], [], [], [], [], [], [], [], [], [], [], []]
def am_ps_166 : List (List Nat) := [[], [], [], [], [], [], [1189, 1190, 79, 1191], [], [], [], [], [1192, 1194, 24, 79, 1195], [], [], [], [], [], [1133], [], [], [], [], [], [], [], [], [], [], [], [1373, 1375, 52, 79, 1376], [], [], [], [], [], [1373, 1375, 52, 79, 1376], [], [], [], [], [], [], [1381, 1383, 53, 79, 1384], []]
def am_ps_167 : List (List Nat) := [[], [], [], [], [], [], [124], [], [], [], [], [], [795, 517, 518, 71, 519], [], [], [], [], [], [], [], [], [], [], [], [], [], [795, 517, 518, 71, 519], [], [], [], [], [], [], [], [], [], [], [], [], []]
def am_ps_168 : List (List Nat) := [[], [823, 824, 67, 825], [], [691, 86], [], [], [], [], [], [], [], [370], [225], [], [943, 406, 407, 69, 408], [], [], [370], [227], [], [943, 406, 407, 69, 408], [], [], [370], [228], [], [977, 978, 979, 71, 980], [], [548, 83], [], [], [], []]
def am_ps_169 : List (List Nat) := [[], [], [], [], [], [973, 974, 975, 67, 976], [], [], [], [], [], [], [], [], [], [], []]
def am_ps_170 : List (List Nat) := [[], [], [], [], [], [], [1133], [], [], [], [], [], [], [], [1234, 1236, 32, 79, 1237], [], [], [], [], [], [], [], [], [1234, 1236, 32, 79, 1237], [], [], [], [], [], [], [], [], [], [], [], []]
def am_ps_171 : List (List Nat) := [[], [], [1227, 1228, 79, 1229], [], [], [], [], [], [], [1189, 1190, 79, 1191], [], [], [], [], [1192, 1194, 24, 79, 1195], [], [], [], [], [], [], [1133], [], [], [], [], [], [], [], [], [], [1133], [], [], [], [], [], [], [], [], [], [1389, 1391, 54, 79, 1392], []]
def am_ps_172 : List (List Nat) := [[], [], [], [370], [213], [], [], [370], [228], [126], [], [], [370], [215], [], [], [370], [231], [160], [], [], [370], [217], [], [], [370], [223], [], [943, 406, 407, 69, 408], [], [], [370], [223], [], [943, 406, 407, 69, 408], [], [], [370], [219], [], [], [370], [221], [], [], [370], [232], [191], [], [], [374], [897, 898, 899, 77, 900], [], [], [373], [308], [], [548, 83], [], [], [], []]
def am_ps_173 : List (List Nat) := [[], [], [], [], [985, 986, 987, 67, 988], [], [], [], [], [], [], [], []]
def am_ps_174 : List (List Nat) := [[], [], [], [], [1189, 1190, 79, 1191], [], [], [], [], [1192, 1194, 24, 79, 1195], [], [], [], [], [], [], [], [1133], [], [], [], [], [], [], [], [1135], [], [], [1139], []]
def am_ps_175 : List (List Nat) := [[], [192], [], [], [471, 473, 10, 73, 474], [475, 406, 407, 69, 408], []]
def am_ps_176 : List (List Nat) := [[], [193], [], [], [471, 473, 10, 73, 474], [475, 406, 407, 69, 408], []]
def am_ps_177 : List (List Nat) := [[], [194], [], [], [471, 473, 10, 73, 474], [475, 406, 407, 69, 408], []]
def am_ps_178 : List (List Nat) := [[], [], [], [], [], [], [], [548, 83], [], [], [], [], [], [], [370], [232], [188], [], [], [], [], [370], [232], [188], [], [], [], [], [], [], [], [], [370], [232], [], [998, 999, 1000, 73, 1001], [], [], [370], [232], [], [1002, 1003, 1004, 73, 1005], [], [], [370], [232], [], [1006, 468, 469, 73, 470], []]
def am_ps_179 : List (List Nat) := [[], [], [], [], [], [993, 994, 995, 67, 996], [], [], [], [], [], [], [], []]
def am_ps_180 : List (List Nat) := [[], [1133], [], [], [], [], [], [], [], [], []]
def am_ps_181 : List (List Nat) := [[], [], [], [], [], [], [1189, 1190, 79, 1191], [], [], [], [], [1192, 1194, 24, 79, 1195], [], [], [], [], [], [1133], [], [], [], [], [], [1133], [], [], [], [], [], [], [], [1401, 1403, 55, 79, 1404], [], [], []]
def am_ps_182 : List (List Nat) := [[], [], [], [], [], [], [286], [186], [], [], [286], [], [1019, 999, 1000, 73, 1001], [], [], [], [], [], [286], [], [467, 468, 469, 73, 470], [], [], [], [], [], [], []]
def am_ps_183 : List (List Nat) := [[], [], [548, 83], [], [], [], [], [], [372], [], [1015, 1016, 1017, 75, 1018], []]
def am_ps_184 : List (List Nat) := [[], [], [], [], [1010, 1011, 1012, 67, 1013], [], [], [], [], [], [], [], []]
def am_ps_185 : List (List Nat) := [[], [], [], [], [], [], [1133], [], [], [], [], [], [], [], [1401, 1403, 55, 79, 1404], [], [], [], [], [], [], [1401, 1403, 55, 79, 1404], [], [], [], [], [], [], [], [], []]
def am_ps_186 : List (List Nat) := [[], [], [], [], [], [], [1192, 1194, 24, 79, 1195], [], [], [], [1409, 1411, 56, 79, 1412], [], [], []]
def am_ps_187 : List (List Nat) := [[], [], [], [], [111], [], [], [], [111], [], [], [], [], [], []]
def am_ps_188 : List (List Nat) := [[], [287], [1035, 503, 504, 69, 505], [], [], [], [], [286], [186], [], [], [287], [], [286], [], [467, 468, 469, 73, 470], [], [1036, 511, 512, 69, 513], [], [], []]
def am_ps_189 : List (List Nat) := [[], [1031, 1033, 20, 75, 1034], [], [], [], [], [], [], [], [], [], [287], [], [1037, 406, 407, 69, 408], [], [], [], [], [], [], [], [], [], []]
def am_ps_190 : List (List Nat) := [[], [286], [186], [], [], [], [], [1031, 1033, 20, 75, 1034], [], [], [], [], [], [], [], [], [287], [], [1037, 406, 407, 69, 408], [], [287], [], [1037, 406, 407, 69, 408], [], [], [], [], [], [], []]
def am_ps_191 : List (List Nat) := [[], [], [289], [], [], [], [], [], [], [286], [186], [], [], [], [], [286], [], [467, 468, 469, 73, 470], [], [], [], [], [], [286], [186], [], [], [], [], [286], [], [], [], [1019, 999, 1000, 73, 1001], [], [286], [], [1019, 999, 1000, 73, 1001], [], [], [288], [], [289], [], [1050, 209, 210, 69, 211], [], [], [289], [], [], [289], [], [], [], [], []]
def am_ps_192 : List (List Nat) := [[], [], [], [], [], [], [288], [], [1037, 406, 407, 69, 408], [], [288], [], [1037, 406, 407, 69, 408], [], [], [], [], [], [], []]
def am_ps_193 : List (List Nat) := [[], [1046, 1048, 21, 75, 1049], [], [], [], [], [], [], [289], [], [], [], [], [1051, 1053, 22, 75, 1054], [], [], [], [], [], [], [], [], [], []]
def am_ps_194 : List (List Nat) := [[], [], [], [], [1062], [], [], [], [], [1063], [], [], [], [], [1063], [], [], [], [], [], [], [], [], [1064], [], [], [], [], [], [], [], [], [], [], [], [], [], [], [], [], [], []]
def am_ps_195 : List (List Nat) := [[], [1046, 1048, 21, 75, 1049], [], [], [], [], [], [], [289], [], [], [], [288], [], [1037, 406, 407, 69, 408], [1059, 1060, 87, 1061], [1065, 109, 70, 110], [], [], [], [], []]
def am_ps_196 : List (List Nat) := [[], [], [], [], [], [], [286], [186], [], [], [286], [], [467, 468, 469, 73, 470], [], [286], [], [], [], [467, 468, 469, 73, 470], [], [], [], [], [], [], [], [], [], [], [], [], [], [], [], []]
def am_ps_197 : List (List Nat) := [[], [], [], [370], [232], [188], [], [], [372], [1027, 1028, 1029, 75, 1030], [], [], [372], [1038, 1039, 1040, 75, 1041], [], [], [372], [1042, 1043, 1044, 75, 1045], [], [], [372], [1055, 1056, 1057, 75, 1058], [], [], [372], [], [1066, 1067, 1068, 75, 1069], [], [], [372], [], [1066, 1067, 1068, 75, 1069], [], [548, 83], [], [], [], []]
def am_ps_198 : List (List Nat) := [[], [], [], [], [1023, 1024, 1025, 67, 1026], [], [], [], [], [], [], [], []]
def am_ps_199 : List (List Nat) := [[], [], [], [], [], [], [1133], [], [], [], [], [], [], [], [1401, 1403, 55, 79, 1404], [], [], [], [], [], [], [], [], [], [], []]
def am_ps_200 : List (List Nat) := [[], [], [], [], [], [], [], [], [], [], [1421, 1423, 58, 79, 1424], [], [], [], [], [], [], [], [], [], []]
def am_ps_201 : List (List Nat) := [[], [], [], [], [], [], [], [], [], [1421, 1423, 58, 79, 1424], [], [], [1421, 1423, 58, 79, 1424], [], [], [], [], [], [], [], [], [1133], [], [], [], [], [], [], []]
def am_ps_202 : List (List Nat) := [[], [], [], [], [1401, 1403, 55, 79, 1404], [1409, 1411, 56, 79, 1412], [], [], [], [], [], [], [], [], [], [], [], [], [], [], [1401, 1403, 55, 79, 1404], [1409, 1411, 56, 79, 1412], [], [], [], [], [], [], [], [], [], []]
def am_ps_203 : List (List Nat) := [[], [], [], [], [], [], [1133], [], [], [], [], [], [], [1433, 1435, 61, 79, 1436], [], [], [], [], [], [], [], [], [], []]
def am_ps_204 : List (List Nat) := [[], [], [], [], [], [], [1133], [], [], [], [], [], [], [], [], [], [1401, 1403, 55, 79, 1404], [1409, 1411, 56, 79, 1412], [], [], [], [], [], [], [], [], [], [], [], [], [], [], [], [], [], [], [], [], [], []]
def am_ps_205 : List (List Nat) := [[], [], [], [], [], [], [1133], [], [], [], [], [], [], [1401, 1403, 55, 79, 1404], [], [], [], [], [], [1401, 1403, 55, 79, 1404], [], [], [], [], [], [], [], [], [], [], [], [], [], [], [], [], [], [], []]
def am_ps_206 : List (List Nat) := [[], [], [], [], [1189, 1190, 79, 1191], [], [], [], [], [1192, 1194, 24, 79, 1195], [], [], [], [], [], [], [1133], [], [], [], [], [1417, 1419, 57, 79, 1420], [], [], [1425, 1427, 59, 79, 1428], [], [], [1429, 1431, 60, 79, 1432], [], [], [1437, 1439, 62, 79, 1440], [], [], [], [], [], [], [], [], [1441, 1443, 63, 79, 1444], []]
def am_ps_207 : List (List Nat) := [[], [], [], [], [], [], [286], [186], [], [], [], [286], [], [467, 468, 469, 73, 470], [], [], [], [], [], []]
def am_ps_208 : List (List Nat) := [[], [370], [232], [188], [], [], [], [], [372], [463, 464, 465, 75, 466], [], [], [], [], [], [], []]
def am_ps_209 : List (List Nat) := [[], [], [1140], [], [], [], [], [], [], [1133], [], [], [], [], [], [], [], [1401, 1403, 55, 79, 1404], [], [], [], [], [], [1133], [], [], [], [], [], [], [], [], [1133], [], [], [], [], []]
def am_ps_210 : List (List Nat) := [[], [], [], [], [], [], [], [], []]
def am_ps_211 : List (List Nat) := [[], [266], [], [265], [128], [492, 493, 494, 69, 495], [], [267], [502, 503, 504, 69, 505], []]
def am_ps_212 : List (List Nat) := [[], [], [], [], [], [], [], [], [265], [], [484, 485, 486, 71, 487], [], [], [267], [], [], [510, 511, 512, 69, 513], [], [266], [], [514, 406, 407, 69, 408], [], [], [266], [], [], [], [], [515, 209, 210, 69, 211], [], [265], [], [], [516, 517, 518, 71, 519], [], [], [], [], [267], [], [], [510, 511, 512, 69, 513], [], [], [], []]
def am_ps_213 : List (List Nat) := [[], [265], [], [484, 485, 486, 71, 487], [], [], [], [], [488, 490, 11, 74, 491], [], [], [], [], [], [], [506, 508, 12, 74, 509], [], [], [], [], [267], [], [514, 406, 407, 69, 408], []]
def am_ps_214 : List (List Nat) := [[], [267], [502, 503, 504, 69, 505], [], [267], [], [], [515, 209, 210, 69, 211], [], [], [], [], [265], [125], [], [], [265], [128], [], [514, 406, 407, 69, 408], [], [], [267], [], [514, 406, 407, 69, 408], [], [], [267], [], [265], [], [], [516, 517, 518, 71, 519], [], [], [], [], [], [510, 511, 512, 69, 513], [], [267], [], [265], [], [], [], [], [516, 517, 518, 71, 519], [], [], [], [510, 511, 512, 69, 513], [], [], [], [267], [], [514, 406, 407, 69, 408], []]
def am_ps_215 : List (List Nat) := [[], [370], [228], [], [687, 688, 689, 71, 690], [], [691, 86], [], [], [], [], [], [1079, 1080, 67, 1081], [], [], [], [], [], [], [548, 83], [], [], [], [], [], [], [], [371], [], [], [1083, 1084, 1085, 74, 1086], [], [], [371], [], [], [1087, 1088, 1089, 74, 1090], []]
def am_ps_216 : List (List Nat) := [[], [], [], [], [], [], [1074, 1075, 1076, 67, 1077], [], [], [], [], [], [], [], [], [], [], []]
def am_ps_217 : List (List Nat) := [[], [], [], [1189, 1190, 79, 1191], []]
def am_ps_218 : List (List Nat) := [[], [], [], [], [], [], [1141], [], [], [], [], [], [], [1133], [], [], [], [], [1141], [], [], [], [], [], [], [], [1133], [], [], [], [], [1141], [], [], [], [], [], [], [1234, 1236, 32, 79, 1237], [], [1234, 1236, 32, 79, 1237], [], [], [], [1141], [], [], [], [], [], [], [], [], [], [1141], [], [], [], [], [], [], [1234, 1236, 32, 79, 1237], [], [1234, 1236, 32, 79, 1237], [], [], [], [1141], [], [], [], [], [], [], [], [], []]
def am_ps_219 : List (List Nat) := [[], [], [], [1223, 1225, 30, 79, 1226], [], [], [], [], [1453, 1454, 79, 1455], [], [], [], [], [1189, 1190, 79, 1191], [], [], [], [], [1192, 1194, 24, 79, 1195], [], [], [], [], [], [1456, 1458, 64, 79, 1459], [], [1141], [], [], []]
def am_ps_220 : List (List Nat) := [[], [265], [128], [], [514, 406, 407, 69, 408], [], [], [], [1103, 1088, 1089, 74, 1090], [], [], [], []]
def am_ps_221 : List (List Nat) := [[], [370], [228], [], [724, 485, 486, 71, 487], [], [691, 86], [], [], [], [], [], [1079, 1080, 67, 1081], [], [548, 83], [], [], [], [], [], [371], [], [], [1099, 1100, 1101, 74, 1102], []]
def am_ps_222 : List (List Nat) := [[], [], [], [], [], [1094, 1095, 1096, 67, 1097], [], [], [], [], [], [], [], [], [], [], []]
def am_ps_223 : List (List Nat) := [[], [], [], [1219, 1221, 29, 79, 1222], [], [], [], [], [1453, 1454, 79, 1455], [], [], [], [], [1192, 1194, 24, 79, 1195], [], [], [], [], [], [1456, 1458, 64, 79, 1459], [], [], [], [1234, 1236, 32, 79, 1237], [], [1141], [], [], [], [], [], []]
def am_ps_224 : List (List Nat) := [[], [265], [], [484, 485, 486, 71, 487], [], [], [], [], [488, 490, 11, 74, 491], [], [], [], [], [], [], [506, 508, 12, 74, 509], [], [], [], [], [506, 508, 12, 74, 509], []]
def am_ps_225 : List (List Nat) := [[], [], [], [], [], [548, 83], [], [], [], [], [], [371], [], [1112, 1113, 1114, 74, 1115], []]
def am_ps_226 : List (List Nat) := [[], [], [], [], [1107, 1108, 1109, 67, 1110], [], [], [], [], [], [], [], []]
def am_ps_227 : List (List Nat) := [[], [], [], [], [1189, 1190, 79, 1191], [], [], [], [], [1192, 1194, 24, 79, 1195], [], [], [], [], [], [], [], [], [], [], [1456, 1458, 64, 79, 1459], [], [1141], [], [], [], [], [], [], [], [], [], [1456, 1458, 64, 79, 1459], [], [1141], [], [], [], [], [], [], [], [], [], [], [], []]
def am_ps_228 : List (List Nat) := [[], [265], [], [484, 485, 486, 71, 487], [], [], [], [], [488, 490, 11, 74, 491], [], [], [], [], [], [], [506, 508, 12, 74, 509], [], [], [], [], [], [], [], []]
def am_ps_229 : List (List Nat) := [[], [823, 824, 67, 825], [], [691, 86], [], [], [], [], [], [371], [], [1123, 1124, 1125, 74, 1126], []]
def am_ps_230 : List (List Nat) := [[], [], [], [], [1119, 1120, 1121, 67, 1122], [], [], [], [], [], [], [], []]
def am_ps_231 : List (List Nat) := [[], [], [1227, 1228, 79, 1229], [], [], [], [], [1192, 1194, 24, 79, 1195], [], [], [], [], [], [], [], [], [], [], [], [], [1456, 1458, 64, 79, 1459], [], [1141], [], [], [], [], [], [], [], [], [], [], []]
def am_ps_232 : List (List Nat) := [[], [], [], [], [111], [], [], [], [111], [], [], [], [], [525, 406, 407, 69, 408], [], [], [], [], [], [], []]
def am_ps_233 : List (List Nat) := [[], [265], [], [484, 485, 486, 71, 487], [], [], [], [], [488, 490, 11, 74, 491], [], [], [], [], [], [], [506, 508, 12, 74, 509], [], [], [266], [], [265], [128], [521, 522, 523, 69, 524], [], [], [], [], [], [], []]
def am_ps_234 : List (List Nat) := [[], [371], [480, 481, 482, 74, 483], []]
def am_ps_235 : List (List Nat) := [[], [], [1456, 1458, 64, 79, 1459], [], [], [], [], [], [], [1133], [], [], [], [], [], [], [1141], [], [], [], [], [], [], [], [], [], [], [], [], []]
def am_ps_236 : List (List Nat) := [[], [], [1140], [], [], [], [], [], [], [], [1476, 1478, 65, 79, 1479], [], [], [], [], [1133], [], [], [], [], [], [], []]
def am_ps_237 : List (List Nat) := [[], [268], [502, 503, 504, 69, 505], [], [265], [125], [], [], [], [], [], [], [268], [], [265], [], [], [516, 517, 518, 71, 519], [514, 406, 407, 69, 408], [], [], [268], [], [265], [], [], [516, 517, 518, 71, 519], [514, 406, 407, 69, 408], [], [], [268], [], [], [], [], [], [], [534, 109, 70, 110], [], [], [], [535, 497, 70, 498], [], [515, 209, 210, 69, 211], [], [], [], [268], [], [514, 406, 407, 69, 408], []]
def am_ps_238 : List (List Nat) := [[], [371], [], [530, 531, 532, 74, 533], []]
def am_ps_239 : List (List Nat) := [[], [], [1140], [], [], [], [], [], [], [1141], [], [], [], [], [], [], [1133], [], [], [], [], [], [], [], [], [1141], [], [], [], [1234, 1236, 32, 79, 1237], [], [], [], [1141], [], [], [], [1234, 1236, 32, 79, 1237], [], [], [], [1141], [], [], [], [], [], [], [], [], [], [], [], [], [], [], [], [], [], [], [1141], [], [], []]
def am_ps_240 : List (List Nat) := [[88, 89, 67], [], [90, 91, 67, 92], [], [1127, 1128, 79], [], [1129, 1130, 79, 1131], [], [], [1484], [], [], [], [], [], [], [], [], [], [], [], [], [], [], [], [], [], [], [], [], [], [], [536, 537, 66, 538], [], [], [], [], [], [], [], [1178, 1179, 1180, 79, 1181], [], [], [1174, 1175, 1176, 79, 1177], [], [], [], [], [], [], [], [], [], [], [], [], [], [], [], [], [], [], [], [], [], [], [], [], [], [], [], [], [], [], [], [], [], [674, 675, 66, 676], [], [], [], [], [], [], [], [], [], [], [], [], [], [], [], [], [], [1211, 1212, 1213, 79, 1214], [], [], [1174, 1175, 1176, 79, 1177], [], [], [], [], [], [], [], [], [], [], [], [], [], [], [], [], [], [], [], [], [], [], [], [], [], [], [], [], [717, 718, 66, 719], [], [], [], [], [], [], [], [], [], [], [], [], [1238, 1239, 1240, 79, 1241], [], [], [1174, 1175, 1176, 79, 1177], [], [], [], [], [], [], [], [], [], [], [], [], [], [], [], [], [], [], [], [], [], [], [], [730, 731, 66, 732], [], [], [], [], [], [], [], [1242, 1243, 1244, 79, 1245], [], [], [1174, 1175, 1176, 79, 1177], [], [], [], [], [], [], [], [], [], [], [], [], [], [], [], [], [], [], [], [], [], [], [], [], [], [], [], [], [742, 743, 66, 744], [], [], [], [], [], [], [], [], [], [], [], [], [1250, 1251, 1252, 79, 1253], [], [], [1174, 1175, 1176, 79, 1177], [], [], [], [], [], [], [], [], [], [], [], [], [], [], [], [], [], [], [], [], [], [], [], [752, 753, 66, 754], [], [], [], [], [], [], [], [1254, 1255, 1256, 79, 1257], [], [], [1174, 1175, 1176, 79, 1177], [], [], [], [], [], [], [], [], [], [], [], [], [], [], [], [], [], [], [], [], [], [], [], [769, 770, 66, 771], [], [], [], [], [], [], [], [1266, 1267, 1268, 79, 1269], [], [], [1174, 1175, 1176, 79, 1177], [], [], [], [], [], [], [], [], [], [], [], [], [], [], [], [], [], [], [], [], [], [], [], [816, 817, 66, 818], [], [], [], [], [], [], [], [1298, 1299, 1300, 79, 1301], [], [], [1174, 1175, 1176, 79, 1177], [], [], [], [], [], [], [], [], [], [], [], [], [], [], [], [], [], [], [], [], [], [], [], [832, 833, 66, 834], [], [], [], [], [], [], [], [1302, 1303, 1304, 79, 1305], [], [], [1174, 1175, 1176, 79, 1177], [], [], [], [], [], [], [], [], [], [], [], [], [], [], [], [], [], [389, 390, 391, 67, 392], [], [1306, 1307, 1308, 79, 1309], [], [], [], [], [397, 398, 399, 67, 400], [], [1310, 1311, 1312, 79, 1313], [], [], [], [], [], [849, 850, 66, 851], [], [], [1346, 1347, 1348, 79, 1349], [], [], [1174, 1175, 1176, 79, 1177], [], [], [], [], [], [], [], [], [], [], [], [], [], [], [], [], [], [], [890, 891, 66, 892], [], [], [1350, 1351, 1352, 79, 1353], [], [], [1174, 1175, 1176, 79, 1177], [], [], [], [], [], [], [], [], [], [], [], [], [], [], [], [], [], [], [], [], [], [], [], [910, 911, 66, 912], [], [], [], [], [], [], [], [1354, 1355, 1356, 79, 1357], [], [], [1174, 1175, 1176, 79, 1177], [], [], [], [], [], [], [], [], [], [], [], [], [], [], [], [], [], [], [], [], [], [], [], [922, 923, 66, 924], [], [], [], [], [], [], [], [1361, 1362, 1363, 79, 1364], [], [], [1174, 1175, 1176, 79, 1177], [], [], [], [], [], [], [], [], [], [], [], [], [], [], [], [], [], [], [], [], [], [], [], [], [], [], [], [], [936, 937, 66, 938], [], [], [], [], [], [], [], [], [], [], [], [], [1365, 1366, 1367, 79, 1368], [], [], [1174, 1175, 1176, 79, 1177], [], [], [], [], [], [], [], [], [], [], [], [], [], [], [], [], [], [], [], [], [], [], [], [], [], [], [], [], [954, 955, 66, 956], [], [], [], [], [], [], [], [], [], [], [], [], [1377, 1378, 1379, 79, 1380], [], [], [1174, 1175, 1176, 79, 1177], [], [], [], [], [], [], [], [], [], [], [], [], [], [], [], [], [], [], [], [], [], [], [], [], [], [], [], [], [970, 971, 66, 972], [], [], [], [], [], [], [], [], [], [], [], [], [1385, 1386, 1387, 79, 1388], [], [], [1174, 1175, 1176, 79, 1177], [], [], [], [], [], [], [], [], [], [], [], [], [], [], [], [], [], [], [], [], [], [], [], [982, 983, 66, 984], [], [], [], [], [], [], [], [1393, 1394, 1395, 79, 1396], [], [], [1174, 1175, 1176, 79, 1177], [], [], [], [], [], [], [], [], [], [], [], [], [], [], [], [], [], [], [], [], [], [], [], [], [], [], [], [], [990, 991, 66, 992], [], [], [], [], [], [], [], [], [], [], [], [], [1397, 1398, 1399, 79, 1400], [], [], [1174, 1175, 1176, 79, 1177], [], [], [], [], [], [], [], [], [], [], [], [], [], [], [], [], [], [], [], [], [], [], [], [1007, 1008, 66, 1009], [], [], [], [], [], [], [], [1405, 1406, 1407, 79, 1408], [], [], [1174, 1175, 1176, 79, 1177], [], [], [], [], [], [], [], [], [], [], [], [], [], [], [], [], [], [], [], [], [], [], [], [1020, 1021, 66, 1022], [], [], [], [], [], [], [], [1413, 1414, 1415, 79, 1416], [], [], [1174, 1175, 1176, 79, 1177], [], [], [], [], [], [], [], [], [], [], [], [], [], [], [], [], [], [459, 460, 461, 67, 462], [], [], [], [1445, 1446, 1447, 79, 1448], [], [], [], [], [], [], [], [], [], [], [], [], [], [], [], [], [], [], [], [], [], [], [], [], [], [], [], [], [], [], [], [], [], [], [1071, 1072, 66, 1073], [], [], [], [], [], [], [], [], [], [], [], [], [], [], [], [], [], [1449, 1450, 1451, 79, 1452], [], [], [1174, 1175, 1176, 79, 1177], [], [], [], [], [], [], [], [], [], [], [], [], [], [], [], [], [], [], [], [], [], [], [], [], [], [], [], [], [1091, 1092, 66, 1093], [], [], [], [], [], [], [], [], [], [], [], [], [1460, 1461, 1462, 79, 1463], [], [], [1174, 1175, 1176, 79, 1177], [], [], [], [], [], [], [], [], [], [], [], [], [], [], [], [], [], [], [], [], [], [], [], [1104, 1105, 66, 1106], [], [], [], [], [], [], [], [1464, 1465, 1466, 79, 1467], [], [], [1174, 1175, 1176, 79, 1177], [], [], [], [], [], [], [], [], [], [], [], [], [], [], [], [], [], [], [], [], [], [], [], [1116, 1117, 66, 1118], [], [], [], [], [], [], [], [1468, 1469, 1470, 79, 1471], [], [], [1174, 1175, 1176, 79, 1177], [], [], [], [], [], [], [], [], [], [], [], [], [], [], [], [], [], [476, 477, 478, 67, 479], [], [1472, 1473, 1474, 79, 1475], [], [], [], [], [], [], [], [], [], [], [], [], [], [526, 527, 528, 67, 529], [], [], [], [], [], [], [], [], [], [], [1480, 1481, 1482, 79, 1483], [], [], [], [], [], [], []]
end
section
set_option maxRecDepth 100000 in
theorem am_k_12_0 : (((am_ct_12.zip am_ps_12).drop 0).take 100).all (am_row2 12) = true := by decide +kernel
set_option maxRecDepth 100000 in
theorem am_k_26_0 : (((am_ct_26.zip am_ps_26).drop 0).take 100).all (am_row2 26) = true := by decide +kernel
set_option maxRecDepth 100000 in
theorem am_k_27_0 : (((am_ct_27.zip am_ps_27).drop 0).take 100).all (am_row2 27) = true := by decide +kernel
set_option maxRecDepth 100000 in
theorem am_k_28_0 : (((am_ct_28.zip am_ps_28).drop 0).take 100).all (am_row2 28) = true := by decide +kernel
set_option maxRecDepth 100000 in
theorem am_k_29_0 : (((am_ct_29.zip am_ps_29).drop 0).take 100).all (am_row2 29) = true := by decide +kernel
set_option maxRecDepth 100000 in
theorem am_k_30_0 : (((am_ct_30.zip am_ps_30).drop 0).take 100).all (am_row2 30) = true := by decide +kernel
set_option maxRecDepth 100000 in
theorem am_k_31_0 : (((am_ct_31.zip am_ps_31).drop 0).take 100).all (am_row2 31) = true := by decide +kernel
set_option maxRecDepth 100000 in
theorem am_k_32_0 : (((am_ct_32.zip am_ps_32).drop 0).take 100).all (am_row2 32) = true := by decide +kernel
set_option maxRecDepth 100000 in
theorem am_k_33_0 : (((am_ct_33.zip am_ps_33).drop 0).take 100).all (am_row2 33) = true := by decide +kernel
set_option maxRecDepth 100000 in
theorem am_k_34_0 : (((am_ct_34.zip am_ps_34).drop 0).take 100).all (am_row2 34) = true := by decide +kernel
set_option maxRecDepth 100000 in
theorem am_k_35_0 : (((am_ct_35.zip am_ps_35).drop 0).take 100).all (am_row2 35) = true := by decide +kernel
set_option maxRecDepth 100000 in
theorem am_k_44_0 : (((am_ct_44.zip am_ps_44).drop 0).take 100).all (am_row2 44) = true := by decide +kernel
set_option maxRecDepth 100000 in
theorem am_k_45_0 : (((am_ct_45.zip am_ps_45).drop 0).take 100).all (am_row2 45) = true := by decide +kernel
set_option maxRecDepth 100000 in
theorem am_k_46_0 : (((am_ct_46.zip am_ps_46).drop 0).take 100).all (am_row2 46) = true := by decide +kernel
set_option maxRecDepth 100000 in
theorem am_k_47_0 : (((am_ct_47.zip am_ps_47).drop 0).take 100).all (am_row2 47) = true := by decide +kernel
set_option maxRecDepth 100000 in
theorem am_k_48_0 : (((am_ct_48.zip am_ps_48).drop 0).take 100).all (am_row2 48) = true := by decide +kernel
set_option maxRecDepth 100000 in
theorem am_k_49_0 : (((am_ct_49.zip am_ps_49).drop 0).take 100).all (am_row2 49) = true := by decide +kernel
set_option maxRecDepth 100000 in
theorem am_k_50_0 : (((am_ct_50.zip am_ps_50).drop 0).take 100).all (am_row2 50) = true := by decide +kernel
set_option maxRecDepth 100000 in
theorem am_k_54_0 : (((am_ct_54.zip am_ps_54).drop 0).take 100).all (am_row2 54) = true := by decide +kernel
set_option maxRecDepth 100000 in
theorem am_k_59_0 : (((am_ct_59.zip am_ps_59).drop 0).take 100).all (am_row2 59) = true := by decide +kernel
set_option maxRecDepth 100000 in
theorem am_k_60_0 : (((am_ct_60.zip am_ps_60).drop 0).take 100).all (am_row2 60) = true := by decide +kernel
set_option maxRecDepth 100000 in
theorem am_k_63_0 : (((am_ct_63.zip am_ps_63).drop 0).take 100).all (am_row2 63) = true := by decide +kernel
set_option maxRecDepth 100000 in
theorem am_k_68_0 : (((am_ct_68.zip am_ps_68).drop 0).take 100).all (am_row2 68) = true := by decide +kernel
set_option maxRecDepth 100000 in
theorem am_k_69_0 : (((am_ct_69.zip am_ps_69).drop 0).take 100).all (am_row2 69) = true := by decide +kernel
set_option maxRecDepth 100000 in
theorem am_k_70_0 : (((am_ct_70.zip am_ps_70).drop 0).take 100).all (am_row2 70) = true := by decide +kernel
set_option maxRecDepth 100000 in
theorem am_k_83_0 : (((am_ct_83.zip am_ps_83).drop 0).take 100).all (am_row2 83) = true := by decide +kernel
set_option maxRecDepth 100000 in
theorem am_k_84_0 : (((am_ct_84.zip am_ps_84).drop 0).take 100).all (am_row2 84) = true := by decide +kernel
set_option maxRecDepth 100000 in
theorem am_k_85_0 : (((am_ct_85.zip am_ps_85).drop 0).take 100).all (am_row2 85) = true := by decide +kernel
set_option maxRecDepth 100000 in
theorem am_k_86_0 : (((am_ct_86.zip am_ps_86).drop 0).take 100).all (am_row2 86) = true := by decide +kernel
set_option maxRecDepth 100000 in
theorem am_k_87_0 : (((am_ct_87.zip am_ps_87).drop 0).take 100).all (am_row2 87) = true := by decide +kernel
set_option maxRecDepth 100000 in
theorem am_k_88_0 : (((am_ct_88.zip am_ps_88).drop 0).take 100).all (am_row2 88) = true := by decide +kernel
set_option maxRecDepth 100000 in
theorem am_k_89_0 : (((am_ct_89.zip am_ps_89).drop 0).take 100).all (am_row2 89) = true := by decide +kernel
set_option maxRecDepth 100000 in
theorem am_k_90_0 : (((am_ct_90.zip am_ps_90).drop 0).take 100).all (am_row2 90) = true := by decide +kernel
set_option maxRecDepth 100000 in
theorem am_k_95_0 : (((am_ct_95.zip am_ps_95).drop 0).take 100).all (am_row2 95) = true := by decide +kernel
set_option maxRecDepth 100000 in
theorem am_k_100_0 : (((am_ct_100.zip am_ps_100).drop 0).take 100).all (am_row2 100) = true := by decide +kernel
set_option maxRecDepth 100000 in
theorem am_k_103_0 : (((am_ct_103.zip am_ps_103).drop 0).take 100).all (am_row2 103) = true := by decide +kernel
set_option maxRecDepth 100000 in
theorem am_k_119_0 : (((am_ct_119.zip am_ps_119).drop 0).take 100).all (am_row2 119) = true := by decide +kernel
set_option maxRecDepth 100000 in
theorem am_k_120_0 : (((am_ct_120.zip am_ps_120).drop 0).take 100).all (am_row2 120) = true := by decide +kernel
set_option maxRecDepth 100000 in
theorem am_k_121_0 : (((am_ct_121.zip am_ps_121).drop 0).take 100).all (am_row2 121) = true := by decide +kernel
set_option maxRecDepth 100000 in
theorem am_k_122_0 : (((am_ct_122.zip am_ps_122).drop 0).take 100).all (am_row2 122) = true := by decide +kernel
set_option maxRecDepth 100000 in
theorem am_k_123_0 : (((am_ct_123.zip am_ps_123).drop 0).take 100).all (am_row2 123) = true := by decide +kernel
set_option maxRecDepth 100000 in
theorem am_k_124_0 : (((am_ct_124.zip am_ps_124).drop 0).take 100).all (am_row2 124) = true := by decide +kernel
set_option maxRecDepth 100000 in
theorem am_k_125_0 : (((am_ct_125.zip am_ps_125).drop 0).take 100).all (am_row2 125) = true := by decide +kernel
set_option maxRecDepth 100000 in
theorem am_k_126_0 : (((am_ct_126.zip am_ps_126).drop 0).take 100).all (am_row2 126) = true := by decide +kernel
set_option maxRecDepth 100000 in
theorem am_k_127_0 : (((am_ct_127.zip am_ps_127).drop 0).take 100).all (am_row2 127) = true := by decide +kernel
set_option maxRecDepth 100000 in
theorem am_k_138_0 : (((am_ct_138.zip am_ps_138).drop 0).take 100).all (am_row2 138) = true := by decide +kernel
set_option maxRecDepth 100000 in
theorem am_k_144_0 : (((am_ct_144.zip am_ps_144).drop 0).take 100).all (am_row2 144) = true := by decide +kernel
set_option maxRecDepth 100000 in
theorem am_k_148_0 : (((am_ct_148.zip am_ps_148).drop 0).take 100).all (am_row2 148) = true := by decide +kernel
set_option maxRecDepth 100000 in
theorem am_k_149_0 : (((am_ct_149.zip am_ps_149).drop 0).take 100).all (am_row2 149) = true := by decide +kernel
set_option maxRecDepth 100000 in
theorem am_k_153_0 : (((am_ct_153.zip am_ps_153).drop 0).take 100).all (am_row2 153) = true := by decide +kernel
set_option maxRecDepth 100000 in
theorem am_k_158_0 : (((am_ct_158.zip am_ps_158).drop 0).take 100).all (am_row2 158) = true := by decide +kernel
set_option maxRecDepth 100000 in
theorem am_k_159_0 : (((am_ct_159.zip am_ps_159).drop 0).take 100).all (am_row2 159) = true := by decide +kernel
set_option maxRecDepth 100000 in
theorem am_k_160_0 : (((am_ct_160.zip am_ps_160).drop 0).take 100).all (am_row2 160) = true := by decide +kernel
set_option maxRecDepth 100000 in
theorem am_k_165_0 : (((am_ct_165.zip am_ps_165).drop 0).take 100).all (am_row2 165) = true := by decide +kernel
set_option maxRecDepth 100000 in
theorem am_k_166_0 : (((am_ct_166.zip am_ps_166).drop 0).take 100).all (am_row2 166) = true := by decide +kernel
set_option maxRecDepth 100000 in
theorem am_k_170_0 : (((am_ct_170.zip am_ps_170).drop 0).take 100).all (am_row2 170) = true := by decide +kernel
set_option maxRecDepth 100000 in
theorem am_k_171_0 : (((am_ct_171.zip am_ps_171).drop 0).take 100).all (am_row2 171) = true := by decide +kernel
set_option maxRecDepth 100000 in
theorem am_k_174_0 : (((am_ct_174.zip am_ps_174).drop 0).take 100).all (am_row2 174) = true := by decide +kernel
set_option maxRecDepth 100000 in
theorem am_k_180_0 : (((am_ct_180.zip am_ps_180).drop 0).take 100).all (am_row2 180) = true := by decide +kernel
set_option maxRecDepth 100000 in
theorem am_k_181_0 : (((am_ct_181.zip am_ps_181).drop 0).take 100).all (am_row2 181) = true := by decide +kernel
set_option maxRecDepth 100000 in
theorem am_k_185_0 : (((am_ct_185.zip am_ps_185).drop 0).take 100).all (am_row2 185) = true := by decide +kernel
set_option maxRecDepth 100000 in
theorem am_k_186_0 : (((am_ct_186.zip am_ps_186).drop 0).take 100).all (am_row2 186) = true := by decide +kernel
set_option maxRecDepth 100000 in
theorem am_k_199_0 : (((am_ct_199.zip am_ps_199).drop 0).take 100).all (am_row2 199) = true := by decide +kernel
set_option maxRecDepth 100000 in
theorem am_k_200_0 : (((am_ct_200.zip am_ps_200).drop 0).take 100).all (am_row2 200) = true := by decide +kernel
set_option maxRecDepth 100000 in
theorem am_k_201_0 : (((am_ct_201.zip am_ps_201).drop 0).take 100).all (am_row2 201) = true := by decide +kernel
set_option maxRecDepth 100000 in
theorem am_k_202_0 : (((am_ct_202.zip am_ps_202).drop 0).take 100).all (am_row2 202) = true := by decide +kernel
set_option maxRecDepth 100000 in
theorem am_k_203_0 : (((am_ct_203.zip am_ps_203).drop 0).take 100).all (am_row2 203) = true := by decide +kernel
set_option maxRecDepth 100000 in
theorem am_k_204_0 : (((am_ct_204.zip am_ps_204).drop 0).take 100).all (am_row2 204) = true := by decide +kernel
set_option maxRecDepth 100000 in
theorem am_k_205_0 : (((am_ct_205.zip am_ps_205).drop 0).take 100).all (am_row2 205) = true := by decide +kernel
set_option maxRecDepth 100000 in
theorem am_k_206_0 : (((am_ct_206.zip am_ps_206).drop 0).take 100).all (am_row2 206) = true := by decide +kernel
set_option maxRecDepth 100000 in
theorem am_k_209_0 : (((am_ct_209.zip am_ps_209).drop 0).take 100).all (am_row2 209) = true := by decide +kernel
set_option maxRecDepth 100000 in
theorem am_k_217_0 : (((am_ct_217.zip am_ps_217).drop 0).take 100).all (am_row2 217) = true := by decide +kernel
set_option maxRecDepth 100000 in
theorem am_k_218_0 : (((am_ct_218.zip am_ps_218).drop 0).take 100).all (am_row2 218) = true := by decide +kernel
set_option maxRecDepth 100000 in
theorem am_k_219_0 : (((am_ct_219.zip am_ps_219).drop 0).take 100).all (am_row2 219) = true := by decide +kernel
set_option maxRecDepth 100000 in
theorem am_k_223_0 : (((am_ct_223.zip am_ps_223).drop 0).take 100).all (am_row2 223) = true := by decide +kernel
set_option maxRecDepth 100000 in
theorem am_k_227_0 : (((am_ct_227.zip am_ps_227).drop 0).take 100).all (am_row2 227) = true := by decide +kernel
set_option maxRecDepth 100000 in
theorem am_k_231_0 : (((am_ct_231.zip am_ps_231).drop 0).take 100).all (am_row2 231) = true := by decide +kernel
set_option maxRecDepth 100000 in
theorem am_k_235_0 : (((am_ct_235.zip am_ps_235).drop 0).take 100).all (am_row2 235) = true := by decide +kernel
set_option maxRecDepth 100000 in
theorem am_k_236_0 : (((am_ct_236.zip am_ps_236).drop 0).take 100).all (am_row2 236) = true := by decide +kernel
set_option maxRecDepth 100000 in
theorem am_k_239_0 : (((am_ct_239.zip am_ps_239).drop 0).take 100).all (am_row2 239) = true := by decide +kernel
end
section
set_option maxRecDepth 100000 in
theorem am_k_0_0 : (((am_ct_0.zip am_ps_0).drop 0).take 100).all (am_row2 0) = true := by decide +kernel
set_option maxRecDepth 100000 in
theorem am_k_1_0 : (((am_ct_1.zip am_ps_1).drop 0).take 100).all (am_row2 1) = true := by decide +kernel
set_option maxRecDepth 100000 in
theorem am_k_2_0 : (((am_ct_2.zip am_ps_2).drop 0).take 100).all (am_row2 2) = true := by decide +kernel
set_option maxRecDepth 100000 in
theorem am_k_3_0 : (((am_ct_3.zip am_ps_3).drop 0).take 100).all (am_row2 3) = true := by decide +kernel
set_option maxRecDepth 100000 in
theorem am_k_4_0 : (((am_ct_4.zip am_ps_4).drop 0).take 100).all (am_row2 4) = true := by decide +kernel
set_option maxRecDepth 100000 in
theorem am_k_5_0 : (((am_ct_5.zip am_ps_5).drop 0).take 100).all (am_row2 5) = true := by decide +kernel
set_option maxRecDepth 100000 in
theorem am_k_6_0 : (((am_ct_6.zip am_ps_6).drop 0).take 100).all (am_row2 6) = true := by decide +kernel
set_option maxRecDepth 100000 in
theorem am_k_7_0 : (((am_ct_7.zip am_ps_7).drop 0).take 100).all (am_row2 7) = true := by decide +kernel
set_option maxRecDepth 100000 in
theorem am_k_8_0 : (((am_ct_8.zip am_ps_8).drop 0).take 100).all (am_row2 8) = true := by decide +kernel
set_option maxRecDepth 100000 in
theorem am_k_9_0 : (((am_ct_9.zip am_ps_9).drop 0).take 100).all (am_row2 9) = true := by decide +kernel
set_option maxRecDepth 100000 in
theorem am_k_10_0 : (((am_ct_10.zip am_ps_10).drop 0).take 100).all (am_row2 10) = true := by decide +kernel
set_option maxRecDepth 100000 in
theorem am_k_11_0 : (((am_ct_11.zip am_ps_11).drop 0).take 100).all (am_row2 11) = true := by decide +kernel
set_option maxRecDepth 100000 in
theorem am_k_13_0 : (((am_ct_13.zip am_ps_13).drop 0).take 100).all (am_row2 13) = true := by decide +kernel
set_option maxRecDepth 100000 in
theorem am_k_14_0 : (((am_ct_14.zip am_ps_14).drop 0).take 100).all (am_row2 14) = true := by decide +kernel
set_option maxRecDepth 100000 in
theorem am_k_15_0 : (((am_ct_15.zip am_ps_15).drop 0).take 100).all (am_row2 15) = true := by decide +kernel
set_option maxRecDepth 100000 in
theorem am_k_16_0 : (((am_ct_16.zip am_ps_16).drop 0).take 100).all (am_row2 16) = true := by decide +kernel
set_option maxRecDepth 100000 in
theorem am_k_17_0 : (((am_ct_17.zip am_ps_17).drop 0).take 100).all (am_row2 17) = true := by decide +kernel
set_option maxRecDepth 100000 in
theorem am_k_18_0 : (((am_ct_18.zip am_ps_18).drop 0).take 100).all (am_row2 18) = true := by decide +kernel
set_option maxRecDepth 100000 in
theorem am_k_19_0 : (((am_ct_19.zip am_ps_19).drop 0).take 100).all (am_row2 19) = true := by decide +kernel
set_option maxRecDepth 100000 in
theorem am_k_20_0 : (((am_ct_20.zip am_ps_20).drop 0).take 100).all (am_row2 20) = true := by decide +kernel
set_option maxRecDepth 100000 in
theorem am_k_21_0 : (((am_ct_21.zip am_ps_21).drop 0).take 100).all (am_row2 21) = true := by decide +kernel
set_option maxRecDepth 100000 in
theorem am_k_22_0 : (((am_ct_22.zip am_ps_22).drop 0).take 100).all (am_row2 22) = true := by decide +kernel
set_option maxRecDepth 100000 in
theorem am_k_23_0 : (((am_ct_23.zip am_ps_23).drop 0).take 100).all (am_row2 23) = true := by decide +kernel
set_option maxRecDepth 100000 in
theorem am_k_24_0 : (((am_ct_24.zip am_ps_24).drop 0).take 100).all (am_row2 24) = true := by decide +kernel
set_option maxRecDepth 100000 in
theorem am_k_25_0 : (((am_ct_25.zip am_ps_25).drop 0).take 100).all (am_row2 25) = true := by decide +kernel
set_option maxRecDepth 100000 in
theorem am_k_36_0 : (((am_ct_36.zip am_ps_36).drop 0).take 100).all (am_row2 36) = true := by decide +kernel
set_option maxRecDepth 100000 in
theorem am_k_37_0 : (((am_ct_37.zip am_ps_37).drop 0).take 100).all (am_row2 37) = true := by decide +kernel
set_option maxRecDepth 100000 in
theorem am_k_38_0 : (((am_ct_38.zip am_ps_38).drop 0).take 100).all (am_row2 38) = true := by decide +kernel
set_option maxRecDepth 100000 in
theorem am_k_39_0 : (((am_ct_39.zip am_ps_39).drop 0).take 100).all (am_row2 39) = true := by decide +kernel
set_option maxRecDepth 100000 in
theorem am_k_40_0 : (((am_ct_40.zip am_ps_40).drop 0).take 100).all (am_row2 40) = true := by decide +kernel
set_option maxRecDepth 100000 in
theorem am_k_41_0 : (((am_ct_41.zip am_ps_41).drop 0).take 100).all (am_row2 41) = true := by decide +kernel
set_option maxRecDepth 100000 in
theorem am_k_42_0 : (((am_ct_42.zip am_ps_42).drop 0).take 100).all (am_row2 42) = true := by decide +kernel
set_option maxRecDepth 100000 in
theorem am_k_43_0 : (((am_ct_43.zip am_ps_43).drop 0).take 100).all (am_row2 43) = true := by decide +kernel
set_option maxRecDepth 100000 in
theorem am_k_51_0 : (((am_ct_51.zip am_ps_51).drop 0).take 100).all (am_row2 51) = true := by decide +kernel
set_option maxRecDepth 100000 in
theorem am_k_52_0 : (((am_ct_52.zip am_ps_52).drop 0).take 100).all (am_row2 52) = true := by decide +kernel
set_option maxRecDepth 100000 in
theorem am_k_53_0 : (((am_ct_53.zip am_ps_53).drop 0).take 100).all (am_row2 53) = true := by decide +kernel
set_option maxRecDepth 100000 in
theorem am_k_55_0 : (((am_ct_55.zip am_ps_55).drop 0).take 100).all (am_row2 55) = true := by decide +kernel
set_option maxRecDepth 100000 in
theorem am_k_56_0 : (((am_ct_56.zip am_ps_56).drop 0).take 100).all (am_row2 56) = true := by decide +kernel
set_option maxRecDepth 100000 in
theorem am_k_57_0 : (((am_ct_57.zip am_ps_57).drop 0).take 100).all (am_row2 57) = true := by decide +kernel
set_option maxRecDepth 100000 in
theorem am_k_58_0 : (((am_ct_58.zip am_ps_58).drop 0).take 100).all (am_row2 58) = true := by decide +kernel
set_option maxRecDepth 100000 in
theorem am_k_61_0 : (((am_ct_61.zip am_ps_61).drop 0).take 100).all (am_row2 61) = true := by decide +kernel
set_option maxRecDepth 100000 in
theorem am_k_62_0 : (((am_ct_62.zip am_ps_62).drop 0).take 100).all (am_row2 62) = true := by decide +kernel
set_option maxRecDepth 100000 in
theorem am_k_64_0 : (((am_ct_64.zip am_ps_64).drop 0).take 100).all (am_row2 64) = true := by decide +kernel
set_option maxRecDepth 100000 in
theorem am_k_65_0 : (((am_ct_65.zip am_ps_65).drop 0).take 100).all (am_row2 65) = true := by decide +kernel
set_option maxRecDepth 100000 in
theorem am_k_66_0 : (((am_ct_66.zip am_ps_66).drop 0).take 100).all (am_row2 66) = true := by decide +kernel
set_option maxRecDepth 100000 in
theorem am_k_67_0 : (((am_ct_67.zip am_ps_67).drop 0).take 100).all (am_row2 67) = true := by decide +kernel
set_option maxRecDepth 100000 in
theorem am_k_71_0 : (((am_ct_71.zip am_ps_71).drop 0).take 100).all (am_row2 71) = true := by decide +kernel
set_option maxRecDepth 100000 in
theorem am_k_72_0 : (((am_ct_72.zip am_ps_72).drop 0).take 100).all (am_row2 72) = true := by decide +kernel
set_option maxRecDepth 100000 in
theorem am_k_73_0 : (((am_ct_73.zip am_ps_73).drop 0).take 100).all (am_row2 73) = true := by decide +kernel
set_option maxRecDepth 100000 in
theorem am_k_74_0 : (((am_ct_74.zip am_ps_74).drop 0).take 100).all (am_row2 74) = true := by decide +kernel
set_option maxRecDepth 100000 in
theorem am_k_75_0 : (((am_ct_75.zip am_ps_75).drop 0).take 100).all (am_row2 75) = true := by decide +kernel
set_option maxRecDepth 100000 in
theorem am_k_76_0 : (((am_ct_76.zip am_ps_76).drop 0).take 100).all (am_row2 76) = true := by decide +kernel
set_option maxRecDepth 100000 in
theorem am_k_77_0 : (((am_ct_77.zip am_ps_77).drop 0).take 100).all (am_row2 77) = true := by decide +kernel
set_option maxRecDepth 100000 in
theorem am_k_78_0 : (((am_ct_78.zip am_ps_78).drop 0).take 100).all (am_row2 78) = true := by decide +kernel
set_option maxRecDepth 100000 in
theorem am_k_79_0 : (((am_ct_79.zip am_ps_79).drop 0).take 100).all (am_row2 79) = true := by decide +kernel
set_option maxRecDepth 100000 in
theorem am_k_80_0 : (((am_ct_80.zip am_ps_80).drop 0).take 100).all (am_row2 80) = true := by decide +kernel
set_option maxRecDepth 100000 in
theorem am_k_81_0 : (((am_ct_81.zip am_ps_81).drop 0).take 100).all (am_row2 81) = true := by decide +kernel
set_option maxRecDepth 100000 in
theorem am_k_82_0 : (((am_ct_82.zip am_ps_82).drop 0).take 100).all (am_row2 82) = true := by decide +kernel
set_option maxRecDepth 100000 in
theorem am_k_91_0 : (((am_ct_91.zip am_ps_91).drop 0).take 100).all (am_row2 91) = true := by decide +kernel
set_option maxRecDepth 100000 in
theorem am_k_92_0 : (((am_ct_92.zip am_ps_92).drop 0).take 100).all (am_row2 92) = true := by decide +kernel
set_option maxRecDepth 100000 in
theorem am_k_93_0 : (((am_ct_93.zip am_ps_93).drop 0).take 100).all (am_row2 93) = true := by decide +kernel
set_option maxRecDepth 100000 in
theorem am_k_94_0 : (((am_ct_94.zip am_ps_94).drop 0).take 100).all (am_row2 94) = true := by decide +kernel
set_option maxRecDepth 100000 in
theorem am_k_96_0 : (((am_ct_96.zip am_ps_96).drop 0).take 100).all (am_row2 96) = true := by decide +kernel
set_option maxRecDepth 100000 in
theorem am_k_97_0 : (((am_ct_97.zip am_ps_97).drop 0).take 100).all (am_row2 97) = true := by decide +kernel
set_option maxRecDepth 100000 in
theorem am_k_98_0 : (((am_ct_98.zip am_ps_98).drop 0).take 100).all (am_row2 98) = true := by decide +kernel
set_option maxRecDepth 100000 in
theorem am_k_99_0 : (((am_ct_99.zip am_ps_99).drop 0).take 100).all (am_row2 99) = true := by decide +kernel
set_option maxRecDepth 100000 in
theorem am_k_101_0 : (((am_ct_101.zip am_ps_101).drop 0).take 100).all (am_row2 101) = true := by decide +kernel
set_option maxRecDepth 100000 in
theorem am_k_102_0 : (((am_ct_102.zip am_ps_102).drop 0).take 100).all (am_row2 102) = true := by decide +kernel
set_option maxRecDepth 100000 in
theorem am_k_104_0 : (((am_ct_104.zip am_ps_104).drop 0).take 100).all (am_row2 104) = true := by decide +kernel
set_option maxRecDepth 100000 in
theorem am_k_105_0 : (((am_ct_105.zip am_ps_105).drop 0).take 100).all (am_row2 105) = true := by decide +kernel
set_option maxRecDepth 100000 in
theorem am_k_106_0 : (((am_ct_106.zip am_ps_106).drop 0).take 100).all (am_row2 106) = true := by decide +kernel
set_option maxRecDepth 100000 in
theorem am_k_107_0 : (((am_ct_107.zip am_ps_107).drop 0).take 100).all (am_row2 107) = true := by decide +kernel
set_option maxRecDepth 100000 in
theorem am_k_108_0 : (((am_ct_108.zip am_ps_108).drop 0).take 100).all (am_row2 108) = true := by decide +kernel
set_option maxRecDepth 100000 in
theorem am_k_109_0 : (((am_ct_109.zip am_ps_109).drop 0).take 100).all (am_row2 109) = true := by decide +kernel
set_option maxRecDepth 100000 in
theorem am_k_110_0 : (((am_ct_110.zip am_ps_110).drop 0).take 100).all (am_row2 110) = true := by decide +kernel
set_option maxRecDepth 100000 in
theorem am_k_111_0 : (((am_ct_111.zip am_ps_111).drop 0).take 100).all (am_row2 111) = true := by decide +kernel
set_option maxRecDepth 100000 in
theorem am_k_112_0 : (((am_ct_112.zip am_ps_112).drop 0).take 100).all (am_row2 112) = true := by decide +kernel
set_option maxRecDepth 100000 in
theorem am_k_113_0 : (((am_ct_113.zip am_ps_113).drop 0).take 100).all (am_row2 113) = true := by decide +kernel
set_option maxRecDepth 100000 in
theorem am_k_114_0 : (((am_ct_114.zip am_ps_114).drop 0).take 100).all (am_row2 114) = true := by decide +kernel
set_option maxRecDepth 100000 in
theorem am_k_115_0 : (((am_ct_115.zip am_ps_115).drop 0).take 100).all (am_row2 115) = true := by decide +kernel
set_option maxRecDepth 100000 in
theorem am_k_116_0 : (((am_ct_116.zip am_ps_116).drop 0).take 100).all (am_row2 116) = true := by decide +kernel
set_option maxRecDepth 100000 in
theorem am_k_117_0 : (((am_ct_117.zip am_ps_117).drop 0).take 100).all (am_row2 117) = true := by decide +kernel
set_option maxRecDepth 100000 in
theorem am_k_118_0 : (((am_ct_118.zip am_ps_118).drop 0).take 100).all (am_row2 118) = true := by decide +kernel
set_option maxRecDepth 100000 in
theorem am_k_128_0 : (((am_ct_128.zip am_ps_128).drop 0).take 100).all (am_row2 128) = true := by decide +kernel
set_option maxRecDepth 100000 in
theorem am_k_129_0 : (((am_ct_129.zip am_ps_129).drop 0).take 100).all (am_row2 129) = true := by decide +kernel
set_option maxRecDepth 100000 in
theorem am_k_130_0 : (((am_ct_130.zip am_ps_130).drop 0).take 100).all (am_row2 130) = true := by decide +kernel
set_option maxRecDepth 100000 in
theorem am_k_131_0 : (((am_ct_131.zip am_ps_131).drop 0).take 100).all (am_row2 131) = true := by decide +kernel
set_option maxRecDepth 100000 in
theorem am_k_132_0 : (((am_ct_132.zip am_ps_132).drop 0).take 100).all (am_row2 132) = true := by decide +kernel
set_option maxRecDepth 100000 in
theorem am_k_133_0 : (((am_ct_133.zip am_ps_133).drop 0).take 100).all (am_row2 133) = true := by decide +kernel
set_option maxRecDepth 100000 in
theorem am_k_134_0 : (((am_ct_134.zip am_ps_134).drop 0).take 100).all (am_row2 134) = true := by decide +kernel
set_option maxRecDepth 100000 in
theorem am_k_135_0 : (((am_ct_135.zip am_ps_135).drop 0).take 100).all (am_row2 135) = true := by decide +kernel
set_option maxRecDepth 100000 in
theorem am_k_136_0 : (((am_ct_136.zip am_ps_136).drop 0).take 100).all (am_row2 136) = true := by decide +kernel
set_option maxRecDepth 100000 in
theorem am_k_137_0 : (((am_ct_137.zip am_ps_137).drop 0).take 100).all (am_row2 137) = true := by decide +kernel
set_option maxRecDepth 100000 in
theorem am_k_139_0 : (((am_ct_139.zip am_ps_139).drop 0).take 100).all (am_row2 139) = true := by decide +kernel
set_option maxRecDepth 100000 in
theorem am_k_140_0 : (((am_ct_140.zip am_ps_140).drop 0).take 100).all (am_row2 140) = true := by decide +kernel
set_option maxRecDepth 100000 in
theorem am_k_141_0 : (((am_ct_141.zip am_ps_141).drop 0).take 100).all (am_row2 141) = true := by decide +kernel
set_option maxRecDepth 100000 in
theorem am_k_142_0 : (((am_ct_142.zip am_ps_142).drop 0).take 100).all (am_row2 142) = true := by decide +kernel
set_option maxRecDepth 100000 in
theorem am_k_143_0 : (((am_ct_143.zip am_ps_143).drop 0).take 100).all (am_row2 143) = true := by decide +kernel
set_option maxRecDepth 100000 in
theorem am_k_145_0 : (((am_ct_145.zip am_ps_145).drop 0).take 100).all (am_row2 145) = true := by decide +kernel
set_option maxRecDepth 100000 in
theorem am_k_146_0 : (((am_ct_146.zip am_ps_146).drop 0).take 100).all (am_row2 146) = true := by decide +kernel
set_option maxRecDepth 100000 in
theorem am_k_147_0 : (((am_ct_147.zip am_ps_147).drop 0).take 100).all (am_row2 147) = true := by decide +kernel
set_option maxRecDepth 100000 in
theorem am_k_150_0 : (((am_ct_150.zip am_ps_150).drop 0).take 100).all (am_row2 150) = true := by decide +kernel
set_option maxRecDepth 100000 in
theorem am_k_151_0 : (((am_ct_151.zip am_ps_151).drop 0).take 100).all (am_row2 151) = true := by decide +kernel
set_option maxRecDepth 100000 in
theorem am_k_152_0 : (((am_ct_152.zip am_ps_152).drop 0).take 100).all (am_row2 152) = true := by decide +kernel
set_option maxRecDepth 100000 in
theorem am_k_154_0 : (((am_ct_154.zip am_ps_154).drop 0).take 100).all (am_row2 154) = true := by decide +kernel
set_option maxRecDepth 100000 in
theorem am_k_155_0 : (((am_ct_155.zip am_ps_155).drop 0).take 100).all (am_row2 155) = true := by decide +kernel
set_option maxRecDepth 100000 in
theorem am_k_156_0 : (((am_ct_156.zip am_ps_156).drop 0).take 100).all (am_row2 156) = true := by decide +kernel
set_option maxRecDepth 100000 in
theorem am_k_157_0 : (((am_ct_157.zip am_ps_157).drop 0).take 100).all (am_row2 157) = true := by decide +kernel
set_option maxRecDepth 100000 in
theorem am_k_161_0 : (((am_ct_161.zip am_ps_161).drop 0).take 100).all (am_row2 161) = true := by decide +kernel
set_option maxRecDepth 100000 in
theorem am_k_162_0 : (((am_ct_162.zip am_ps_162).drop 0).take 100).all (am_row2 162) = true := by decide +kernel
set_option maxRecDepth 100000 in
theorem am_k_163_0 : (((am_ct_163.zip am_ps_163).drop 0).take 100).all (am_row2 163) = true := by decide +kernel
set_option maxRecDepth 100000 in
theorem am_k_164_0 : (((am_ct_164.zip am_ps_164).drop 0).take 100).all (am_row2 164) = true := by decide +kernel
set_option maxRecDepth 100000 in
theorem am_k_167_0 : (((am_ct_167.zip am_ps_167).drop 0).take 100).all (am_row2 167) = true := by decide +kernel
set_option maxRecDepth 100000 in
theorem am_k_168_0 : (((am_ct_168.zip am_ps_168).drop 0).take 100).all (am_row2 168) = true := by decide +kernel
set_option maxRecDepth 100000 in
theorem am_k_169_0 : (((am_ct_169.zip am_ps_169).drop 0).take 100).all (am_row2 169) = true := by decide +kernel
set_option maxRecDepth 100000 in
theorem am_k_172_0 : (((am_ct_172.zip am_ps_172).drop 0).take 100).all (am_row2 172) = true := by decide +kernel
set_option maxRecDepth 100000 in
theorem am_k_173_0 : (((am_ct_173.zip am_ps_173).drop 0).take 100).all (am_row2 173) = true := by decide +kernel
set_option maxRecDepth 100000 in
theorem am_k_175_0 : (((am_ct_175.zip am_ps_175).drop 0).take 100).all (am_row2 175) = true := by decide +kernel
set_option maxRecDepth 100000 in
theorem am_k_176_0 : (((am_ct_176.zip am_ps_176).drop 0).take 100).all (am_row2 176) = true := by decide +kernel
set_option maxRecDepth 100000 in
theorem am_k_177_0 : (((am_ct_177.zip am_ps_177).drop 0).take 100).all (am_row2 177) = true := by decide +kernel
set_option maxRecDepth 100000 in
theorem am_k_178_0 : (((am_ct_178.zip am_ps_178).drop 0).take 100).all (am_row2 178) = true := by decide +kernel
set_option maxRecDepth 100000 in
theorem am_k_179_0 : (((am_ct_179.zip am_ps_179).drop 0).take 100).all (am_row2 179) = true := by decide +kernel
set_option maxRecDepth 100000 in
theorem am_k_182_0 : (((am_ct_182.zip am_ps_182).drop 0).take 100).all (am_row2 182) = true := by decide +kernel
set_option maxRecDepth 100000 in
theorem am_k_183_0 : (((am_ct_183.zip am_ps_183).drop 0).take 100).all (am_row2 183) = true := by decide +kernel
set_option maxRecDepth 100000 in
theorem am_k_184_0 : (((am_ct_184.zip am_ps_184).drop 0).take 100).all (am_row2 184) = true := by decide +kernel
set_option maxRecDepth 100000 in
theorem am_k_187_0 : (((am_ct_187.zip am_ps_187).drop 0).take 100).all (am_row2 187) = true := by decide +kernel
set_option maxRecDepth 100000 in
theorem am_k_188_0 : (((am_ct_188.zip am_ps_188).drop 0).take 100).all (am_row2 188) = true := by decide +kernel
set_option maxRecDepth 100000 in
theorem am_k_189_0 : (((am_ct_189.zip am_ps_189).drop 0).take 100).all (am_row2 189) = true := by decide +kernel
set_option maxRecDepth 100000 in
theorem am_k_190_0 : (((am_ct_190.zip am_ps_190).drop 0).take 100).all (am_row2 190) = true := by decide +kernel
set_option maxRecDepth 100000 in
theorem am_k_191_0 : (((am_ct_191.zip am_ps_191).drop 0).take 100).all (am_row2 191) = true := by decide +kernel
set_option maxRecDepth 100000 in
theorem am_k_192_0 : (((am_ct_192.zip am_ps_192).drop 0).take 100).all (am_row2 192) = true := by decide +kernel
set_option maxRecDepth 100000 in
theorem am_k_193_0 : (((am_ct_193.zip am_ps_193).drop 0).take 100).all (am_row2 193) = true := by decide +kernel
set_option maxRecDepth 100000 in
theorem am_k_194_0 : (((am_ct_194.zip am_ps_194).drop 0).take 100).all (am_row2 194) = true := by decide +kernel
set_option maxRecDepth 100000 in
theorem am_k_195_0 : (((am_ct_195.zip am_ps_195).drop 0).take 100).all (am_row2 195) = true := by decide +kernel
set_option maxRecDepth 100000 in
theorem am_k_196_0 : (((am_ct_196.zip am_ps_196).drop 0).take 100).all (am_row2 196) = true := by decide +kernel
set_option maxRecDepth 100000 in
theorem am_k_197_0 : (((am_ct_197.zip am_ps_197).drop 0).take 100).all (am_row2 197) = true := by decide +kernel
set_option maxRecDepth 100000 in
theorem am_k_198_0 : (((am_ct_198.zip am_ps_198).drop 0).take 100).all (am_row2 198) = true := by decide +kernel
set_option maxRecDepth 100000 in
theorem am_k_207_0 : (((am_ct_207.zip am_ps_207).drop 0).take 100).all (am_row2 207) = true := by decide +kernel
set_option maxRecDepth 100000 in
theorem am_k_208_0 : (((am_ct_208.zip am_ps_208).drop 0).take 100).all (am_row2 208) = true := by decide +kernel
set_option maxRecDepth 100000 in
theorem am_k_210_0 : (((am_ct_210.zip am_ps_210).drop 0).take 100).all (am_row2 210) = true := by decide +kernel
set_option maxRecDepth 100000 in
theorem am_k_211_0 : (((am_ct_211.zip am_ps_211).drop 0).take 100).all (am_row2 211) = true := by decide +kernel
set_option maxRecDepth 100000 in
theorem am_k_212_0 : (((am_ct_212.zip am_ps_212).drop 0).take 100).all (am_row2 212) = true := by decide +kernel
set_option maxRecDepth 100000 in
theorem am_k_213_0 : (((am_ct_213.zip am_ps_213).drop 0).take 100).all (am_row2 213) = true := by decide +kernel
set_option maxRecDepth 100000 in
theorem am_k_214_0 : (((am_ct_214.zip am_ps_214).drop 0).take 100).all (am_row2 214) = true := by decide +kernel
set_option maxRecDepth 100000 in
theorem am_k_215_0 : (((am_ct_215.zip am_ps_215).drop 0).take 100).all (am_row2 215) = true := by decide +kernel
set_option maxRecDepth 100000 in
theorem am_k_216_0 : (((am_ct_216.zip am_ps_216).drop 0).take 100).all (am_row2 216) = true := by decide +kernel
set_option maxRecDepth 100000 in
theorem am_k_220_0 : (((am_ct_220.zip am_ps_220).drop 0).take 100).all (am_row2 220) = true := by decide +kernel
set_option maxRecDepth 100000 in
theorem am_k_221_0 : (((am_ct_221.zip am_ps_221).drop 0).take 100).all (am_row2 221) = true := by decide +kernel
set_option maxRecDepth 100000 in
theorem am_k_222_0 : (((am_ct_222.zip am_ps_222).drop 0).take 100).all (am_row2 222) = true := by decide +kernel
set_option maxRecDepth 100000 in
theorem am_k_224_0 : (((am_ct_224.zip am_ps_224).drop 0).take 100).all (am_row2 224) = true := by decide +kernel
set_option maxRecDepth 100000 in
theorem am_k_225_0 : (((am_ct_225.zip am_ps_225).drop 0).take 100).all (am_row2 225) = true := by decide +kernel
set_option maxRecDepth 100000 in
theorem am_k_226_0 : (((am_ct_226.zip am_ps_226).drop 0).take 100).all (am_row2 226) = true := by decide +kernel
set_option maxRecDepth 100000 in
theorem am_k_228_0 : (((am_ct_228.zip am_ps_228).drop 0).take 100).all (am_row2 228) = true := by decide +kernel
set_option maxRecDepth 100000 in
theorem am_k_229_0 : (((am_ct_229.zip am_ps_229).drop 0).take 100).all (am_row2 229) = true := by decide +kernel
set_option maxRecDepth 100000 in
theorem am_k_230_0 : (((am_ct_230.zip am_ps_230).drop 0).take 100).all (am_row2 230) = true := by decide +kernel
set_option maxRecDepth 100000 in
theorem am_k_232_0 : (((am_ct_232.zip am_ps_232).drop 0).take 100).all (am_row2 232) = true := by decide +kernel
set_option maxRecDepth 100000 in
theorem am_k_233_0 : (((am_ct_233.zip am_ps_233).drop 0).take 100).all (am_row2 233) = true := by decide +kernel
set_option maxRecDepth 100000 in
theorem am_k_234_0 : (((am_ct_234.zip am_ps_234).drop 0).take 100).all (am_row2 234) = true := by decide +kernel
set_option maxRecDepth 100000 in
theorem am_k_237_0 : (((am_ct_237.zip am_ps_237).drop 0).take 100).all (am_row2 237) = true := by decide +kernel
set_option maxRecDepth 100000 in
theorem am_k_238_0 : (((am_ct_238.zip am_ps_238).drop 0).take 100).all (am_row2 238) = true := by decide +kernel
end
section
set_option maxRecDepth 100000 in
theorem am_k_240_0 : (((am_ct_240.zip am_ps_240).drop 0).take 100).all (am_row2 240) = true := by decide +kernel
set_option maxRecDepth 100000 in
theorem am_k_240_100 : (((am_ct_240.zip am_ps_240).drop 100).take 100).all (am_row2 240) = true := by decide +kernel
set_option maxRecDepth 100000 in
theorem am_k_240_200 : (((am_ct_240.zip am_ps_240).drop 200).take 100).all (am_row2 240) = true := by decide +kernel
set_option maxRecDepth 100000 in
theorem am_k_240_300 : (((am_ct_240.zip am_ps_240).drop 300).take 100).all (am_row2 240) = true := by decide +kernel
set_option maxRecDepth 100000 in
theorem am_k_240_400 : (((am_ct_240.zip am_ps_240).drop 400).take 100).all (am_row2 240) = true := by decide +kernel
set_option maxRecDepth 100000 in
theorem am_k_240_500 : (((am_ct_240.zip am_ps_240).drop 500).take 100).all (am_row2 240) = true := by decide +kernel
set_option maxRecDepth 100000 in
theorem am_k_240_600 : (((am_ct_240.zip am_ps_240).drop 600).take 100).all (am_row2 240) = true := by decide +kernel
set_option maxRecDepth 100000 in
theorem am_k_240_700 : (((am_ct_240.zip am_ps_240).drop 700).take 100).all (am_row2 240) = true := by decide +kernel
set_option maxRecDepth 100000 in
theorem am_k_240_800 : (((am_ct_240.zip am_ps_240).drop 800).take 100).all (am_row2 240) = true := by decide +kernel
set_option maxRecDepth 100000 in
theorem am_k_240_900 : (((am_ct_240.zip am_ps_240).drop 900).take 100).all (am_row2 240) = true := by decide +kernel
set_option maxRecDepth 100000 in
theorem am_k_240_1000 : (((am_ct_240.zip am_ps_240).drop 1000).take 100).all (am_row2 240) = true := by decide +kernel
end
section
/-! am_run IS THE MACHINE'S: one instruction, group by group -/
def am_ad (base b : Nat) (k : Nat) : Nat := if k = am_scr then b else base + k
def am_tr (base b : Nat) : Value → Value
  | .ref k => .ref (am_ad base b k)
  | v => v
theorem am_tr_cat (base b : Nat) (v : Value) : (am_tr base b v).category = v.category := by cases v <;> rfl
theorem am_words_map (base b : Nat) (S : List Value) : ((S.map (am_tr base b)).map fun v => v.category).sum = am_words S := by
  unfold am_words
  rw [List.map_map]
  congr 2
  funext v
  exact am_tr_cat base b v
/-- the known locals, as the kit lists them -/
def am_lv (base b : Nat) (L : am_LL) : List (Nat × Value) := (List.range L.length).filterMap (fun j => (L.getD j none).map (fun v => (j, am_tr base b v)))
theorem am_lv_mem {base b : Nat} {L : am_LL} {q : Nat × Value} : q ∈ am_lv base b L ↔ ∃ v, L[q.1]? = some (some v) ∧ q.2 = am_tr base b v := by
  unfold am_lv
  rw [List.mem_filterMap]
  constructor
  · rintro ⟨j, hj, h⟩
    rw [List.mem_range] at hj
    rw [List.getD_eq_getElem?_getD, List.getElem?_eq_getElem hj] at h
    cases hv : L[j] with
    | none => rw [hv] at h; simp at h
    | some v =>
      rw [hv] at h
      simp at h
      subst h
      exact ⟨v, by rw [List.getElem?_eq_getElem hj, hv], rfl⟩
  · rintro ⟨v, h1, h2⟩
    have hl : q.1 < L.length := (List.getElem?_eq_some_iff.mp h1).1
    refine ⟨q.1, List.mem_range.mpr hl, ?_⟩
    rw [List.getD_eq_getElem?_getD, h1]
    simp [← h2]
theorem am_lv_of {base b j : Nat} {L : am_LL} {v : Value} (h : L[j]? = some (some v)) : (j, am_tr base b v) ∈ am_lv base b L := am_lv_mem.mpr ⟨v, h, rfl⟩
def am_lh (ls : Array Slot) (nL base b : Nat) (L : am_LL) : Prop := L.length = nL ∧ lv_has ls nL (am_lv base b L)
theorem am_lh_at {ls : Array Slot} {nL base b : Nat} {L : am_LL} (h : am_lh ls nL base b L) {j : Nat} {v : Value} (hv : L[j]? = some (some v)) : ls[j]? = some (.val (am_tr base b v)) := h.2.2.2 (j, am_tr base b v) (am_lv_mem.mpr ⟨v, hv, rfl⟩)
theorem am_clear_spec {L : am_LL} {i j : Nat} {w : Value} (h : am_clear L i = true) (hj : L[j]? = some (some w)) (hi : j + 1 = i) : w.category = 1 := by
  subst hi
  unfold am_clear at h
  simp only [List.getD_eq_getElem?_getD, hj] at h
  simpa using h
theorem am_lh_weak {ls : Array Slot} {nL base b : Nat} {L L' : am_LL} (h : am_lh ls nL base b L) (hl : L'.length = nL) (hs : ∀ (j : Nat) (v : Value), L'[j]? = some (some v) → L[j]? = some (some v)) : am_lh ls nL base b L' := by
  refine ⟨hl, h.2.1, h.2.2.1, fun q hq => ?_⟩
  obtain ⟨v, h1, h2⟩ := am_lv_mem.mp hq
  exact h.2.2.2 q (am_lv_mem.mpr ⟨v, hs _ _ h1, h2⟩)
theorem am_lh_st1 {ls ls' : Array Slot} {nL base b i : Nat} {L : am_LL} {v : Value} (hL : am_lh ls nL base b L) (hc : am_clear L i = true) (hi : i < nL)
    (h : lv_has ls' nL ((i, am_tr base b v) :: (am_lv base b L).filter (fun q => !(q.1 == i) && !(q.1 + 1 == i && q.2.category == 2)))) : am_lh ls' nL base b (L.set i (some v)) := by
  refine ⟨by rw [List.length_set]; exact hL.1, h.1, h.2.1, fun q hq => ?_⟩
  obtain ⟨w, h1, h2⟩ := am_lv_mem.mp hq
  by_cases hqi : q.1 = i
  · have h3 : (L.set i (some v))[q.1]? = some (some v) := by rw [hqi, List.getElem?_set_self (by rw [hL.1]; exact hi)]
    rw [h3] at h1
    cases h1
    refine h.2.2 q (List.mem_cons.mpr (Or.inl ?_))
    rw [← hqi, ← h2]
  · rw [List.getElem?_set_ne (fun e => hqi e.symm)] at h1
    refine h.2.2 q (List.mem_cons.mpr (Or.inr (List.mem_filter.mpr ⟨am_lv_mem.mpr ⟨w, h1, h2⟩, ?_⟩)))
    have hcat : q.1 + 1 = i → q.2.category = 1 := fun e => by rw [h2, am_tr_cat]; exact am_clear_spec hc h1 e
    simp only [Bool.and_eq_true, Bool.not_eq_true', beq_eq_false_iff_ne, ne_eq, Bool.and_eq_false_iff]
    refine ⟨hqi, ?_⟩
    by_cases e : q.1 + 1 = i
    · right
      rw [hcat e]; decide
    · left; exact e
theorem am_lh_st2 {ls ls' : Array Slot} {nL base b i : Nat} {L : am_LL} {v : Value} (hL : am_lh ls nL base b L) (hc : am_clear L i = true) (hi : i + 1 < nL)
    (h : lv_has ls' nL ((i, am_tr base b v) :: (am_lv base b L).filter (fun q => !(q.1 == i) && (!(q.1 == i + 1) && !(q.1 + 1 == i && q.2.category == 2))))) : am_lh ls' nL base b ((L.set i (some v)).set (i + 1) none) := by
  refine ⟨by rw [List.length_set, List.length_set]; exact hL.1, h.1, h.2.1, fun q hq => ?_⟩
  obtain ⟨w, h1, h2⟩ := am_lv_mem.mp hq
  by_cases hq1 : q.1 = i + 1
  · rw [hq1, List.getElem?_set_self (by rw [List.length_set, hL.1]; exact hi)] at h1
    cases h1
  · rw [List.getElem?_set_ne (fun e => hq1 e.symm)] at h1
    by_cases hqi : q.1 = i
    · have h3 : (L.set i (some v))[q.1]? = some (some v) := by rw [hqi, List.getElem?_set_self (by rw [hL.1]; omega)]
      rw [h3] at h1
      cases h1
      refine h.2.2 q (List.mem_cons.mpr (Or.inl ?_))
      rw [← hqi, ← h2]
    · rw [List.getElem?_set_ne (fun e => hqi e.symm)] at h1
      refine h.2.2 q (List.mem_cons.mpr (Or.inr (List.mem_filter.mpr ⟨am_lv_mem.mpr ⟨w, h1, h2⟩, ?_⟩)))
      have hcat : q.1 + 1 = i → q.2.category = 1 := fun e => by rw [h2, am_tr_cat]; exact am_clear_spec hc h1 e
      simp only [Bool.and_eq_true, Bool.not_eq_true', beq_eq_false_iff_ne, ne_eq, Bool.and_eq_false_iff]
      refine ⟨hqi, hq1, ?_⟩
      by_cases e : q.1 + 1 = i
      · right
        rw [hcat e]; decide
      · left; exact e
section AMS
variable {p : Program} {l : Launch} {e : Env} {R : Room} {s : State} {m : MethodId} {args : Array Value} {below : List Frame} {meth : Method} {c : Code} {H : Heap} {locs : List Loc} {cells slots : Nat} {Q : State → Prop}
variable {pc len a b0 i base b : Nat} {ls : Array Slot} {ins : Instr}
set_option maxHeartbeats 2000000 in
theorem am_sim_stk (hx : p.tables.exec = Jvm.exec) (hb : c.code = am_b i) {S S' : List Value} (hd : decode (am_b i) pc = .ok (ins, len)) (hc : am_chk i (pc, ins, len, 0, a, b0) = true) (h : am_stk ins S = some S')
    (k : W p l e R s m args below meth c H locs cells slots Q (F0 m (pc + len) ls (S'.map (am_tr base b)))) : W p l e R s m args below meth c H locs cells slots Q (F0 m pc ls (S.map (am_tr base b))) := by
  unfold am_stk at h
  split at h
  · cases h; obtain rfl : len = 1 := by simpa [am_chk] using hc
    exact lv_iconst hx hb hd rfl k
  · cases h; obtain rfl : len = 2 := by simpa [am_chk] using hc
    exact lv_bipush hx hb hd rfl k
  · cases h; obtain rfl : len = 3 := by simpa [am_chk] using hc
    exact lv_sipush hx hb hd rfl k
  · split at h
    next h0 =>
      cases h; obtain rfl : len = 1 := by simpa [am_chk] using hc
      subst h0
      exact lv_fconst0 hx hb hd k
    next => cases h
  · cases h; obtain rfl : len = 1 := by simpa [am_chk] using hc
    exact lv_iadd hx hb hd k
  · cases h; obtain rfl : len = 1 := by simpa [am_chk] using hc
    exact lv_isub hx hb hd k
  · cases h; obtain rfl : len = 1 := by simpa [am_chk] using hc
    exact lv_imul hx hb hd k
  · split at h
    next => cases h
    next h0 =>
      cases h; obtain rfl : len = 1 := by simpa [am_chk] using hc
      exact lv_idiv hx hb hd h0 k
  · split at h
    next => cases h
    next h0 =>
      cases h; obtain rfl : len = 1 := by simpa [am_chk] using hc
      exact lv_irem hx hb hd h0 k
  · cases h; obtain rfl : len = 1 := by simpa [am_chk] using hc
    exact lv_iand hx hb hd k
  · cases h; obtain rfl : len = 1 := by simpa [am_chk] using hc
    exact lv_ior hx hb hd k
  · cases h; obtain rfl : len = 1 := by simpa [am_chk] using hc
    exact lv_ishl hx hb hd k
  · cases h; obtain rfl : len = 1 := by simpa [am_chk] using hc
    exact lv_iushr hx hb hd rfl k
  · cases h; obtain rfl : len = 1 := by simpa [am_chk] using hc
    exact lv_i2l hx hb hd rfl k
  · cases h; obtain rfl : len = 1 := by simpa [am_chk] using hc
    exact lv_i2f hx hb hd k
  · split at h
    next h0 =>
      cases h; obtain rfl : len = 1 := by simpa [am_chk] using hc
      exact lv_f2d hx hb hd h0 k
    next => cases h
  · split at h
    next h0 =>
      cases h; obtain rfl : len = 1 := by simpa [am_chk] using hc
      exact lv_fdiv hx hb hd h0 k
    next => cases h
  · cases h; obtain rfl : len = 1 := by simpa [am_chk] using hc
    exact W.lcmp hx hb hd k
  · cases h; obtain rfl : len = 1 := by simpa [am_chk] using hc
    exact lv_dcmp hx hb hd k
  · split at h
    next h0 =>
      cases h; obtain rfl : len = 1 := by simpa [am_chk] using hc
      exact lv_dup hx hb hd (by rw [am_tr_cat]; exact h0) k
    next => cases h
  · split at h
    next h0 =>
      cases h; obtain rfl : len = 1 := by simpa [am_chk] using hc
      exact lv_dup2_11 hx hb hd (by rw [am_tr_cat]; exact h0.1) (by rw [am_tr_cat]; exact h0.2) k
    next => cases h
  · split at h
    next h0 =>
      cases h; obtain rfl : len = 1 := by simpa [am_chk] using hc
      exact lv_pop hx hb hd (by rw [am_tr_cat]; exact h0) k
    next => cases h
  · cases h
theorem am_getD {L : am_LL} {j : Nat} {v : Value} (h : L.getD j none = some v) : L[j]? = some (some v) := by
  rw [List.getD_eq_getElem?_getD] at h
  cases hj : L[j]? with
  | none => rw [hj] at h; cases h
  | some x => rw [hj] at h; simp at h; rw [h]
theorem am_ld_spec {f : Value → Bool} {L L' : am_LL} {j : Nat} {S S' : List Value} (h : am_ld f L j S = some (L', S')) : ∃ v, L[j]? = some (some v) ∧ f v = true ∧ L' = L ∧ S' = v :: S := by
  unfold am_ld at h
  split at h
  next v hv =>
    split at h
    next hf =>
      cases h
      exact ⟨v, am_getD hv, hf, rfl, rfl⟩
    next => cases h
  next => cases h
theorem am_st1_spec {L L' : am_LL} {j : Nat} {v : Value} {S S0 : List Value} (h : (am_st1 L j v).map (fun L' => (L', S0)) = some (L', S)) : S = S0 ∧ L' = L.set j (some v) ∧ j < L.length ∧ am_clear L j = true := by
  unfold am_st1 at h
  split at h
  next hc => cases h; exact ⟨rfl, rfl, hc.1, hc.2.2⟩
  next => cases h
theorem am_st2_spec {L L' : am_LL} {j : Nat} {v : Value} {S S0 : List Value} (h : (am_st2 L j v).map (fun L' => (L', S0)) = some (L', S)) : S = S0 ∧ L' = (L.set j (some v)).set (j + 1) none ∧ j + 1 < L.length ∧ am_clear L j = true := by
  unfold am_st2 at h
  split at h
  next hc => cases h; exact ⟨rfl, rfl, hc.1, hc.2.2⟩
  next => cases h
set_option maxHeartbeats 2000000 in
theorem am_sim_loc {nL : Nat} (hx : p.tables.exec = Jvm.exec) (hb : c.code = am_b i) {L L' : am_LL} {S S' : List Value} (hd : decode (am_b i) pc = .ok (ins, len)) (hc : am_chk i (pc, ins, len, 1, a, b0) = true) (hl : am_lh ls nL base b L) (h : am_loc ins L S = some (L', S'))
    (k : ∀ ls' : Array Slot, am_lh ls' nL base b L' → W p l e R s m args below meth c H locs cells slots Q (F0 m (pc + len) ls' (S'.map (am_tr base b)))) : W p l e R s m args below meth c H locs cells slots Q (F0 m pc ls (S.map (am_tr base b))) := by
  unfold am_loc at h
  split at h
  · obtain ⟨v, h1, h2, rfl, rfl⟩ := am_ld_spec h
    obtain rfl : len = 1 := by simpa [am_chk] using hc
    cases v <;> first | (cases h2; done) | exact lv_iload_n hx hb hd rfl (am_lh_at hl h1) (k ls hl)
  · obtain ⟨v, h1, h2, rfl, rfl⟩ := am_ld_spec h
    obtain rfl : len = 2 := by simpa [am_chk] using hc
    cases v <;> first | (cases h2; done) | exact lv_iload hx hb hd (am_lh_at hl h1) (k ls hl)
  · obtain ⟨v, h1, h2, rfl, rfl⟩ := am_ld_spec h
    obtain rfl : len = 1 := by simpa [am_chk] using hc
    cases v <;> first | (cases h2; done) | exact lv_aload_n hx hb hd rfl (am_lh_at hl h1) (k ls hl)
  · obtain ⟨v, h1, h2, rfl, rfl⟩ := am_ld_spec h
    obtain rfl : len = 2 := by simpa [am_chk] using hc
    cases v <;> first | (cases h2; done) | exact lv_aload hx hb hd (am_lh_at hl h1) (k ls hl)
  · obtain ⟨v, h1, h2, rfl, rfl⟩ := am_ld_spec h
    obtain rfl : len = 1 := by simpa [am_chk] using hc
    cases v <;> first | (cases h2; done) | exact lv_dload_n hx hb hd rfl (am_lh_at hl h1) (k ls hl)
  · obtain ⟨v, h1, h2, rfl, rfl⟩ := am_ld_spec h
    obtain rfl : len = 2 := by simpa [am_chk] using hc
    cases v <;> first | (cases h2; done) | exact lv_dload hx hb hd (am_lh_at hl h1) (k ls hl)
  · obtain ⟨rfl, rfl, h1, h2⟩ := am_st1_spec h
    obtain rfl : len = 1 := by simpa [am_chk] using hc
    exact lv_istore_n hx hb hd rfl hl.2 (by rw [← hl.1]; exact h1) rfl fun ls' h' => k ls' (am_lh_st1 hl h2 (by rw [← hl.1]; exact h1) h')
  · obtain ⟨rfl, rfl, h1, h2⟩ := am_st1_spec h
    obtain rfl : len = 2 := by simpa [am_chk] using hc
    exact lv_istore hx hb hd hl.2 (by rw [← hl.1]; exact h1) rfl fun ls' h' => k ls' (am_lh_st1 hl h2 (by rw [← hl.1]; exact h1) h')
  · obtain ⟨rfl, rfl, h1, h2⟩ := am_st1_spec h
    obtain rfl : len = 1 := by simpa [am_chk] using hc
    exact lv_astore_n hx hb hd rfl hl.2 (by rw [← hl.1]; exact h1) rfl fun ls' h' => k ls' (am_lh_st1 hl h2 (by rw [← hl.1]; exact h1) h')
  · obtain ⟨rfl, rfl, h1, h2⟩ := am_st1_spec h
    obtain rfl : len = 2 := by simpa [am_chk] using hc
    exact lv_astore hx hb hd hl.2 (by rw [← hl.1]; exact h1) rfl fun ls' h' => k ls' (am_lh_st1 hl h2 (by rw [← hl.1]; exact h1) h')
  · obtain ⟨rfl, rfl, h1, h2⟩ := am_st2_spec h
    obtain rfl : len = 1 := by simpa [am_chk] using hc
    exact lv_dstore_n hx hb hd rfl hl.2 (by rw [← hl.1]; exact h1) rfl fun ls' h' => k ls' (am_lh_st2 hl h2 (by rw [← hl.1]; exact h1) h')
  · obtain ⟨rfl, rfl, h1, h2⟩ := am_st2_spec h
    obtain rfl : len = 2 := by simpa [am_chk] using hc
    exact lv_dstore hx hb hd hl.2 (by rw [← hl.1]; exact h1) rfl fun ls' h' => k ls' (am_lh_st2 hl h2 (by rw [← hl.1]; exact h1) h')
  · split at h
    next x hv =>
      have h0 := am_getD hv
      obtain ⟨rfl, rfl, h1, h2⟩ := am_st1_spec h
      obtain rfl : len = 3 := by simpa [am_chk] using hc
      obtain ⟨kk, hk⟩ := List.getElem?_of_mem (am_lv_of (base := base) (b := b) h0)
      exact lv_iinc hx hb hd hl.2 hk rfl (by rw [← hl.1]; exact h1) rfl fun ls' h' => k ls' (am_lh_st1 hl h2 (by rw [← hl.1]; exact h1) h')
    next => cases h
  · cases h
theorem am_jump_spec {pc pc' : Nat} {off : Int} {S S' : List Value} (h : am_jump pc off S = some (pc', S')) : (pc : Int) + off = (pc' : Int) ∧ S' = S := by
  unfold am_jump at h
  split at h
  next h0 =>
    cases h
    exact ⟨by omega, rfl⟩
  next => cases h
theorem am_go_spec {cnd : Bool} {a pc pc' : Nat} {S S' : List Value} (h : am_go cnd a pc S = some (pc', S')) : S' = S ∧ pc' = if cnd = true then a else pc + 3 := by
  unfold am_go at h
  cases h
  exact ⟨rfl, rfl⟩
set_option maxHeartbeats 2000000 in
theorem am_sim_br (hx : p.tables.exec = Jvm.exec) (hb : c.code = am_b i) {pc' : Nat} {S S' : List Value} (hd : decode (am_b i) pc = .ok (ins, len)) (hc : am_chk i (pc, ins, len, 2, a, b0) = true) (h : am_br ins a pc S = some (pc', S'))
    (k : W p l e R s m args below meth c H locs cells slots Q (F0 m pc' ls (S'.map (am_tr base b)))) : W p l e R s m args below meth c H locs cells slots Q (F0 m pc ls (S.map (am_tr base b))) := by
  unfold am_br at h
  split at h
  · cases h; obtain ⟨h1, rfl⟩ : (pc : Int) + _ = (a : Int) ∧ len = 3 := by simpa [am_chk] using hc
    exact lv_goto hx hb hd h1 k
  · obtain ⟨rfl, rfl⟩ := am_go_spec h; obtain ⟨h1, rfl⟩ : (pc : Int) + _ = (a : Int) ∧ len = 3 := by simpa [am_chk] using hc
    exact lv_if_eq hx hb hd h1 (fun q => by simpa [q] using k) (fun q => by simpa [q] using k)
  · obtain ⟨rfl, rfl⟩ := am_go_spec h; obtain ⟨h1, rfl⟩ : (pc : Int) + _ = (a : Int) ∧ len = 3 := by simpa [am_chk] using hc
    exact lv_if_ne hx hb hd h1 (fun q => by simpa [q] using k) (fun q => by simpa [q] using k)
  · obtain ⟨rfl, rfl⟩ := am_go_spec h; obtain ⟨h1, rfl⟩ : (pc : Int) + _ = (a : Int) ∧ len = 3 := by simpa [am_chk] using hc
    exact lv_if_lt hx hb hd h1 (fun q => by simpa only [q, decide_true, if_true] using k) (fun q => by rw [if_neg (by simpa using q)] at k; exact k)
  · obtain ⟨rfl, rfl⟩ := am_go_spec h; obtain ⟨h1, rfl⟩ : (pc : Int) + _ = (a : Int) ∧ len = 3 := by simpa [am_chk] using hc
    exact lv_if_ge hx hb hd h1 (fun q => by rw [if_pos (by simpa using q)] at k; exact k) (fun q => by rw [if_neg (by simpa using q)] at k; exact k)
  · obtain ⟨rfl, rfl⟩ := am_go_spec h; obtain ⟨h1, rfl⟩ : (pc : Int) + _ = (a : Int) ∧ len = 3 := by simpa [am_chk] using hc
    exact lv_if_gt hx hb hd h1 (fun q => by rw [if_pos (by simpa using q)] at k; exact k) (fun q => by rw [if_neg (by simpa using q)] at k; exact k)
  · obtain ⟨rfl, rfl⟩ := am_go_spec h; obtain ⟨h1, rfl⟩ : (pc : Int) + _ = (a : Int) ∧ len = 3 := by simpa [am_chk] using hc
    exact lv_if_le hx hb hd h1 (fun q => by rw [if_pos (by simpa using q)] at k; exact k) (fun q => by rw [if_neg (by simpa using q)] at k; exact k)
  · obtain ⟨rfl, rfl⟩ := am_go_spec h; obtain ⟨h1, rfl⟩ : (pc : Int) + _ = (a : Int) ∧ len = 3 := by simpa [am_chk] using hc
    exact lv_icmp_eq hx hb hd h1 (fun q => by rw [if_pos (by simpa using q)] at k; exact k) (fun q => by rw [if_neg (by simpa using q)] at k; exact k)
  · obtain ⟨rfl, rfl⟩ := am_go_spec h; obtain ⟨h1, rfl⟩ : (pc : Int) + _ = (a : Int) ∧ len = 3 := by simpa [am_chk] using hc
    exact lv_icmp_ne hx hb hd h1 (fun q => by rw [if_pos (by simpa using q)] at k; exact k) (fun q => by rw [if_neg (by simpa using q)] at k; exact k)
  · obtain ⟨rfl, rfl⟩ := am_go_spec h; obtain ⟨h1, rfl⟩ : (pc : Int) + _ = (a : Int) ∧ len = 3 := by simpa [am_chk] using hc
    exact lv_icmp_lt hx hb hd h1 (fun q => by rw [if_pos (by simpa using q)] at k; exact k) (fun q => by rw [if_neg (by simpa using q)] at k; exact k)
  · obtain ⟨rfl, rfl⟩ := am_go_spec h; obtain ⟨h1, rfl⟩ : (pc : Int) + _ = (a : Int) ∧ len = 3 := by simpa [am_chk] using hc
    exact lv_icmp_ge hx hb hd h1 (fun q => by rw [if_pos (by simpa using q)] at k; exact k) (fun q => by rw [if_neg (by simpa using q)] at k; exact k)
  · obtain ⟨rfl, rfl⟩ := am_go_spec h; obtain ⟨h1, rfl⟩ : (pc : Int) + _ = (a : Int) ∧ len = 3 := by simpa [am_chk] using hc
    exact lv_icmp_gt hx hb hd h1 (fun q => by rw [if_pos (by simpa using q)] at k; exact k) (fun q => by rw [if_neg (by simpa using q)] at k; exact k)
  · obtain ⟨rfl, rfl⟩ := am_go_spec h; obtain ⟨h1, rfl⟩ : (pc : Int) + _ = (a : Int) ∧ len = 3 := by simpa [am_chk] using hc
    exact lv_icmp_le hx hb hd h1 (fun q => by rw [if_pos (by simpa using q)] at k; exact k) (fun q => by rw [if_neg (by simpa using q)] at k; exact k)
  · cases h; obtain ⟨h1, rfl⟩ : (pc : Int) + _ = (a : Int) ∧ len = 3 := by simpa [am_chk] using hc
    exact lv_ifnull hx hb hd k
  · cases h; obtain ⟨h1, rfl⟩ : (pc : Int) + _ = (a : Int) ∧ len = 3 := by simpa [am_chk] using hc
    exact lv_ifnullN hx hb hd h1 k
  · split at h
    next h0 =>
      obtain ⟨h1, rfl⟩ := am_jump_spec h
      exact lv_tableOut hx hb hd h0 h1 k
    next h0 =>
      split at h
      next off ho =>
        obtain ⟨h1, rfl⟩ := am_jump_spec h
        exact lv_tableIn hx hb hd (fun q => h0 (Or.inl q)) (fun q => h0 (Or.inr q)) ho h1 k
      next => cases h
  · obtain ⟨h1, rfl⟩ := am_jump_spec h
    exact lv_lookup hx hb hd (by simpa [am_chk] using hc) rfl h1 k
  · cases h
end AMS
end
section
/-! the heap's picture: cell k of the skeleton lies at base + k -/
theorem am_GW_of {w : Cond} (h1 : w ∈ lw_tbl) (h2 : goodWord w = true) : w ∈ am_GW := List.mem_filter.mpr ⟨h1, h2⟩
theorem am_GW_all {ws : List Cond} (h : ws.all (fun w => decide (w ∈ lw_tbl) && goodWord w) = true) : ∀ w ∈ ws, w ∈ am_GW := fun w hw => by
  have h1 := List.all_eq_true.mp h w hw
  simp only [Bool.and_eq_true, decide_eq_true_eq] at h1
  exact am_GW_of h1.1 h1.2
def am_clsok (ci : Nat) : Prop := vwCl[ci]? = some (am_cls ci) ∧ (∀ w ∈ u_ws (am_cls ci).1 (am_cls ci).2.1 (am_cls ci).2.2, w ∈ am_GW) ∧ (∀ k, k < (am_cls ci).2.2 → parseFieldDescriptor ((am_cls ci).2.1 k).2.2.1 = some (am_ty ci k)) ∧ (∀ a, a < (am_cls ci).2.2 → ∀ b, b < (am_cls ci).2.2 → a ≠ b → ((am_cls ci).2.1 a).2.1 ≠ ((am_cls ci).2.1 b).2.1)
set_option maxRecDepth 100000 in
theorem am_cls_ok : ∀ ci, ci < 12 → am_clsok ci := by
  intro ci h
  match ci, h with
  | 0, _ => exact ⟨rfl, am_GW_all (by decide +kernel), tyX0_ok, nmX0⟩
  | 1, _ => exact ⟨rfl, am_GW_all (by decide +kernel), tyX1_ok, nmX1⟩
  | 2, _ => exact ⟨rfl, am_GW_all (by decide +kernel), tyX2_ok, nmX2⟩
  | 3, _ => exact ⟨rfl, am_GW_all (by decide +kernel), tyX3_ok, nmX3⟩
  | 4, _ => exact ⟨rfl, am_GW_all (by decide +kernel), tyX4_ok, nmX4⟩
  | 5, _ => exact ⟨rfl, am_GW_all (by decide +kernel), tyX5_ok, nmX5⟩
  | 6, _ => exact ⟨rfl, am_GW_all (by decide +kernel), tyX6_ok, nmX6⟩
  | 7, _ => exact ⟨rfl, am_GW_all (by decide +kernel), tyX7_ok, nmX7⟩
  | 8, _ => exact ⟨rfl, am_GW_all (by decide +kernel), tyX8_ok, nmX8⟩
  | 9, _ => exact ⟨rfl, am_GW_all (by decide +kernel), tyX9_ok, nmX9⟩
  | 10, _ => exact ⟨rfl, am_GW_all (by decide +kernel), tyX10_ok, nmX10⟩
  | 11, _ => exact ⟨rfl, am_GW_all (by decide +kernel), tyX11_ok, nmX11⟩
  | n + 12, h => exact absurd h (by omega)
abbrev am_CS : Type := ClassId × ClassId × ClassId × ClassId
def am_fv (base b : Nat) (d : Nat → Int32) (j : Nat) (o : Option Value) : Value := match o with
  | some v => am_tr base b v
  | none => .int (d j)
def am_cell (base b : Nat) (cs : am_CS) (sc : am_SC) (d : Nat → Int32) : va_E := match sc with
  | .inl (ci, fs) => .inr (ci, fs.mapIdx (am_fv base b d))
  | .inr (0, n, _) => .inl (cs.1, n, .inl d)
  | .inr (1, n, _) => .inl (cs.2.1, n, .inl d)
  | .inr (2, n, _) => .inl (cs.2.2.1, n, .inr (.inl (fun j => (d j).toInt64)))
  | .inr (_, n, rs) => .inl (cs.2.2.2, n, .inr (.inr (.inr (.inr (fun j => (rs.getD j none).map (am_ad base b))))))
abbrev am_tyl (cs : am_CS) : List (ClassId × FieldType) := [(cs.1, .int), (cs.2.1, .boolean), (cs.2.2.1, .long), (cs.2.2.2, .object RX7)]
def am_P (Dg : va_G) (base b : Nat) (cs : am_CS) (SK : List am_SC) (D : am_DD) (H : Heap) : Prop := ∀ (k : Nat) (sc : am_SC), SK[k]? = some sc → va_at Dg vwCl (base + k, am_cell base b cs sc (D k)) H
theorem am_P.one {Dg : va_G} {base b : Nat} {cs : am_CS} {SK : List am_SC} {D : am_DD} {H : Heap} (h : am_P Dg base b cs SK D H) {k : Nat} {sc : am_SC} (hk : SK[k]? = some sc) {e : va_E} (he : am_cell base b cs sc (D k) = e) : va_P Dg vwCl [(base + k, e)] H := by
  intro j q hq
  match j, hq with
  | 0, hq => cases hq; rw [← he]; exact h k sc hk
  | j + 1, hq => simp at hq
theorem am_P.put {Dg : va_G} {base b r : Nat} {cs : am_CS} {SK SK' : List am_SC} {D D' : am_DD} {H H' : Heap} (h : am_P Dg base b cs SK D H) {sc' : am_SC} (hr : SK'[r]? = some sc') (ho : ∀ k, k ≠ r → SK'[k]? = SK[k]? ∧ D' k = D k)
    (hn : va_at Dg vwCl (base + r, am_cell base b cs sc' (D' r)) H') (hq : ∀ q, q ≠ base + r → H'[q]? = H[q]?) : am_P Dg base b cs SK' D' H' := by
  intro k sc hk
  by_cases e : k = r
  · subst e
    rw [hr] at hk
    cases hk
    exact hn
  · obtain ⟨o1, o2⟩ := ho k e
    rw [o1] at hk
    rw [o2]
    exact (h k sc hk).kept (hq (base + k) (by omega))
/-- what changes while a frame runs -/
def am_dyn (al : Bool) (Dg : va_G) (base b : Nat) (cs : am_CS) (SK : List am_SC) (D : am_DD) (H : Heap) : Prop := am_P Dg base b cs SK D H ∧ base ≤ H.size ∧ (al = true → H.size = base + SK.length ∧ ∀ k, SK.length ≤ k → ∀ j, D k j = 0)
theorem am_at_spec {SK : List am_SC} {r : Nat} {sc : am_SC} (h : am_at SK r = some sc) : SK[r]? = some sc ∧ r ≠ am_scr := by
  unfold am_at at h
  split at h
  next hr => exact ⟨h, fun e => by rw [e] at hr; exact absurd hr (by decide)⟩
  next => cases h
theorem am_ad_of {base b r : Nat} (h : r ≠ am_scr) : am_ad base b r = base + r := if_neg h
theorem am_upd_self (D : am_DD) (r k : Nat) (v : Int32) : am_upd D r k v r = upd (D r) k v := by
  funext j
  simp [am_upd, upd]
theorem am_upd_ne (D : am_DD) {r k q : Nat} (v : Int32) (h : q ≠ r) : am_upd D r k v q = D q := by
  funext j
  simp [am_upd, h]
theorem am_zero_upd {SK : List am_SC} {D : am_DD} {r k : Nat} {v : Int32} {sc : am_SC} (hr : SK[r]? = some sc) (h : ∀ k, SK.length ≤ k → ∀ j, D k j = 0) : ∀ q, SK.length ≤ q → ∀ j, am_upd D r k v q j = 0 := by
  intro q hq j
  have hl := (List.getElem?_eq_some_iff.mp hr).1
  rw [am_upd_ne D v (show q ≠ r by omega)]
  exact h q hq j
/-- what a frame has from its beginning: the machine, its code, the words, its room; the tables, the statics that an exception reads; the script, in the law's frame -/
def am_env (Dg : va_G) (cs : am_CS) (A : Nat → Prop) (U : State) (H : Heap) : Prop :=
  va_K Dg vwCl (am_tyl cs) U ∧ (∀ w ∈ am_NW, va_Nw w U) ∧ va_AO RX7 U ∧ True
section AMS2
variable {p : Program} {l : Launch} {e : Env} {R : Room} {s : State} {m : MethodId} {args : Array Value} {below : List Frame} {meth : Method} {c : Code} {H H0 : Heap} {locs : List Loc} {cells slots : Nat} {Q : State → Prop}
variable {pc len a b0 i base b : Nat} {ls : Array Slot} {ins : Instr} {Dg : va_G} {cs : am_CS} {SK SK' : List am_SC} {D D' : am_DD} {scr : Option (Nat × (Nat → Int32))} {al : Bool}
set_option maxHeartbeats 4000000 in
theorem am_sim_rd (hx : p.tables.exec = Jvm.exec) (hb : c.code = am_b i) (hown : s.vm.findClass (am_own i) = some m.cls) (hts : ∀ w ∈ am_GW, w.before args s = true) (hK : va_K Dg vwCl (am_tyl cs) s) (hN : ∀ w ∈ am_NW, va_Nw w s)
    (hscr : ∀ n xs, scr = some (n, xs) → va_X b n xs s s.heap ∧ b < s.heap.size ∧ b < base) (hS : va_S (fun q => base ≤ q) s.heap H locs) (hP : am_P Dg base b cs SK D H)
    {S S' : List Value} (hd : decode (am_b i) pc = .ok (ins, len)) (hc : am_chk i (pc, ins, len, 3, a, b0) = true) (hw1 : ∀ w ∈ am_word i (pc, ins, len, 3, a, b0), w ∈ am_GW) (hw2 : ∀ w ∈ am_nword i (pc, ins, len, 3, a, b0), w ∈ am_NW) (h : am_rd scr ins a b0 S SK D = some S')
    (k : W p l e R s m args below meth c H locs cells slots Q (F0 m (pc + len) ls (S'.map (am_tr base b)))) : W p l e R s m args below meth c H locs cells slots Q (F0 m pc ls (S.map (am_tr base b))) := by
  unfold am_rd at h
  split at h
  · next idx r S0 =>
    split at h
    next ci fs hat =>
      obtain ⟨hk, hr⟩ := am_at_spec hat
      split at h
      next hci =>
        obtain ⟨rfl, hlt⟩ := hci
        simp only [am_chk, Bool.and_eq_true, beq_iff_eq, decide_eq_true_eq] at hc
        obtain ⟨⟨rfl, hc12⟩, hcn⟩ := hc
        obtain ⟨k1, k2, k3, k4⟩ := am_cls_ok _ hc12
        have goal : ∀ v : Value, (fs.mapIdx (am_fv base b (D r)))[b0]? = some v → W p l e R s m args below meth c H locs cells slots Q (F0 m (pc + 3) ls (v :: S0.map (am_tr base b))) → W p l e R s m args below meth c H locs cells slots Q (F0 m pc ls ((Value.ref r :: S0).map (am_tr base b))) := by
          intro v hv kv
          show W p l e R s m args below meth c H locs cells slots Q (F0 m pc ls (.ref (am_ad base b r) :: S0.map (am_tr base b)))
          rw [am_ad_of hr]
          by_cases h100 : a < 100
          · have hlk : Cond.fieldLink (am_own i) idx ((am_cls (a % 100)).2.1 b0).1 ((am_cls (a % 100)).2.1 b0).2.1 ((am_cls (a % 100)).2.1 b0).2.2.1 ∈ am_GW := hw1 _ (by
              simp only [am_word, if_pos h100, List.mem_singleton])
            exact va_get (D := Dg) (ws := [(base + r, .inr (a % 100, fs.mapIdx (am_fv base b (D r))))]) (v := v) hx hb hts k2 hown hK (hP.one hk rfl) 0 rfl k1 b0 hlt (hts _ hlk) (fun _ h9 => h9) hv hd kv
          · have hlk : Cond.fieldLinkNest (am_own i) idx ((am_cls (a % 100)).2.1 b0).1 ((am_cls (a % 100)).2.1 b0).2.1 ((am_cls (a % 100)).2.1 b0).2.2.1 RX10 ∈ am_NW := hw2 _ (by
              simp only [am_nword, if_neg h100, List.mem_singleton])
            exact va_getN (D := Dg) (ws := [(base + r, .inr (a % 100, fs.mapIdx (am_fv base b (D r))))]) (v := v) (host := RX10) hx hb hts k2 hown hK (hP.one hk rfl) 0 rfl k1 b0 hlt (va_Nw.use rfl (hN _ hlk)) (fun _ h9 => h9) hv hd kv
        split at h
        next v hv =>
          cases h
          exact goal _ (by rw [List.getElem?_mapIdx, hv]; rfl) k
        next hv =>
          cases h
          exact goal _ (by rw [List.getElem?_mapIdx, hv]; rfl) k
        next => cases h
      next => cases h
    next => cases h
  · next j r S0 =>
    obtain rfl : len = 1 := by simpa [am_chk] using hc
    split at h
    next hr =>
      subst hr
      split at h
      next n xs =>
        split at h
        next => cases h
        next hin =>
          cases h
          obtain ⟨x1, x2, x3⟩ := hscr _ _ rfl
          show W p l e R s m args below meth c H locs cells slots Q (F0 m pc ls (.int j :: .ref (am_ad base b am_scr) :: S0.map (am_tr base b)))
          rw [show am_ad base b am_scr = b from if_pos rfl]
          exact va_sld hx hb x1 x2 (Nat.not_le.mpr x3) hS hin hd k
      next => cases h
    next hr0 =>
      split at h
      next n rs hat =>
        obtain ⟨hk, hr⟩ := am_at_spec hat
        split at h
        next => cases h
        next hin =>
          cases h
          show W p l e R s m args below meth c H locs cells slots Q (F0 m pc ls (.int j :: .ref (am_ad base b r) :: S0.map (am_tr base b)))
          rw [am_ad_of hr]
          exact va_iald hx hb hK (hP.one hk rfl) 0 0 rfl rfl hin hd k
      next => cases h
  · next j r S0 =>
    obtain rfl : len = 1 := by simpa [am_chk] using hc
    split at h
    next n rs hat =>
      obtain ⟨hk, hr⟩ := am_at_spec hat
      split at h
      next => cases h
      next hin =>
        cases h
        show W p l e R s m args below meth c H locs cells slots Q (F0 m pc ls (.int j :: .ref (am_ad base b r) :: S0.map (am_tr base b)))
        rw [am_ad_of hr]
        exact va_zald hx hb hK (hP.one hk rfl) 0 1 rfl rfl hin hd k
    next => cases h
  · next j r S0 =>
    obtain rfl : len = 1 := by simpa [am_chk] using hc
    split at h
    next n rs hat =>
      obtain ⟨hk, hr⟩ := am_at_spec hat
      split at h
      next => cases h
      next hin =>
        cases h
        show W p l e R s m args below meth c H locs cells slots Q (F0 m pc ls (.int j :: .ref (am_ad base b r) :: S0.map (am_tr base b)))
        rw [am_ad_of hr]
        exact va_lald hx hb hK (hP.one hk rfl) 0 2 rfl rfl hin hd k
    next => cases h
  · next j r S0 =>
    obtain rfl : len = 1 := by simpa [am_chk] using hc
    split at h
    next n rs hat =>
      obtain ⟨hk, hr⟩ := am_at_spec hat
      split at h
      next => cases h
      next hin =>
        cases h
        show W p l e R s m args below meth c H locs cells slots Q (F0 m pc ls (.int j :: .ref (am_ad base b r) :: S0.map (am_tr base b)))
        rw [am_ad_of hr]
        refine va_aldq hx hb hK (hP.one hk rfl) 0 3 rfl rfl hin hd ?_
        refine W.eq ?_ k
        congr 1
        cases hq : rs.getD j.toNatClampNeg none with
        | none => simp [hq, va_rf, am_tr]
        | some q => simp [hq, va_rf, am_tr]
    next => cases h
  · next r S0 =>
    obtain rfl : len = 1 := by simpa [am_chk] using hc
    split at h
    next kd n rs hat =>
      obtain ⟨hk, hr⟩ := am_at_spec hat
      cases h
      show W p l e R s m args below meth c H locs cells slots Q (F0 m pc ls (.ref (am_ad base b r) :: S0.map (am_tr base b)))
      rw [am_ad_of hr]
      match kd, hk with
      | 0, hk => exact va_alen hx hb hK (hP.one hk rfl) 0 0 rfl rfl rfl hd k
      | 1, hk => exact va_alen hx hb hK (hP.one hk rfl) 0 1 rfl rfl rfl hd k
      | 2, hk => exact va_alen hx hb hK (hP.one hk rfl) 0 2 rfl rfl rfl hd k
      | z + 3, hk => exact va_alen hx hb hK (hP.one hk rfl) 0 3 rfl rfl rfl hd k
    next => cases h
  · cases h
end AMS2
end
section
/-! writes -/
section AMS3
variable {p : Program} {l : Launch} {e : Env} {R : Room} {s : State} {m : MethodId} {args : Array Value} {below : List Frame} {meth : Method} {c : Code} {H H0 : Heap} {locs : List Loc} {cells slots : Nat} {Q : State → Prop}
variable {pc len a b0 i base b : Nat} {ls : Array Slot} {ins : Instr} {Dg : va_G} {cs : am_CS} {SK SK' : List am_SC} {D D' : am_DD} {scr : Option (Nat × (Nat → Int32))} {al : Bool}
/-- behind a write at r: the picture, the frame -/
theorem am_dyn.put {r : Nat} {H' : Heap} {sc' : am_SC} (hd : am_dyn al Dg base b cs SK D H) (hr : SK'[r]? = some sc') (hlen : SK'.length = SK.length) (ho : ∀ k, k ≠ r → SK'[k]? = SK[k]? ∧ D' k = D k)
    (hn : va_at Dg vwCl (base + r, am_cell base b cs sc' (D' r)) H') (hz : H'.size = H.size) (hq : ∀ q, q ≠ base + r → H'[q]? = H[q]?) : am_dyn al Dg base b cs SK' D' H' := by
  obtain ⟨h1, h2, h3⟩ := hd
  refine ⟨h1.put hr ho hn hq, by rw [hz]; exact h2, fun ha => ⟨by rw [hz, hlen]; exact (h3 ha).1, fun k hk j => ?_⟩⟩
  have hl := (List.getElem?_eq_some_iff.mp hr).1
  rw [(ho k (by omega)).2]
  exact (h3 ha).2 k (by omega) j
theorem am_fs_set {base b k : Nat} {d : Nat → Int32} {x : Int32} {fs : List (Option Value)} (hk : fs[k]? = some none) : fs.mapIdx (am_fv base b (upd d k x)) = (fs.mapIdx (am_fv base b d)).set k (.int x) := by
  apply List.ext_getElem?
  intro j
  have hl : k < fs.length := (List.getElem?_eq_some_iff.mp hk).1
  by_cases hj : j = k
  · subst hj
    rw [List.getElem?_set_self (by rw [List.length_mapIdx]; exact hl), List.getElem?_mapIdx, hk]
    simp [am_fv, upd]
  · rw [List.getElem?_set_ne (fun q => hj q.symm), List.getElem?_mapIdx, List.getElem?_mapIdx]
    cases hf : fs[j]? with
    | none => rfl
    | some o => cases o <;> simp [am_fv, upd, hj]
theorem am_fs_ref {base b k : Nat} {d : Nat → Int32} {v : Value} {fs : List (Option Value)} (hk : k < fs.length) : (fs.set k (some v)).mapIdx (am_fv base b d) = (fs.mapIdx (am_fv base b d)).set k (am_tr base b v) := by
  apply List.ext_getElem?
  intro j
  by_cases hj : j = k
  · subst hj
    rw [List.getElem?_set_self (by rw [List.length_mapIdx]; exact hk), List.getElem?_mapIdx, List.getElem?_set_self hk]
    simp [am_fv]
  · rw [List.getElem?_set_ne (fun q => hj q.symm), List.getElem?_mapIdx, List.getElem?_mapIdx, List.getElem?_set_ne (fun q => hj q.symm)]
set_option maxHeartbeats 4000000 in
/-- a field is written: any value that fits it -/
theorem am_putfield {ci idx k r : Nat} {v : Value} {fs fs' : List Value} {rest : List Value} (hx : p.tables.exec = Jvm.exec) (hb : c.code = am_b i) (hown : s.vm.findClass (am_own i) = some m.cls) (hts : ∀ w ∈ am_GW, w.before args s = true) (hK : va_K Dg vwCl (am_tyl cs) s) (hN : ∀ w ∈ am_NW, va_Nw w s)
    (hmn : meth.name = (am_y i).name) (hc12 : ci < 12) (hk : k < (am_cls ci).2.2) (hcn : ((am_cls ci).2.1 k).1 = (am_cls ci).1)
    (hlink : (Cond.fieldLink (am_own i) idx (am_cls ci).1 ((am_cls ci).2.1 k).2.1 ((am_cls ci).2.1 k).2.2.1 ∈ am_GW ∧ (((am_cls ci).2.1 k).2.2.2 = true → (am_y i).name = "<init>" ∧ ((am_cls ci).2.1 k).1 = am_own i)) ∨ (Cond.fieldLinkNest (am_own i) idx (am_cls ci).1 ((am_cls ci).2.1 k).2.1 ((am_cls ci).2.1 k).2.2.1 RX10 ∈ am_NW ∧ ((am_cls ci).2.1 k).2.2.2 = false))
    (hn : narrow (am_ty ci k) v = v) (hfit : fits (am_ty ci k) v = true) (hl : k < fs.length) (hfs : fs.set k v = fs') (hat : va_at Dg vwCl (r, .inr (ci, fs)) H) (hd : decode (am_b i) pc = .ok (.putfield idx, 3))
    (kk : ∀ (H' : Heap) (sl : Nat), va_at Dg vwCl (r, .inr (ci, fs')) H' → H'.size = H.size → (∀ q, q ≠ r → H'[q]? = H[q]?) → W p l e R s m args below meth c H' (locs ++ [⟨r, sl⟩]) cells slots Q (F0 m (pc + 3) ls rest)) :
    W p l e R s m args below meth c H locs cells slots Q (F0 m pc ls (v :: .ref r :: rest)) := by
  obtain ⟨k1, k2, k3, k4⟩ := am_cls_ok _ hc12
  have hap := va_apart (own := am_own i) hts k2 (am_ty ci) k3 k4 hK k1
  obtain ⟨r0, h1, cell, q1, q2, q3, q4⟩ := hat
  have hr : r0 = am_cls ci := Option.some.inj (h1.symm.trans k1)
  subst hr
  obtain ⟨hS, hfc, kC, hkC, hkind⟩ := hK.1 ci _ k1
  obtain ⟨cf, kf, fi, f, hi, hsl⟩ := hS k hk
  have hlay := hts _ (k2 _ (u_in_lay hk))
  have hst := (u_facts hfc hkC (u_lays hts k2 hk) hi).1
  have hi' : s.fieldFound? (am_cls ci).1 ((am_cls ci).2.1 k).2.1 ((am_cls ci).2.1 k).2.2.1 = some (cf, kf, fi, f) := by rw [← hcn]; exact hi
  have fin : ∀ H' : Heap, H'[r]? = some (cell.setSlot f.slot v) → H'.size = H.size → (∀ q, q ≠ r → H'[q]? = H[q]?) → W p l e R s m args below meth c H' (locs ++ [⟨r, f.slot⟩]) cells slots Q (F0 m (pc + 3) ls rest) := by
    intro H' e1 e2 e3
    rw [hsl] at e1 ⊢
    refine kk H' _ ⟨_, h1, ?_⟩ e2 e3
    rw [← hfs]
    exact t_OB.to (V := updV (vp_V fs) k v) ⟨_, e1, q2, q3, t_set q4 hap hk v⟩ (fun j _ => vp_updV_set hl v j)
  rcases hlink with ⟨hlk, hfi⟩ | ⟨hlk, hfi⟩
  · by_cases hf : ((am_cls ci).2.1 k).2.2.2 = true
    · obtain ⟨g1, g2⟩ := hfi hf
      unfold u_lay at hlay
      rw [if_pos hf] at hlay
      have hcf : m.cls = cf := by
        obtain ⟨_, _, c', _, _, _, -, -, hf', -, -, -, hown2, -⟩ := Cond.laysFinal_spec hlay
        have e1 : c' = cf := by have := hi.symm.trans hf'; simp at this; exact this.1.symm
        rw [g2] at hown2
        rw [← e1]; exact Option.some.inj (hown.symm.trans hown2)
      have h6 := u_fits hfc hkC hkind (Or.inr hlay) hi (k3 k hk) hn hfit
      exact W.putFinK hx hb hown (hts _ hlk) hi' hst hcf (hmn.trans g1) (by rw [q2]; exact h6) q1 q3 (by rw [hsl]; exact k2_hasslot (q4 k hk)) rfl rfl hd fin
    · unfold u_lay at hlay
      rw [if_neg hf] at hlay
      have h6 := u_store hfc hkC hkind hlay hi (k3 k hk) hn hfit
      exact W.putK hx hb (f := f) ⟨hown, hts _ hlk, ⟨_, _, _, hi'⟩, hst⟩ (by rw [q2]; exact h6) q1 q3 (by rw [hsl]; exact k2_hasslot (q4 k hk)) rfl rfl hd fin
  · unfold u_lay at hlay
    rw [if_neg (by rw [hfi]; decide)] at hlay
    have h6 := u_store hfc hkC hkind hlay hi (k3 k hk) hn hfit
    exact va_WputK hx hb (f := f) hown (va_Nw.use rfl (hN _ hlk)) hi' hst (by rw [q2]; exact h6) q1 q3 (by rw [hsl]; exact k2_hasslot (q4 k hk)) rfl rfl hd fin
theorem am_locs {A : Nat → Prop} {H' : Heap} {r k : Nat} (hS : va_S A H0 H locs) (hz : H'.size = H.size) (hq : ∀ q, q ≠ r → H'[q]? = H[q]?) (hA : A r) : va_S A H0 H' (locs ++ [⟨r, k⟩]) := hS.put hz hq hA
set_option maxHeartbeats 4000000 in
theorem am_sim_wr (hx : p.tables.exec = Jvm.exec) (hb : c.code = am_b i) (hown : s.vm.findClass (am_own i) = some m.cls) (hts : ∀ w ∈ am_GW, w.before args s = true) (hK : va_K Dg vwCl (am_tyl cs) s) (hN : ∀ w ∈ am_NW, va_Nw w s)
    (hmn : meth.name = (am_y i).name) (hS : va_S (fun q => base ≤ q) s.heap H locs) (hY : am_dyn al Dg base b cs SK D H)
    {S S' : List Value} (hd : decode (am_b i) pc = .ok (ins, len)) (hc : am_chk i (pc, ins, len, 4, a, b0) = true) (hw1 : ∀ w ∈ am_word i (pc, ins, len, 4, a, b0), w ∈ am_GW) (hw2 : ∀ w ∈ am_nword i (pc, ins, len, 4, a, b0), w ∈ am_NW) (h : am_wr al ins a b0 S SK D = some (S', SK', D'))
    (k : ∀ (H' : Heap) (locs' : List Loc), va_S (fun q => base ≤ q) s.heap H' locs' → am_dyn al Dg base b cs SK' D' H' → W p l e R s m args below meth c H' locs' cells slots Q (F0 m (pc + len) ls (S'.map (am_tr base b)))) : W p l e R s m args below meth c H locs cells slots Q (F0 m pc ls (S.map (am_tr base b))) := by
  unfold am_wr at h
  split at h
  · next idx v r S0 =>
    split at h
    next ci fs hat =>
      obtain ⟨hk, hr⟩ := am_at_spec hat
      split at h
      next hci =>
        obtain ⟨rfl, hlt⟩ := hci
        simp only [am_chk, Bool.and_eq_true, beq_iff_eq, decide_eq_true_eq, Bool.or_eq_true, Bool.not_eq_true'] at hc
        obtain ⟨⟨⟨rfl, hc12⟩, hcn⟩, hfin⟩ := hc
        have hlink : (Cond.fieldLink (am_own i) idx (am_cls (a % 100)).1 ((am_cls (a % 100)).2.1 b0).2.1 ((am_cls (a % 100)).2.1 b0).2.2.1 ∈ am_GW ∧ (((am_cls (a % 100)).2.1 b0).2.2.2 = true → (am_y i).name = "<init>" ∧ ((am_cls (a % 100)).2.1 b0).1 = am_own i)) ∨ (Cond.fieldLinkNest (am_own i) idx (am_cls (a % 100)).1 ((am_cls (a % 100)).2.1 b0).2.1 ((am_cls (a % 100)).2.1 b0).2.2.1 RX10 ∈ am_NW ∧ ((am_cls (a % 100)).2.1 b0).2.2.2 = false) := by
          by_cases h100 : a < 100
          · have hm : a % 100 = a := Nat.mod_eq_of_lt h100
            refine Or.inl ⟨?_, fun q => ?_⟩
            · rw [← hcn]
              refine hw1 _ ?_
              simp only [am_word, if_pos h100, List.mem_singleton]
            · rcases hfin with z | z
              · rw [q] at z; cases z
              · rw [hm]; exact ⟨z.1.2, z.2⟩
          · refine Or.inr ⟨?_, ?_⟩
            · rw [← hcn]
              refine hw2 _ ?_
              simp only [am_nword, if_neg h100, List.mem_singleton]
            · rcases hfin with z | z
              · exact z
              · exact absurd z.1.1 h100
        split at h
        next x hv =>
          split at h
          next hty =>
            cases h
            show W p l e R s m args below meth c H locs cells slots Q (F0 m pc ls (.int x :: .ref (am_ad base b r) :: S'.map (am_tr base b)))
            rw [am_ad_of hr]
            refine am_putfield hx hb hown hts hK hN hmn hc12 hlt hcn hlink (by rw [hty]; rfl) (by rw [hty]; rfl) (by rw [List.length_mapIdx]; exact (List.getElem?_eq_some_iff.mp hv).1) (am_fs_set hv).symm (hY.1 r _ hk) hd fun H' sl e1 e2 e3 => ?_
            exact k H' _ (am_locs hS e2 e3 (Nat.le_add_right _ _)) (hY.put hk rfl (fun q hq => ⟨rfl, am_upd_ne D x hq⟩) (by rw [am_upd_self]; exact e1) e2 e3)
          next => cases h
        next q0 v0 hv =>
          split at h
          next hty =>
            cases h
            have hl := (List.getElem?_eq_some_iff.mp hv).1
            show W p l e R s m args below meth c H locs cells slots Q (F0 m pc ls (am_tr base b (.ref q0) :: .ref (am_ad base b r) :: S'.map (am_tr base b)))
            rw [am_ad_of hr]
            refine am_putfield hx hb hown hts hK hN hmn hc12 hlt hcn hlink ?_ ?_ (by rw [List.length_mapIdx]; exact hl) (am_fs_ref hl).symm (hY.1 r _ hk) hd fun H' sl e1 e2 e3 => ?_
            · cases hq : am_ty (a % 100) b0 <;> rw [hq] at hty <;> first | rfl | exact absurd hty.1 (by decide)
            · cases hq : am_ty (a % 100) b0 <;> rw [hq] at hty <;> first | rfl | exact absurd hty.1 (by decide)
            · have hl2 : r < SK.length := (List.getElem?_eq_some_iff.mp hk).1
              exact k H' _ (am_locs hS e2 e3 (Nat.le_add_right _ _)) (hY.put (List.getElem?_set_self hl2) (List.length_set) (fun q hq => ⟨List.getElem?_set_ne (fun z => hq z.symm), rfl⟩) e1 e2 e3)
          next => cases h
        next => cases h
      next => cases h
    next => cases h
  · next x j r S0 =>
    obtain rfl : len = 1 := by simpa [am_chk] using hc
    split at h
    next n rs hat =>
      obtain ⟨hk, hr⟩ := am_at_spec hat
      split at h
      next => cases h
      next hin =>
        cases h
        show W p l e R s m args below meth c H locs cells slots Q (F0 m pc ls (.int x :: .int j :: .ref (am_ad base b r) :: S'.map (am_tr base b)))
        rw [am_ad_of hr]
        have hcell : H[base + r]? = some (vp_cell cs.1 (n, .inl (D r))) := hY.1 r _ hk
        refine W.iast hx hb hcell ((hK.2 0 _ rfl).1 n (fun j => .int (D r j))) (fun q => by cases q) (by show ¬ (j < 0 ∨ (arrV _ _ _).slots.size ≤ _); rw [arrV_size]; exact hin) rfl rfl hd fun H' e1 e2 e3 => ?_
        refine k H' _ (am_locs hS e2 e3 (Nat.le_add_right _ _)) (hY.put hk rfl (fun q hq => ⟨rfl, am_upd_ne D x hq⟩) ?_ e2 e3)
        show H'[base + r]? = some (vp_cell _ _)
        rw [e1, am_upd_self, vp_cell_i, vp_cell_i, arrV_store]
        congr 2
        funext q
        by_cases hq : q = j.toNatClampNeg
        · subst hq; simp [updV, upd]
        · simp [updV, upd, hq]
    next => cases h
  · next x j r S0 =>
    obtain rfl : len = 1 := by simpa [am_chk] using hc
    split at h
    next n rs hat =>
      obtain ⟨hk, hr⟩ := am_at_spec hat
      split at h
      next => cases h
      next hin =>
        cases h
        show W p l e R s m args below meth c H locs cells slots Q (F0 m pc ls (.int x :: .int j :: .ref (am_ad base b r) :: S'.map (am_tr base b)))
        rw [am_ad_of hr]
        have hcell : H[base + r]? = some (vp_cell cs.2.1 (n, .inl (D r))) := hY.1 r _ hk
        refine W.zast hx hb hcell ((hK.2 1 _ rfl).1 n (fun j => .int (D r j))) (fun q => by cases q) (by show ¬ (j < 0 ∨ (arrV _ _ _).slots.size ≤ _); rw [arrV_size]; exact hin) rfl rfl hd fun H' e1 e2 e3 => ?_
        refine k H' _ (am_locs hS e2 e3 (Nat.le_add_right _ _)) (hY.put hk rfl (fun q hq => ⟨rfl, am_upd_ne D _ hq⟩) ?_ e2 e3)
        show H'[base + r]? = some (vp_cell _ _)
        rw [e1, am_upd_self, vp_cell_i, vp_cell_i, show narrow .boolean (.int x) = .int (vp_nar .boolean x) from rfl, arrV_store]
        congr 2
        funext q
        by_cases hq : q = j.toNatClampNeg
        · subst hq; simp [updV, upd]
        · simp [updV, upd, hq]
    next => cases h
  · next x j r S0 =>
    obtain rfl : len = 1 := by simpa [am_chk] using hc
    split at h
    next n rs hat =>
      obtain ⟨hk, hr⟩ := am_at_spec hat
      split at h
      next => cases h
      next hin0 =>
        cases h
        have hin : ¬ (j < 0 ∨ n ≤ j.toNatClampNeg) := fun z => hin0 (z.elim Or.inl (fun y => Or.inr (Or.inl y)))
        have hxx : x.toInt32.toInt64 = x := Classical.not_not.mp fun z => hin0 (Or.inr (Or.inr z))
        show W p l e R s m args below meth c H locs cells slots Q (F0 m pc ls (.long x :: .int j :: .ref (am_ad base b r) :: S'.map (am_tr base b)))
        rw [am_ad_of hr]
        have hcell : H[base + r]? = some (vp_cell cs.2.2.1 (n, .inr (.inl (fun j => (D r j).toInt64)))) := hY.1 r _ hk
        refine W.last hx hb hcell ((hK.2 2 _ rfl).1 n (fun j => .long (D r j).toInt64)) (fun q => by cases q) (by show ¬ (j < 0 ∨ (arrV _ _ _).slots.size ≤ _); rw [arrV_size]; exact hin) rfl rfl hd fun H' e1 e2 e3 => ?_
        refine k H' _ (am_locs hS e2 e3 (Nat.le_add_right _ _)) (hY.put hk rfl (fun q hq => ⟨rfl, am_upd_ne D _ hq⟩) ?_ e2 e3)
        show H'[base + r]? = some (vp_cell _ _)
        rw [e1, am_upd_self, vp_cell_l, vp_cell_l, arrV_store]
        congr 2
        funext q
        by_cases hq : q = j.toNatClampNeg
        · subst hq; simp [updV, upd, hxx]
        · simp [updV, upd, hq]
    next => cases h
  · next q0 j r S0 =>
    obtain rfl : len = 1 := by simpa [am_chk] using hc
    split at h
    next n rs fs0 hat hat2 =>
      obtain ⟨hk, hr⟩ := am_at_spec hat
      obtain ⟨hk2, hr2⟩ := am_at_spec hat2
      split at h
      next => cases h
      next hin0 =>
        cases h
        have hin : ¬ (j < 0 ∨ n ≤ j.toNatClampNeg) := fun z => hin0 (z.elim Or.inl (fun y => Or.inr (Or.inl y)))
        have hnl : n = rs.length := Classical.not_not.mp fun z => hin0 (Or.inr (Or.inr (Or.inl z)))
        have hlt : j.toNatClampNeg < n := Nat.not_le.mp fun q => hin (Or.inr q)
        show W p l e R s m args below meth c H locs cells slots Q (F0 m pc ls (.ref (am_ad base b q0) :: .int j :: .ref (am_ad base b r) :: S'.map (am_tr base b)))
        rw [am_ad_of hr, am_ad_of hr2]
        have hcell : H[base + r]? = some (vp_cell cs.2.2.2 (n, .inr (.inr (.inr (.inr (fun j => (rs.getD j none).map (am_ad base b))))))) := hY.1 r _ hk
        obtain ⟨r', hr', cellV, g1, g2, g3, -⟩ := hY.1 q0 _ hk2
        obtain ⟨y1, y2, -⟩ := am_cls_ok 7 (by decide)
        have hcls := (hK.1 7 _ y1).2
        obtain ⟨kA, comp, k1, k2, k3, -⟩ := (hK.2 3 _ rfl).2
        have hcomp : comp = Dg.1 7 := Option.some.inj (k3.symm.trans hcls.1)
        subst hcomp
        obtain ⟨kC, hkC, -⟩ := hcls.2
        refine W.aast hx hb hcell (fun q h => by cases h) (fun h => by cases h) k1 k2 rfl hkC ⟨fun z => hin (Or.inl z), by show _ < (arrV _ _ _).slots.size; rw [arrV_size]; exact hlt⟩ g1 (fun q h => by rw [g3] at h; cases h) (by rw [g2]; exact hkC) (by rw [g2]; exact va_assign hcls) rfl rfl hd fun H' e1 e2 e3 => ?_
        have hl2 : r < SK.length := (List.getElem?_eq_some_iff.mp hk).1
        refine k H' _ (am_locs hS e2 e3 (Nat.le_add_right _ _)) (hY.put (List.getElem?_set_self hl2) (List.length_set) (fun q hq => ⟨List.getElem?_set_ne (fun z => hq z.symm), rfl⟩) ?_ e2 e3)
        show H'[base + r]? = some (vp_cell _ _)
        rw [e1, vp_cell_q, vp_cell_q, arrV_store]
        congr 2
        funext q
        by_cases hq : q = j.toNatClampNeg
        · subst hq
          simp [updV, List.getD_eq_getElem?_getD, List.getElem?_set_self (show j.toNatClampNeg < rs.length by omega), va_rf, am_ad_of hr2]
        · simp [updV, hq, List.getD_eq_getElem?_getD, List.getElem?_set_ne (fun z => hq z.symm)]
    next => cases h
  · cases h
end AMS3
end
section
/-! what is made, and the JDK's own calls -/
theorem am_dflt_ok : ∀ ci, ci < 12 → ∀ j, j < (am_cls ci).2.2 → am_ty ci j = .int ∨ (¬ am_ty ci j = .int ∧ defaultValue (am_ty ci j) = .null) := by decide +kernel
set_option maxHeartbeats 4000000 in
theorem am_chk61 {i pc len b0 : Nat} {ins : Instr} (hc : am_chk i (pc, ins, len, 6, 1, b0) = true) : ∃ idx, ins = .invokespecial idx ∧ len = 3 ∧ 1 ≤ am_fr i ∧ 20 ≤ am_lo i := by
  cases ins <;> first | (exfalso; exact Bool.false_ne_true hc) | skip
  next idx =>
    simp only [am_chk, Bool.and_eq_true, beq_iff_eq, decide_eq_true_eq] at hc
    exact ⟨idx, rfl, hc.1.1, hc.1.2, hc.2⟩
set_option maxHeartbeats 4000000 in
theorem am_chk62 {i pc len b0 : Nat} {ins : Instr} (hc : am_chk i (pc, ins, len, 6, 2, b0) = true) : ∃ idx, ins = .invokestatic idx ∧ len = 3 ∧ 1 ≤ am_fr i ∧ 21 ≤ am_lo i := by
  cases ins <;> first | (exfalso; exact Bool.false_ne_true hc) | skip
  next idx =>
    simp only [am_chk, Bool.and_eq_true, beq_iff_eq, decide_eq_true_eq] at hc
    exact ⟨idx, rfl, hc.1.1, hc.1.2, hc.2⟩
set_option maxHeartbeats 4000000 in
theorem am_chk63 {i pc len b0 : Nat} {ins : Instr} (hc : am_chk i (pc, ins, len, 6, 3, b0) = true) : ∃ idx, ins = .invokestatic idx ∧ len = 3 ∧ 1 ≤ am_fr i ∧ 21 ≤ am_lo i := by
  cases ins <;> first | (exfalso; exact Bool.false_ne_true hc) | skip
  next idx =>
    simp only [am_chk, Bool.and_eq_true, beq_iff_eq, decide_eq_true_eq] at hc
    exact ⟨idx, rfl, hc.1.1, hc.1.2, hc.2⟩
set_option maxHeartbeats 4000000 in
theorem am_chk64 {i pc len b0 : Nat} {ins : Instr} (hc : am_chk i (pc, ins, len, 6, 4, b0) = true) : ∃ idx, ins = .invokestatic idx ∧ len = 3 ∧ 1 ≤ am_fr i ∧ 26 ≤ am_lo i := by
  cases ins <;> first | (exfalso; exact Bool.false_ne_true hc) | skip
  next idx =>
    simp only [am_chk, Bool.and_eq_true, beq_iff_eq, decide_eq_true_eq] at hc
    exact ⟨idx, rfl, hc.1.1, hc.1.2, hc.2⟩
set_option maxHeartbeats 4000000 in
theorem am_chk65 {i pc len b0 : Nat} {ins : Instr} (hc : am_chk i (pc, ins, len, 6, 5, b0) = true) : ∃ idx, ins = .ldc_w idx ∧ len = 3 := by
  cases ins <;> first | (exfalso; exact Bool.false_ne_true hc) | skip
  next idx =>
    simp only [am_chk, beq_iff_eq] at hc
    exact ⟨idx, rfl, hc⟩
section AMS4
variable {p : Program} {l : Launch} {e : Env} {R : Room} {s : State} {m : MethodId} {args : Array Value} {below : List Frame} {meth : Method} {c : Code} {H H0 : Heap} {locs : List Loc} {cells slots : Nat} {Q : State → Prop}
variable {pc len a b0 i base b : Nat} {ls : Array Slot} {ins : Instr} {Dg : va_G} {cs : am_CS} {SK SK' : List am_SC} {D D' : am_DD} {scr : Option (Nat × (Nat → Int32))} {al : Bool}
/-- behind a making: the picture -/
theorem am_dyn.push {sc : am_SC} {H' : Heap} (hY : am_dyn true Dg base b cs SK D H) (hn : va_at Dg vwCl (base + SK.length, am_cell base b cs sc (fun _ => 0)) H') (hz : H'.size = H.size + 1) (hq : ∀ q, q < H.size → H'[q]? = H[q]?) : am_dyn true Dg base b cs (SK ++ [sc]) D H' := by
  obtain ⟨h1, h2, h3⟩ := hY
  obtain ⟨h4, h5⟩ := h3 rfl
  refine ⟨fun k sc' hk => ?_, by omega, fun _ => ⟨by rw [List.length_append, hz, h4]; simp; omega, fun k hk j => h5 k (by rw [List.length_append] at hk; simp at hk; omega) j⟩⟩
  by_cases hl : k < SK.length
  · rw [List.getElem?_append_left hl] at hk
    exact (h1 k sc' hk).kept (hq _ (by omega))
  · have hl2 : k < (SK ++ [sc]).length := (List.getElem?_eq_some_iff.mp hk).1
    rw [List.length_append] at hl2
    have hkl : k = SK.length := by simp at hl2; omega
    subst hkl
    rw [List.getElem?_append_right (Nat.le_refl _), Nat.sub_self] at hk
    cases hk
    rw [show D SK.length = fun _ => 0 from funext fun j => h5 _ (Nat.le_refl _) j]
    exact hn
theorem va_S.push {A : Nat → Prop} {H' : Heap} (hS : va_S A H0 H locs) (hz : H'.size = H.size + 1) (hq : ∀ q, q < H.size → H'[q]? = H[q]?) : va_S A H0 H' locs := ⟨Nat.le_trans hS.1 (by omega), fun x h1 h2 => (hq x (Nat.lt_of_lt_of_le h1 hS.1)).trans (hS.2.1 x h1 h2), hS.2.2⟩
set_option maxHeartbeats 4000000 in
theorem am_sim_nw (hx : p.tables.exec = Jvm.exec) (hb : c.code = am_b i) (hown : s.vm.findClass (am_own i) = some m.cls) (hts : ∀ w ∈ am_GW, w.before args s = true) (hK : va_K Dg vwCl (am_tyl cs) s) (hAO : va_AO RX7 s)
    (hS : va_S (fun q => base ≤ q) s.heap H locs) (hY : am_dyn al Dg base b cs SK D H)
    {S S' : List Value} {kn : Nat} (hd : decode (am_b i) pc = .ok (ins, len)) (hc : am_chk i (pc, ins, len, 5, a, b0) = true) (hw1 : ∀ w ∈ am_word i (pc, ins, len, 5, a, b0), w ∈ am_GW) (h : am_nw al ins a S SK = some (S', SK', kn)) (hcells : cells + 1 ≤ R.cells) (hslots : slots + kn ≤ R.slots)
    (k : ∀ (H' : Heap), va_S (fun q => base ≤ q) s.heap H' locs → am_dyn al Dg base b cs SK' D H' → W p l e R s m args below meth c H' locs (cells + 1) (slots + kn) Q (F0 m (pc + len) ls (S'.map (am_tr base b)))) : W p l e R s m args below meth c H locs cells slots Q (F0 m pc ls (S.map (am_tr base b))) := by
  have had : SK.length < 1000000 → am_ad base b SK.length = base + SK.length := fun hl => if_neg (fun q => by rw [q] at hl; exact absurd hl (by decide))
  unfold am_nw at h
  split at h
  · split at h
    next hc0 =>
      obtain ⟨rfl, hl, ha⟩ := hc0
      cases h
      obtain ⟨h4, h5⟩ := hY.2.2 rfl
      obtain ⟨k1, k2, k3, k4⟩ := am_cls_ok _ ha
      simp only [am_chk, Bool.and_eq_true, beq_iff_eq] at hc
      obtain ⟨rfl, -⟩ := hc
      have hKn := hK.1 a _ k1
      refine W.newcK hx hb hown (hts _ (hw1 _ (by simp [am_word]))) (hts _ (hw1 _ (by simp [am_word]))) (hts _ (hw1 _ (by simp [am_word]))) rfl hd hcells hslots hKn.2.1 h4 fun H' kC hkC e1 z1 o1 => ?_
      rw [show (Value.ref (base + SK.length) :: S.map (am_tr base b)) = (Value.ref SK.length :: S).map (am_tr base b) by simp [am_tr, had hl]]
      refine k H' (hS.push (by rw [z1, h4]) (fun q hq => o1 q (by omega))) (hY.push ⟨_, k1, (u_born (am_ty a) hts k2 hKn hkC e1 k3).to fun j hj => ?_⟩ (by rw [z1, h4]) (fun q hq => o1 q (by omega)))
      show defaultValue (am_ty a j) = vp_V ((am_dflt a).mapIdx (am_fv base b fun _ => 0)) j
      unfold vp_V
      rw [List.getD_eq_getElem?_getD, List.getElem?_mapIdx]
      unfold am_dflt
      rw [List.getElem?_map, List.getElem?_range hj]
      rcases am_dflt_ok a ha j hj with h7 | ⟨h6, h7⟩
      · simp [h7, am_fv, defaultValue]
      · simp [h6, h7, am_fv, am_tr]
    next => cases h
  · split at h
    next hc0 =>
      obtain ⟨rfl, hl, hn, hle⟩ := hc0
      cases h
      obtain ⟨h4, h5⟩ := hY.2.2 rfl
      obtain rfl : len = 2 := by simpa [am_chk] using hc
      refine va_newaK hx hb (hts _ (hw1 _ (by simp [am_word]))) rfl hd rfl hn rfl (by show _ * 4 ≤ _; omega) hcells hslots h4 fun H' cA e1 z1 o1 hAr hNm => ?_
      have hcA : cA = cs.1 := Option.some.inj (hNm.symm.trans (hK.2 0 _ rfl).2)
      subst hcA
      rw [show ∀ T : List Value, (Value.ref (base + SK.length) :: T.map (am_tr base b)) = (Value.ref SK.length :: T).map (am_tr base b) from fun T => by simp [am_tr, had hl]]
      refine k H' (hS.push (by rw [z1, h4]) (fun q hq => o1 q (by omega))) (hY.push ?_ (by rw [z1, h4]) (fun q hq => o1 q (by omega)))
      exact e1
    next => cases h
  · split at h
    next hc0 =>
      obtain ⟨rfl, hl, hn, hle⟩ := hc0
      cases h
      obtain ⟨h4, h5⟩ := hY.2.2 rfl
      obtain rfl : len = 2 := by simpa [am_chk] using hc
      refine va_newaK hx hb (hts _ (hw1 _ (by simp [am_word]))) rfl hd rfl hn rfl (by show _ * 1 ≤ _; omega) hcells hslots h4 fun H' cA e1 z1 o1 hAr hNm => ?_
      have hcA : cA = cs.2.1 := Option.some.inj (hNm.symm.trans (hK.2 1 _ rfl).2)
      subst hcA
      rw [show ∀ T : List Value, (Value.ref (base + SK.length) :: T.map (am_tr base b)) = (Value.ref SK.length :: T).map (am_tr base b) from fun T => by simp [am_tr, had hl]]
      refine k H' (hS.push (by rw [z1, h4]) (fun q hq => o1 q (by omega))) (hY.push ?_ (by rw [z1, h4]) (fun q hq => o1 q (by omega)))
      exact e1
    next => cases h
  · split at h
    next hc0 =>
      obtain ⟨rfl, hl, hn, hle⟩ := hc0
      cases h
      obtain ⟨h4, h5⟩ := hY.2.2 rfl
      obtain rfl : len = 2 := by simpa [am_chk] using hc
      refine va_newaK hx hb (hts _ (hw1 _ (by simp [am_word]))) rfl hd rfl hn rfl (by show _ * 8 ≤ _; omega) hcells hslots h4 fun H' cA e1 z1 o1 hAr hNm => ?_
      have hcA : cA = cs.2.2.1 := Option.some.inj (hNm.symm.trans (hK.2 2 _ rfl).2)
      subst hcA
      rw [show ∀ T : List Value, (Value.ref (base + SK.length) :: T.map (am_tr base b)) = (Value.ref SK.length :: T).map (am_tr base b) from fun T => by simp [am_tr, had hl]]
      refine k H' (hS.push (by rw [z1, h4]) (fun q hq => o1 q (by omega))) (hY.push ?_ (by rw [z1, h4]) (fun q hq => o1 q (by omega)))
      exact e1
    next => cases h
  · split at h
    next idx n S0 hc0 =>
      obtain ⟨rfl, hl, hn, hle⟩ := hc0
      cases h
      obtain ⟨h4, h5⟩ := hY.2.2 rfl
      obtain rfl : len = 3 := by simpa [am_chk] using hc
      refine W.anew hx hb hown (hts _ (hw1 _ (by simp [am_word]))) (va_AO.use hAO) rfl hd rfl hn (by omega) hcells hslots fun cA kA comp f1 f2 f3 f4 => ?_
      generalize hH1 : H.push ({ cls := cA, slots := Array.replicate n.toNatClampNeg .null, vm := .none } : Cell) = H1
      have z1 : H1.size = H.size + 1 := by rw [← hH1, Array.size_push]
      have e1 : H1[H.size]? = some (arrV cA n.toNatClampNeg (fun _ => .null)) := by rw [← hH1, Array.getElem?_push_size, ← arrV_new]
      have o1 : ∀ q : Nat, q < H.size → H1[q]? = H[q]? := fun q hq => by rw [← hH1, Array.getElem?_push, if_neg (Nat.ne_of_lt hq)]
      obtain ⟨kA', comp', -, -, -, hNm⟩ := (hK.2 3 _ rfl).2
      have hcA : cA = cs.2.2.2 := Option.some.inj (f1.symm.trans hNm)
      subst hcA
      rw [h4] at e1
      rw [show H.size = base + SK.length from h4]
      rw [show ∀ T : List Value, (Value.ref (base + SK.length) :: T.map (am_tr base b)) = (Value.ref SK.length :: T).map (am_tr base b) from fun T => by simp [am_tr, had hl]]
      refine k H1 (hS.push z1 o1) (hY.push ?_ z1 o1)
      show H1[base + SK.length]? = some (vp_cell _ _)
      rw [e1, vp_cell_q]
      congr 2
      funext j
      simp only [List.getD_eq_getElem?_getD, List.getElem?_replicate]
      by_cases hj : j < n.toNatClampNeg <;> simp [hj, va_rf]
    next => cases h
  · cases h
set_option maxHeartbeats 4000000 in
theorem am_sim_lib (hx : p.tables.exec = Jvm.exec) (hb : c.code = am_b i) (hml : c.maxLocals = ls.size) (hown : s.vm.findClass (am_own i) = some m.cls) (hts : ∀ w ∈ am_GW, w.before args s = true) (hK : va_K Dg vwCl (am_tyl cs) s)
    (hfr : am_fr i ≤ R.frames) (hlo : am_lo i ≤ R.locals) (hcells : cells ≤ R.cells) (hslots : slots ≤ R.slots)
    (hS : va_S (fun q => base ≤ q) s.heap H locs) (hY : am_dyn al Dg base b cs SK D H)
    {S S' : List Value} (hd : decode (am_b i) pc = .ok (ins, len)) (hc : am_chk i (pc, ins, len, 6, a, b0) = true) (hw1 : ∀ w ∈ am_word i (pc, ins, len, 6, a, b0), w ∈ am_GW) (h : am_lib a b0 S SK D = some (S', D'))
    (k : ∀ (H' : Heap) (locs' : List Loc), va_S (fun q => base ≤ q) s.heap H' locs' → am_dyn al Dg base b cs SK D' H' → W p l e R s m args below meth c H' locs' cells slots Q (F0 m (pc + 3) ls (S'.map (am_tr base b)))) : W p l e R s m args below meth c H locs cells slots Q (F0 m pc ls (S.map (am_tr base b))) := by
  unfold am_lib at h
  split at h
  · next r S0 =>
    split at h
    next h8 =>
      cases h
      obtain ⟨idx, rfl, rfl, hf, hl⟩ := am_chk61 hc
      have hr := lv_room (m := m) (pc := pc) (ls := ls) (rest := (Value.ref r :: S').map (am_tr base b)) (st := S'.map (am_tr base b)) (by rw [am_words_map]; exact h8)
      exact W.objInit hx hb hown (hts _ (hw1 _ (by simp [am_word]))) (hts _ (hw1 _ (by simp [am_word]))) (hts _ (hw1 _ (by simp [am_word]))) rfl hml.symm rfl hd (by omega) (by omega) (k H locs hS hY)
    next => cases h
  · next y x S0 =>
    split at h
    next h8 =>
      cases h
      obtain ⟨idx, rfl, rfl, hf, hl⟩ := am_chk62 hc
      exact va_mmax hx hb hml hown (hts _ (hw1 _ (by simp [am_word]))) (hts _ (hw1 _ (by simp [am_word]))) (hts _ (hw1 _ (by simp [am_word]))) (hts _ (hw1 _ (by simp [am_word]))) (by omega) (by rw [am_words_map]; omega) hcells hslots hd (k H locs hS hY)
    next => cases h
  · next y x S0 =>
    split at h
    next h8 =>
      cases h
      obtain ⟨idx, rfl, rfl, hf, hl⟩ := am_chk63 hc
      exact va_mmin hx hb hml hown (hts _ (hw1 _ (by simp [am_word]))) (hts _ (hw1 _ (by simp [am_word]))) (hts _ (hw1 _ (by simp [am_word]))) (hts _ (hw1 _ (by simp [am_word]))) (by omega) (by rw [am_words_map]; omega) hcells hslots hd (k H locs hS hY)
    next => cases h
  · next n dp r sp q S0 =>
    split at h
    next n0 rs0 n1 rs1 hat0 hat1 =>
      obtain ⟨hk0, hr0⟩ := am_at_spec hat0
      obtain ⟨hk1, hr1⟩ := am_at_spec hat1
      split at h
      next hcc =>
        obtain ⟨h8, h1, h2, h3, h4, h5⟩ := hcc
        cases h
        obtain ⟨idx, rfl, rfl, hf, hl⟩ := am_chk64 hc
        show W p l e R s m args below meth c H locs cells slots Q (F0 m pc ls (.int n :: .int dp :: .ref (am_ad base b r) :: .int sp :: .ref (am_ad base b q) :: S'.map (am_tr base b)))
        rw [am_ad_of hr0, am_ad_of hr1]
        have nn : ∀ z : Int32, ¬ z < 0 → z.toInt = (z.toNatClampNeg : Int) := by
          intro z hz
          have hz0 : (0 : Int) ≤ z.toInt := by
            have := Int32.not_lt.mp hz
            simpa using Int32.le_iff_toInt_le.mp this
          show z.toInt = ((z.toInt.toNat : Nat) : Int)
          omega
        intro T hT X
        have hc0 : H[base + q]? = some (vp_cell cs.1 (n0, .inl (D q))) := hY.1 q _ hk0
        have hc1 : H[base + r]? = some (vp_cell cs.1 (n1, .inl (D r))) := hY.1 r _ hk1
        obtain ⟨-, k0, hk0', cm0, hkk0⟩ := (hK.2 0 _ rfl).1 n0 (fun j => .int (D q j))
        obtain ⟨-, k1, hk1', cm1, hkk1⟩ := (hK.2 0 _ rfl).1 n1 (fun j => .int (D r j))
        have hrm := lv_room (m := m) (pc := pc) (ls := ls) (rest := .int n :: .int dp :: .ref (base + r) :: .int sp :: .ref (base + q) :: S'.map (am_tr base b)) (st := S'.map (am_tr base b)) (by rw [am_words_map]; exact h8)
        obtain ⟨vm', X', step⟩ := X.arraycopy (own := am_own i) (index := idx) hx hown (hts _ (hw1 _ (by simp [am_word]))) (hts _ (hw1 _ (by simp [am_word]))) (hts _ (hw1 _ (by simp [am_word]))) (hts _ (hw1 _ (by simp [am_word]))) (src := base + q) (dst := base + r) (cs := vp_cell cs.1 (n0, .inl (D q))) (cd := vp_cell cs.1 (n1, .inl (D r))) (srcPos := sp) (destPos := dp) (n := n) (by rw [hT]; exact hc0) (by rw [hT]; exact hc1)
          (fun _ h => by cases h) (fun _ h => by cases h) (fun h => by cases h) (fun h => by cases h) hk0' hk1' hkk0 hkk1 (by simp [refKind]) h1 h2 h3
          (by rw [nn sp h1, nn n h3]; show ¬ _ > ((arrV cs.1 n0 (fun j => .int (D q j))).slots.size : Int); rw [arrV_size]; omega)
          (by rw [nn dp h2, nn n h3]; show ¬ _ > ((arrV cs.1 n1 (fun j => .int (D r j))).slots.size : Int); rw [arrV_size]; omega)
          (fun vm₁ _ i hi => by
            have e : (vp_cell cs.1 (n0, .inl (D q))).slots.getD (sp.toNatClampNeg + i) .null = .int (D q (sp.toNatClampNeg + i)) := by
              show (arrV cs.1 n0 (fun j => .int (D q j))).slots.getD _ _ = _
              rw [Array.getD_eq_getD_getElem?, arrV_read _ _ (by omega)]
              rfl
            exact ⟨by rw [e]; rfl, by rw [e]; exact trivial⟩)
          (g := F0 m pc ls (.int n :: .int dp :: .ref (base + r) :: .int sp :: .ref (base + q) :: S'.map (am_tr base b))) rfl hml.symm (rest := S'.map (am_tr base b)) rfl (by rw [hb]; exact hd) (by omega) (by
            have e7 : nativeFrameWords "java/lang/System" "arraycopy" 5 = 7 := by decide +kernel
            rw [e7]; omega)
        have e1 : copied (vp_cell cs.1 (n0, .inl (D q))) (vp_cell cs.1 (n1, .inl (D r))) sp dp n = vp_cell cs.1 (n1, .inl (va_cpy (D q) (D r) sp.toNatClampNeg dp.toNatClampNeg n.toNatClampNeg)) := va_copied (fun z => .int z) cs.1 cs.1 (D q) (D r) h4
        rw [e1] at X' step
        have hl9 : base + r < H.size := (Array.getElem?_eq_some_iff.mp hc1).1
        have hheap : ((T.setVm vm').setCell (base + r) (vp_cell cs.1 (n1, .inl (va_cpy (D q) (D r) sp.toNatClampNeg dp.toNatClampNeg n.toNatClampNeg)))).heap = H.setIfInBounds (base + r) (vp_cell cs.1 (n1, .inl (va_cpy (D q) (D r) sp.toNatClampNeg dp.toNatClampNeg n.toNatClampNeg))) := by rw [← hT]; rfl
        have oq : ∀ z : Nat, z ≠ base + r → (H.setIfInBounds (base + r) (vp_cell cs.1 (n1, .inl (va_cpy (D q) (D r) sp.toNatClampNeg dp.toNatClampNeg n.toNatClampNeg))))[z]? = H[z]? := fun z hz => by simp [Array.getElem?_setIfInBounds, Ne.symm hz]
        have self : am_cpy D q sp.toNatClampNeg r dp.toNatClampNeg n.toNatClampNeg r = va_cpy (D q) (D r) sp.toNatClampNeg dp.toNatClampNeg n.toNatClampNeg := by
          funext j
          simp [am_cpy]
        obtain ⟨t, a1, b1⟩ := k _ _ ⟨by simp; exact hS.1, fun z g1 g2 => by
            rw [oq z (fun e => g2 (by rw [e]; exact Nat.le_add_right _ _))]
            exact hS.2.1 z g1 g2, fun z hz => by
            rcases List.mem_append.mp hz with h | h
            · exact hS.2.2 z h
            · obtain ⟨y, -, hy⟩ := List.mem_map.mp h
              rw [← hy]
              exact Nat.le_add_right _ _⟩ (hY.put hk1 rfl (fun z hz => ⟨rfl, by funext j; simp [am_cpy, hz]⟩) (by rw [self]; exact (show (H.setIfInBounds (base + r) _)[base + r]? = some _ by simp [Array.getElem?_setIfInBounds, hl9])) (by simp) oq) _ hheap X'
        exact ⟨t, step t a1, b1⟩
      next => cases h
    next => cases h
  · cases h
    obtain ⟨idx, rfl, rfl⟩ := am_chk65 hc
    exact lv_ldcw hx hb hown (hts _ (hw1 _ (by simp [am_word]))) hd (k H locs hS hY)
  · cases h
end AMS4
end
section
/-! every row of every table stands as it should (parts 08 to 10), as one theorem -/
theorem am_join1 {α : Type} {f : α → Bool} {l : List α} (hl : l.length ≤ 100) (h : ((l.drop 0).take 100).all f = true) : l.all f = true := by
  rw [List.drop_zero, List.take_of_length_le hl] at h
  exact h
theorem am_join {α : Type} {f : α → Bool} {l : List α} (k : Nat) (hl : l.length ≤ 100 * k) (h : ∀ j, j < k → ((l.drop (100 * j)).take 100).all f = true) : l.all f = true := by
  refine List.all_eq_true.mpr fun q hq => ?_
  obtain ⟨j, hj⟩ := List.getElem?_of_mem hq
  have hlt : j < l.length := (List.getElem?_eq_some_iff.mp hj).1
  refine List.all_eq_true.mp (h (j / 100) (by omega)) q (List.mem_of_getElem? (i := j - 100 * (j / 100)) ?_)
  rw [List.getElem?_take, if_pos (by omega), List.getElem?_drop, show 100 * (j / 100) + (j - 100 * (j / 100)) = j by omega]
  exact hj
abbrev am_T3 : Type := Nat × List (Nat × Instr × Nat × Nat × Nat × Nat) × List (List Nat)
def am_trok (t : am_T3) : Prop := (t.2.1.zip t.2.2).all (am_row2 t.1) = true ∧ t.2.1.length = t.2.2.length
set_option maxRecDepth 100000 in
theorem am_tk_0 : am_trok (0, am_ct_0, am_ps_0) := ⟨am_join1 (by decide +kernel) am_k_0_0, by decide +kernel⟩
set_option maxRecDepth 100000 in
theorem am_tk_1 : am_trok (1, am_ct_1, am_ps_1) := ⟨am_join1 (by decide +kernel) am_k_1_0, by decide +kernel⟩
set_option maxRecDepth 100000 in
theorem am_tk_2 : am_trok (2, am_ct_2, am_ps_2) := ⟨am_join1 (by decide +kernel) am_k_2_0, by decide +kernel⟩
set_option maxRecDepth 100000 in
theorem am_tk_3 : am_trok (3, am_ct_3, am_ps_3) := ⟨am_join1 (by decide +kernel) am_k_3_0, by decide +kernel⟩
set_option maxRecDepth 100000 in
theorem am_tk_4 : am_trok (4, am_ct_4, am_ps_4) := ⟨am_join1 (by decide +kernel) am_k_4_0, by decide +kernel⟩
set_option maxRecDepth 100000 in
theorem am_tk_5 : am_trok (5, am_ct_5, am_ps_5) := ⟨am_join1 (by decide +kernel) am_k_5_0, by decide +kernel⟩
set_option maxRecDepth 100000 in
theorem am_tk_6 : am_trok (6, am_ct_6, am_ps_6) := ⟨am_join1 (by decide +kernel) am_k_6_0, by decide +kernel⟩
set_option maxRecDepth 100000 in
theorem am_tk_7 : am_trok (7, am_ct_7, am_ps_7) := ⟨am_join1 (by decide +kernel) am_k_7_0, by decide +kernel⟩
set_option maxRecDepth 100000 in
theorem am_tk_8 : am_trok (8, am_ct_8, am_ps_8) := ⟨am_join1 (by decide +kernel) am_k_8_0, by decide +kernel⟩
set_option maxRecDepth 100000 in
theorem am_tk_9 : am_trok (9, am_ct_9, am_ps_9) := ⟨am_join1 (by decide +kernel) am_k_9_0, by decide +kernel⟩
set_option maxRecDepth 100000 in
theorem am_tk_10 : am_trok (10, am_ct_10, am_ps_10) := ⟨am_join1 (by decide +kernel) am_k_10_0, by decide +kernel⟩
set_option maxRecDepth 100000 in
theorem am_tk_11 : am_trok (11, am_ct_11, am_ps_11) := ⟨am_join1 (by decide +kernel) am_k_11_0, by decide +kernel⟩
set_option maxRecDepth 100000 in
theorem am_tk_12 : am_trok (12, am_ct_12, am_ps_12) := ⟨am_join1 (by decide +kernel) am_k_12_0, by decide +kernel⟩
set_option maxRecDepth 100000 in
theorem am_tk_13 : am_trok (13, am_ct_13, am_ps_13) := ⟨am_join1 (by decide +kernel) am_k_13_0, by decide +kernel⟩
set_option maxRecDepth 100000 in
theorem am_tk_14 : am_trok (14, am_ct_14, am_ps_14) := ⟨am_join1 (by decide +kernel) am_k_14_0, by decide +kernel⟩
set_option maxRecDepth 100000 in
theorem am_tk_15 : am_trok (15, am_ct_15, am_ps_15) := ⟨am_join1 (by decide +kernel) am_k_15_0, by decide +kernel⟩
set_option maxRecDepth 100000 in
theorem am_tk_16 : am_trok (16, am_ct_16, am_ps_16) := ⟨am_join1 (by decide +kernel) am_k_16_0, by decide +kernel⟩
set_option maxRecDepth 100000 in
theorem am_tk_17 : am_trok (17, am_ct_17, am_ps_17) := ⟨am_join1 (by decide +kernel) am_k_17_0, by decide +kernel⟩
set_option maxRecDepth 100000 in
theorem am_tk_18 : am_trok (18, am_ct_18, am_ps_18) := ⟨am_join1 (by decide +kernel) am_k_18_0, by decide +kernel⟩
set_option maxRecDepth 100000 in
theorem am_tk_19 : am_trok (19, am_ct_19, am_ps_19) := ⟨am_join1 (by decide +kernel) am_k_19_0, by decide +kernel⟩
set_option maxRecDepth 100000 in
theorem am_tk_20 : am_trok (20, am_ct_20, am_ps_20) := ⟨am_join1 (by decide +kernel) am_k_20_0, by decide +kernel⟩
set_option maxRecDepth 100000 in
theorem am_tk_21 : am_trok (21, am_ct_21, am_ps_21) := ⟨am_join1 (by decide +kernel) am_k_21_0, by decide +kernel⟩
set_option maxRecDepth 100000 in
theorem am_tk_22 : am_trok (22, am_ct_22, am_ps_22) := ⟨am_join1 (by decide +kernel) am_k_22_0, by decide +kernel⟩
set_option maxRecDepth 100000 in
theorem am_tk_23 : am_trok (23, am_ct_23, am_ps_23) := ⟨am_join1 (by decide +kernel) am_k_23_0, by decide +kernel⟩
set_option maxRecDepth 100000 in
theorem am_tk_24 : am_trok (24, am_ct_24, am_ps_24) := ⟨am_join1 (by decide +kernel) am_k_24_0, by decide +kernel⟩
set_option maxRecDepth 100000 in
theorem am_tk_25 : am_trok (25, am_ct_25, am_ps_25) := ⟨am_join1 (by decide +kernel) am_k_25_0, by decide +kernel⟩
set_option maxRecDepth 100000 in
theorem am_tk_26 : am_trok (26, am_ct_26, am_ps_26) := ⟨am_join1 (by decide +kernel) am_k_26_0, by decide +kernel⟩
set_option maxRecDepth 100000 in
theorem am_tk_27 : am_trok (27, am_ct_27, am_ps_27) := ⟨am_join1 (by decide +kernel) am_k_27_0, by decide +kernel⟩
set_option maxRecDepth 100000 in
theorem am_tk_28 : am_trok (28, am_ct_28, am_ps_28) := ⟨am_join1 (by decide +kernel) am_k_28_0, by decide +kernel⟩
set_option maxRecDepth 100000 in
theorem am_tk_29 : am_trok (29, am_ct_29, am_ps_29) := ⟨am_join1 (by decide +kernel) am_k_29_0, by decide +kernel⟩
set_option maxRecDepth 100000 in
theorem am_tk_30 : am_trok (30, am_ct_30, am_ps_30) := ⟨am_join1 (by decide +kernel) am_k_30_0, by decide +kernel⟩
set_option maxRecDepth 100000 in
theorem am_tk_31 : am_trok (31, am_ct_31, am_ps_31) := ⟨am_join1 (by decide +kernel) am_k_31_0, by decide +kernel⟩
set_option maxRecDepth 100000 in
theorem am_tk_32 : am_trok (32, am_ct_32, am_ps_32) := ⟨am_join1 (by decide +kernel) am_k_32_0, by decide +kernel⟩
set_option maxRecDepth 100000 in
theorem am_tk_33 : am_trok (33, am_ct_33, am_ps_33) := ⟨am_join1 (by decide +kernel) am_k_33_0, by decide +kernel⟩
set_option maxRecDepth 100000 in
theorem am_tk_34 : am_trok (34, am_ct_34, am_ps_34) := ⟨am_join1 (by decide +kernel) am_k_34_0, by decide +kernel⟩
set_option maxRecDepth 100000 in
theorem am_tk_35 : am_trok (35, am_ct_35, am_ps_35) := ⟨am_join1 (by decide +kernel) am_k_35_0, by decide +kernel⟩
set_option maxRecDepth 100000 in
theorem am_tk_36 : am_trok (36, am_ct_36, am_ps_36) := ⟨am_join1 (by decide +kernel) am_k_36_0, by decide +kernel⟩
set_option maxRecDepth 100000 in
theorem am_tk_37 : am_trok (37, am_ct_37, am_ps_37) := ⟨am_join1 (by decide +kernel) am_k_37_0, by decide +kernel⟩
set_option maxRecDepth 100000 in
theorem am_tk_38 : am_trok (38, am_ct_38, am_ps_38) := ⟨am_join1 (by decide +kernel) am_k_38_0, by decide +kernel⟩
set_option maxRecDepth 100000 in
theorem am_tk_39 : am_trok (39, am_ct_39, am_ps_39) := ⟨am_join1 (by decide +kernel) am_k_39_0, by decide +kernel⟩
set_option maxRecDepth 100000 in
theorem am_tk_40 : am_trok (40, am_ct_40, am_ps_40) := ⟨am_join1 (by decide +kernel) am_k_40_0, by decide +kernel⟩
set_option maxRecDepth 100000 in
theorem am_tk_41 : am_trok (41, am_ct_41, am_ps_41) := ⟨am_join1 (by decide +kernel) am_k_41_0, by decide +kernel⟩
set_option maxRecDepth 100000 in
theorem am_tk_42 : am_trok (42, am_ct_42, am_ps_42) := ⟨am_join1 (by decide +kernel) am_k_42_0, by decide +kernel⟩
set_option maxRecDepth 100000 in
theorem am_tk_43 : am_trok (43, am_ct_43, am_ps_43) := ⟨am_join1 (by decide +kernel) am_k_43_0, by decide +kernel⟩
set_option maxRecDepth 100000 in
theorem am_tk_44 : am_trok (44, am_ct_44, am_ps_44) := ⟨am_join1 (by decide +kernel) am_k_44_0, by decide +kernel⟩
set_option maxRecDepth 100000 in
theorem am_tk_45 : am_trok (45, am_ct_45, am_ps_45) := ⟨am_join1 (by decide +kernel) am_k_45_0, by decide +kernel⟩
set_option maxRecDepth 100000 in
theorem am_tk_46 : am_trok (46, am_ct_46, am_ps_46) := ⟨am_join1 (by decide +kernel) am_k_46_0, by decide +kernel⟩
set_option maxRecDepth 100000 in
theorem am_tk_47 : am_trok (47, am_ct_47, am_ps_47) := ⟨am_join1 (by decide +kernel) am_k_47_0, by decide +kernel⟩
set_option maxRecDepth 100000 in
theorem am_tk_48 : am_trok (48, am_ct_48, am_ps_48) := ⟨am_join1 (by decide +kernel) am_k_48_0, by decide +kernel⟩
set_option maxRecDepth 100000 in
theorem am_tk_49 : am_trok (49, am_ct_49, am_ps_49) := ⟨am_join1 (by decide +kernel) am_k_49_0, by decide +kernel⟩
set_option maxRecDepth 100000 in
theorem am_tk_50 : am_trok (50, am_ct_50, am_ps_50) := ⟨am_join1 (by decide +kernel) am_k_50_0, by decide +kernel⟩
set_option maxRecDepth 100000 in
theorem am_tk_51 : am_trok (51, am_ct_51, am_ps_51) := ⟨am_join1 (by decide +kernel) am_k_51_0, by decide +kernel⟩
set_option maxRecDepth 100000 in
theorem am_tk_52 : am_trok (52, am_ct_52, am_ps_52) := ⟨am_join1 (by decide +kernel) am_k_52_0, by decide +kernel⟩
set_option maxRecDepth 100000 in
theorem am_tk_53 : am_trok (53, am_ct_53, am_ps_53) := ⟨am_join1 (by decide +kernel) am_k_53_0, by decide +kernel⟩
set_option maxRecDepth 100000 in
theorem am_tk_54 : am_trok (54, am_ct_54, am_ps_54) := ⟨am_join1 (by decide +kernel) am_k_54_0, by decide +kernel⟩
set_option maxRecDepth 100000 in
theorem am_tk_55 : am_trok (55, am_ct_55, am_ps_55) := ⟨am_join1 (by decide +kernel) am_k_55_0, by decide +kernel⟩
set_option maxRecDepth 100000 in
theorem am_tk_56 : am_trok (56, am_ct_56, am_ps_56) := ⟨am_join1 (by decide +kernel) am_k_56_0, by decide +kernel⟩
set_option maxRecDepth 100000 in
theorem am_tk_57 : am_trok (57, am_ct_57, am_ps_57) := ⟨am_join1 (by decide +kernel) am_k_57_0, by decide +kernel⟩
set_option maxRecDepth 100000 in
theorem am_tk_58 : am_trok (58, am_ct_58, am_ps_58) := ⟨am_join1 (by decide +kernel) am_k_58_0, by decide +kernel⟩
set_option maxRecDepth 100000 in
theorem am_tk_59 : am_trok (59, am_ct_59, am_ps_59) := ⟨am_join1 (by decide +kernel) am_k_59_0, by decide +kernel⟩
set_option maxRecDepth 100000 in
theorem am_tk_60 : am_trok (60, am_ct_60, am_ps_60) := ⟨am_join1 (by decide +kernel) am_k_60_0, by decide +kernel⟩
set_option maxRecDepth 100000 in
theorem am_tk_61 : am_trok (61, am_ct_61, am_ps_61) := ⟨am_join1 (by decide +kernel) am_k_61_0, by decide +kernel⟩
set_option maxRecDepth 100000 in
theorem am_tk_62 : am_trok (62, am_ct_62, am_ps_62) := ⟨am_join1 (by decide +kernel) am_k_62_0, by decide +kernel⟩
set_option maxRecDepth 100000 in
theorem am_tk_63 : am_trok (63, am_ct_63, am_ps_63) := ⟨am_join1 (by decide +kernel) am_k_63_0, by decide +kernel⟩
set_option maxRecDepth 100000 in
theorem am_tk_64 : am_trok (64, am_ct_64, am_ps_64) := ⟨am_join1 (by decide +kernel) am_k_64_0, by decide +kernel⟩
set_option maxRecDepth 100000 in
theorem am_tk_65 : am_trok (65, am_ct_65, am_ps_65) := ⟨am_join1 (by decide +kernel) am_k_65_0, by decide +kernel⟩
set_option maxRecDepth 100000 in
theorem am_tk_66 : am_trok (66, am_ct_66, am_ps_66) := ⟨am_join1 (by decide +kernel) am_k_66_0, by decide +kernel⟩
set_option maxRecDepth 100000 in
theorem am_tk_67 : am_trok (67, am_ct_67, am_ps_67) := ⟨am_join1 (by decide +kernel) am_k_67_0, by decide +kernel⟩
set_option maxRecDepth 100000 in
theorem am_tk_68 : am_trok (68, am_ct_68, am_ps_68) := ⟨am_join1 (by decide +kernel) am_k_68_0, by decide +kernel⟩
set_option maxRecDepth 100000 in
theorem am_tk_69 : am_trok (69, am_ct_69, am_ps_69) := ⟨am_join1 (by decide +kernel) am_k_69_0, by decide +kernel⟩
set_option maxRecDepth 100000 in
theorem am_tk_70 : am_trok (70, am_ct_70, am_ps_70) := ⟨am_join1 (by decide +kernel) am_k_70_0, by decide +kernel⟩
set_option maxRecDepth 100000 in
theorem am_tk_71 : am_trok (71, am_ct_71, am_ps_71) := ⟨am_join1 (by decide +kernel) am_k_71_0, by decide +kernel⟩
set_option maxRecDepth 100000 in
theorem am_tk_72 : am_trok (72, am_ct_72, am_ps_72) := ⟨am_join1 (by decide +kernel) am_k_72_0, by decide +kernel⟩
set_option maxRecDepth 100000 in
theorem am_tk_73 : am_trok (73, am_ct_73, am_ps_73) := ⟨am_join1 (by decide +kernel) am_k_73_0, by decide +kernel⟩
set_option maxRecDepth 100000 in
theorem am_tk_74 : am_trok (74, am_ct_74, am_ps_74) := ⟨am_join1 (by decide +kernel) am_k_74_0, by decide +kernel⟩
set_option maxRecDepth 100000 in
theorem am_tk_75 : am_trok (75, am_ct_75, am_ps_75) := ⟨am_join1 (by decide +kernel) am_k_75_0, by decide +kernel⟩
set_option maxRecDepth 100000 in
theorem am_tk_76 : am_trok (76, am_ct_76, am_ps_76) := ⟨am_join1 (by decide +kernel) am_k_76_0, by decide +kernel⟩
set_option maxRecDepth 100000 in
theorem am_tk_77 : am_trok (77, am_ct_77, am_ps_77) := ⟨am_join1 (by decide +kernel) am_k_77_0, by decide +kernel⟩
set_option maxRecDepth 100000 in
theorem am_tk_78 : am_trok (78, am_ct_78, am_ps_78) := ⟨am_join1 (by decide +kernel) am_k_78_0, by decide +kernel⟩
set_option maxRecDepth 100000 in
theorem am_tk_79 : am_trok (79, am_ct_79, am_ps_79) := ⟨am_join1 (by decide +kernel) am_k_79_0, by decide +kernel⟩
set_option maxRecDepth 100000 in
theorem am_tk_80 : am_trok (80, am_ct_80, am_ps_80) := ⟨am_join1 (by decide +kernel) am_k_80_0, by decide +kernel⟩
set_option maxRecDepth 100000 in
theorem am_tk_81 : am_trok (81, am_ct_81, am_ps_81) := ⟨am_join1 (by decide +kernel) am_k_81_0, by decide +kernel⟩
set_option maxRecDepth 100000 in
theorem am_tk_82 : am_trok (82, am_ct_82, am_ps_82) := ⟨am_join1 (by decide +kernel) am_k_82_0, by decide +kernel⟩
set_option maxRecDepth 100000 in
theorem am_tk_83 : am_trok (83, am_ct_83, am_ps_83) := ⟨am_join1 (by decide +kernel) am_k_83_0, by decide +kernel⟩
set_option maxRecDepth 100000 in
theorem am_tk_84 : am_trok (84, am_ct_84, am_ps_84) := ⟨am_join1 (by decide +kernel) am_k_84_0, by decide +kernel⟩
set_option maxRecDepth 100000 in
theorem am_tk_85 : am_trok (85, am_ct_85, am_ps_85) := ⟨am_join1 (by decide +kernel) am_k_85_0, by decide +kernel⟩
set_option maxRecDepth 100000 in
theorem am_tk_86 : am_trok (86, am_ct_86, am_ps_86) := ⟨am_join1 (by decide +kernel) am_k_86_0, by decide +kernel⟩
set_option maxRecDepth 100000 in
theorem am_tk_87 : am_trok (87, am_ct_87, am_ps_87) := ⟨am_join1 (by decide +kernel) am_k_87_0, by decide +kernel⟩
set_option maxRecDepth 100000 in
theorem am_tk_88 : am_trok (88, am_ct_88, am_ps_88) := ⟨am_join1 (by decide +kernel) am_k_88_0, by decide +kernel⟩
set_option maxRecDepth 100000 in
theorem am_tk_89 : am_trok (89, am_ct_89, am_ps_89) := ⟨am_join1 (by decide +kernel) am_k_89_0, by decide +kernel⟩
set_option maxRecDepth 100000 in
theorem am_tk_90 : am_trok (90, am_ct_90, am_ps_90) := ⟨am_join1 (by decide +kernel) am_k_90_0, by decide +kernel⟩
set_option maxRecDepth 100000 in
theorem am_tk_91 : am_trok (91, am_ct_91, am_ps_91) := ⟨am_join1 (by decide +kernel) am_k_91_0, by decide +kernel⟩
set_option maxRecDepth 100000 in
theorem am_tk_92 : am_trok (92, am_ct_92, am_ps_92) := ⟨am_join1 (by decide +kernel) am_k_92_0, by decide +kernel⟩
set_option maxRecDepth 100000 in
theorem am_tk_93 : am_trok (93, am_ct_93, am_ps_93) := ⟨am_join1 (by decide +kernel) am_k_93_0, by decide +kernel⟩
set_option maxRecDepth 100000 in
theorem am_tk_94 : am_trok (94, am_ct_94, am_ps_94) := ⟨am_join1 (by decide +kernel) am_k_94_0, by decide +kernel⟩
set_option maxRecDepth 100000 in
theorem am_tk_95 : am_trok (95, am_ct_95, am_ps_95) := ⟨am_join1 (by decide +kernel) am_k_95_0, by decide +kernel⟩
set_option maxRecDepth 100000 in
theorem am_tk_96 : am_trok (96, am_ct_96, am_ps_96) := ⟨am_join1 (by decide +kernel) am_k_96_0, by decide +kernel⟩
set_option maxRecDepth 100000 in
theorem am_tk_97 : am_trok (97, am_ct_97, am_ps_97) := ⟨am_join1 (by decide +kernel) am_k_97_0, by decide +kernel⟩
set_option maxRecDepth 100000 in
theorem am_tk_98 : am_trok (98, am_ct_98, am_ps_98) := ⟨am_join1 (by decide +kernel) am_k_98_0, by decide +kernel⟩
set_option maxRecDepth 100000 in
theorem am_tk_99 : am_trok (99, am_ct_99, am_ps_99) := ⟨am_join1 (by decide +kernel) am_k_99_0, by decide +kernel⟩
set_option maxRecDepth 100000 in
theorem am_tk_100 : am_trok (100, am_ct_100, am_ps_100) := ⟨am_join1 (by decide +kernel) am_k_100_0, by decide +kernel⟩
set_option maxRecDepth 100000 in
theorem am_tk_101 : am_trok (101, am_ct_101, am_ps_101) := ⟨am_join1 (by decide +kernel) am_k_101_0, by decide +kernel⟩
set_option maxRecDepth 100000 in
theorem am_tk_102 : am_trok (102, am_ct_102, am_ps_102) := ⟨am_join1 (by decide +kernel) am_k_102_0, by decide +kernel⟩
set_option maxRecDepth 100000 in
theorem am_tk_103 : am_trok (103, am_ct_103, am_ps_103) := ⟨am_join1 (by decide +kernel) am_k_103_0, by decide +kernel⟩
set_option maxRecDepth 100000 in
theorem am_tk_104 : am_trok (104, am_ct_104, am_ps_104) := ⟨am_join1 (by decide +kernel) am_k_104_0, by decide +kernel⟩
set_option maxRecDepth 100000 in
theorem am_tk_105 : am_trok (105, am_ct_105, am_ps_105) := ⟨am_join1 (by decide +kernel) am_k_105_0, by decide +kernel⟩
set_option maxRecDepth 100000 in
theorem am_tk_106 : am_trok (106, am_ct_106, am_ps_106) := ⟨am_join1 (by decide +kernel) am_k_106_0, by decide +kernel⟩
set_option maxRecDepth 100000 in
theorem am_tk_107 : am_trok (107, am_ct_107, am_ps_107) := ⟨am_join1 (by decide +kernel) am_k_107_0, by decide +kernel⟩
set_option maxRecDepth 100000 in
theorem am_tk_108 : am_trok (108, am_ct_108, am_ps_108) := ⟨am_join1 (by decide +kernel) am_k_108_0, by decide +kernel⟩
set_option maxRecDepth 100000 in
theorem am_tk_109 : am_trok (109, am_ct_109, am_ps_109) := ⟨am_join1 (by decide +kernel) am_k_109_0, by decide +kernel⟩
set_option maxRecDepth 100000 in
theorem am_tk_110 : am_trok (110, am_ct_110, am_ps_110) := ⟨am_join1 (by decide +kernel) am_k_110_0, by decide +kernel⟩
set_option maxRecDepth 100000 in
theorem am_tk_111 : am_trok (111, am_ct_111, am_ps_111) := ⟨am_join1 (by decide +kernel) am_k_111_0, by decide +kernel⟩
set_option maxRecDepth 100000 in
theorem am_tk_112 : am_trok (112, am_ct_112, am_ps_112) := ⟨am_join1 (by decide +kernel) am_k_112_0, by decide +kernel⟩
set_option maxRecDepth 100000 in
theorem am_tk_113 : am_trok (113, am_ct_113, am_ps_113) := ⟨am_join1 (by decide +kernel) am_k_113_0, by decide +kernel⟩
set_option maxRecDepth 100000 in
theorem am_tk_114 : am_trok (114, am_ct_114, am_ps_114) := ⟨am_join1 (by decide +kernel) am_k_114_0, by decide +kernel⟩
set_option maxRecDepth 100000 in
theorem am_tk_115 : am_trok (115, am_ct_115, am_ps_115) := ⟨am_join1 (by decide +kernel) am_k_115_0, by decide +kernel⟩
set_option maxRecDepth 100000 in
theorem am_tk_116 : am_trok (116, am_ct_116, am_ps_116) := ⟨am_join1 (by decide +kernel) am_k_116_0, by decide +kernel⟩
set_option maxRecDepth 100000 in
theorem am_tk_117 : am_trok (117, am_ct_117, am_ps_117) := ⟨am_join1 (by decide +kernel) am_k_117_0, by decide +kernel⟩
set_option maxRecDepth 100000 in
theorem am_tk_118 : am_trok (118, am_ct_118, am_ps_118) := ⟨am_join1 (by decide +kernel) am_k_118_0, by decide +kernel⟩
set_option maxRecDepth 100000 in
theorem am_tk_119 : am_trok (119, am_ct_119, am_ps_119) := ⟨am_join1 (by decide +kernel) am_k_119_0, by decide +kernel⟩
set_option maxRecDepth 100000 in
theorem am_tk_120 : am_trok (120, am_ct_120, am_ps_120) := ⟨am_join1 (by decide +kernel) am_k_120_0, by decide +kernel⟩
set_option maxRecDepth 100000 in
theorem am_tk_121 : am_trok (121, am_ct_121, am_ps_121) := ⟨am_join1 (by decide +kernel) am_k_121_0, by decide +kernel⟩
set_option maxRecDepth 100000 in
theorem am_tk_122 : am_trok (122, am_ct_122, am_ps_122) := ⟨am_join1 (by decide +kernel) am_k_122_0, by decide +kernel⟩
set_option maxRecDepth 100000 in
theorem am_tk_123 : am_trok (123, am_ct_123, am_ps_123) := ⟨am_join1 (by decide +kernel) am_k_123_0, by decide +kernel⟩
set_option maxRecDepth 100000 in
theorem am_tk_124 : am_trok (124, am_ct_124, am_ps_124) := ⟨am_join1 (by decide +kernel) am_k_124_0, by decide +kernel⟩
set_option maxRecDepth 100000 in
theorem am_tk_125 : am_trok (125, am_ct_125, am_ps_125) := ⟨am_join1 (by decide +kernel) am_k_125_0, by decide +kernel⟩
set_option maxRecDepth 100000 in
theorem am_tk_126 : am_trok (126, am_ct_126, am_ps_126) := ⟨am_join1 (by decide +kernel) am_k_126_0, by decide +kernel⟩
set_option maxRecDepth 100000 in
theorem am_tk_127 : am_trok (127, am_ct_127, am_ps_127) := ⟨am_join1 (by decide +kernel) am_k_127_0, by decide +kernel⟩
set_option maxRecDepth 100000 in
theorem am_tk_128 : am_trok (128, am_ct_128, am_ps_128) := ⟨am_join1 (by decide +kernel) am_k_128_0, by decide +kernel⟩
set_option maxRecDepth 100000 in
theorem am_tk_129 : am_trok (129, am_ct_129, am_ps_129) := ⟨am_join1 (by decide +kernel) am_k_129_0, by decide +kernel⟩
set_option maxRecDepth 100000 in
theorem am_tk_130 : am_trok (130, am_ct_130, am_ps_130) := ⟨am_join1 (by decide +kernel) am_k_130_0, by decide +kernel⟩
set_option maxRecDepth 100000 in
theorem am_tk_131 : am_trok (131, am_ct_131, am_ps_131) := ⟨am_join1 (by decide +kernel) am_k_131_0, by decide +kernel⟩
set_option maxRecDepth 100000 in
theorem am_tk_132 : am_trok (132, am_ct_132, am_ps_132) := ⟨am_join1 (by decide +kernel) am_k_132_0, by decide +kernel⟩
set_option maxRecDepth 100000 in
theorem am_tk_133 : am_trok (133, am_ct_133, am_ps_133) := ⟨am_join1 (by decide +kernel) am_k_133_0, by decide +kernel⟩
set_option maxRecDepth 100000 in
theorem am_tk_134 : am_trok (134, am_ct_134, am_ps_134) := ⟨am_join1 (by decide +kernel) am_k_134_0, by decide +kernel⟩
set_option maxRecDepth 100000 in
theorem am_tk_135 : am_trok (135, am_ct_135, am_ps_135) := ⟨am_join1 (by decide +kernel) am_k_135_0, by decide +kernel⟩
set_option maxRecDepth 100000 in
theorem am_tk_136 : am_trok (136, am_ct_136, am_ps_136) := ⟨am_join1 (by decide +kernel) am_k_136_0, by decide +kernel⟩
set_option maxRecDepth 100000 in
theorem am_tk_137 : am_trok (137, am_ct_137, am_ps_137) := ⟨am_join1 (by decide +kernel) am_k_137_0, by decide +kernel⟩
set_option maxRecDepth 100000 in
theorem am_tk_138 : am_trok (138, am_ct_138, am_ps_138) := ⟨am_join1 (by decide +kernel) am_k_138_0, by decide +kernel⟩
set_option maxRecDepth 100000 in
theorem am_tk_139 : am_trok (139, am_ct_139, am_ps_139) := ⟨am_join1 (by decide +kernel) am_k_139_0, by decide +kernel⟩
set_option maxRecDepth 100000 in
theorem am_tk_140 : am_trok (140, am_ct_140, am_ps_140) := ⟨am_join1 (by decide +kernel) am_k_140_0, by decide +kernel⟩
set_option maxRecDepth 100000 in
theorem am_tk_141 : am_trok (141, am_ct_141, am_ps_141) := ⟨am_join1 (by decide +kernel) am_k_141_0, by decide +kernel⟩
set_option maxRecDepth 100000 in
theorem am_tk_142 : am_trok (142, am_ct_142, am_ps_142) := ⟨am_join1 (by decide +kernel) am_k_142_0, by decide +kernel⟩
set_option maxRecDepth 100000 in
theorem am_tk_143 : am_trok (143, am_ct_143, am_ps_143) := ⟨am_join1 (by decide +kernel) am_k_143_0, by decide +kernel⟩
set_option maxRecDepth 100000 in
theorem am_tk_144 : am_trok (144, am_ct_144, am_ps_144) := ⟨am_join1 (by decide +kernel) am_k_144_0, by decide +kernel⟩
set_option maxRecDepth 100000 in
theorem am_tk_145 : am_trok (145, am_ct_145, am_ps_145) := ⟨am_join1 (by decide +kernel) am_k_145_0, by decide +kernel⟩
set_option maxRecDepth 100000 in
theorem am_tk_146 : am_trok (146, am_ct_146, am_ps_146) := ⟨am_join1 (by decide +kernel) am_k_146_0, by decide +kernel⟩
set_option maxRecDepth 100000 in
theorem am_tk_147 : am_trok (147, am_ct_147, am_ps_147) := ⟨am_join1 (by decide +kernel) am_k_147_0, by decide +kernel⟩
set_option maxRecDepth 100000 in
theorem am_tk_148 : am_trok (148, am_ct_148, am_ps_148) := ⟨am_join1 (by decide +kernel) am_k_148_0, by decide +kernel⟩
set_option maxRecDepth 100000 in
theorem am_tk_149 : am_trok (149, am_ct_149, am_ps_149) := ⟨am_join1 (by decide +kernel) am_k_149_0, by decide +kernel⟩
set_option maxRecDepth 100000 in
theorem am_tk_150 : am_trok (150, am_ct_150, am_ps_150) := ⟨am_join1 (by decide +kernel) am_k_150_0, by decide +kernel⟩
set_option maxRecDepth 100000 in
theorem am_tk_151 : am_trok (151, am_ct_151, am_ps_151) := ⟨am_join1 (by decide +kernel) am_k_151_0, by decide +kernel⟩
set_option maxRecDepth 100000 in
theorem am_tk_152 : am_trok (152, am_ct_152, am_ps_152) := ⟨am_join1 (by decide +kernel) am_k_152_0, by decide +kernel⟩
set_option maxRecDepth 100000 in
theorem am_tk_153 : am_trok (153, am_ct_153, am_ps_153) := ⟨am_join1 (by decide +kernel) am_k_153_0, by decide +kernel⟩
set_option maxRecDepth 100000 in
theorem am_tk_154 : am_trok (154, am_ct_154, am_ps_154) := ⟨am_join1 (by decide +kernel) am_k_154_0, by decide +kernel⟩
set_option maxRecDepth 100000 in
theorem am_tk_155 : am_trok (155, am_ct_155, am_ps_155) := ⟨am_join1 (by decide +kernel) am_k_155_0, by decide +kernel⟩
set_option maxRecDepth 100000 in
theorem am_tk_156 : am_trok (156, am_ct_156, am_ps_156) := ⟨am_join1 (by decide +kernel) am_k_156_0, by decide +kernel⟩
set_option maxRecDepth 100000 in
theorem am_tk_157 : am_trok (157, am_ct_157, am_ps_157) := ⟨am_join1 (by decide +kernel) am_k_157_0, by decide +kernel⟩
set_option maxRecDepth 100000 in
theorem am_tk_158 : am_trok (158, am_ct_158, am_ps_158) := ⟨am_join1 (by decide +kernel) am_k_158_0, by decide +kernel⟩
set_option maxRecDepth 100000 in
theorem am_tk_159 : am_trok (159, am_ct_159, am_ps_159) := ⟨am_join1 (by decide +kernel) am_k_159_0, by decide +kernel⟩
set_option maxRecDepth 100000 in
theorem am_tk_160 : am_trok (160, am_ct_160, am_ps_160) := ⟨am_join1 (by decide +kernel) am_k_160_0, by decide +kernel⟩
set_option maxRecDepth 100000 in
theorem am_tk_161 : am_trok (161, am_ct_161, am_ps_161) := ⟨am_join1 (by decide +kernel) am_k_161_0, by decide +kernel⟩
set_option maxRecDepth 100000 in
theorem am_tk_162 : am_trok (162, am_ct_162, am_ps_162) := ⟨am_join1 (by decide +kernel) am_k_162_0, by decide +kernel⟩
set_option maxRecDepth 100000 in
theorem am_tk_163 : am_trok (163, am_ct_163, am_ps_163) := ⟨am_join1 (by decide +kernel) am_k_163_0, by decide +kernel⟩
set_option maxRecDepth 100000 in
theorem am_tk_164 : am_trok (164, am_ct_164, am_ps_164) := ⟨am_join1 (by decide +kernel) am_k_164_0, by decide +kernel⟩
set_option maxRecDepth 100000 in
theorem am_tk_165 : am_trok (165, am_ct_165, am_ps_165) := ⟨am_join1 (by decide +kernel) am_k_165_0, by decide +kernel⟩
set_option maxRecDepth 100000 in
theorem am_tk_166 : am_trok (166, am_ct_166, am_ps_166) := ⟨am_join1 (by decide +kernel) am_k_166_0, by decide +kernel⟩
set_option maxRecDepth 100000 in
theorem am_tk_167 : am_trok (167, am_ct_167, am_ps_167) := ⟨am_join1 (by decide +kernel) am_k_167_0, by decide +kernel⟩
set_option maxRecDepth 100000 in
theorem am_tk_168 : am_trok (168, am_ct_168, am_ps_168) := ⟨am_join1 (by decide +kernel) am_k_168_0, by decide +kernel⟩
set_option maxRecDepth 100000 in
theorem am_tk_169 : am_trok (169, am_ct_169, am_ps_169) := ⟨am_join1 (by decide +kernel) am_k_169_0, by decide +kernel⟩
set_option maxRecDepth 100000 in
theorem am_tk_170 : am_trok (170, am_ct_170, am_ps_170) := ⟨am_join1 (by decide +kernel) am_k_170_0, by decide +kernel⟩
set_option maxRecDepth 100000 in
theorem am_tk_171 : am_trok (171, am_ct_171, am_ps_171) := ⟨am_join1 (by decide +kernel) am_k_171_0, by decide +kernel⟩
set_option maxRecDepth 100000 in
theorem am_tk_172 : am_trok (172, am_ct_172, am_ps_172) := ⟨am_join1 (by decide +kernel) am_k_172_0, by decide +kernel⟩
set_option maxRecDepth 100000 in
theorem am_tk_173 : am_trok (173, am_ct_173, am_ps_173) := ⟨am_join1 (by decide +kernel) am_k_173_0, by decide +kernel⟩
set_option maxRecDepth 100000 in
theorem am_tk_174 : am_trok (174, am_ct_174, am_ps_174) := ⟨am_join1 (by decide +kernel) am_k_174_0, by decide +kernel⟩
set_option maxRecDepth 100000 in
theorem am_tk_175 : am_trok (175, am_ct_175, am_ps_175) := ⟨am_join1 (by decide +kernel) am_k_175_0, by decide +kernel⟩
set_option maxRecDepth 100000 in
theorem am_tk_176 : am_trok (176, am_ct_176, am_ps_176) := ⟨am_join1 (by decide +kernel) am_k_176_0, by decide +kernel⟩
set_option maxRecDepth 100000 in
theorem am_tk_177 : am_trok (177, am_ct_177, am_ps_177) := ⟨am_join1 (by decide +kernel) am_k_177_0, by decide +kernel⟩
set_option maxRecDepth 100000 in
theorem am_tk_178 : am_trok (178, am_ct_178, am_ps_178) := ⟨am_join1 (by decide +kernel) am_k_178_0, by decide +kernel⟩
set_option maxRecDepth 100000 in
theorem am_tk_179 : am_trok (179, am_ct_179, am_ps_179) := ⟨am_join1 (by decide +kernel) am_k_179_0, by decide +kernel⟩
set_option maxRecDepth 100000 in
theorem am_tk_180 : am_trok (180, am_ct_180, am_ps_180) := ⟨am_join1 (by decide +kernel) am_k_180_0, by decide +kernel⟩
set_option maxRecDepth 100000 in
theorem am_tk_181 : am_trok (181, am_ct_181, am_ps_181) := ⟨am_join1 (by decide +kernel) am_k_181_0, by decide +kernel⟩
set_option maxRecDepth 100000 in
theorem am_tk_182 : am_trok (182, am_ct_182, am_ps_182) := ⟨am_join1 (by decide +kernel) am_k_182_0, by decide +kernel⟩
set_option maxRecDepth 100000 in
theorem am_tk_183 : am_trok (183, am_ct_183, am_ps_183) := ⟨am_join1 (by decide +kernel) am_k_183_0, by decide +kernel⟩
set_option maxRecDepth 100000 in
theorem am_tk_184 : am_trok (184, am_ct_184, am_ps_184) := ⟨am_join1 (by decide +kernel) am_k_184_0, by decide +kernel⟩
set_option maxRecDepth 100000 in
theorem am_tk_185 : am_trok (185, am_ct_185, am_ps_185) := ⟨am_join1 (by decide +kernel) am_k_185_0, by decide +kernel⟩
set_option maxRecDepth 100000 in
theorem am_tk_186 : am_trok (186, am_ct_186, am_ps_186) := ⟨am_join1 (by decide +kernel) am_k_186_0, by decide +kernel⟩
set_option maxRecDepth 100000 in
theorem am_tk_187 : am_trok (187, am_ct_187, am_ps_187) := ⟨am_join1 (by decide +kernel) am_k_187_0, by decide +kernel⟩
set_option maxRecDepth 100000 in
theorem am_tk_188 : am_trok (188, am_ct_188, am_ps_188) := ⟨am_join1 (by decide +kernel) am_k_188_0, by decide +kernel⟩
set_option maxRecDepth 100000 in
theorem am_tk_189 : am_trok (189, am_ct_189, am_ps_189) := ⟨am_join1 (by decide +kernel) am_k_189_0, by decide +kernel⟩
set_option maxRecDepth 100000 in
theorem am_tk_190 : am_trok (190, am_ct_190, am_ps_190) := ⟨am_join1 (by decide +kernel) am_k_190_0, by decide +kernel⟩
set_option maxRecDepth 100000 in
theorem am_tk_191 : am_trok (191, am_ct_191, am_ps_191) := ⟨am_join1 (by decide +kernel) am_k_191_0, by decide +kernel⟩
set_option maxRecDepth 100000 in
theorem am_tk_192 : am_trok (192, am_ct_192, am_ps_192) := ⟨am_join1 (by decide +kernel) am_k_192_0, by decide +kernel⟩
set_option maxRecDepth 100000 in
theorem am_tk_193 : am_trok (193, am_ct_193, am_ps_193) := ⟨am_join1 (by decide +kernel) am_k_193_0, by decide +kernel⟩
set_option maxRecDepth 100000 in
theorem am_tk_194 : am_trok (194, am_ct_194, am_ps_194) := ⟨am_join1 (by decide +kernel) am_k_194_0, by decide +kernel⟩
set_option maxRecDepth 100000 in
theorem am_tk_195 : am_trok (195, am_ct_195, am_ps_195) := ⟨am_join1 (by decide +kernel) am_k_195_0, by decide +kernel⟩
set_option maxRecDepth 100000 in
theorem am_tk_196 : am_trok (196, am_ct_196, am_ps_196) := ⟨am_join1 (by decide +kernel) am_k_196_0, by decide +kernel⟩
set_option maxRecDepth 100000 in
theorem am_tk_197 : am_trok (197, am_ct_197, am_ps_197) := ⟨am_join1 (by decide +kernel) am_k_197_0, by decide +kernel⟩
set_option maxRecDepth 100000 in
theorem am_tk_198 : am_trok (198, am_ct_198, am_ps_198) := ⟨am_join1 (by decide +kernel) am_k_198_0, by decide +kernel⟩
set_option maxRecDepth 100000 in
theorem am_tk_199 : am_trok (199, am_ct_199, am_ps_199) := ⟨am_join1 (by decide +kernel) am_k_199_0, by decide +kernel⟩
set_option maxRecDepth 100000 in
theorem am_tk_200 : am_trok (200, am_ct_200, am_ps_200) := ⟨am_join1 (by decide +kernel) am_k_200_0, by decide +kernel⟩
set_option maxRecDepth 100000 in
theorem am_tk_201 : am_trok (201, am_ct_201, am_ps_201) := ⟨am_join1 (by decide +kernel) am_k_201_0, by decide +kernel⟩
set_option maxRecDepth 100000 in
theorem am_tk_202 : am_trok (202, am_ct_202, am_ps_202) := ⟨am_join1 (by decide +kernel) am_k_202_0, by decide +kernel⟩
set_option maxRecDepth 100000 in
theorem am_tk_203 : am_trok (203, am_ct_203, am_ps_203) := ⟨am_join1 (by decide +kernel) am_k_203_0, by decide +kernel⟩
set_option maxRecDepth 100000 in
theorem am_tk_204 : am_trok (204, am_ct_204, am_ps_204) := ⟨am_join1 (by decide +kernel) am_k_204_0, by decide +kernel⟩
set_option maxRecDepth 100000 in
theorem am_tk_205 : am_trok (205, am_ct_205, am_ps_205) := ⟨am_join1 (by decide +kernel) am_k_205_0, by decide +kernel⟩
set_option maxRecDepth 100000 in
theorem am_tk_206 : am_trok (206, am_ct_206, am_ps_206) := ⟨am_join1 (by decide +kernel) am_k_206_0, by decide +kernel⟩
set_option maxRecDepth 100000 in
theorem am_tk_207 : am_trok (207, am_ct_207, am_ps_207) := ⟨am_join1 (by decide +kernel) am_k_207_0, by decide +kernel⟩
set_option maxRecDepth 100000 in
theorem am_tk_208 : am_trok (208, am_ct_208, am_ps_208) := ⟨am_join1 (by decide +kernel) am_k_208_0, by decide +kernel⟩
set_option maxRecDepth 100000 in
theorem am_tk_209 : am_trok (209, am_ct_209, am_ps_209) := ⟨am_join1 (by decide +kernel) am_k_209_0, by decide +kernel⟩
set_option maxRecDepth 100000 in
theorem am_tk_210 : am_trok (210, am_ct_210, am_ps_210) := ⟨am_join1 (by decide +kernel) am_k_210_0, by decide +kernel⟩
set_option maxRecDepth 100000 in
theorem am_tk_211 : am_trok (211, am_ct_211, am_ps_211) := ⟨am_join1 (by decide +kernel) am_k_211_0, by decide +kernel⟩
set_option maxRecDepth 100000 in
theorem am_tk_212 : am_trok (212, am_ct_212, am_ps_212) := ⟨am_join1 (by decide +kernel) am_k_212_0, by decide +kernel⟩
set_option maxRecDepth 100000 in
theorem am_tk_213 : am_trok (213, am_ct_213, am_ps_213) := ⟨am_join1 (by decide +kernel) am_k_213_0, by decide +kernel⟩
set_option maxRecDepth 100000 in
theorem am_tk_214 : am_trok (214, am_ct_214, am_ps_214) := ⟨am_join1 (by decide +kernel) am_k_214_0, by decide +kernel⟩
set_option maxRecDepth 100000 in
theorem am_tk_215 : am_trok (215, am_ct_215, am_ps_215) := ⟨am_join1 (by decide +kernel) am_k_215_0, by decide +kernel⟩
set_option maxRecDepth 100000 in
theorem am_tk_216 : am_trok (216, am_ct_216, am_ps_216) := ⟨am_join1 (by decide +kernel) am_k_216_0, by decide +kernel⟩
set_option maxRecDepth 100000 in
theorem am_tk_217 : am_trok (217, am_ct_217, am_ps_217) := ⟨am_join1 (by decide +kernel) am_k_217_0, by decide +kernel⟩
set_option maxRecDepth 100000 in
theorem am_tk_218 : am_trok (218, am_ct_218, am_ps_218) := ⟨am_join1 (by decide +kernel) am_k_218_0, by decide +kernel⟩
set_option maxRecDepth 100000 in
theorem am_tk_219 : am_trok (219, am_ct_219, am_ps_219) := ⟨am_join1 (by decide +kernel) am_k_219_0, by decide +kernel⟩
set_option maxRecDepth 100000 in
theorem am_tk_220 : am_trok (220, am_ct_220, am_ps_220) := ⟨am_join1 (by decide +kernel) am_k_220_0, by decide +kernel⟩
set_option maxRecDepth 100000 in
theorem am_tk_221 : am_trok (221, am_ct_221, am_ps_221) := ⟨am_join1 (by decide +kernel) am_k_221_0, by decide +kernel⟩
set_option maxRecDepth 100000 in
theorem am_tk_222 : am_trok (222, am_ct_222, am_ps_222) := ⟨am_join1 (by decide +kernel) am_k_222_0, by decide +kernel⟩
set_option maxRecDepth 100000 in
theorem am_tk_223 : am_trok (223, am_ct_223, am_ps_223) := ⟨am_join1 (by decide +kernel) am_k_223_0, by decide +kernel⟩
set_option maxRecDepth 100000 in
theorem am_tk_224 : am_trok (224, am_ct_224, am_ps_224) := ⟨am_join1 (by decide +kernel) am_k_224_0, by decide +kernel⟩
set_option maxRecDepth 100000 in
theorem am_tk_225 : am_trok (225, am_ct_225, am_ps_225) := ⟨am_join1 (by decide +kernel) am_k_225_0, by decide +kernel⟩
set_option maxRecDepth 100000 in
theorem am_tk_226 : am_trok (226, am_ct_226, am_ps_226) := ⟨am_join1 (by decide +kernel) am_k_226_0, by decide +kernel⟩
set_option maxRecDepth 100000 in
theorem am_tk_227 : am_trok (227, am_ct_227, am_ps_227) := ⟨am_join1 (by decide +kernel) am_k_227_0, by decide +kernel⟩
set_option maxRecDepth 100000 in
theorem am_tk_228 : am_trok (228, am_ct_228, am_ps_228) := ⟨am_join1 (by decide +kernel) am_k_228_0, by decide +kernel⟩
set_option maxRecDepth 100000 in
theorem am_tk_229 : am_trok (229, am_ct_229, am_ps_229) := ⟨am_join1 (by decide +kernel) am_k_229_0, by decide +kernel⟩
set_option maxRecDepth 100000 in
theorem am_tk_230 : am_trok (230, am_ct_230, am_ps_230) := ⟨am_join1 (by decide +kernel) am_k_230_0, by decide +kernel⟩
set_option maxRecDepth 100000 in
theorem am_tk_231 : am_trok (231, am_ct_231, am_ps_231) := ⟨am_join1 (by decide +kernel) am_k_231_0, by decide +kernel⟩
set_option maxRecDepth 100000 in
theorem am_tk_232 : am_trok (232, am_ct_232, am_ps_232) := ⟨am_join1 (by decide +kernel) am_k_232_0, by decide +kernel⟩
set_option maxRecDepth 100000 in
theorem am_tk_233 : am_trok (233, am_ct_233, am_ps_233) := ⟨am_join1 (by decide +kernel) am_k_233_0, by decide +kernel⟩
set_option maxRecDepth 100000 in
theorem am_tk_234 : am_trok (234, am_ct_234, am_ps_234) := ⟨am_join1 (by decide +kernel) am_k_234_0, by decide +kernel⟩
set_option maxRecDepth 100000 in
theorem am_tk_235 : am_trok (235, am_ct_235, am_ps_235) := ⟨am_join1 (by decide +kernel) am_k_235_0, by decide +kernel⟩
set_option maxRecDepth 100000 in
theorem am_tk_236 : am_trok (236, am_ct_236, am_ps_236) := ⟨am_join1 (by decide +kernel) am_k_236_0, by decide +kernel⟩
set_option maxRecDepth 100000 in
theorem am_tk_237 : am_trok (237, am_ct_237, am_ps_237) := ⟨am_join1 (by decide +kernel) am_k_237_0, by decide +kernel⟩
set_option maxRecDepth 100000 in
theorem am_tk_238 : am_trok (238, am_ct_238, am_ps_238) := ⟨am_join1 (by decide +kernel) am_k_238_0, by decide +kernel⟩
set_option maxRecDepth 100000 in
theorem am_tk_239 : am_trok (239, am_ct_239, am_ps_239) := ⟨am_join1 (by decide +kernel) am_k_239_0, by decide +kernel⟩
set_option maxRecDepth 100000 in
theorem am_tk_240 : am_trok (240, am_ct_240, am_ps_240) := by
  refine ⟨am_join 11 (by decide +kernel) (fun j hj => ?_), by decide +kernel⟩
  match j, hj with
  | 0, _ => exact am_k_240_0
  | 1, _ => exact am_k_240_100
  | 2, _ => exact am_k_240_200
  | 3, _ => exact am_k_240_300
  | 4, _ => exact am_k_240_400
  | 5, _ => exact am_k_240_500
  | 6, _ => exact am_k_240_600
  | 7, _ => exact am_k_240_700
  | 8, _ => exact am_k_240_800
  | 9, _ => exact am_k_240_900
  | 10, _ => exact am_k_240_1000
  | z + 11, hj => exact absurd hj (by omega)
def am_tri_0 : List am_T3 := [(0, am_ct_0, am_ps_0), (1, am_ct_1, am_ps_1), (2, am_ct_2, am_ps_2), (3, am_ct_3, am_ps_3), (4, am_ct_4, am_ps_4), (5, am_ct_5, am_ps_5), (6, am_ct_6, am_ps_6), (7, am_ct_7, am_ps_7), (8, am_ct_8, am_ps_8), (9, am_ct_9, am_ps_9), (10, am_ct_10, am_ps_10), (11, am_ct_11, am_ps_11), (12, am_ct_12, am_ps_12), (13, am_ct_13, am_ps_13), (14, am_ct_14, am_ps_14), (15, am_ct_15, am_ps_15)]
theorem am_tri_ok_0 : ∀ t ∈ am_tri_0, am_trok t := List.forall_mem_cons.mpr ⟨am_tk_0, List.forall_mem_cons.mpr ⟨am_tk_1, List.forall_mem_cons.mpr ⟨am_tk_2, List.forall_mem_cons.mpr ⟨am_tk_3, List.forall_mem_cons.mpr ⟨am_tk_4, List.forall_mem_cons.mpr ⟨am_tk_5, List.forall_mem_cons.mpr ⟨am_tk_6, List.forall_mem_cons.mpr ⟨am_tk_7, List.forall_mem_cons.mpr ⟨am_tk_8, List.forall_mem_cons.mpr ⟨am_tk_9, List.forall_mem_cons.mpr ⟨am_tk_10, List.forall_mem_cons.mpr ⟨am_tk_11, List.forall_mem_cons.mpr ⟨am_tk_12, List.forall_mem_cons.mpr ⟨am_tk_13, List.forall_mem_cons.mpr ⟨am_tk_14, List.forall_mem_cons.mpr ⟨am_tk_15, fun _ h => absurd h List.not_mem_nil⟩⟩⟩⟩⟩⟩⟩⟩⟩⟩⟩⟩⟩⟩⟩⟩
def am_tri_1 : List am_T3 := [(16, am_ct_16, am_ps_16), (17, am_ct_17, am_ps_17), (18, am_ct_18, am_ps_18), (19, am_ct_19, am_ps_19), (20, am_ct_20, am_ps_20), (21, am_ct_21, am_ps_21), (22, am_ct_22, am_ps_22), (23, am_ct_23, am_ps_23), (24, am_ct_24, am_ps_24), (25, am_ct_25, am_ps_25), (26, am_ct_26, am_ps_26), (27, am_ct_27, am_ps_27), (28, am_ct_28, am_ps_28), (29, am_ct_29, am_ps_29), (30, am_ct_30, am_ps_30), (31, am_ct_31, am_ps_31)]
theorem am_tri_ok_1 : ∀ t ∈ am_tri_1, am_trok t := List.forall_mem_cons.mpr ⟨am_tk_16, List.forall_mem_cons.mpr ⟨am_tk_17, List.forall_mem_cons.mpr ⟨am_tk_18, List.forall_mem_cons.mpr ⟨am_tk_19, List.forall_mem_cons.mpr ⟨am_tk_20, List.forall_mem_cons.mpr ⟨am_tk_21, List.forall_mem_cons.mpr ⟨am_tk_22, List.forall_mem_cons.mpr ⟨am_tk_23, List.forall_mem_cons.mpr ⟨am_tk_24, List.forall_mem_cons.mpr ⟨am_tk_25, List.forall_mem_cons.mpr ⟨am_tk_26, List.forall_mem_cons.mpr ⟨am_tk_27, List.forall_mem_cons.mpr ⟨am_tk_28, List.forall_mem_cons.mpr ⟨am_tk_29, List.forall_mem_cons.mpr ⟨am_tk_30, List.forall_mem_cons.mpr ⟨am_tk_31, fun _ h => absurd h List.not_mem_nil⟩⟩⟩⟩⟩⟩⟩⟩⟩⟩⟩⟩⟩⟩⟩⟩
def am_tri_2 : List am_T3 := [(32, am_ct_32, am_ps_32), (33, am_ct_33, am_ps_33), (34, am_ct_34, am_ps_34), (35, am_ct_35, am_ps_35), (36, am_ct_36, am_ps_36), (37, am_ct_37, am_ps_37), (38, am_ct_38, am_ps_38), (39, am_ct_39, am_ps_39), (40, am_ct_40, am_ps_40), (41, am_ct_41, am_ps_41), (42, am_ct_42, am_ps_42), (43, am_ct_43, am_ps_43), (44, am_ct_44, am_ps_44), (45, am_ct_45, am_ps_45), (46, am_ct_46, am_ps_46), (47, am_ct_47, am_ps_47)]
theorem am_tri_ok_2 : ∀ t ∈ am_tri_2, am_trok t := List.forall_mem_cons.mpr ⟨am_tk_32, List.forall_mem_cons.mpr ⟨am_tk_33, List.forall_mem_cons.mpr ⟨am_tk_34, List.forall_mem_cons.mpr ⟨am_tk_35, List.forall_mem_cons.mpr ⟨am_tk_36, List.forall_mem_cons.mpr ⟨am_tk_37, List.forall_mem_cons.mpr ⟨am_tk_38, List.forall_mem_cons.mpr ⟨am_tk_39, List.forall_mem_cons.mpr ⟨am_tk_40, List.forall_mem_cons.mpr ⟨am_tk_41, List.forall_mem_cons.mpr ⟨am_tk_42, List.forall_mem_cons.mpr ⟨am_tk_43, List.forall_mem_cons.mpr ⟨am_tk_44, List.forall_mem_cons.mpr ⟨am_tk_45, List.forall_mem_cons.mpr ⟨am_tk_46, List.forall_mem_cons.mpr ⟨am_tk_47, fun _ h => absurd h List.not_mem_nil⟩⟩⟩⟩⟩⟩⟩⟩⟩⟩⟩⟩⟩⟩⟩⟩
def am_tri_3 : List am_T3 := [(48, am_ct_48, am_ps_48), (49, am_ct_49, am_ps_49), (50, am_ct_50, am_ps_50), (51, am_ct_51, am_ps_51), (52, am_ct_52, am_ps_52), (53, am_ct_53, am_ps_53), (54, am_ct_54, am_ps_54), (55, am_ct_55, am_ps_55), (56, am_ct_56, am_ps_56), (57, am_ct_57, am_ps_57), (58, am_ct_58, am_ps_58), (59, am_ct_59, am_ps_59), (60, am_ct_60, am_ps_60), (61, am_ct_61, am_ps_61), (62, am_ct_62, am_ps_62), (63, am_ct_63, am_ps_63)]
theorem am_tri_ok_3 : ∀ t ∈ am_tri_3, am_trok t := List.forall_mem_cons.mpr ⟨am_tk_48, List.forall_mem_cons.mpr ⟨am_tk_49, List.forall_mem_cons.mpr ⟨am_tk_50, List.forall_mem_cons.mpr ⟨am_tk_51, List.forall_mem_cons.mpr ⟨am_tk_52, List.forall_mem_cons.mpr ⟨am_tk_53, List.forall_mem_cons.mpr ⟨am_tk_54, List.forall_mem_cons.mpr ⟨am_tk_55, List.forall_mem_cons.mpr ⟨am_tk_56, List.forall_mem_cons.mpr ⟨am_tk_57, List.forall_mem_cons.mpr ⟨am_tk_58, List.forall_mem_cons.mpr ⟨am_tk_59, List.forall_mem_cons.mpr ⟨am_tk_60, List.forall_mem_cons.mpr ⟨am_tk_61, List.forall_mem_cons.mpr ⟨am_tk_62, List.forall_mem_cons.mpr ⟨am_tk_63, fun _ h => absurd h List.not_mem_nil⟩⟩⟩⟩⟩⟩⟩⟩⟩⟩⟩⟩⟩⟩⟩⟩
def am_tri_4 : List am_T3 := [(64, am_ct_64, am_ps_64), (65, am_ct_65, am_ps_65), (66, am_ct_66, am_ps_66), (67, am_ct_67, am_ps_67), (68, am_ct_68, am_ps_68), (69, am_ct_69, am_ps_69), (70, am_ct_70, am_ps_70), (71, am_ct_71, am_ps_71), (72, am_ct_72, am_ps_72), (73, am_ct_73, am_ps_73), (74, am_ct_74, am_ps_74), (75, am_ct_75, am_ps_75), (76, am_ct_76, am_ps_76), (77, am_ct_77, am_ps_77), (78, am_ct_78, am_ps_78), (79, am_ct_79, am_ps_79)]
theorem am_tri_ok_4 : ∀ t ∈ am_tri_4, am_trok t := List.forall_mem_cons.mpr ⟨am_tk_64, List.forall_mem_cons.mpr ⟨am_tk_65, List.forall_mem_cons.mpr ⟨am_tk_66, List.forall_mem_cons.mpr ⟨am_tk_67, List.forall_mem_cons.mpr ⟨am_tk_68, List.forall_mem_cons.mpr ⟨am_tk_69, List.forall_mem_cons.mpr ⟨am_tk_70, List.forall_mem_cons.mpr ⟨am_tk_71, List.forall_mem_cons.mpr ⟨am_tk_72, List.forall_mem_cons.mpr ⟨am_tk_73, List.forall_mem_cons.mpr ⟨am_tk_74, List.forall_mem_cons.mpr ⟨am_tk_75, List.forall_mem_cons.mpr ⟨am_tk_76, List.forall_mem_cons.mpr ⟨am_tk_77, List.forall_mem_cons.mpr ⟨am_tk_78, List.forall_mem_cons.mpr ⟨am_tk_79, fun _ h => absurd h List.not_mem_nil⟩⟩⟩⟩⟩⟩⟩⟩⟩⟩⟩⟩⟩⟩⟩⟩
def am_tri_5 : List am_T3 := [(80, am_ct_80, am_ps_80), (81, am_ct_81, am_ps_81), (82, am_ct_82, am_ps_82), (83, am_ct_83, am_ps_83), (84, am_ct_84, am_ps_84), (85, am_ct_85, am_ps_85), (86, am_ct_86, am_ps_86), (87, am_ct_87, am_ps_87), (88, am_ct_88, am_ps_88), (89, am_ct_89, am_ps_89), (90, am_ct_90, am_ps_90), (91, am_ct_91, am_ps_91), (92, am_ct_92, am_ps_92), (93, am_ct_93, am_ps_93), (94, am_ct_94, am_ps_94), (95, am_ct_95, am_ps_95)]
theorem am_tri_ok_5 : ∀ t ∈ am_tri_5, am_trok t := List.forall_mem_cons.mpr ⟨am_tk_80, List.forall_mem_cons.mpr ⟨am_tk_81, List.forall_mem_cons.mpr ⟨am_tk_82, List.forall_mem_cons.mpr ⟨am_tk_83, List.forall_mem_cons.mpr ⟨am_tk_84, List.forall_mem_cons.mpr ⟨am_tk_85, List.forall_mem_cons.mpr ⟨am_tk_86, List.forall_mem_cons.mpr ⟨am_tk_87, List.forall_mem_cons.mpr ⟨am_tk_88, List.forall_mem_cons.mpr ⟨am_tk_89, List.forall_mem_cons.mpr ⟨am_tk_90, List.forall_mem_cons.mpr ⟨am_tk_91, List.forall_mem_cons.mpr ⟨am_tk_92, List.forall_mem_cons.mpr ⟨am_tk_93, List.forall_mem_cons.mpr ⟨am_tk_94, List.forall_mem_cons.mpr ⟨am_tk_95, fun _ h => absurd h List.not_mem_nil⟩⟩⟩⟩⟩⟩⟩⟩⟩⟩⟩⟩⟩⟩⟩⟩
def am_tri_6 : List am_T3 := [(96, am_ct_96, am_ps_96), (97, am_ct_97, am_ps_97), (98, am_ct_98, am_ps_98), (99, am_ct_99, am_ps_99), (100, am_ct_100, am_ps_100), (101, am_ct_101, am_ps_101), (102, am_ct_102, am_ps_102), (103, am_ct_103, am_ps_103), (104, am_ct_104, am_ps_104), (105, am_ct_105, am_ps_105), (106, am_ct_106, am_ps_106), (107, am_ct_107, am_ps_107), (108, am_ct_108, am_ps_108), (109, am_ct_109, am_ps_109), (110, am_ct_110, am_ps_110), (111, am_ct_111, am_ps_111)]
theorem am_tri_ok_6 : ∀ t ∈ am_tri_6, am_trok t := List.forall_mem_cons.mpr ⟨am_tk_96, List.forall_mem_cons.mpr ⟨am_tk_97, List.forall_mem_cons.mpr ⟨am_tk_98, List.forall_mem_cons.mpr ⟨am_tk_99, List.forall_mem_cons.mpr ⟨am_tk_100, List.forall_mem_cons.mpr ⟨am_tk_101, List.forall_mem_cons.mpr ⟨am_tk_102, List.forall_mem_cons.mpr ⟨am_tk_103, List.forall_mem_cons.mpr ⟨am_tk_104, List.forall_mem_cons.mpr ⟨am_tk_105, List.forall_mem_cons.mpr ⟨am_tk_106, List.forall_mem_cons.mpr ⟨am_tk_107, List.forall_mem_cons.mpr ⟨am_tk_108, List.forall_mem_cons.mpr ⟨am_tk_109, List.forall_mem_cons.mpr ⟨am_tk_110, List.forall_mem_cons.mpr ⟨am_tk_111, fun _ h => absurd h List.not_mem_nil⟩⟩⟩⟩⟩⟩⟩⟩⟩⟩⟩⟩⟩⟩⟩⟩
def am_tri_7 : List am_T3 := [(112, am_ct_112, am_ps_112), (113, am_ct_113, am_ps_113), (114, am_ct_114, am_ps_114), (115, am_ct_115, am_ps_115), (116, am_ct_116, am_ps_116), (117, am_ct_117, am_ps_117), (118, am_ct_118, am_ps_118), (119, am_ct_119, am_ps_119), (120, am_ct_120, am_ps_120), (121, am_ct_121, am_ps_121), (122, am_ct_122, am_ps_122), (123, am_ct_123, am_ps_123), (124, am_ct_124, am_ps_124), (125, am_ct_125, am_ps_125), (126, am_ct_126, am_ps_126), (127, am_ct_127, am_ps_127)]
theorem am_tri_ok_7 : ∀ t ∈ am_tri_7, am_trok t := List.forall_mem_cons.mpr ⟨am_tk_112, List.forall_mem_cons.mpr ⟨am_tk_113, List.forall_mem_cons.mpr ⟨am_tk_114, List.forall_mem_cons.mpr ⟨am_tk_115, List.forall_mem_cons.mpr ⟨am_tk_116, List.forall_mem_cons.mpr ⟨am_tk_117, List.forall_mem_cons.mpr ⟨am_tk_118, List.forall_mem_cons.mpr ⟨am_tk_119, List.forall_mem_cons.mpr ⟨am_tk_120, List.forall_mem_cons.mpr ⟨am_tk_121, List.forall_mem_cons.mpr ⟨am_tk_122, List.forall_mem_cons.mpr ⟨am_tk_123, List.forall_mem_cons.mpr ⟨am_tk_124, List.forall_mem_cons.mpr ⟨am_tk_125, List.forall_mem_cons.mpr ⟨am_tk_126, List.forall_mem_cons.mpr ⟨am_tk_127, fun _ h => absurd h List.not_mem_nil⟩⟩⟩⟩⟩⟩⟩⟩⟩⟩⟩⟩⟩⟩⟩⟩
def am_tri_8 : List am_T3 := [(128, am_ct_128, am_ps_128), (129, am_ct_129, am_ps_129), (130, am_ct_130, am_ps_130), (131, am_ct_131, am_ps_131), (132, am_ct_132, am_ps_132), (133, am_ct_133, am_ps_133), (134, am_ct_134, am_ps_134), (135, am_ct_135, am_ps_135), (136, am_ct_136, am_ps_136), (137, am_ct_137, am_ps_137), (138, am_ct_138, am_ps_138), (139, am_ct_139, am_ps_139), (140, am_ct_140, am_ps_140), (141, am_ct_141, am_ps_141), (142, am_ct_142, am_ps_142), (143, am_ct_143, am_ps_143)]
theorem am_tri_ok_8 : ∀ t ∈ am_tri_8, am_trok t := List.forall_mem_cons.mpr ⟨am_tk_128, List.forall_mem_cons.mpr ⟨am_tk_129, List.forall_mem_cons.mpr ⟨am_tk_130, List.forall_mem_cons.mpr ⟨am_tk_131, List.forall_mem_cons.mpr ⟨am_tk_132, List.forall_mem_cons.mpr ⟨am_tk_133, List.forall_mem_cons.mpr ⟨am_tk_134, List.forall_mem_cons.mpr ⟨am_tk_135, List.forall_mem_cons.mpr ⟨am_tk_136, List.forall_mem_cons.mpr ⟨am_tk_137, List.forall_mem_cons.mpr ⟨am_tk_138, List.forall_mem_cons.mpr ⟨am_tk_139, List.forall_mem_cons.mpr ⟨am_tk_140, List.forall_mem_cons.mpr ⟨am_tk_141, List.forall_mem_cons.mpr ⟨am_tk_142, List.forall_mem_cons.mpr ⟨am_tk_143, fun _ h => absurd h List.not_mem_nil⟩⟩⟩⟩⟩⟩⟩⟩⟩⟩⟩⟩⟩⟩⟩⟩
def am_tri_9 : List am_T3 := [(144, am_ct_144, am_ps_144), (145, am_ct_145, am_ps_145), (146, am_ct_146, am_ps_146), (147, am_ct_147, am_ps_147), (148, am_ct_148, am_ps_148), (149, am_ct_149, am_ps_149), (150, am_ct_150, am_ps_150), (151, am_ct_151, am_ps_151), (152, am_ct_152, am_ps_152), (153, am_ct_153, am_ps_153), (154, am_ct_154, am_ps_154), (155, am_ct_155, am_ps_155), (156, am_ct_156, am_ps_156), (157, am_ct_157, am_ps_157), (158, am_ct_158, am_ps_158), (159, am_ct_159, am_ps_159)]
theorem am_tri_ok_9 : ∀ t ∈ am_tri_9, am_trok t := List.forall_mem_cons.mpr ⟨am_tk_144, List.forall_mem_cons.mpr ⟨am_tk_145, List.forall_mem_cons.mpr ⟨am_tk_146, List.forall_mem_cons.mpr ⟨am_tk_147, List.forall_mem_cons.mpr ⟨am_tk_148, List.forall_mem_cons.mpr ⟨am_tk_149, List.forall_mem_cons.mpr ⟨am_tk_150, List.forall_mem_cons.mpr ⟨am_tk_151, List.forall_mem_cons.mpr ⟨am_tk_152, List.forall_mem_cons.mpr ⟨am_tk_153, List.forall_mem_cons.mpr ⟨am_tk_154, List.forall_mem_cons.mpr ⟨am_tk_155, List.forall_mem_cons.mpr ⟨am_tk_156, List.forall_mem_cons.mpr ⟨am_tk_157, List.forall_mem_cons.mpr ⟨am_tk_158, List.forall_mem_cons.mpr ⟨am_tk_159, fun _ h => absurd h List.not_mem_nil⟩⟩⟩⟩⟩⟩⟩⟩⟩⟩⟩⟩⟩⟩⟩⟩
def am_tri_10 : List am_T3 := [(160, am_ct_160, am_ps_160), (161, am_ct_161, am_ps_161), (162, am_ct_162, am_ps_162), (163, am_ct_163, am_ps_163), (164, am_ct_164, am_ps_164), (165, am_ct_165, am_ps_165), (166, am_ct_166, am_ps_166), (167, am_ct_167, am_ps_167), (168, am_ct_168, am_ps_168), (169, am_ct_169, am_ps_169), (170, am_ct_170, am_ps_170), (171, am_ct_171, am_ps_171), (172, am_ct_172, am_ps_172), (173, am_ct_173, am_ps_173), (174, am_ct_174, am_ps_174), (175, am_ct_175, am_ps_175)]
theorem am_tri_ok_10 : ∀ t ∈ am_tri_10, am_trok t := List.forall_mem_cons.mpr ⟨am_tk_160, List.forall_mem_cons.mpr ⟨am_tk_161, List.forall_mem_cons.mpr ⟨am_tk_162, List.forall_mem_cons.mpr ⟨am_tk_163, List.forall_mem_cons.mpr ⟨am_tk_164, List.forall_mem_cons.mpr ⟨am_tk_165, List.forall_mem_cons.mpr ⟨am_tk_166, List.forall_mem_cons.mpr ⟨am_tk_167, List.forall_mem_cons.mpr ⟨am_tk_168, List.forall_mem_cons.mpr ⟨am_tk_169, List.forall_mem_cons.mpr ⟨am_tk_170, List.forall_mem_cons.mpr ⟨am_tk_171, List.forall_mem_cons.mpr ⟨am_tk_172, List.forall_mem_cons.mpr ⟨am_tk_173, List.forall_mem_cons.mpr ⟨am_tk_174, List.forall_mem_cons.mpr ⟨am_tk_175, fun _ h => absurd h List.not_mem_nil⟩⟩⟩⟩⟩⟩⟩⟩⟩⟩⟩⟩⟩⟩⟩⟩
def am_tri_11 : List am_T3 := [(176, am_ct_176, am_ps_176), (177, am_ct_177, am_ps_177), (178, am_ct_178, am_ps_178), (179, am_ct_179, am_ps_179), (180, am_ct_180, am_ps_180), (181, am_ct_181, am_ps_181), (182, am_ct_182, am_ps_182), (183, am_ct_183, am_ps_183), (184, am_ct_184, am_ps_184), (185, am_ct_185, am_ps_185), (186, am_ct_186, am_ps_186), (187, am_ct_187, am_ps_187), (188, am_ct_188, am_ps_188), (189, am_ct_189, am_ps_189), (190, am_ct_190, am_ps_190), (191, am_ct_191, am_ps_191)]
theorem am_tri_ok_11 : ∀ t ∈ am_tri_11, am_trok t := List.forall_mem_cons.mpr ⟨am_tk_176, List.forall_mem_cons.mpr ⟨am_tk_177, List.forall_mem_cons.mpr ⟨am_tk_178, List.forall_mem_cons.mpr ⟨am_tk_179, List.forall_mem_cons.mpr ⟨am_tk_180, List.forall_mem_cons.mpr ⟨am_tk_181, List.forall_mem_cons.mpr ⟨am_tk_182, List.forall_mem_cons.mpr ⟨am_tk_183, List.forall_mem_cons.mpr ⟨am_tk_184, List.forall_mem_cons.mpr ⟨am_tk_185, List.forall_mem_cons.mpr ⟨am_tk_186, List.forall_mem_cons.mpr ⟨am_tk_187, List.forall_mem_cons.mpr ⟨am_tk_188, List.forall_mem_cons.mpr ⟨am_tk_189, List.forall_mem_cons.mpr ⟨am_tk_190, List.forall_mem_cons.mpr ⟨am_tk_191, fun _ h => absurd h List.not_mem_nil⟩⟩⟩⟩⟩⟩⟩⟩⟩⟩⟩⟩⟩⟩⟩⟩
def am_tri_12 : List am_T3 := [(192, am_ct_192, am_ps_192), (193, am_ct_193, am_ps_193), (194, am_ct_194, am_ps_194), (195, am_ct_195, am_ps_195), (196, am_ct_196, am_ps_196), (197, am_ct_197, am_ps_197), (198, am_ct_198, am_ps_198), (199, am_ct_199, am_ps_199), (200, am_ct_200, am_ps_200), (201, am_ct_201, am_ps_201), (202, am_ct_202, am_ps_202), (203, am_ct_203, am_ps_203), (204, am_ct_204, am_ps_204), (205, am_ct_205, am_ps_205), (206, am_ct_206, am_ps_206), (207, am_ct_207, am_ps_207)]
theorem am_tri_ok_12 : ∀ t ∈ am_tri_12, am_trok t := List.forall_mem_cons.mpr ⟨am_tk_192, List.forall_mem_cons.mpr ⟨am_tk_193, List.forall_mem_cons.mpr ⟨am_tk_194, List.forall_mem_cons.mpr ⟨am_tk_195, List.forall_mem_cons.mpr ⟨am_tk_196, List.forall_mem_cons.mpr ⟨am_tk_197, List.forall_mem_cons.mpr ⟨am_tk_198, List.forall_mem_cons.mpr ⟨am_tk_199, List.forall_mem_cons.mpr ⟨am_tk_200, List.forall_mem_cons.mpr ⟨am_tk_201, List.forall_mem_cons.mpr ⟨am_tk_202, List.forall_mem_cons.mpr ⟨am_tk_203, List.forall_mem_cons.mpr ⟨am_tk_204, List.forall_mem_cons.mpr ⟨am_tk_205, List.forall_mem_cons.mpr ⟨am_tk_206, List.forall_mem_cons.mpr ⟨am_tk_207, fun _ h => absurd h List.not_mem_nil⟩⟩⟩⟩⟩⟩⟩⟩⟩⟩⟩⟩⟩⟩⟩⟩
def am_tri_13 : List am_T3 := [(208, am_ct_208, am_ps_208), (209, am_ct_209, am_ps_209), (210, am_ct_210, am_ps_210), (211, am_ct_211, am_ps_211), (212, am_ct_212, am_ps_212), (213, am_ct_213, am_ps_213), (214, am_ct_214, am_ps_214), (215, am_ct_215, am_ps_215), (216, am_ct_216, am_ps_216), (217, am_ct_217, am_ps_217), (218, am_ct_218, am_ps_218), (219, am_ct_219, am_ps_219), (220, am_ct_220, am_ps_220), (221, am_ct_221, am_ps_221), (222, am_ct_222, am_ps_222), (223, am_ct_223, am_ps_223)]
theorem am_tri_ok_13 : ∀ t ∈ am_tri_13, am_trok t := List.forall_mem_cons.mpr ⟨am_tk_208, List.forall_mem_cons.mpr ⟨am_tk_209, List.forall_mem_cons.mpr ⟨am_tk_210, List.forall_mem_cons.mpr ⟨am_tk_211, List.forall_mem_cons.mpr ⟨am_tk_212, List.forall_mem_cons.mpr ⟨am_tk_213, List.forall_mem_cons.mpr ⟨am_tk_214, List.forall_mem_cons.mpr ⟨am_tk_215, List.forall_mem_cons.mpr ⟨am_tk_216, List.forall_mem_cons.mpr ⟨am_tk_217, List.forall_mem_cons.mpr ⟨am_tk_218, List.forall_mem_cons.mpr ⟨am_tk_219, List.forall_mem_cons.mpr ⟨am_tk_220, List.forall_mem_cons.mpr ⟨am_tk_221, List.forall_mem_cons.mpr ⟨am_tk_222, List.forall_mem_cons.mpr ⟨am_tk_223, fun _ h => absurd h List.not_mem_nil⟩⟩⟩⟩⟩⟩⟩⟩⟩⟩⟩⟩⟩⟩⟩⟩
def am_tri_14 : List am_T3 := [(224, am_ct_224, am_ps_224), (225, am_ct_225, am_ps_225), (226, am_ct_226, am_ps_226), (227, am_ct_227, am_ps_227), (228, am_ct_228, am_ps_228), (229, am_ct_229, am_ps_229), (230, am_ct_230, am_ps_230), (231, am_ct_231, am_ps_231), (232, am_ct_232, am_ps_232), (233, am_ct_233, am_ps_233), (234, am_ct_234, am_ps_234), (235, am_ct_235, am_ps_235), (236, am_ct_236, am_ps_236), (237, am_ct_237, am_ps_237), (238, am_ct_238, am_ps_238), (239, am_ct_239, am_ps_239)]
theorem am_tri_ok_14 : ∀ t ∈ am_tri_14, am_trok t := List.forall_mem_cons.mpr ⟨am_tk_224, List.forall_mem_cons.mpr ⟨am_tk_225, List.forall_mem_cons.mpr ⟨am_tk_226, List.forall_mem_cons.mpr ⟨am_tk_227, List.forall_mem_cons.mpr ⟨am_tk_228, List.forall_mem_cons.mpr ⟨am_tk_229, List.forall_mem_cons.mpr ⟨am_tk_230, List.forall_mem_cons.mpr ⟨am_tk_231, List.forall_mem_cons.mpr ⟨am_tk_232, List.forall_mem_cons.mpr ⟨am_tk_233, List.forall_mem_cons.mpr ⟨am_tk_234, List.forall_mem_cons.mpr ⟨am_tk_235, List.forall_mem_cons.mpr ⟨am_tk_236, List.forall_mem_cons.mpr ⟨am_tk_237, List.forall_mem_cons.mpr ⟨am_tk_238, List.forall_mem_cons.mpr ⟨am_tk_239, fun _ h => absurd h List.not_mem_nil⟩⟩⟩⟩⟩⟩⟩⟩⟩⟩⟩⟩⟩⟩⟩⟩
def am_tri_15 : List am_T3 := [(240, am_ct_240, am_ps_240)]
theorem am_tri_ok_15 : ∀ t ∈ am_tri_15, am_trok t := List.forall_mem_cons.mpr ⟨am_tk_240, fun _ h => absurd h List.not_mem_nil⟩
def am_tri : List am_T3 := am_tri_0 ++ (am_tri_1 ++ (am_tri_2 ++ (am_tri_3 ++ (am_tri_4 ++ (am_tri_5 ++ (am_tri_6 ++ (am_tri_7 ++ (am_tri_8 ++ (am_tri_9 ++ (am_tri_10 ++ (am_tri_11 ++ (am_tri_12 ++ (am_tri_13 ++ (am_tri_14 ++ (am_tri_15)))))))))))))))
theorem am_tri_all : ∀ t ∈ am_tri, am_trok t := List.forall_mem_append.mpr ⟨am_tri_ok_0, List.forall_mem_append.mpr ⟨am_tri_ok_1, List.forall_mem_append.mpr ⟨am_tri_ok_2, List.forall_mem_append.mpr ⟨am_tri_ok_3, List.forall_mem_append.mpr ⟨am_tri_ok_4, List.forall_mem_append.mpr ⟨am_tri_ok_5, List.forall_mem_append.mpr ⟨am_tri_ok_6, List.forall_mem_append.mpr ⟨am_tri_ok_7, List.forall_mem_append.mpr ⟨am_tri_ok_8, List.forall_mem_append.mpr ⟨am_tri_ok_9, List.forall_mem_append.mpr ⟨am_tri_ok_10, List.forall_mem_append.mpr ⟨am_tri_ok_11, List.forall_mem_append.mpr ⟨am_tri_ok_12, List.forall_mem_append.mpr ⟨am_tri_ok_13, List.forall_mem_append.mpr ⟨am_tri_ok_14, am_tri_ok_15⟩⟩⟩⟩⟩⟩⟩⟩⟩⟩⟩⟩⟩⟩⟩
set_option maxRecDepth 100000 in
theorem am_tri_cts : am_cts = am_tri.map (fun t => t.2.1) := rfl
set_option maxRecDepth 100000 in
theorem am_tri_ix : am_tri.map (fun t => t.1) = List.range 241 := by decide +kernel
theorem am_tri_at {i : Nat} {q : Nat × Instr × Nat × Nat × Nat × Nat} (h : q ∈ am_ct i) : ∃ t ∈ am_tri, t.1 = i ∧ t.2.1 = am_ct i := by
  unfold am_ct at h ⊢
  have hi : i < am_cts.length := by
    rcases Nat.lt_or_ge i am_cts.length with z | z
    · exact z
    · rw [List.getD_eq_getElem?_getD, List.getElem?_eq_none z] at h
      cases h
  have hl : am_cts.length = am_tri.length := by rw [am_tri_cts, List.length_map]
  have ht : am_tri[i]? = some (am_tri[i]'(by omega)) := List.getElem?_eq_getElem (by omega)
  refine ⟨_, List.mem_of_getElem? ht, ?_, ?_⟩
  · have h1 : (am_tri.map (fun t => t.1))[i]? = some (am_tri[i]'(by omega)).1 := by rw [List.getElem?_map, ht]; rfl
    rw [am_tri_ix, List.getElem?_eq_some_iff] at h1
    obtain ⟨h2, h3⟩ := h1
    rw [List.getElem_range] at h3
    exact h3.symm
  · have h1 : am_cts[i]? = some (am_tri[i]'(by omega)).2.1 := by rw [am_tri_cts, List.getElem?_map, ht]; rfl
    rw [List.getD_eq_getElem?_getD, h1]
    rfl
theorem am_fetch_mem {i pc : Nat} {q : Instr × Nat × Nat × Nat × Nat} (h : am_fetch i pc = some q) : (pc, q) ∈ am_ct i := by
  unfold am_fetch at h
  obtain ⟨z, h1, h2⟩ := Option.map_eq_some_iff.mp h
  have h3 := List.find?_some h1
  have h4 := List.mem_of_find?_eq_some h1
  rw [beq_iff_eq] at h3
  rw [← h3, ← h2]
  exact h4
def am_rowfacts (i pc : Nat) (q : Instr × Nat × Nat × Nat × Nat) : Prop := decode (am_b i) pc = .ok (q.1, q.2.1) ∧ am_chk i (pc, q) = true ∧ (∀ w ∈ am_word i (pc, q), w ∈ am_GW) ∧ (∀ w ∈ am_nword i (pc, q), w ∈ am_NW)
theorem am_row_of {i pc : Nat} {q : Instr × Nat × Nat × Nat × Nat} (h : am_fetch i pc = some q) : am_rowfacts i pc q := by
  have hm := am_fetch_mem h
  obtain ⟨t, ht, h1, h2⟩ := am_tri_at hm
  obtain ⟨h3, h4⟩ := am_tri_all t ht
  rw [← h2] at hm
  obtain ⟨j, hj⟩ := List.getElem?_of_mem hm
  have hlt : j < t.2.1.length := (List.getElem?_eq_some_iff.mp hj).1
  have hz : (t.2.1.zip t.2.2)[j]? = some ((pc, q), t.2.2[j]'(by omega)) := by
    rw [List.getElem?_zip_eq_some]
    exact ⟨hj, List.getElem?_eq_getElem (by omega)⟩
  have h5 := List.all_eq_true.mp h3 _ (List.mem_of_getElem? hz)
  rw [h1] at h5
  unfold am_row2 am_rowok at h5
  simp only [Bool.and_eq_true, decide_eq_true_eq] at h5
  obtain ⟨⟨a1, a2⟩, a3, a4, a5⟩ := h5
  have key : ∀ w ∈ am_word i (pc, q) ++ am_nword i (pc, q), w ∈ lw_tbl := by
    intro w hw
    have hw2 : some w ∈ (am_word i (pc, q) ++ am_nword i (pc, q)).map some := List.mem_map_of_mem hw
    rw [a3] at hw2
    obtain ⟨p, -, hp⟩ := List.mem_map.mp hw2
    exact List.mem_of_getElem? hp
  exact ⟨a1, a2, fun w hw => List.mem_filter.mpr ⟨key w (List.mem_append_left _ hw), List.all_eq_true.mp a4 w hw⟩, fun w hw => List.mem_filter.mpr ⟨key w (List.mem_append_right _ hw), List.all_eq_true.mp a5 w hw⟩⟩
end
section
/-! throws, catching and calls: the tables' checks, what a frame has from its beginning, its entry and its end as contracts -/
def ax_txt : List (Nat × String) := [(71, "the pitch is not 0 to 30"), (84, "there are 12 gates"), (104, "there is no such gate, exit or target"), (107, "the target is a gate that is not greater"), (116, "there is no such gate"), (125, "there is no such setting"), (127, "the value is out of range"), (138, "the count is not 1 to 40"), (143, "more than 200 balls would be to be dropped"), (148, "the beats are not 1 to 50"), (156, "there is no such bin"), (161, "the code is not 33 to 126"), (166, "the buffer holds 60 characters"), (181, "the buffer is not a complete order text"), (207, "no state is saved"), (216, "there is no such slot"), (229, "the slot is empty"), (260, "what is not 0 to 7"), (262, "the rank is negative, or what is not 0 to 4"), (290, "what is not 0 to 2"), (315, "what is not 0 to 11"), (317, "the index is negative, or what is not 0 to 2"), (331, "the beat is negative"), (351, "what is not 0 to 6"), (356, "there is no such gate or bin"), (361, "the count is not 0 to 1000, or the way is not 0 or 1"), (369, "the count is not 0 to 1000"), (374, "the index is not 0 to 999")]
def ax_t1 (j pc E : Nat) (t : Nat × String) : Bool := decide (decode (am_b j) (pc + 4) = .ok (.ldc t.1, 2)) && (decide (decode (am_b j) (pc + 6) = .ok (.invokespecial (am_ic E), 3)) && decide (decode (am_b j) (pc + 9) = .ok (.athrow, 1)))
def ax_t2 (j pc E : Nat) (t : Nat × String) : Bool := decide (decode (am_b j) (pc + 4) = .ok (.ldc_w t.1, 3)) && (decide (decode (am_b j) (pc + 7) = .ok (.invokespecial (am_ic E), 3)) && decide (decode (am_b j) (pc + 10) = .ok (.athrow, 1)))
def ax_no9 (a : Nat) : Bool := (am_ct a).all (fun q => q.2.2.2.1 != 9)
/-- a row's own check beyond am_chk: a throw as a whole; who may throw, who may catch -/
def ax_thr (j : Nat) : Nat × Instr × Nat × Nat × Nat × Nat → Bool
  | (pc, .new ik, _, 9, E, _) => decide (E < 3) && (decide (decode (am_b j) pc = .ok (.new ik, 3)) && (decide (decode (am_b j) (pc + 3) = .ok (.dup, 1)) && (ax_txt.any (fun t => ax_t1 j pc E t || ax_t2 j pc E t) && (decide (am_own j = RX10) && (decide (am_hh j = []) && (decide (6 ≤ am_fr j) && decide (90 ≤ am_lo j)))))))
  | (_, .invokevirtual _, _, 7, a, _) => decide (am_hh a = [])
  | (_, .invokestatic _, _, 7, a, _) => ax_no9 a
  | (_, .invokespecial _, _, 7, a, _) => decide (am_hh a = []) && ax_no9 a
  | (_, _, l, 8, _, _) => l == 1
  | (_, _, _, 9, _, _) => false
  | (_, _, _, 7, _, _) => false
  | _ => true
set_option maxRecDepth 100000 in
theorem ax_thr_all : (List.range 241).all (fun j => (am_ct j).all (ax_thr j)) = true := by decide +kernel
set_option maxRecDepth 100000 in
theorem ax_cts_len : am_cts.length = 241 := by decide +kernel
theorem ax_ct_lt {i : Nat} {q : Nat × Instr × Nat × Nat × Nat × Nat} (h : q ∈ am_ct i) : i < 241 := by
  rcases Nat.lt_or_ge i 241 with z | z
  · exact z
  · exfalso
    unfold am_ct at h
    rw [List.getD_eq_getElem?_getD, List.getElem?_eq_none (by rw [ax_cts_len]; exact z)] at h
    cases h
theorem ax_thr_of {i pc : Nat} {q : Instr × Nat × Nat × Nat × Nat} (h : am_fetch i pc = some q) : ax_thr i (pc, q) = true :=
  List.all_eq_true.mp (List.all_eq_true.mp ax_thr_all i (List.mem_range.mpr (ax_ct_lt (am_fetch_mem h)))) _ (am_fetch_mem h)
theorem ax_no9_of {a pc : Nat} {ins : Instr} {len g E b : Nat} (h : am_fetch a pc = some (ins, len, g, E, b)) (hn : ax_no9 a = true) : ¬ g = 9 := fun hg => by
  have h1 := List.all_eq_true.mp hn _ (am_fetch_mem h)
  simp [hg] at h1
/-- a handler begins by putting the exception into a local -/
def ax_hrow (i : Nat) (q : Nat × Nat × Nat × Nat) : Bool := decide (q.2.2.2 = 13 ∨ q.2.2.2 = 15 ∨ q.2.2.2 = 21) && (decide (am_own i = RL) && (match am_fetch i q.2.2.1 with
  | some (.astore_n k, _, 1, _, _) => decide ((k : Nat) < am_mL i)
  | some (.astore k, _, 1, _, _) => decide (k < am_mL i)
  | _ => false))
set_option maxRecDepth 100000 in
theorem ax_hh_all : (List.range 241).all (fun j => (am_hh j).all (ax_hrow j)) = true := by decide +kernel
set_option maxRecDepth 100000 in
theorem ax_plain_all : (List.range 241).all (fun j => plainName (am_y j).cls) = true := by decide +kernel
/-! the words of a throw -/
def ax_xw (E : Nat) : List Cond := vx_atS RX10 (am_ic E) (am_ename E) am_up2
def ax_xok (E : Nat) : Bool := (ax_xw E).all (fun w => (goodWord w || am_nestW w) && lw_tbl.any (fun z => decide (w = z)))
set_option maxRecDepth 100000 in
theorem ax_xok0 : ax_xok 0 = true := by decide +kernel
set_option maxRecDepth 100000 in
theorem ax_xok1 : ax_xok 1 = true := by decide +kernel
set_option maxRecDepth 100000 in
theorem ax_xok2 : ax_xok 2 = true := by decide +kernel
theorem ax_xok_of {E : Nat} (h : E < 3) : ax_xok E = true := by
  match E, h with
  | 0, _ => exact ax_xok0
  | 1, _ => exact ax_xok1
  | 2, _ => exact ax_xok2
  | n + 3, h => exact absurd h (by omega)
theorem ax_xw_in {E : Nat} (h : E < 3) {w : Cond} (hw : w ∈ ax_xw E) : w ∈ am_GW ∨ w ∈ am_NW := by
  have h1 := List.all_eq_true.mp (ax_xok_of h) w hw
  simp only [Bool.and_eq_true, Bool.or_eq_true, List.any_eq_true, decide_eq_true_eq] at h1
  obtain ⟨h2, z, hz, rfl⟩ := h1
  rcases h2 with h2 | h2
  · exact Or.inl (List.mem_filter.mpr ⟨hz, h2⟩)
  · exact Or.inr (List.mem_filter.mpr ⟨hz, h2⟩)
theorem ax_nest_tab {w : Cond} (h : am_nestW w = true) : w.onTables = true := by
  cases w <;> first | rfl | exact absurd h Bool.false_ne_true
theorem ax_good_ot {w : Cond} (h : goodWord w = true ∨ am_nestW w = true) : vx_ot w = true := by
  unfold vx_ot
  rcases h with h | h
  · rw [h, Bool.or_true]
  · rw [ax_nest_tab h, Bool.true_or]
theorem ax_Nw_warm {w : Cond} (hw : am_nestW w = true) {u U : State} (hW : u.WarmedH U.vm) (h : va_Nw w u) : va_Nw w U := by
  cases w <;> first
    | exact absurd hw Bool.false_ne_true
    | exact va_Nw.warmF hW h
    | exact va_Nw.warmM hW h
    | exact va_Nw.warmD hW h
    | exact va_tabs rfl (rfl : (u.setVm U.vm).vm = U.vm) (by rw [Cond.castable_setVm hW.alike]; exact h)
/-! the environment -/
def ax_env (Dg : va_G) (cs : am_CS) (base : Nat) (U : State) : Prop :=
  va_K Dg vwCl (am_tyl cs) U ∧ (∀ w ∈ am_NW, va_Nw w U) ∧ va_AO RX7 U ∧ (∀ q ∈ ax_txt, ∃ sa, vk_R RX10 q.1 q.2 sa U) ∧ vx_Zq Bundle.tN "UNASSIGNED_STACK" Bundle.steD (fun q => base ≤ q) U U.heap ∧ vx_Zq Bundle.tN "SUPPRESSED_SENTINEL" Bundle.listD (fun q => base ≤ q) U U.heap ∧ ∀ a ∈ am_en, ∀ b ∈ am_en, a ≠ b → va_Nc a b U
theorem ax_env.moved {Dg : va_G} {cs : am_CS} {base : Nat} {u U : State} (hW : u.WarmedH U.vm) (hq : ∀ a : Nat, a < u.heap.size → ¬ base ≤ a → U.heap[a]? = u.heap[a]?) (h : ax_env Dg cs base u) : ax_env Dg cs base U := by
  obtain ⟨h1, h2, h3, h4, h5, h6, h7⟩ := h
  refine ⟨h1.moved hW.alike, fun w hw => ax_Nw_warm (List.mem_filter.mp hw).2 hW (h2 w hw), h3.moved hW.alike, fun q hq => ?_, vx_Zq.moved hW.alike (h5.kept hq), vx_Zq.moved hW.alike (h6.kept hq), fun a ha b hb hab => (h7 a ha b hb hab).moved hW.alike⟩
  obtain ⟨sa, hs⟩ := h4 q hq
  exact ⟨sa, vk_R.warm hW hs⟩
/-- what a frame of method i has from its beginning -/
def ax_ctx (Dg : va_G) (cs : am_CS) (base b : Nat) (scr : Option (Nat × (Nat → Int32))) (p : Program) (l : Launch) (R : Room) (s : State) (m : MethodId) (args : Array Value) (meth : Method) (c : Code) (i : Nat) : Prop :=
  p.tables.exec = Jvm.exec ∧ c.code = am_b i ∧ c.maxLocals = am_mL i ∧ s.vm.findClass (am_own i) = some m.cls ∧ (∀ w ∈ am_GW, w.before args s = true) ∧ ax_env Dg cs base s ∧ meth.name = (am_y i).name ∧ am_fr i ≤ R.frames ∧ am_lo i ≤ R.locals ∧ (∀ n xs, scr = some (n, xs) → va_X b n xs s s.heap ∧ b < s.heap.size ∧ b < base) ∧ l.stackTraces = false ∧ c.exceptionTable.toList = tableOf (am_hh i) ∧ meth.locks = false ∧ meth.sig.returnType = am_ret i
/-! the entry -/
theorem ax_lg : ∀ {vs : List Value}, (∀ v ∈ vs, v.category = 1) → (lg_sl vs).length = vs.length := by
  intro vs
  induction vs with
  | nil => intro _; rfl
  | cons v vs ih =>
    intro h
    have h1 : v.category = 1 := h v List.mem_cons_self
    have h2 := ih (fun w hw => h w (List.mem_cons_of_mem _ hw))
    unfold lg_sl at h2 ⊢
    rw [List.flatMap_cons, List.length_append, h2, h1]
    simp; omega
theorem ax_lva : ∀ {vs : List Value} {k j : Nat} {v : Value}, (∀ v ∈ vs, v.category = 1) → vs[j]? = some v → (k + j, v) ∈ lv_args k vs := by
  intro vs
  induction vs with
  | nil => intro k j v _ h; simp at h
  | cons w vs ih =>
    intro k j v hc h
    have h1 : w.category = 1 := hc w List.mem_cons_self
    unfold lv_args
    rw [if_neg (by rw [h1]; decide)]
    match j, h with
    | 0, h => cases h; exact List.mem_cons_self
    | j + 1, h =>
      have h2 := ih (k := k + 1) (j := j) (v := v) (fun z hz => hc z (List.mem_cons_of_mem _ hz)) (by simpa using h)
      rw [show k + 1 + j = k + (j + 1) by omega] at h2
      exact List.mem_cons_of_mem _ h2
theorem ax_entry {a base b : Nat} {As : List Value} (hc : ∀ v ∈ As, v.category = 1) (hl : As.length ≤ am_mL a) (m : MethodId) : ∃ ls, entryFrame m (As.map (am_tr base b)).toArray (am_mL a) = F0 m 0 ls [] ∧ am_lh ls (am_mL a) base b (am_L0 a As) := by
  have hc2 : ∀ v ∈ As.map (am_tr base b), v.category = 1 := fun v hv => by
    obtain ⟨w, hw, rfl⟩ := List.mem_map.mp hv
    rw [am_tr_cat]; exact hc w hw
  have hlen : (lg_sl (As.map (am_tr base b))).length ≤ am_mL a := by rw [ax_lg hc2, List.length_map]; exact hl
  have he := lv_entry (As.map (am_tr base b)) hlen
  refine ⟨_, lg_entry_eq m _ _, by unfold am_L0; simp; omega, he.1, he.2.1, fun q hq => he.2.2 q ?_⟩
  obtain ⟨v, h1, h2⟩ := am_lv_mem.mp hq
  unfold am_L0 at h1
  have hlt : q.1 < As.length := by
    rcases Nat.lt_or_ge q.1 As.length with z | z
    · exact z
    · rw [List.getElem?_append_right (by simpa using z), List.getElem?_replicate] at h1
      split at h1 <;> cases h1
  rw [List.getElem?_append_left (by simpa using hlt), List.getElem?_map] at h1
  obtain ⟨w, h3, h4⟩ := Option.map_eq_some_iff.mp h1
  cases h4
  have h5 := ax_lva (k := 0) (j := q.1) (v := am_tr base b v) hc2 (by rw [List.getElem?_map, h3]; rfl)
  rw [Nat.zero_add, ← h2] at h5
  exact h5
/-! contracts -/
def ax_Pc (al : Bool) (Dg : va_G) (base b : Nat) (cs : am_CS) (SK : List am_SC) (D : am_DD) (As : List Value) : Array Value → State → Prop := va_Pc (As.map (am_tr base b)) (fun U => ax_env Dg cs base U ∧ am_dyn al Dg base b cs SK D U.heap)
def ax_Qc (al : Bool) (Dg : va_G) (base b : Nat) (cs : am_CS) (SK : List am_SC) (D : am_DD) (v : Option Value) : Array Value → State → Outcome → State → Prop := fun _ st o t => o = .returned v ∧ am_dyn al Dg base b cs SK D t.heap ∧ va_F (fun q => base ≤ q) st t
def ax_XC (al : Bool) (Dg : va_G) (base b : Nat) (cs : am_CS) (SK : List am_SC) (D : am_DD) (E : Nat) : String → State → State → Prop := fun X st t => X = am_ename E ∧ am_dyn al Dg base b cs SK D t.heap ∧ va_F (fun q => base ≤ q) st t
theorem ax_blind {al : Bool} {Dg : va_G} {base b : Nat} {cs : am_CS} {SK : List am_SC} {D : am_DD} {As : List Value} : FrameBlind (ax_Pc al Dg base b cs SK D As) := fun _ U _ _ h => ⟨h.1, ax_env.moved (u := U) (State.WarmedH.refl U) (fun _ _ _ => rfl) h.2.1, h.2.2⟩
abbrev ax_ws (j : Nat) : List Cond := am_code j :: am_GW
theorem ax_tbl {p : Program} {l : Launch} {j : Nat} {rm : Room} {e : Env} {s s₁ : State} {m : MethodId} {args : Array Value} {below : List Frame} {meth : Method} {c : Code} (B : BodyLoose p l (am_y j) (headSpec (ax_ws j) rm) (am_b j) (am_mL j) (am_ret j) e s m args below meth c s₁) : c.exceptionTable.toList = tableOf (am_hh j) := by
  have hw : (am_code j).before args s = true := atoms_spec (ws := ax_ws j) B.pre _ List.mem_cons_self
  unfold am_code at hw
  by_cases h : am_hh j = []
  · rw [if_pos h] at hw
    obtain ⟨meth9, c9, h1, h2, -, -, -, -, h7, -⟩ := Cond.code_spec B.named hw
    cases Option.some.inj (h1.symm.trans B.method)
    cases Option.some.inj (h2.symm.trans (Stand.of_body B).code)
    rw [h, Array.isEmpty_iff.mp h7]
    rfl
  · rw [if_neg h] at hw
    exact vx_table (x := am_y j) B hw
theorem ax_ofW {l : Launch} {j : Nat} {rm : Room} {Pc : Array Value → State → Prop} {Qc : Array Value → State → Outcome → State → Prop} {XC : String → State → State → Prop} {mc ms : Nat} {free : Addr → Prop} (hj : j < 241)
    (body : ∀ p e s m args below meth c s₁, BodyLoose p l (am_y j) (headSpec (ax_ws j) rm) (am_b j) (am_mL j) (am_ret j) e s m args below meth c s₁ → c.maxLocals = am_mL j → Pc args s →
      W p l e (headSpec (ax_ws j) rm).room s m args below meth c s.heap [] 0 0 (vx_MQ below Qc XC args s mc ms free) (entryFrame m args (am_mL j))) : vx_Met l (am_y j) (ax_ws j) rm Pc Qc XC mc ms free := by
  have hy : plainName (am_y j).cls = true := List.all_eq_true.mp ax_plain_all j (List.mem_range.mpr hj)
  by_cases h : am_hh j = []
  · exact vx_ofW (cc := am_b j) (maxL := am_mL j) (ret := am_ret j) (ws' := am_GW) hy (by unfold ax_ws am_code; rw [if_pos h]) (fun p e s m args below meth c s₁ B hml _ hP => body p e s m args below meth c s₁ B hml hP)
  · exact vx_ofWH (cc := am_b j) (maxL := am_mL j) (ret := am_ret j) (hh := am_hh j) (ws' := am_GW) hy (by unfold ax_ws am_code; rw [if_neg h]) (fun p e s m args below meth c s₁ B hml hP => body p e s m args below meth c s₁ B hml hP)
theorem ax_met_of {l : Launch} {y : MethodName} {ws : List Cond} {rm : Room} {Pc : Array Value → State → Prop} {Qc : Array Value → State → Outcome → State → Prop} {mc ms : Nat} {free : Addr → Prop} (h : vx_Met l y ws rm Pc Qc (fun _ _ _ => False) mc ms free) : Met l y ws rm Pc Qc mc ms free := by
  intro p e h1 h2 h3 s m args below h4 h5 h6 h7
  obtain ⟨n, o, a1, a2, a3, a4⟩ := h p e h1 h2 h3 s m args below h4 h5 h6 h7
  refine ⟨n, o, a1, a2, a3, ?_⟩
  rcases a4 with a4 | ⟨q, -, E, ce, L, hx, -⟩
  · exact a4
  · exact hx.elim
/-- what am_run says is the machine's: the sentence -/
def ax_SIM (n : Nat) : Prop := ∀ (al : Bool) (scr : Option (Nat × (Nat → Int32))) (i pc : Nat) (L : am_LL) (S : List Value) (SK : List am_SC) (D : am_DD) (r : am_R) (SK' : List am_SC) (D' : am_DD) (c1 s1 : Nat), am_run al n scr i pc L S SK D = some (r, SK', D', c1, s1) →
  ∀ (p : Program) (l : Launch) (e : Env) (R : Room) (s : State) (m : MethodId) (args : Array Value) (below : List Frame) (meth : Method) (c : Code) (H : Heap) (locs : List Loc) (cells slots : Nat) (Q : State → Prop) (Dg : va_G) (cs : am_CS) (base b : Nat) (ls : Array Slot),
    ax_ctx Dg cs base b scr p l R s m args meth c i → va_S (fun q => base ≤ q) s.heap H locs → am_dyn al Dg base b cs SK D H → am_lh ls (am_mL i) base b L → cells + c1 ≤ R.cells → slots + s1 ≤ R.slots →
    (∀ (H' : Heap) (locs' : List Loc) (ls' : Array Slot), va_S (fun q => base ≤ q) s.heap H' locs' → am_dyn al Dg base b cs SK' D' H' → am_lh ls' (am_mL i) base b r.2.1 → W p l e R s m args below meth c H' locs' (cells + c1) (slots + s1) Q (F0 m r.1 ls' (r.2.2.map (am_tr base b)))) →
    W p l e R s m args below meth c H locs cells slots Q (F0 m pc ls (S.map (am_tr base b)))
theorem ax_ctx_of {p : Program} {l : Launch} {j : Nat} {rm : Room} {e : Env} {s s₁ : State} {m : MethodId} {args : Array Value} {below : List Frame} {meth : Method} {c : Code} {Dg : va_G} {cs : am_CS} {base b : Nat} (hl : l.stackTraces = false) (B : BodyLoose p l (am_y j) (headSpec (ax_ws j) rm) (am_b j) (am_mL j) (am_ret j) e s m args below meth c s₁) (hml : c.maxLocals = am_mL j) (hE : ax_env Dg cs base s) (hf : am_fr j ≤ rm.frames) (hlo : am_lo j ≤ rm.locals) : ax_ctx Dg cs base b none p l (headSpec (ax_ws j) rm).room s m args meth c j :=
  ⟨B.exec, B.bytes, hml, findClass_of_methodNamed B.named, fun w hw => atoms_spec (ws := ax_ws j) B.pre w (List.mem_cons_of_mem _ hw), hE, (name_of_methodNamed B.named B.method).1, hf, hlo, (fun _ _ h => by cases h), hl, ax_tbl B, B.notSynchronized, B.returns⟩
end
section
/-! a method that returns, a method that throws: contracts out of a run -/
theorem ax_len8 {a pc : Nat} {ins : Instr} {len a0 b0 : Nat} (h : am_fetch a pc = some (ins, len, 8, a0, b0)) : len = 1 := by
  have h1 := ax_thr_of h
  cases ins <;> first | (exact beq_iff_eq.mp h1) | (simp [ax_thr] at h1; exact h1)
set_option maxHeartbeats 4000000 in
theorem ax_ret {n : Nat} (hsim : ax_SIM n) {al : Bool} {a : Nat} {As : List Value} {SK SK1 : List am_SC} {D D1 : am_DD} {r : am_R} {c1 s1 : Nat} {v : Option Value} (hrun : am_run al n none a 0 (am_L0 a As) [] SK D = some (r, SK1, D1, c1, s1)) (hend : am_end a r = some (.inl v))
    (hc : ∀ v ∈ As, v.category = 1) (hlen : As.length ≤ am_mL a) (ha : a < 241) {l : Launch} (hl : l.stackTraces = false) {Dg : va_G} {base b : Nat} {cs : am_CS} :
    Met l (am_y a) (ax_ws a) { frames := am_fr a, cells := c1, slots := s1, locals := am_lo a } (ax_Pc al Dg base b cs SK D As) (ax_Qc al Dg base b cs SK1 D1 v) c1 s1 (fun q => base ≤ q) := by
  refine ax_met_of (ax_ofW ha ?_)
  intro p e s m args below meth c s₁ B hml hv
  obtain ⟨rfl, hE, hY⟩ := hv
  obtain ⟨ls, he, hL⟩ := ax_entry (base := base) (b := b) hc hlen m
  rw [he]
  have hX := ax_ctx_of (b := b) hl B hml hE (Nat.le_refl _) (Nat.le_refl _)
  refine hsim al none a 0 _ [] SK D r SK1 D1 c1 s1 hrun p l e _ s m _ below meth c s.heap [] 0 0 _ Dg cs base b ls hX va_S.rf hY hL (by rw [Nat.zero_add]; exact Nat.le_refl _) (by rw [Nat.zero_add]; exact Nat.le_refl _) ?_
  intro H' locs' ls' hS' hY' hL'
  rw [Nat.zero_add, Nat.zero_add]
  refine vx_ret ?_
  obtain ⟨pc', L', S'⟩ := r
  have hx := hX.1
  have hb := hX.2.1
  have hlocks : meth.locks = false := B.notSynchronized
  have hr := B.returns
  unfold am_end at hend
  dsimp only at hend hL' ⊢
  split at hend
  next ins len g a0 b0 hf =>
    obtain ⟨hd, -⟩ := am_row_of hf
    dsimp only at hd
    split at hend
    next => split at hend <;> cases hend
    next =>
      split at hend
      next hg =>
        subst hg
        obtain rfl := ax_len8 hf
        split at hend
        next x =>
          split at hend
          next ty hty =>
            split at hend
            next hn =>
              cases hend
              exact W.zret hx hb (hr.trans hty) hn (fun t ht hW => ⟨rfl, by rw [ht]; exact hY', hS'.F ht⟩) hS'.2.2 hd (hlocks := hlocks)
            next => cases hend
          next => cases hend
        next x =>
          split at hend
          next hty =>
            cases hend
            exact W.fret hx hb (hr.trans hty) (fun t ht hW => ⟨rfl, by rw [ht]; exact hY', hS'.F ht⟩) hS'.2.2 hd (hlocks := hlocks)
          next => cases hend
        next =>
          split at hend
          next hty =>
            cases hend
            exact W.vret hx hb (hr.trans hty) (fun t ht hW => ⟨rfl, by rw [ht]; exact hY', hS'.F ht⟩) hS'.2.2 hd (hlocks := hlocks)
          next => cases hend
        next => cases hend
      next => cases hend
  next => cases hend
theorem ax_fit {E : Nat} (h : E < 3) : Bundle.fit (am_ename E) = true := by
  match E, h with
  | 0, _ => decide +kernel
  | 1, _ => decide +kernel
  | 2, _ => decide +kernel
  | n + 3, h => exact absurd h (by omega)
theorem ax_fits : ∀ n ∈ am_up2, Bundle.fit n = true := by decide +kernel
/-- am_dyn, when new cells alone have come, and nothing may be made any more -/
theorem ax_dyn_kept {Dg : va_G} {base b : Nat} {cs : am_CS} {SK : List am_SC} {D : am_DD} {H H1 : Heap} (hY : am_dyn false Dg base b cs SK D H) (hz : H.size ≤ H1.size) (hq : ∀ q : Nat, q < H.size → H1[q]? = H[q]?) : am_dyn false Dg base b cs SK D H1 :=
  ⟨fun k sc hk => (hY.1 k sc hk).kept (hq _ (hY.1 k sc hk).lt), Nat.le_trans hY.2.1 hz, fun h => by cases h⟩
set_option maxHeartbeats 4000000 in
theorem ax_thw {n : Nat} (hsim : ax_SIM n) {a : Nat} {As : List Value} {SK SK1 : List am_SC} {D D1 : am_DD} {r : am_R} {c1 s1 E : Nat} (hrun : am_run false n none a 0 (am_L0 a As) [] SK D = some (r, SK1, D1, c1, s1)) (hend : am_end a r = some (.inr E))
    (hc : ∀ v ∈ As, v.category = 1) (hlen : As.length ≤ am_mL a) (ha : a < 241) {l : Launch} (hl : l.stackTraces = false) {Dg : va_G} {base b : Nat} {cs : am_CS} :
    E < 3 ∧ (∃ pc ins len b0, am_fetch a pc = some (ins, len, 9, E, b0)) ∧ vx_Met l (am_y a) (ax_ws a) { frames := am_fr a, cells := c1 + 1, slots := s1 + 6, locals := am_lo a } (ax_Pc false Dg base b cs SK D As) (fun _ _ _ _ => False) (ax_XC false Dg base b cs SK1 D1 E) (c1 + 1) (s1 + 6) (fun q => base ≤ q) := by
  obtain ⟨pc', L', S'⟩ := r
  unfold am_end at hend
  dsimp only at hend
  split at hend
  case h_2 => cases hend
  next ins len g a0 b0 hf =>
    split at hend
    case isFalse => split at hend
                    case isFalse => cases hend
                    case isTrue => split at hend
                                   · split at hend
                                     · split at hend <;> cases hend
                                     · cases hend
                                   · split at hend <;> cases hend
                                   · split at hend <;> cases hend
                                   · cases hend
    case isTrue hg =>
      subst hg
      split at hend
      case isFalse => cases hend
      case isTrue h8 =>
        cases hend
        obtain ⟨hd, -, hw1, -⟩ := am_row_of hf
        have ht := ax_thr_of hf
        obtain ⟨ik, rfl⟩ : ∃ ik, ins = .new ik := by
          cases ins <;> first | exact ⟨_, rfl⟩ | (exfalso; exact Bool.false_ne_true ht)
        simp only [ax_thr, Bool.and_eq_true, decide_eq_true_eq, List.any_eq_true, Bool.or_eq_true] at ht
        obtain ⟨hE3, d0, d3, ⟨tx, htx, ht⟩, hown10, hh0, hfr, hlo⟩ := ht
        refine ⟨hE3, ⟨_, _, _, _, hf⟩, ax_ofW ha ?_⟩
        intro p e s m args below meth c s₁ B hml hv
        obtain ⟨rfl, hE, hY⟩ := hv
        obtain ⟨ls, he, hL⟩ := ax_entry (base := base) (b := b) hc hlen m
        rw [he]
        have hX := ax_ctx_of (b := b) hl B hml hE (Nat.le_refl _) (Nat.le_refl _)
        refine hsim false none a 0 _ [] SK D (pc', L', S') SK1 D1 c1 s1 hrun p l e _ s m _ below meth c s.heap [] 0 0 _ Dg cs base b ls hX va_S.rf hY hL (by rw [Nat.zero_add]; exact Nat.le_succ _) (by rw [Nat.zero_add]; exact Nat.le_add_right _ _) ?_
        intro H' locs' ls' hS' hY' hL'
        rw [Nat.zero_add, Nat.zero_add]
        dsimp only
        obtain ⟨hx, hb, -, hown, hts, hE, -⟩ := id hX
        obtain ⟨e1, e2, e3, e4, e5, e6, e7⟩ := id hE
        rw [hown10] at hown
        obtain ⟨sa, hsa⟩ := e4 tx htx
        have hlk : Cond.classLink RX10 ik (am_ename E) ∈ am_GW := hw1 _ (by rw [← hown10]; exact List.mem_cons_self)
        have hin : Cond.initialized (am_ename E) ∈ am_GW := hw1 _ (List.mem_cons_of_mem _ List.mem_cons_self)
        have hat : ∀ w ∈ vx_atS RX10 (am_ic E) (am_ename E) am_up2, w.before (List.map (am_tr base b) As).toArray s = true := fun w hw => by
          rcases ax_xw_in hE3 hw with h | h
          · exact hts w h
          · exact va_Nw.use (ax_nest_tab (List.mem_filter.mp h).2) (e2 w h)
        have hgood : ∀ w ∈ Cond.classLink RX10 ik (am_ename E) :: Cond.initialized (am_ename E) :: vx_atS RX10 (am_ic E) (am_ename E) am_up2, vx_ot w = true := fun w hw => by
          rcases List.mem_cons.mp hw with h | h
          · rw [h]; exact ax_good_ot (Or.inl (List.mem_filter.mp hlk).2)
          · rcases List.mem_cons.mp h with h | h
            · rw [h]; exact ax_good_ot (Or.inl (List.mem_filter.mp hin).2)
            · rcases ax_xw_in hE3 h with h | h
              · exact ax_good_ot (Or.inl (List.mem_filter.mp h).2)
              · exact ax_good_ot (Or.inr (List.mem_filter.mp h).2)
        have hout : ∀ (k : Nat), ∀ x ∈ c.exceptionTable.toList, covers x k = false := fun k x hx => by
          rw [ax_tbl B, hh0] at hx
          cases hx
        have hx9 : ∀ t : State, s.vm.Alike t.vm → H'.size ≤ t.heap.size → (∀ q : Nat, q < H'.size → t.heap[q]? = H'[q]?) → ax_XC false Dg base b cs SK1 D1 E (am_ename E) s t := fun t _ h1 h2 =>
          ⟨rfl, ax_dyn_kept hY' h1 h2, Nat.le_trans hS'.1 h1, fun q g1 g2 => (h2 q (Nat.lt_of_lt_of_le g1 hS'.1)).trans (hS'.2.1 q g1 g2)⟩
        have hloc : ((S'.map (am_tr base b)).map fun v => v.category).sum + (13 * (am_up2.length + 1) + 43) ≤ am_lo a := by
          rw [am_words_map, show am_up2.length = 2 from rfl]
          omega
        have hfra : am_up2.length + 3 < am_fr a := by rw [show am_up2.length = 2 from rfl]; omega
        rcases ht with ht | ht
        · simp only [ax_t1, Bool.and_eq_true, decide_eq_true_eq] at ht
          exact vx_throwS hx hb hl hown (ax_fit hE3) ax_fits (hts _ hlk) (hts _ hin) hsa hat hgood e5 e6 hS' (hL'.2.1.trans hml.symm) d0 d3 ht.1 ht.2.1 ht.2.2 (hout _) hfra hloc (Nat.le_refl _) (Nat.le_refl _) B.notSynchronized hx9 hS'.2.2 (Nat.le_refl _) (Nat.le_refl _)
        · simp only [ax_t2, Bool.and_eq_true, decide_eq_true_eq] at ht
          exact vx_throwSW hx hb hl hown (ax_fit hE3) ax_fits (hts _ hlk) (hts _ hin) hsa hat hgood e5 e6 hS' (hL'.2.1.trans hml.symm) d0 d3 ht.1 ht.2.1 ht.2.2 (hout _) hfra hloc (Nat.le_refl _) (Nat.le_refl _) B.notSynchronized hx9 hS'.2.2 (Nat.le_refl _) (Nat.le_refl _)
end
section
/-! a call: what comes back -/
section AXC
variable {p : Program} {l : Launch} {e : Env} {R : Room} {s : State} {m : MethodId} {args : Array Value} {below : List Frame} {meth : Method} {c : Code} {H : Heap} {locs : List Loc} {cells slots : Nat} {Q : State → Prop}
variable {pc mc ms base b : Nat} {ls : Array Slot} {Dg : va_G} {cs : am_CS} {SK SK1 : List am_SC} {D D1 : am_DD} {al : Bool} {st0 rest : List Value} {a : Array Value} {v : Option Value} {E : Nat}
theorem ax_callR (hr : va_Run p l e R s m args below meth c H locs cells slots mc ms (F0 m pc ls st0) rest (ax_Qc al Dg base b cs SK1 D1 v a) (fun q => base ≤ q)) (hS : va_S (fun q => base ≤ q) s.heap H locs)
    (kk : ∀ (H1 : Heap) (locs1 : List Loc), va_S (fun q => base ≤ q) s.heap H1 locs1 → am_dyn al Dg base b cs SK1 D1 H1 → W p l e R s m args below meth c H1 locs1 (cells + mc) (slots + ms) Q (F0 m (pc + 3) ls (v.toList ++ rest))) : W p l e R s m args below meth c H locs cells slots Q (F0 m pc ls st0) := by
  intro T hT X
  obtain ⟨v', st₀, t, T', L, h0, X', hL, e1, e2, ⟨hv, hY, hF⟩, st⟩ := hr T hT X
  cases hv
  obtain ⟨k1, k2, k3⟩ := vx_keep (A0 := fun q => base ≤ q) (A1 := fun q => base ≤ q) h0 e1 hS (fun _ _ h => h) (fun _ h => h) hL hF
  obtain ⟨t2, a1, b1⟩ := kk T'.heap (locs ++ L) k3 (by rw [e1]; exact hY) T' rfl X'
  exact ⟨t2, st t2 a1, b1⟩
theorem ax_callX (hr : vx_Run p l e R s m args below meth c H locs cells slots mc ms (F0 m pc ls st0) rest (fun _ _ _ => False) (ax_XC al Dg base b cs SK1 D1 E) (fun q => base ≤ q)) (hS : va_S (fun q => base ≤ q) s.heap H locs)
    (kk : ∀ (H1 : Heap) (locs1 : List Loc) (q9 : Addr) (ce : Cell), va_S (fun q => base ≤ q) s.heap H1 locs1 → am_dyn al Dg base b cs SK1 D1 H1 → H1[q9]? = some ce → ce.vm = .none → s.vm.findClass (am_ename E) = some ce.cls → vx_W p l e R s m args below meth c H1 locs1 (cells + mc) (slots + ms) Q (F0 m pc ls rest) q9) : W p l e R s m args below meth c H locs cells slots Q (F0 m pc ls st0) := by
  intro T hT X
  rcases hr T hT X with ⟨v', st₀, t, T', L, h0, X', hL, e1, e2, hF, st⟩ | ⟨q, st₀, t, T', L, E', ce, h0, X', hL, e1, e2, ⟨rfl, hY, hF⟩, hce, hcv, hcl, st⟩
  · exact hF.elim
  · obtain ⟨k1, k2, k3⟩ := vx_keep (A0 := fun q => base ≤ q) (A1 := fun q => base ≤ q) h0 e1 hS (fun _ _ h => h) (fun _ h => h) hL hF
    obtain ⟨t2, a1, b1⟩ := kk T'.heap (locs ++ L) q ce k3 (by rw [e1]; exact hY) (by rw [e1]; exact hce) hcv hcl T' rfl X'
    exact ⟨t2, st.trans a1, b1⟩
end AXC
theorem ax_args {j : Nat} {S As S1 : List Value} (h : am_args j S = some (As, S1)) : S = As.reverse ++ S1 ∧ As.length = am_np j ∧ am_words S1 ≤ 8 ∧ (∀ v ∈ As, v.category = 1) ∧ As.length ≤ am_mL j := by
  unfold am_args at h
  split at h
  next hc =>
    obtain ⟨h1, h2, h3, h4⟩ := hc
    cases h
    have hl : (List.take (am_np j) S).reverse.length = am_np j := by rw [List.length_reverse, List.length_take]; omega
    refine ⟨by rw [List.reverse_reverse, List.take_append_drop], hl, h2, fun v hv => h3 v (List.mem_reverse.mp hv), by rw [hl]; exact h4⟩
  next => cases h
set_option maxHeartbeats 4000000 in
/-- the rows of a call, as the kit asks for them; k: how many are there beside the receiver -/
theorem ax_cb {p : Program} {l : Launch} {R : Room} {s : State} {m : MethodId} {args : Array Value} {meth : Method} {c : Code} {i a idx : Nat} {Dg : va_G} {cs : am_CS} {base b n mc ms : Nat} {scr : Option (Nat × (Nat → Int32))} (hX : ax_ctx Dg cs base b scr p l R s m args meth c i)
    (hh : am_hh a = []) (hfr : am_fr a + 1 ≤ am_fr i) (hlo : 8 + (am_mL a + 11) + am_lo a ≤ am_lo i) (hy1 : (am_y a).cls ≠ "java/lang/invoke/MethodHandle") (hy2 : (am_y a).cls ≠ "java/lang/invoke/VarHandle")
    (hn : ∀ sig, parseMethodDescriptor (am_y a).desc = some sig → n = sig.parameters.length) (hw0 : am_code a ∈ am_GW) (hw1 : Cond.initialized (am_own a) ∈ am_GW) (hw2 : Cond.methodLink (am_own i) idx (am_y a) ∈ am_GW) :
    CallB R s args (am_own i) idx (am_y a) (am_b a) (am_mL a) (am_ret a) (ax_ws a) { frames := am_fr a, cells := mc, slots := ms, locals := am_lo a } mc ms n := by
  obtain ⟨-, -, -, -, hts, -, -, h1, h2, -⟩ := hX
  have hcode : am_code a = .code (am_y a) (am_b a) (am_mL a) (am_ret a) := if_pos hh
  refine ⟨rfl, rfl, Nat.le_trans hfr h1, Nat.le_trans hlo h2, fun w hw a' U hW => ?_, by rw [← hcode]; exact List.mem_cons_self, by rw [← hcode]; exact hts _ hw0, hts _ hw1, ⟨hy1, hy2⟩, hn, hts _ hw2⟩
  have hg : w ∈ am_GW := (List.mem_cons.mp hw).elim (fun h => by rw [h]; exact hw0) id
  exact word_at hW (good_of_word (List.mem_filter.mp hg).2) (hts w hg)
theorem ax_cn {p : Program} {l : Launch} {R : Room} {s : State} {m : MethodId} {args : Array Value} {meth : Method} {c : Code} {i a idx : Nat} {Dg : va_G} {cs : am_CS} {base b n mc ms : Nat} {scr : Option (Nat × (Nat → Int32))} (hX : ax_ctx Dg cs base b scr p l R s m args meth c i)
    (hh : am_hh a = []) (hfr : am_fr a + 1 ≤ am_fr i) (hlo : 8 + (am_mL a + 11) + am_lo a ≤ am_lo i) (hy1 : (am_y a).cls ≠ "java/lang/invoke/MethodHandle") (hy2 : (am_y a).cls ≠ "java/lang/invoke/VarHandle")
    (hn : ∀ sig, parseMethodDescriptor (am_y a).desc = some sig → n = sig.parameters.length) (hw0 : am_code a ∈ am_GW) (hw1 : Cond.initialized (am_own a) ∈ am_GW) (hw2 : Cond.methodLinkNest (am_own i) idx (am_y a) RX10 ∈ am_NW) :
    va_CN R s args (am_own i) idx (am_y a) RX10 (am_b a) (am_mL a) (am_ret a) (ax_ws a) { frames := am_fr a, cells := mc, slots := ms, locals := am_lo a } mc ms n := by
  obtain ⟨-, -, -, -, hts, hE, -, h1, h2, -⟩ := hX
  have hcode : am_code a = .code (am_y a) (am_b a) (am_mL a) (am_ret a) := if_pos hh
  refine ⟨⟨rfl, rfl, Nat.le_trans hfr h1, Nat.le_trans hlo h2, fun w hw a' U hW => ?_, by rw [← hcode]; exact List.mem_cons_self⟩, by rw [← hcode]; exact hts _ hw0, hts _ hw1, ⟨hy1, hy2⟩, hn, va_Nw.use rfl (hE.2.1 _ hw2)⟩
  have hg : w ∈ am_GW := (List.mem_cons.mp hw).elim (fun h => by rw [h]; exact hw0) id
  exact word_at hW (good_of_word (List.mem_filter.mp hg).2) (hts w hg)
theorem ax_csw {p : Program} {l : Launch} {R : Room} {s : State} {m : MethodId} {args : Array Value} {meth : Method} {c : Code} {i a idx : Nat} {Dg : va_G} {cs : am_CS} {base b n mc ms : Nat} {scr : Option (Nat × (Nat → Int32))} (hX : ax_ctx Dg cs base b scr p l R s m args meth c i)
    (hh : ¬ am_hh a = []) (hfr : am_fr a + 1 ≤ am_fr i) (hlo : 8 + (am_mL a + 11) + am_lo a ≤ am_lo i) (hy1 : (am_y a).cls ≠ "java/lang/invoke/MethodHandle") (hy2 : (am_y a).cls ≠ "java/lang/invoke/VarHandle")
    (hn : ∀ sig, parseMethodDescriptor (am_y a).desc = some sig → n = sig.parameters.length) (hw0 : am_code a ∈ am_GW) (hw1 : Cond.initialized (am_own a) ∈ am_GW) (hw2 : Cond.methodLink (am_own i) idx (am_y a) ∈ am_GW) (hw3 : Cond.static (am_y a) ∈ am_GW) :
    vx_CSW R s args (am_own i) idx (am_y a) (am_b a) (am_mL a) (am_ret a) (am_hh a) (ax_ws a) { frames := am_fr a, cells := mc, slots := ms, locals := am_lo a } mc ms n := by
  obtain ⟨-, -, -, -, hts, -, -, h1, h2, -⟩ := hX
  have hcode : am_code a = .codeWith (am_y a) (am_b a) (am_mL a) (am_ret a) (am_hh a) := if_neg hh
  refine ⟨⟨rfl, rfl, Nat.le_trans hfr h1, Nat.le_trans hlo h2, fun w hw a' U hW => ?_, by rw [← hcode]; exact List.mem_cons_self⟩, by rw [← hcode]; exact hts _ hw0, hts _ hw1, ⟨hy1, hy2⟩, hn, hts _ hw2, hts _ hw3⟩
  have hg : w ∈ am_GW := (List.mem_cons.mp hw).elim (fun h => by rw [h]; exact hw0) id
  exact word_at hW (good_of_word (List.mem_filter.mp hg).2) (hts w hg)
/-- the callee's premise, at this point of the caller's walk -/
theorem ax_pre {p : Program} {l : Launch} {R : Room} {s : State} {m : MethodId} {args : Array Value} {meth : Method} {c : Code} {i : Nat} {Dg : va_G} {cs : am_CS} {base b : Nat} {scr : Option (Nat × (Nat → Int32))} {al : Bool} {SK : List am_SC} {D : am_DD} {H : Heap} {locs : List Loc} {As : List Value} (hX : ax_ctx Dg cs base b scr p l R s m args meth c i) (hS : va_S (fun q => base ≤ q) s.heap H locs) (hY : am_dyn al Dg base b cs SK D H) :
    ∀ U : State, U.heap = H → s.WarmedH U.vm → ax_Pc al Dg base b cs SK D As (As.map (am_tr base b)).toArray U := fun U hU hW =>
  ⟨rfl, ax_env.moved hW (fun q h1 h2 => by rw [hU]; exact hS.2.1 q h1 h2) hX.2.2.2.2.2.1, by rw [hU]; exact hY⟩
theorem ax_plen {d : String} {k n : Nat} (h : (parseMethodDescriptor d).map (fun d => d.parameters.length + k) = some n) {z : Nat} (hz : z + k = n) : ∀ sig, parseMethodDescriptor d = some sig → z = sig.parameters.length := fun sig hs => by
  rw [hs] at h
  have h2 : sig.parameters.length + k = n := Option.some.inj h
  omega
theorem ax_rcvV {idx j : Nat} {As : List Value} {SK : List am_SC} (h : am_rcv (.invokevirtual idx) j As SK = true) : ∃ r As' fs, As = .ref r :: As' ∧ am_at SK r = some (.inl (am_ci j, fs)) := by
  cases As with
  | nil => exact absurd h Bool.false_ne_true
  | cons w As' =>
    cases w <;> first | exact absurd h Bool.false_ne_true | skip
    rename_i r
    unfold am_rcv at h
    dsimp only at h
    cases hat : am_at SK r with
    | none => rw [hat] at h; exact absurd h Bool.false_ne_true
    | some sc =>
      rw [hat] at h
      cases sc with
      | inr z => exact absurd h Bool.false_ne_true
      | inl z =>
        obtain ⟨ci, fs⟩ := z
        have h2 : ci = am_ci j := of_decide_eq_true h
        exact ⟨r, As', fs, rfl, by rw [hat, h2]⟩
theorem ax_rcvI {idx j : Nat} {As : List Value} {SK : List am_SC} (h : am_rcv (.invokespecial idx) j As SK = true) : ∃ r As', As = .ref r :: As' := by
  cases As with
  | nil => exact absurd h Bool.false_ne_true
  | cons w As' =>
    cases w <;> first | exact absurd h Bool.false_ne_true | exact ⟨_, _, rfl⟩
section AXK
variable {p : Program} {l : Launch} {e : Env} {R : Room} {s : State} {m : MethodId} {args : Array Value} {below : List Frame} {meth : Method} {c : Code} {H : Heap} {locs : List Loc} {cells slots : Nat} {Q : State → Prop}
variable {i pc len a b0 mc ms base b : Nat} {ins : Instr} {ls : Array Slot} {Dg : va_G} {cs : am_CS} {SK SK1 : List am_SC} {D D1 : am_DD} {al : Bool} {As S S1 : List Value} {v : Option Value} {E : Nat} {scr : Option (Nat × (Nat → Int32))}
set_option maxHeartbeats 8000000 in
/-- a call that returns -/
theorem ax_goR (hX : ax_ctx Dg cs base b scr p l R s m args meth c i) (hS : va_S (fun q => base ≤ q) s.heap H locs) (hY : am_dyn al Dg base b cs SK D H) (hls : ls.size = am_mL i) (hf : am_fetch i pc = some (ins, len, 7, a, b0)) (hA : am_args a S = some (As, S1)) (hrc : am_rcv ins a As SK = true)
    (hM : Met l (am_y a) (ax_ws a) { frames := am_fr a, cells := mc, slots := ms, locals := am_lo a } (ax_Pc al Dg base b cs SK D As) (ax_Qc al Dg base b cs SK1 D1 v) mc ms (fun q => base ≤ q)) (hc1 : cells + mc ≤ R.cells) (hs1 : slots + ms ≤ R.slots) :
    va_Run p l e R s m args below meth c H locs cells slots mc ms (F0 m pc ls (S.map (am_tr base b))) (S1.map (am_tr base b)) (ax_Qc al Dg base b cs SK1 D1 v (As.map (am_tr base b)).toArray) (fun q => base ≤ q) := by
  obtain ⟨hd, hchk, hw1, hw2⟩ := am_row_of hf
  have hthr := ax_thr_of hf
  obtain ⟨rfl, hlen, hwd, hcat, hmax⟩ := ax_args hA
  obtain ⟨hx, hb, hml, hown, hts, hE, -⟩ := id hX
  have hrm : ∀ st : List Value, 2 * (F0 m pc ls st).monitorRoom + ((S1.map (am_tr base b)).map fun v => v.category).sum ≤ 8 := fun st => lv_room (by rw [am_words_map]; exact hwd)
  have hpre := ax_pre (As := As) hX hS hY
  have hmap : (As.reverse ++ S1).map (am_tr base b) = (As.map (am_tr base b)).reverse ++ S1.map (am_tr base b) := by rw [List.map_append, List.map_reverse]
  dsimp only at hd hchk hw1 hw2
  cases ins <;> first | (exfalso; exact Bool.false_ne_true hthr) | skip
  case invokevirtual idx =>
    simp only [am_chk, Bool.and_eq_true, beq_iff_eq, decide_eq_true_eq] at hchk
    obtain ⟨⟨⟨⟨⟨⟨⟨⟨rfl, g1⟩, g2⟩, g3⟩, g4⟩, g5⟩, g6⟩, g7⟩, g8⟩ := hchk
    obtain ⟨r, As', fs, rfl, hat⟩ := ax_rcvV hrc
    · · obtain ⟨hk, hr⟩ := am_at_spec hat
        have hwl : ∀ w ∈ am_word i (pc, Instr.invokevirtual idx, 3, 7, a, b0), w ∈ am_GW := hw1
        have u1 : Cond.methodLink (am_own i) idx (am_y a) ∈ am_GW := hwl _ (by simp [am_word])
        have u2 : Cond.instanceMethod (am_y a) ∈ am_GW := hwl _ (by simp [am_word])
        have u3 : Cond.selects (am_own a) (am_y a) (am_y a) ∈ am_GW := hwl _ (by simp [am_word])
        have u4 : Cond.initialized (am_own a) ∈ am_GW := hwl _ (by simp [am_word])
        have u5 : am_code a ∈ am_GW := hwl _ (by simp [am_word])
        have htr : (Value.ref r :: As').map (am_tr base b) = .ref (base + r) :: As'.map (am_tr base b) := by
          show Value.ref (am_ad base b r) :: _ = _
          rw [am_ad_of hr]
        rw [htr] at hmap hpre ⊢
        obtain ⟨c1, c2, -⟩ := am_cls_ok _ g7
        have hrecv := va_recv hE.1 (hY.1.one hk rfl) c1 (show ([(base + r, _)] : va_W)[0]? = some (base + r, _) from rfl)
        rw [g8] at hrecv
        exact va_runV (As := As'.map (am_tr base b)) (rest := S1.map (am_tr base b)) ⟨hx, hb, hml, hown, hts⟩ hM ⟨ax_cb (n := As'.length) hX g6 g1 g2 g3 g4 (ax_plen (k := 1) g5 (by rw [← hlen]; rfl)) u5 u4 u1, hts _ u2, hts _ u3⟩ ⟨ax_blind, hrecv, hpre⟩ rfl (by simp) hls (by rw [hmap]; simp) (hrm _) hd ⟨hc1, hs1⟩
  case invokespecial idx =>
    simp only [am_chk, Bool.and_eq_true, beq_iff_eq, decide_eq_true_eq] at hchk
    obtain ⟨⟨⟨⟨⟨⟨⟨⟨⟨rfl, g1⟩, g2⟩, g3⟩, g4⟩, g5⟩, g6⟩, g7⟩, g8⟩, g9⟩ := hchk
    obtain ⟨r, As', rfl⟩ := ax_rcvI hrc
    · have htr : (Value.ref r :: As').map (am_tr base b) = .ref (am_ad base b r) :: As'.map (am_tr base b) := rfl
      rw [htr] at hmap hpre ⊢
      rcases (show b0 = 0 ∨ b0 = 1 by omega) with rfl | rfl
      · have hwl : ∀ w ∈ am_word i (pc, Instr.invokespecial idx, 3, 7, a, 0), w ∈ am_GW := hw1
        have u1 : Cond.methodLink (am_own i) idx (am_y a) ∈ am_GW := hwl _ (by simp [am_word])
        have u2 : Cond.instanceMethod (am_y a) ∈ am_GW := hwl _ (by simp [am_word])
        have u4 : Cond.initialized (am_own a) ∈ am_GW := hwl _ (by simp [am_word])
        have u5 : am_code a ∈ am_GW := hwl _ (by simp [am_word])
        have hcb := ax_cb (n := As'.length) (mc := mc) (ms := ms) hX g6 g1 g2 g3 g4 (ax_plen (k := 1) g5 (by rw [← hlen]; rfl)) u5 u4 u1
        rw [g8] at hcb
        exact va_runI (As := As'.map (am_tr base b)) (rest := S1.map (am_tr base b)) ⟨hx, hb, hml, hown, hts⟩ hM ⟨hcb, g7, hts _ u2⟩ ⟨ax_blind, hpre⟩ rfl (by simp) hls (by rw [hmap]; simp) (hrm _) hd ⟨hc1, hs1⟩
      · have hwl : ∀ w ∈ am_word i (pc, Instr.invokespecial idx, 3, 7, a, 1), w ∈ am_GW := hw1
        have u1 : Cond.methodLinkNest (am_own i) idx (am_y a) RX10 ∈ am_NW := hw2 _ (by simp [am_nword])
        have u2 : Cond.instanceMethod (am_y a) ∈ am_GW := hwl _ (by simp [am_word])
        have u4 : Cond.initialized (am_own a) ∈ am_GW := hwl _ (by simp [am_word])
        have u5 : am_code a ∈ am_GW := hwl _ (by simp [am_word])
        have hcb := ax_cn (n := As'.length) (mc := mc) (ms := ms) hX g6 g1 g2 g3 g4 (ax_plen (k := 1) g5 (by rw [← hlen]; rfl)) u5 u4 u1
        rw [g8] at hcb
        exact va_runIN (As := As'.map (am_tr base b)) (rest := S1.map (am_tr base b)) ⟨hx, hb, hml, hown, hts⟩ hM ⟨hcb, g7, hts _ u2⟩ ⟨ax_blind, hpre⟩ rfl (by simp) hls (by rw [hmap]; simp) (hrm _) hd ⟨hc1, hs1⟩
  case invokestatic idx =>
    simp only [am_chk, Bool.and_eq_true, beq_iff_eq, decide_eq_true_eq] at hchk
    obtain ⟨⟨⟨⟨⟨rfl, g1⟩, g2⟩, g3⟩, g4⟩, g5⟩ := hchk
    have hwl : ∀ w ∈ am_word i (pc, Instr.invokestatic idx, 3, 7, a, b0), w ∈ am_GW := hw1
    have u1 : Cond.methodLink (am_own i) idx (am_y a) ∈ am_GW := hwl _ (by simp [am_word])
    have u2 : Cond.static (am_y a) ∈ am_GW := hwl _ (by simp [am_word])
    have u4 : Cond.initialized (am_own a) ∈ am_GW := hwl _ (by simp [am_word])
    have u5 : am_code a ∈ am_GW := hwl _ (by simp [am_word])
    have hn := ax_plen (k := 0) (z := As.length) (by simpa using g5) hlen
    by_cases hh : am_hh a = []
    · exact va_runS (As := As.map (am_tr base b)) (rest := S1.map (am_tr base b)) ⟨hx, hb, hml, hown, hts⟩ hM ⟨ax_cb (n := As.length) hX hh g1 g2 g3 g4 hn u5 u4 u1, hts _ u2⟩ ⟨ax_blind, hpre⟩ rfl (by simp) hls hmap (hrm _) hd ⟨hc1, hs1⟩
    · exact vx_runSW (As := As.map (am_tr base b)) (rest := S1.map (am_tr base b)) ⟨hx, hb, hml, hown, hts⟩ hM (ax_csw (n := As.length) hX hh g1 g2 g3 g4 hn u5 u4 u1 u2) ⟨ax_blind, hpre⟩ rfl (by simp) hls hmap (hrm _) hd ⟨hc1, hs1⟩
set_option maxHeartbeats 8000000 in
/-- a call that throws -/
theorem ax_goX (hX : ax_ctx Dg cs base b scr p l R s m args meth c i) (hS : va_S (fun q => base ≤ q) s.heap H locs) (hY : am_dyn false Dg base b cs SK D H) (hls : ls.size = am_mL i) (hf : am_fetch i pc = some (ins, len, 7, a, b0)) (hA : am_args a S = some (As, S1)) (hrc : am_rcv ins a As SK = true) (h9 : ∃ pc ins len b0, am_fetch a pc = some (ins, len, 9, E, b0))
    (hM : vx_Met l (am_y a) (ax_ws a) { frames := am_fr a, cells := mc, slots := ms, locals := am_lo a } (ax_Pc false Dg base b cs SK D As) (fun _ _ _ _ => False) (ax_XC false Dg base b cs SK1 D1 E) mc ms (fun q => base ≤ q)) (hc1 : cells + mc ≤ R.cells) (hs1 : slots + ms ≤ R.slots) :
    vx_Run p l e R s m args below meth c H locs cells slots mc ms (F0 m pc ls (S.map (am_tr base b))) (S1.map (am_tr base b)) (fun _ _ _ => False) (ax_XC false Dg base b cs SK1 D1 E) (fun q => base ≤ q) := by
  obtain ⟨hd, hchk, hw1, hw2⟩ := am_row_of hf
  have hthr := ax_thr_of hf
  obtain ⟨rfl, hlen, hwd, hcat, hmax⟩ := ax_args hA
  obtain ⟨hx, hb, hml, hown, hts, hE, -⟩ := id hX
  have hrm : ∀ st : List Value, 2 * (F0 m pc ls st).monitorRoom + ((S1.map (am_tr base b)).map fun v => v.category).sum ≤ 8 := fun st => lv_room (by rw [am_words_map]; exact hwd)
  have hpre := ax_pre (As := As) hX hS hY
  have hmap : (As.reverse ++ S1).map (am_tr base b) = (As.map (am_tr base b)).reverse ++ S1.map (am_tr base b) := by rw [List.map_append, List.map_reverse]
  obtain ⟨pc9, ins9, len9, b9, hf9⟩ := h9
  dsimp only at hd hchk hw1 hw2
  cases ins <;> first | (exfalso; exact Bool.false_ne_true hthr) | (exfalso; exact ax_no9_of hf9 hthr rfl) | (exfalso; simp only [ax_thr, Bool.and_eq_true] at hthr; exact ax_no9_of hf9 hthr.2 rfl) | skip
  case invokevirtual idx =>
    simp only [am_chk, Bool.and_eq_true, beq_iff_eq, decide_eq_true_eq] at hchk
    obtain ⟨⟨⟨⟨⟨⟨⟨⟨rfl, g1⟩, g2⟩, g3⟩, g4⟩, g5⟩, g6⟩, g7⟩, g8⟩ := hchk
    obtain ⟨r, As', fs, rfl, hat⟩ := ax_rcvV hrc
    · · obtain ⟨hk, hr⟩ := am_at_spec hat
        have hwl : ∀ w ∈ am_word i (pc, Instr.invokevirtual idx, 3, 7, a, b0), w ∈ am_GW := hw1
        have u1 : Cond.methodLink (am_own i) idx (am_y a) ∈ am_GW := hwl _ (by simp [am_word])
        have u2 : Cond.instanceMethod (am_y a) ∈ am_GW := hwl _ (by simp [am_word])
        have u3 : Cond.selects (am_own a) (am_y a) (am_y a) ∈ am_GW := hwl _ (by simp [am_word])
        have u4 : Cond.initialized (am_own a) ∈ am_GW := hwl _ (by simp [am_word])
        have u5 : am_code a ∈ am_GW := hwl _ (by simp [am_word])
        have htr : (Value.ref r :: As').map (am_tr base b) = .ref (base + r) :: As'.map (am_tr base b) := by
          show Value.ref (am_ad base b r) :: _ = _
          rw [am_ad_of hr]
        rw [htr] at hmap hpre
        obtain ⟨c1, c2, -⟩ := am_cls_ok _ g7
        have hrecv := va_recv hE.1 (hY.1.one hk rfl) c1 (show ([(base + r, _)] : va_W)[0]? = some (base + r, _) from rfl)
        rw [g8] at hrecv
        exact vx_runV (As := As'.map (am_tr base b)) (rest := S1.map (am_tr base b)) ⟨hx, hb, hml, hown, hts⟩ hM ⟨ax_cb (n := As'.length) hX g6 g1 g2 g3 g4 (ax_plen (k := 1) g5 (by rw [← hlen]; rfl)) u5 u4 u1, hts _ u2, hts _ u3⟩ ⟨ax_blind, hrecv, hpre⟩ rfl (by simp) hls (by rw [hmap]; simp) (hrm _) hd ⟨hc1, hs1⟩
end AXK
end
section
/-! caught by the caller; the whole of am_run -/
theorem ax_find {α : Type} {f : α → Bool} : ∀ {l : List α} {q : α}, l.find? f = some q → ∃ pre suf, l = pre ++ q :: suf ∧ (∀ z ∈ pre, f z = false) ∧ f q = true := by
  intro l
  induction l with
  | nil => intro q h; cases h
  | cons x l ih =>
    intro q h
    rw [List.find?_cons] at h
    cases hx : f x with
    | true => rw [hx] at h; cases h; exact ⟨[], l, rfl, fun _ hz => absurd hz List.not_mem_nil, hx⟩
    | false =>
      rw [hx] at h
      obtain ⟨pre, suf, rfl, h2, h3⟩ := ih h
      exact ⟨x :: pre, suf, rfl, fun z hz => (List.mem_cons.mp hz).elim (fun e => by rw [e]; exact hx) (h2 z), h3⟩
def ax_ci (E : Nat) : Nat := [13, 15, 21].getD E 0
theorem ax_hrow_of {i : Nat} {q : Nat × Nat × Nat × Nat} (h : q ∈ am_hh i) : ax_hrow i q = true := by
  have hi : i < 241 := by
    rcases Nat.lt_or_ge i 241 with z | z
    · exact z
    · exfalso
      unfold am_hh at h
      rw [List.getD_eq_getElem?_getD, List.getElem?_eq_none (by rw [show am_hhs.length = 241 by decide +kernel]; exact z)] at h
      cases h
  exact List.all_eq_true.mp (List.all_eq_true.mp ax_hh_all i (List.mem_range.mpr hi)) _ h
/-- what a handler's row says -/
theorem ax_hnd {i pc E t k : Nat} (h : am_hnd i pc E = some (t, k)) : ∃ pre q suf, am_hh i = pre ++ q :: suf ∧ (∀ z ∈ pre, (decide (z.1 ≤ pc) && decide (pc < z.2.1) && decide (z.2.2.2 = ax_ci E)) = false) ∧ q.1 ≤ pc ∧ pc < q.2.1 ∧ q.2.2.2 = ax_ci E ∧ k < am_mL i ∧
    ((∃ kk : Fin 4, decode (am_b i) q.2.2.1 = .ok (.astore_n kk, 1) ∧ (kk : Nat) = k ∧ t = q.2.2.1 + 1) ∨ (decode (am_b i) q.2.2.1 = .ok (.astore k, 2) ∧ t = q.2.2.1 + 2)) := by
  unfold am_hnd at h
  split at h
  case h_2 => cases h
  next q hq =>
    obtain ⟨pre, suf, h1, h2, h3⟩ := ax_find hq
    simp only [Bool.and_eq_true, decide_eq_true_eq] at h3
    obtain ⟨⟨g1, g2⟩, g3⟩ := h3
    have hrow := ax_hrow_of (i := i) (q := q) (by rw [h1]; exact List.mem_append_right _ List.mem_cons_self)
    unfold ax_hrow at hrow
    simp only [Bool.and_eq_true, decide_eq_true_eq] at hrow
    obtain ⟨-, -, hrow⟩ := hrow
    refine ⟨pre, q, suf, h1, h2, g1, g2, g3, ?_⟩
    split at h
    next k0 l0 g0 a0 b0 hf =>
      cases h
      rw [hf] at hrow
      obtain ⟨hd, hc, -⟩ := am_row_of hf
      dsimp only at hd hc
      have hg : g0 = 1 := by
        match g0, hrow with
        | 0, hrow => exact absurd hrow Bool.false_ne_true
        | 1, _ => rfl
        | n + 2, hrow => exact absurd hrow Bool.false_ne_true
      subst hg
      have hk : (k0 : Nat) < am_mL i := of_decide_eq_true hrow
      obtain rfl : l0 = 1 := by simpa [am_chk] using hc
      exact ⟨hk, Or.inl ⟨k0, hd, rfl, rfl⟩⟩
    next k0 l0 g0 a0 b0 hf =>
      cases h
      rw [hf] at hrow
      obtain ⟨hd, hc, -⟩ := am_row_of hf
      dsimp only at hd hc
      have hg : g0 = 1 := by
        match g0, hrow with
        | 0, hrow => exact absurd hrow Bool.false_ne_true
        | 1, _ => rfl
        | n + 2, hrow => exact absurd hrow Bool.false_ne_true
      subst hg
      have hk : k < am_mL i := of_decide_eq_true hrow
      obtain rfl : l0 = 2 := by simpa [am_chk] using hc
      exact ⟨hk, Or.inr ⟨hd, rfl⟩⟩
    next => cases h
def ax_cls13 (z : Nat) : String := if z = 13 then "java/lang/IllegalArgumentException" else if z = 15 then "java/lang/IllegalStateException" else "java/lang/IndexOutOfBoundsException"
set_option maxRecDepth 100000 in
theorem ax_cl_in : ∀ w ∈ [Cond.classLink RL 13 "java/lang/IllegalArgumentException", Cond.classLink RL 15 "java/lang/IllegalStateException", Cond.classLink RL 21 "java/lang/IndexOutOfBoundsException"], w ∈ am_GW := am_GW_all (by decide +kernel)
theorem ax_cl_of {z : Nat} (h : z = 13 ∨ z = 15 ∨ z = 21) : Cond.classLink RL z (ax_cls13 z) ∈ am_GW ∧ ax_cls13 z ∈ am_en := by
  rcases h with rfl | rfl | rfl
  · exact ⟨ax_cl_in _ List.mem_cons_self, by decide +kernel⟩
  · exact ⟨ax_cl_in _ (List.mem_cons_of_mem _ List.mem_cons_self), by decide +kernel⟩
  · exact ⟨ax_cl_in _ (List.mem_cons_of_mem _ (List.mem_cons_of_mem _ List.mem_cons_self)), by decide +kernel⟩
theorem ax_en_of {E : Nat} (h : E < 3) : am_ename E ∈ am_en ∧ ax_cls13 (ax_ci E) = am_ename E ∧ (ax_ci E = 13 ∨ ax_ci E = 15 ∨ ax_ci E = 21) := by
  match E, h with
  | 0, _ => decide +kernel
  | 1, _ => decide +kernel
  | 2, _ => decide +kernel
  | n + 3, h => exact absurd h (by omega)
theorem ax_en_ne {E z : Nat} (h : E < 3) (hz : z = 13 ∨ z = 15 ∨ z = 21) (hne : ¬ z = ax_ci E) : am_ename E ≠ ax_cls13 z := by
  rcases hz with rfl | rfl | rfl
  · match E, h, hne with
    | 0, _, hne => exact absurd rfl hne
    | 1, _, _ => decide +kernel
    | 2, _, _ => decide +kernel
    | n + 3, h, _ => exact absurd h (by omega)
  · match E, h, hne with
    | 0, _, _ => decide +kernel
    | 1, _, hne => exact absurd rfl hne
    | 2, _, _ => decide +kernel
    | n + 3, h, _ => exact absurd h (by omega)
  · match E, h, hne with
    | 0, _, _ => decide +kernel
    | 1, _, _ => decide +kernel
    | 2, _, hne => exact absurd rfl hne
    | n + 3, h, _ => exact absurd h (by omega)
set_option maxRecDepth 100000 in
theorem ax_cast_in : ∀ w ∈ am_en.map (fun n => Cond.castable n n), w ∈ am_NW := fun w hw => by
  have h1 : (am_en.map (fun n => Cond.castable n n)).all (fun w => lw_tbl.any (fun z => decide (w = z)) && am_nestW w) = true := by decide +kernel
  have h2 := List.all_eq_true.mp h1 w hw
  simp only [Bool.and_eq_true, List.any_eq_true, decide_eq_true_eq] at h2
  obtain ⟨⟨z, hz, rfl⟩, h3⟩ := h2
  exact List.mem_filter.mpr ⟨hz, h3⟩
theorem ax_lh_none {ls' ls : Array Slot} {nL base b i : Nat} {L : am_LL} {v : Value} (hL : am_lh ls nL base b L) (hc : am_clear L i = true)
    (h : lv_has ls' nL ((i, v) :: (am_lv base b L).filter (fun q => !(q.1 == i) && !(q.1 + 1 == i && q.2.category == 2)))) : am_lh ls' nL base b (L.set i none) := by
  refine ⟨by rw [List.length_set]; exact hL.1, h.1, h.2.1, fun q hq => ?_⟩
  obtain ⟨w, h1, h2⟩ := am_lv_mem.mp hq
  by_cases hqi : q.1 = i
  · exfalso
    rw [hqi, List.getElem?_set] at h1
    simp only [if_true] at h1
    split at h1 <;> cases h1
  · rw [List.getElem?_set_ne (fun e => hqi e.symm)] at h1
    refine h.2.2 q (List.mem_cons.mpr (Or.inr (List.mem_filter.mpr ⟨am_lv_mem.mpr ⟨w, h1, h2⟩, ?_⟩)))
    have hcat : q.1 + 1 = i → q.2.category = 1 := fun e => by rw [h2, am_tr_cat]; exact am_clear_spec hc h1 e
    simp only [Bool.and_eq_true, Bool.not_eq_true', beq_eq_false_iff_ne, ne_eq, Bool.and_eq_false_iff]
    refine ⟨hqi, ?_⟩
    by_cases e : q.1 + 1 = i
    · right
      rw [hcat e]; decide
    · left; exact e
section AXM
variable {p : Program} {l : Launch} {e : Env} {R : Room} {s : State} {m : MethodId} {args : Array Value} {below : List Frame} {meth : Method} {c : Code} {H : Heap} {locs : List Loc} {cells slots : Nat} {Q : State → Prop}
variable {i pc base b E t k : Nat} {ls : Array Slot} {Dg : va_G} {cs : am_CS} {L : am_LL} {scr : Option (Nat × (Nat → Int32))} {rest : List Value}
set_option maxHeartbeats 4000000 in
theorem ax_caught (hX : ax_ctx Dg cs base b scr p l R s m args meth c i) (hL : am_lh ls (am_mL i) base b L) (hE : E < 3) (hh : am_hnd i pc E = some (t, k)) (hcl : am_clear L k = true) {q9 : Addr} {ce : Cell} (hcell : H[q9]? = some ce) (hv : ce.vm = .none) (hfc : s.vm.findClass (am_ename E) = some ce.cls)
    (kk : ∀ ls' : Array Slot, am_lh ls' (am_mL i) base b (L.set k none) → W p l e R s m args below meth c H locs cells slots Q (F0 m t ls' [])) : vx_W p l e R s m args below meth c H locs cells slots Q (F0 m pc ls rest) q9 := by
  obtain ⟨pre, q, suf, h1, h2, h3, h4, h5, h6, h7⟩ := ax_hnd hh
  obtain ⟨hx, hb, -, hown, hts, ⟨-, hN, -, -, -, -, hnc⟩, -, -, -, -, -, htab, -⟩ := id hX
  have hq : q ∈ am_hh i := by rw [h1]; exact List.mem_append_right _ List.mem_cons_self
  have hrow : ∀ z ∈ am_hh i, (z.2.2.2 = 13 ∨ z.2.2.2 = 15 ∨ z.2.2.2 = 21) ∧ am_own i = RL := fun z hz => by
    have := ax_hrow_of hz
    unfold ax_hrow at this
    simp only [Bool.and_eq_true, decide_eq_true_eq] at this
    exact ⟨this.1, this.2.1⟩
  rw [(hrow q hq).2] at hown
  obtain ⟨e1, e2, e3⟩ := ax_en_of hE
  have hcw := (ax_cl_of (hrow q hq).1).1
  rw [h5, e2] at hcw
  refine vx_catch (own := RL) (name := am_ename E) (E := am_ename E) hown (tableOf pre) ⟨q.1, q.2.1, q.2.2.1, q.2.2.2⟩ (tableOf suf) (by rw [htab, h1]; unfold tableOf; rw [List.map_append, List.map_cons]) ?_ ?_ ?_ ?_ ?_ hcell hv hfc ?_
  · intro z hz
    obtain ⟨z0, hz0, rfl⟩ := List.mem_map.mp hz
    have g1 := h2 z0 hz0
    have g2 := (hrow z0 (by rw [h1]; exact List.mem_append_left _ hz0)).1
    by_cases hcv : covers ⟨z0.1, z0.2.1, z0.2.2.1, z0.2.2.2⟩ pc = false
    · exact Or.inl hcv
    · refine Or.inr ⟨by rcases g2 with g | g | g <;> (show z0.2.2.2 ≠ 0) <;> omega, ax_cls13 z0.2.2.2, hts _ (ax_cl_of g2).1, hnc _ e1 _ (ax_cl_of g2).2 (ax_en_ne hE g2 fun hne => ?_)⟩
      have hcv2 : (decide (z0.1 ≤ pc) && decide (pc < z0.2.1)) = true := by
        cases hq2 : (decide (z0.1 ≤ pc) && decide (pc < z0.2.1)) with
        | true => rfl
        | false => exact absurd hq2 hcv
      rw [hcv2, decide_eq_true hne] at g1
      cases g1
  · show (decide (q.1 ≤ pc) && decide (pc < q.2.1)) = true
    rw [decide_eq_true h3, decide_eq_true h4]; rfl
  · show q.2.2.2 ≠ 0
    rcases (hrow q hq).1 with g | g | g <;> omega
  · show (Cond.classLink RL q.2.2.2 (am_ename E)).before args s = true
    rw [h5]
    exact hts _ hcw
  · exact va_Nw.use rfl (hN _ (ax_cast_in _ (List.mem_map.mpr ⟨_, e1, rfl⟩)))
  · show W p l e R s m args below meth c H locs cells slots Q (F0 m q.2.2.1 ls [.ref q9])
    rcases h7 with ⟨k0, hd, hk0, rfl⟩ | ⟨hd, rfl⟩
    · exact lv_astore_n hx hb hd hk0 hL.2 h6 rfl fun ls' h' => kk ls' (ax_lh_none hL hcl h')
    · exact lv_astore hx hb hd hL.2 h6 rfl fun ls' h' => kk ls' (ax_lh_none hL hcl h')
variable {len g a b0 pc' c2 s2 : Nat} {ins : Instr} {L' : am_LL} {S S' : List Value} {SK SK' : List am_SC} {D D' : am_DD} {al : Bool}
set_option maxHeartbeats 4000000 in
theorem ax_step (hX : ax_ctx Dg cs base b scr p l R s m args meth c i) (hS : va_S (fun q => base ≤ q) s.heap H locs) (hY : am_dyn al Dg base b cs SK D H) (hL : am_lh ls (am_mL i) base b L) (hf : am_fetch i pc = some (ins, len, g, a, b0)) (hst : am_step al scr ins len g a b0 pc L S SK D = some (pc', L', S', SK', D', c2, s2))
    (hc : cells + c2 ≤ R.cells) (hs : slots + s2 ≤ R.slots)
    (kk : ∀ (H' : Heap) (locs' : List Loc) (ls' : Array Slot), va_S (fun q => base ≤ q) s.heap H' locs' → am_dyn al Dg base b cs SK' D' H' → am_lh ls' (am_mL i) base b L' → W p l e R s m args below meth c H' locs' (cells + c2) (slots + s2) Q (F0 m pc' ls' (S'.map (am_tr base b)))) : W p l e R s m args below meth c H locs cells slots Q (F0 m pc ls (S.map (am_tr base b))) := by
  obtain ⟨hd, hchk, hw1, hw2⟩ := am_row_of hf
  obtain ⟨hx, hb, hml, hown, hts, ⟨hK, hN, hAO, -⟩, hmn, hfr, hlo, hscr, -⟩ := id hX
  dsimp only at hd hchk hw1 hw2
  unfold am_step at hst
  split at hst
  · split at hst
    next z hz => cases hst; exact am_sim_stk hx hb hd hchk hz (kk H locs ls hS hY hL)
    next => cases hst
  · split at hst
    next z1 z2 hz => cases hst; exact am_sim_loc hx hb hd hchk hL hz (fun ls' h' => kk H locs ls' hS hY h')
    next => cases hst
  · split at hst
    next z1 z2 hz => cases hst; exact am_sim_br hx hb hd hchk hz (kk H locs ls hS hY hL)
    next => cases hst
  · split at hst
    next z hz => cases hst; exact am_sim_rd hx hb hown hts hK hN hscr hS hY.1 hd hchk hw1 hw2 hz (kk H locs ls hS hY hL)
    next => cases hst
  · split at hst
    next z1 z2 z3 hz => cases hst; exact am_sim_wr hx hb hown hts hK hN hmn hS hY hd hchk hw1 hw2 hz (fun H' locs' h1 h2 => kk H' locs' ls h1 h2 hL)
    next => cases hst
  · split at hst
    next z1 z2 z3 hz => cases hst; exact am_sim_nw hx hb hown hts hK hAO hS hY hd hchk hw1 hz hc hs (fun H' h1 h2 => kk H' locs ls h1 h2 hL)
    next => cases hst
  · split at hst
    next z1 z2 hz => cases hst; exact am_sim_lib hx hb (hml.trans hL.2.1.symm) hown hts hK hfr hlo hc hs hS hY hd hchk hw1 hz (fun H' locs' h1 h2 => kk H' locs' ls h1 h2 hL)
    next => cases hst
  · cases hst
end AXM
theorem ax_ans {a : Nat} {r : am_R} {v : Option Value} (h : am_end a r = some (.inl v)) (base b : Nat) : v.toList.map (am_tr base b) = v.toList := by
  unfold am_end at h
  split at h
  next =>
    split at h
    next => split at h <;> cases h
    next =>
      split at h
      next =>
        split at h
        · split at h
          · split at h
            · cases h; rfl
            · cases h
          · cases h
        · split at h
          · cases h; rfl
          · cases h
        · split at h
          · cases h; rfl
          · cases h
        · cases h
      next => cases h
  next => cases h
set_option maxHeartbeats 4000000 in
theorem ax_sim : ∀ n, ax_SIM n := by
  intro n
  induction n with
  | zero => intro al scr i pc L S SK D r SK' D' c1 s1 h; cases h
  | succ n ih =>
    intro al scr i pc L S SK D r SK' D' c1 s1 h p l e R s m args below meth c H locs cells slots Q Dg cs base b ls hX hS hY hL hc1 hs1 kk
    rw [am_run] at h
    split at h
    case h_1 => cases h
    next ins len g a b0 hf =>
      split at h
      next => cases h; exact kk H locs ls hS hY hL
      next =>
        split at h
        next hg =>
          subst hg
          split at h
          next => cases h
          next As S1 hA =>
            obtain ⟨-, hlen, -, hcat, hmax⟩ := ax_args hA
            split at h
            next => cases h
            next hrc0 =>
              have hrc : am_rcv ins a As SK = true := by
                cases hq : am_rcv ins a As SK with
                | true => rfl
                | false => exact absurd hq hrc0
              split at h
              next => cases h
              next r1 SK1 D1 c2 s2 hcall =>
                have hl : l.stackTraces = false := hX.2.2.2.2.2.2.2.2.2.2.1
                split at h
                next => cases h
                next v hend =>
                  split at h
                  next => cases h
                  next r2 SK2 D2 c3 s3 hcont =>
                    cases h
                    have ha : a < 241 := by
                      unfold am_end at hend
                      split at hend
                      next hf2 => exact ax_ct_lt (am_fetch_mem hf2)
                      next => cases hend
                    have hM := ax_ret ih hcall hend hcat hmax ha hl (Dg := Dg) (base := base) (b := b) (cs := cs)
                    refine ax_callR (ax_goR hX hS hY hL.2.1 hf hA hrc hM (by omega) (by omega)) hS fun H1 locs1 hS1 hY1 => ?_
                    rw [← ax_ans hend base b, ← List.map_append]
                    refine ih _ _ _ _ _ _ _ _ _ _ _ _ _ hcont p l e R s m args below meth c H1 locs1 _ _ Q Dg cs base b ls hX hS1 hY1 hL (by omega) (by omega) fun H' locs' ls' g1 g2 g3 => ?_
                    have k9 := kk H' locs' ls' g1 g2 g3
                    rw [← Nat.add_assoc, ← Nat.add_assoc] at k9
                    exact k9
                next E hend =>
                  split at h
                  next => cases h
                  next hal =>
                    have hal : al = false := by
                      cases al
                      · rfl
                      · exact absurd rfl hal
                    subst hal
                    split at h
                    next => cases h
                    next t k hh =>
                      split at h
                      next => cases h
                      next hcl0 =>
                        have hcl : am_clear L k = true := by
                          cases hq : am_clear L k with
                          | true => rfl
                          | false => exact absurd hq hcl0
                        split at h
                        next => cases h
                        next r2 SK2 D2 c3 s3 hcont =>
                          cases h
                          have ha : a < 241 := by
                            unfold am_end at hend
                            split at hend
                            next hf2 => exact ax_ct_lt (am_fetch_mem hf2)
                            next => cases hend
                          obtain ⟨hE3, h9, hM⟩ := ax_thw ih hcall hend hcat hmax ha hl (Dg := Dg) (base := base) (b := b) (cs := cs)
                          refine ax_callX (ax_goX hX hS hY hL.2.1 hf hA hrc h9 hM (by omega) (by omega)) hS fun H1 locs1 q9 ce hS1 hY1 hcell hcv hfc => ?_
                          refine ax_caught hX hL hE3 hh hcl hcell hcv hfc fun ls' hL1 => ?_
                          refine ih _ _ _ _ _ [] _ _ _ _ _ _ _ hcont p l e R s m args below meth c H1 locs1 _ _ Q Dg cs base b ls' hX hS1 hY1 hL1 (by omega) (by omega) fun H' locs' ls2 g1 g2 g3 => ?_
                          have k9 := kk H' locs' ls2 g1 g2 g3
                          have q1 : cells + (c2 + 1) + c3 = cells + (c2 + 1 + c3) := by omega
                          have q2 : slots + (s2 + 6) + s3 = slots + (s2 + 6 + s3) := by omega
                          rw [q1, q2]
                          exact k9
        next =>
          split at h
          next => cases h
          next pc' L' S' SK1 D1 c2 s2 hst =>
            split at h
            next => cases h
            next r2 SK2 D2 c3 s3 hcont =>
              cases h
              refine ax_step hX hS hY hL hf hst (by omega) (by omega) fun H1 locs1 ls1 hS1 hY1 hL1 => ?_
              refine ih _ _ _ _ _ _ _ _ _ _ _ _ _ hcont p l e R s m args below meth c H1 locs1 _ _ Q Dg cs base b ls1 hX hS1 hY1 hL1 (by omega) (by omega) fun H' locs' ls2 g1 g2 g3 => ?_
              have k9 := kk H' locs' ls2 g1 g2 g3
              rw [← Nat.add_assoc, ← Nat.add_assoc] at k9
              exact k9
end
section
/-! the skeleton that stands when the law has made its things; the start of am_run by the kernel -/
def ay_SK_0 : List am_SC := [.inl (10, [some (.ref 1), some (.ref 33), some (.ref 40), some (.ref 45), some (.ref 56), some (.ref 253)]), .inl (7, [none, none, none, none, none, some (.ref 2), some (.ref 4), some (.ref 6), some (.ref 8), some (.ref 19), some (.ref 26)]), .inl (6, [some (.ref 3)]), .inr (0, 2, []), .inl (6, [some (.ref 5)]), .inr (0, 5, []), .inl (6, [some (.ref 7)]), .inr (0, 5, []), .inl (1, [none, some (.ref 9), some (.ref 11), some (.ref 13), some (.ref 15), some (.ref 17)]), .inl (6, [some (.ref 10)]), .inr (0, 12, []), .inl (6, [some (.ref 12)]), .inr (0, 12, []), .inl (6, [some (.ref 14)]), .inr (0, 12, []), .inl (6, [some (.ref 16)]), .inr (0, 24, []), .inl (6, [some (.ref 18)]), .inr (0, 24, []), .inl (0, [none, some (.ref 20), some (.ref 22), some (.ref 24)]), .inl (6, [some (.ref 21)]), .inr (0, 40, []), .inl (6, [some (.ref 23)]), .inr (0, 40, []), .inl (6, [some (.ref 25)]), .inr (0, 40, []), .inl (8, [none, none, none, some (.ref 27), some (.ref 29), some (.ref 31)]), .inl (6, [some (.ref 28)]), .inr (0, 60, []), .inl (6, [some (.ref 30)]), .inr (0, 60, []), .inl (6, [some (.ref 32)]), .inr (0, 60, [])]
def ay_SK_1 : List am_SC := [.inl (5, [some (.ref 8), some (.ref 34), some (.ref 36), some (.ref 38)]), .inl (6, [some (.ref 35)]), .inr (0, 12, []), .inl (6, [some (.ref 37)]), .inr (0, 25, []), .inl (6, [some (.ref 39)]), .inr (0, 25, []), .inl (3, [some (.ref 26), some (.ref 41), some (.ref 43), none]), .inl (6, [some (.ref 42)]), .inr (0, 31, []), .inl (6, [some (.ref 44)]), .inr (0, 60, []), .inl (4, [none, some (.ref 46), none, none, some (.ref 48), some (.ref 50), some (.ref 52), some (.ref 54)]), .inl (6, [some (.ref 47)]), .inr (0, 60, []), .inl (6, [some (.ref 49)]), .inr (0, 20, []), .inl (6, [some (.ref 51)]), .inr (0, 20, []), .inl (6, [some (.ref 53)]), .inr (0, 20, []), .inl (6, [some (.ref 55)]), .inr (0, 20, []), .inl (2, [some (.ref 57), none, none]), .inl (9, [some (.ref 58), some (.ref 251)]), .inr (3, 6, [some 59, some 91, some 123, some 155, some 187, some 219]), .inl (7, [none, none, none, none, none, some (.ref 60), some (.ref 62), some (.ref 64), some (.ref 66), some (.ref 77), some (.ref 84)]), .inl (6, [some (.ref 61)]), .inr (0, 2, []), .inl (6, [some (.ref 63)]), .inr (0, 5, []), .inl (6, [some (.ref 65)]), .inr (0, 5, [])]
def ay_SK_2 : List am_SC := [.inl (1, [none, some (.ref 67), some (.ref 69), some (.ref 71), some (.ref 73), some (.ref 75)]), .inl (6, [some (.ref 68)]), .inr (0, 12, []), .inl (6, [some (.ref 70)]), .inr (0, 12, []), .inl (6, [some (.ref 72)]), .inr (0, 12, []), .inl (6, [some (.ref 74)]), .inr (0, 24, []), .inl (6, [some (.ref 76)]), .inr (0, 24, []), .inl (0, [none, some (.ref 78), some (.ref 80), some (.ref 82)]), .inl (6, [some (.ref 79)]), .inr (0, 40, []), .inl (6, [some (.ref 81)]), .inr (0, 40, []), .inl (6, [some (.ref 83)]), .inr (0, 40, []), .inl (8, [none, none, none, some (.ref 85), some (.ref 87), some (.ref 89)]), .inl (6, [some (.ref 86)]), .inr (0, 60, []), .inl (6, [some (.ref 88)]), .inr (0, 60, []), .inl (6, [some (.ref 90)]), .inr (0, 60, []), .inl (7, [none, none, none, none, none, some (.ref 92), some (.ref 94), some (.ref 96), some (.ref 98), some (.ref 109), some (.ref 116)]), .inl (6, [some (.ref 93)]), .inr (0, 2, []), .inl (6, [some (.ref 95)]), .inr (0, 5, []), .inl (6, [some (.ref 97)]), .inr (0, 5, []), .inl (1, [none, some (.ref 99), some (.ref 101), some (.ref 103), some (.ref 105), some (.ref 107)])]
def ay_SK_3 : List am_SC := [.inl (6, [some (.ref 100)]), .inr (0, 12, []), .inl (6, [some (.ref 102)]), .inr (0, 12, []), .inl (6, [some (.ref 104)]), .inr (0, 12, []), .inl (6, [some (.ref 106)]), .inr (0, 24, []), .inl (6, [some (.ref 108)]), .inr (0, 24, []), .inl (0, [none, some (.ref 110), some (.ref 112), some (.ref 114)]), .inl (6, [some (.ref 111)]), .inr (0, 40, []), .inl (6, [some (.ref 113)]), .inr (0, 40, []), .inl (6, [some (.ref 115)]), .inr (0, 40, []), .inl (8, [none, none, none, some (.ref 117), some (.ref 119), some (.ref 121)]), .inl (6, [some (.ref 118)]), .inr (0, 60, []), .inl (6, [some (.ref 120)]), .inr (0, 60, []), .inl (6, [some (.ref 122)]), .inr (0, 60, []), .inl (7, [none, none, none, none, none, some (.ref 124), some (.ref 126), some (.ref 128), some (.ref 130), some (.ref 141), some (.ref 148)]), .inl (6, [some (.ref 125)]), .inr (0, 2, []), .inl (6, [some (.ref 127)]), .inr (0, 5, []), .inl (6, [some (.ref 129)]), .inr (0, 5, []), .inl (1, [none, some (.ref 131), some (.ref 133), some (.ref 135), some (.ref 137), some (.ref 139)]), .inl (6, [some (.ref 132)])]
def ay_SK_4 : List am_SC := [.inr (0, 12, []), .inl (6, [some (.ref 134)]), .inr (0, 12, []), .inl (6, [some (.ref 136)]), .inr (0, 12, []), .inl (6, [some (.ref 138)]), .inr (0, 24, []), .inl (6, [some (.ref 140)]), .inr (0, 24, []), .inl (0, [none, some (.ref 142), some (.ref 144), some (.ref 146)]), .inl (6, [some (.ref 143)]), .inr (0, 40, []), .inl (6, [some (.ref 145)]), .inr (0, 40, []), .inl (6, [some (.ref 147)]), .inr (0, 40, []), .inl (8, [none, none, none, some (.ref 149), some (.ref 151), some (.ref 153)]), .inl (6, [some (.ref 150)]), .inr (0, 60, []), .inl (6, [some (.ref 152)]), .inr (0, 60, []), .inl (6, [some (.ref 154)]), .inr (0, 60, []), .inl (7, [none, none, none, none, none, some (.ref 156), some (.ref 158), some (.ref 160), some (.ref 162), some (.ref 173), some (.ref 180)]), .inl (6, [some (.ref 157)]), .inr (0, 2, []), .inl (6, [some (.ref 159)]), .inr (0, 5, []), .inl (6, [some (.ref 161)]), .inr (0, 5, []), .inl (1, [none, some (.ref 163), some (.ref 165), some (.ref 167), some (.ref 169), some (.ref 171)]), .inl (6, [some (.ref 164)]), .inr (0, 12, [])]
def ay_SK_5 : List am_SC := [.inl (6, [some (.ref 166)]), .inr (0, 12, []), .inl (6, [some (.ref 168)]), .inr (0, 12, []), .inl (6, [some (.ref 170)]), .inr (0, 24, []), .inl (6, [some (.ref 172)]), .inr (0, 24, []), .inl (0, [none, some (.ref 174), some (.ref 176), some (.ref 178)]), .inl (6, [some (.ref 175)]), .inr (0, 40, []), .inl (6, [some (.ref 177)]), .inr (0, 40, []), .inl (6, [some (.ref 179)]), .inr (0, 40, []), .inl (8, [none, none, none, some (.ref 181), some (.ref 183), some (.ref 185)]), .inl (6, [some (.ref 182)]), .inr (0, 60, []), .inl (6, [some (.ref 184)]), .inr (0, 60, []), .inl (6, [some (.ref 186)]), .inr (0, 60, []), .inl (7, [none, none, none, none, none, some (.ref 188), some (.ref 190), some (.ref 192), some (.ref 194), some (.ref 205), some (.ref 212)]), .inl (6, [some (.ref 189)]), .inr (0, 2, []), .inl (6, [some (.ref 191)]), .inr (0, 5, []), .inl (6, [some (.ref 193)]), .inr (0, 5, []), .inl (1, [none, some (.ref 195), some (.ref 197), some (.ref 199), some (.ref 201), some (.ref 203)]), .inl (6, [some (.ref 196)]), .inr (0, 12, []), .inl (6, [some (.ref 198)])]
def ay_SK_6 : List am_SC := [.inr (0, 12, []), .inl (6, [some (.ref 200)]), .inr (0, 12, []), .inl (6, [some (.ref 202)]), .inr (0, 24, []), .inl (6, [some (.ref 204)]), .inr (0, 24, []), .inl (0, [none, some (.ref 206), some (.ref 208), some (.ref 210)]), .inl (6, [some (.ref 207)]), .inr (0, 40, []), .inl (6, [some (.ref 209)]), .inr (0, 40, []), .inl (6, [some (.ref 211)]), .inr (0, 40, []), .inl (8, [none, none, none, some (.ref 213), some (.ref 215), some (.ref 217)]), .inl (6, [some (.ref 214)]), .inr (0, 60, []), .inl (6, [some (.ref 216)]), .inr (0, 60, []), .inl (6, [some (.ref 218)]), .inr (0, 60, []), .inl (7, [none, none, none, none, none, some (.ref 220), some (.ref 222), some (.ref 224), some (.ref 226), some (.ref 237), some (.ref 244)]), .inl (6, [some (.ref 221)]), .inr (0, 2, []), .inl (6, [some (.ref 223)]), .inr (0, 5, []), .inl (6, [some (.ref 225)]), .inr (0, 5, []), .inl (1, [none, some (.ref 227), some (.ref 229), some (.ref 231), some (.ref 233), some (.ref 235)]), .inl (6, [some (.ref 228)]), .inr (0, 12, []), .inl (6, [some (.ref 230)]), .inr (0, 12, [])]
def ay_SK_7 : List am_SC := [.inl (6, [some (.ref 232)]), .inr (0, 12, []), .inl (6, [some (.ref 234)]), .inr (0, 24, []), .inl (6, [some (.ref 236)]), .inr (0, 24, []), .inl (0, [none, some (.ref 238), some (.ref 240), some (.ref 242)]), .inl (6, [some (.ref 239)]), .inr (0, 40, []), .inl (6, [some (.ref 241)]), .inr (0, 40, []), .inl (6, [some (.ref 243)]), .inr (0, 40, []), .inl (8, [none, none, none, some (.ref 245), some (.ref 247), some (.ref 249)]), .inl (6, [some (.ref 246)]), .inr (0, 60, []), .inl (6, [some (.ref 248)]), .inr (0, 60, []), .inl (6, [some (.ref 250)]), .inr (0, 60, []), .inl (6, [some (.ref 252)]), .inr (0, 6, []), .inl (9, [some (.ref 254), some (.ref 319)]), .inr (3, 2, [some 255, some 287]), .inl (7, [none, none, none, none, none, some (.ref 256), some (.ref 258), some (.ref 260), some (.ref 262), some (.ref 273), some (.ref 280)]), .inl (6, [some (.ref 257)]), .inr (0, 2, []), .inl (6, [some (.ref 259)]), .inr (0, 5, []), .inl (6, [some (.ref 261)]), .inr (0, 5, []), .inl (1, [none, some (.ref 263), some (.ref 265), some (.ref 267), some (.ref 269), some (.ref 271)]), .inl (6, [some (.ref 264)])]
def ay_SK_8 : List am_SC := [.inr (0, 12, []), .inl (6, [some (.ref 266)]), .inr (0, 12, []), .inl (6, [some (.ref 268)]), .inr (0, 12, []), .inl (6, [some (.ref 270)]), .inr (0, 24, []), .inl (6, [some (.ref 272)]), .inr (0, 24, []), .inl (0, [none, some (.ref 274), some (.ref 276), some (.ref 278)]), .inl (6, [some (.ref 275)]), .inr (0, 40, []), .inl (6, [some (.ref 277)]), .inr (0, 40, []), .inl (6, [some (.ref 279)]), .inr (0, 40, []), .inl (8, [none, none, none, some (.ref 281), some (.ref 283), some (.ref 285)]), .inl (6, [some (.ref 282)]), .inr (0, 60, []), .inl (6, [some (.ref 284)]), .inr (0, 60, []), .inl (6, [some (.ref 286)]), .inr (0, 60, []), .inl (7, [none, none, none, none, none, some (.ref 288), some (.ref 290), some (.ref 292), some (.ref 294), some (.ref 305), some (.ref 312)]), .inl (6, [some (.ref 289)]), .inr (0, 2, []), .inl (6, [some (.ref 291)]), .inr (0, 5, []), .inl (6, [some (.ref 293)]), .inr (0, 5, []), .inl (1, [none, some (.ref 295), some (.ref 297), some (.ref 299), some (.ref 301), some (.ref 303)]), .inl (6, [some (.ref 296)]), .inr (0, 12, [])]
def ay_SK_9 : List am_SC := [.inl (6, [some (.ref 298)]), .inr (0, 12, []), .inl (6, [some (.ref 300)]), .inr (0, 12, []), .inl (6, [some (.ref 302)]), .inr (0, 24, []), .inl (6, [some (.ref 304)]), .inr (0, 24, []), .inl (0, [none, some (.ref 306), some (.ref 308), some (.ref 310)]), .inl (6, [some (.ref 307)]), .inr (0, 40, []), .inl (6, [some (.ref 309)]), .inr (0, 40, []), .inl (6, [some (.ref 311)]), .inr (0, 40, []), .inl (8, [none, none, none, some (.ref 313), some (.ref 315), some (.ref 317)]), .inl (6, [some (.ref 314)]), .inr (0, 60, []), .inl (6, [some (.ref 316)]), .inr (0, 60, []), .inl (6, [some (.ref 318)]), .inr (0, 60, []), .inl (6, [some (.ref 320)]), .inr (0, 2, []), .inl (11, [some (.ref 322), some (.ref 323), none, some (.ref 324), some (.ref 325), some (.ref 326), none, none, some (.ref 327), none, none, some (.ref 328), none]), .inr (0, 405, []), .inr (0, 2430, []), .inr (0, 810, []), .inr (1, 2, []), .inr (0, 60, []), .inr (0, 25, []), .inr (0, 3, []), .inr (2, 1, [])]
def ay_SK : List am_SC := ay_SK_0 ++ (ay_SK_1 ++ (ay_SK_2 ++ (ay_SK_3 ++ (ay_SK_4 ++ (ay_SK_5 ++ (ay_SK_6 ++ (ay_SK_7 ++ (ay_SK_8 ++ (ay_SK_9)))))))))
def ay_L23 : am_LL := [some (.ref am_scr), some (.ref 0), some (.ref 321), some (.ref 329), some (.int 0), none, none, none, none]
/-- what is not 0 at the start -/
def ay_d0 : List (Nat × Nat × Int32) := [(1, 1, 40), (3, 0, 1), (3, 1, 40), (59, 1, 40), (61, 0, 1), (61, 1, 40), (91, 1, 40), (93, 0, 1), (93, 1, 40), (123, 1, 40), (125, 0, 1), (125, 1, 40), (155, 1, 40), (157, 0, 1), (157, 1, 40), (187, 1, 40), (189, 0, 1), (189, 1, 40), (219, 1, 40), (221, 0, 1), (221, 1, 40), (255, 1, 40), (257, 0, 1), (257, 1, 40), (287, 1, 40), (289, 0, 1), (289, 1, 40), (322, 2, 40), (322, 5, 1), (322, 6, 40)]
def ay_D0 (a k : Nat) : Int32 := match ay_d0.find? (fun q => q.1 == a && q.2.1 == k) with
  | some q => q.2.2
  | none => 0
def ay_size (sc : am_SC) : Nat := match sc with
  | .inl (_, fs) => fs.length
  | .inr (_, n, _) => n
def ay_dok (D : am_DD) : Bool := (List.range 330).all (fun a => a == 323 || a == 324 || (List.range (ay_size (ay_SK.getD a (.inr (0, 0, []))))).all (fun k => decide (D a k = ay_D0 a k)))
def ay_pro : Bool := match am_run true 100000 none 240 0 (some (.ref am_scr) :: List.replicate 8 none) [] [] (fun _ _ => 0) with
  | some (r, SK, D, c, s) => decide (r = (23, ay_L23, [])) && (decide (SK = ay_SK) && (decide (c = 330) && (decide (s = 8032) && ay_dok D)))
  | none => false
set_option maxRecDepth 100000 in
theorem ay_pro_ok : ay_pro = true := by decide +kernel
theorem ay_start : ∃ D, am_run true 100000 none 240 0 (some (.ref am_scr) :: List.replicate 8 none) [] [] (fun _ _ => 0) = some ((23, ay_L23, []), ay_SK, D, 330, 8032) ∧ ∀ a, a < 330 → a ≠ 323 → a ≠ 324 → ∀ k, k < ay_size (ay_SK.getD a (.inr (0, 0, []))) → D a k = ay_D0 a k := by
  have h := ay_pro_ok
  unfold ay_pro at h
  split at h
  next r SK D c s he =>
    simp only [Bool.and_eq_true, decide_eq_true_eq] at h
    obtain ⟨rfl, rfl, rfl, rfl, hD⟩ := h
    refine ⟨D, he, fun a ha h1 h2 k hk => ?_⟩
    have h3 := List.all_eq_true.mp hD a (List.mem_range.mpr ha)
    simp only [Bool.or_eq_true, beq_iff_eq, h1, h2, false_or] at h3
    exact of_decide_eq_true (List.all_eq_true.mp h3 k (List.mem_range.mpr hk))
  next => exact absurd h Bool.false_ne_true
end
section
/-! running on the finished skeleton: ay_ev; a method that returns: ay_mt, that throws: ay_mx -/
theorem ay_mono : ∀ (n k : Nat) (al : Bool) (scr : Option (Nat × (Nat → Int32))) (i pc : Nat) (L : am_LL) (S : List Value) (SK : List am_SC) (D : am_DD) (o : am_R × List am_SC × am_DD × Nat × Nat), am_run al n scr i pc L S SK D = some o → am_run al (n + k) scr i pc L S SK D = some o := by
  intro n
  induction n with
  | zero => intro k al scr i pc L S SK D o h; cases h
  | succ n ih =>
    intro k al scr i pc L S SK D o h
    rw [show n + 1 + k = (n + k) + 1 by omega]
    rw [am_run] at h ⊢
    cases hf : am_fetch i pc with
    | none => rw [hf] at h; cases h
    | some q =>
      obtain ⟨ins, len, g, a, b⟩ := q
      rw [hf] at h
      dsimp only at h ⊢
      by_cases h8 : 8 ≤ g
      · rw [if_pos h8] at h ⊢; exact h
      · rw [if_neg h8] at h ⊢
        by_cases h7 : g = 7
        · rw [if_pos h7] at h ⊢
          cases hA : am_args a S with
          | none => rw [hA] at h; cases h
          | some z =>
            obtain ⟨As, S1⟩ := z
            rw [hA] at h
            dsimp only at h ⊢
            by_cases hr : am_rcv ins a As SK = false
            · rw [if_pos hr] at h; cases h
            · rw [if_neg hr] at h ⊢
              cases hc : am_run al n none a 0 (am_L0 a As) [] SK D with
              | none => rw [hc] at h; cases h
              | some z =>
                obtain ⟨r, SK1, D1, c1, s1⟩ := z
                rw [hc] at h
                rw [ih k _ _ _ _ _ _ _ _ _ hc]
                dsimp only at h ⊢
                cases he : am_end a r with
                | none => rw [he] at h; cases h
                | some z =>
                  rw [he] at h
                  cases z with
                  | inl v =>
                    dsimp only at h ⊢
                    cases hk : am_run al n scr i (pc + 3) L (v.toList ++ S1) SK1 D1 with
                    | none => rw [hk] at h; cases h
                    | some z =>
                      rw [hk] at h
                      rw [ih k _ _ _ _ _ _ _ _ _ hk]
                      exact h
                  | inr E =>
                    dsimp only at h ⊢
                    by_cases hal : al = true
                    · rw [if_pos hal] at h; cases h
                    · rw [if_neg hal] at h ⊢
                      cases hh : am_hnd i pc E with
                      | none => rw [hh] at h; cases h
                      | some z =>
                        obtain ⟨t, kk⟩ := z
                        rw [hh] at h
                        dsimp only at h ⊢
                        by_cases hcl : am_clear L kk = false
                        · rw [if_pos hcl] at h; cases h
                        · rw [if_neg hcl] at h ⊢
                          cases hk : am_run al n scr i t (L.set kk none) [] SK1 D1 with
                          | none => rw [hk] at h; cases h
                          | some z =>
                            rw [hk] at h
                            rw [ih k _ _ _ _ _ _ _ _ _ hk]
                            exact h
        · rw [if_neg h7] at h ⊢
          cases hst : am_step al scr ins len g a b pc L S SK D with
          | none => rw [hst] at h; cases h
          | some z =>
            obtain ⟨pc', L', S', SK', D', c1, s1⟩ := z
            rw [hst] at h
            dsimp only at h ⊢
            cases hk : am_run al n scr i pc' L' S' SK' D' with
            | none => rw [hk] at h; cases h
            | some z =>
              rw [hk] at h
              rw [ih k _ _ _ _ _ _ _ _ _ hk]
              exact h
def ay_ev (scr : Option (Nat × (Nat → Int32))) (i pc : Nat) (L : am_LL) (S : List Value) (D : am_DD) (r : am_R) (D' : am_DD) (c s : Nat) : Prop := ∃ n, am_run false n scr i pc L S ay_SK D = some (r, ay_SK, D', c, s)
/-- from here, a method's frame comes to its end o: returned with a value, or thrown -/
def ay_to (i pc : Nat) (L : am_LL) (S : List Value) (D : am_DD) (o : Option Value ⊕ Nat) (D' : am_DD) : Prop := ∃ r, ay_ev none i pc L S D r D' 0 0 ∧ am_end i r = some o
def ay_mo (a : Nat) (As : List Value) (D : am_DD) (o : Option Value ⊕ Nat) (D' : am_DD) : Prop := ay_to a 0 (am_L0 a As) [] D o D'
def ay_oc (y : Int32) : Nat → Option Value ⊕ Nat
  | 0 => .inl (some (.int y))
  | E + 1 => .inr E
def am_F : Nat := 100000
theorem ay_m_of {j : Nat} {As : List Value} {L : am_LL} {D Z : am_DD} {o : Option Value ⊕ Nat} (hL : am_L0 j As = L) (k : ay_to j 0 L [] D o Z) : ay_mo j As D o Z := by
  unfold ay_mo
  rw [hL]
  exact k
section AYE
variable {scr : Option (Nat × (Nat → Int32))} {i pc len g a b pc' c s : Nat} {ins : Instr} {L L' : am_LL} {S S' S1 As : List Value} {D D' D1 D2 : am_DD} {r : am_R} {v : Option Value} {E t k : Nat} {o : Option Value ⊕ Nat}
theorem ay_e_end (hf : am_fetch i pc = some (ins, len, g, a, b)) (h8 : 8 ≤ g) : ay_ev scr i pc L S D (pc, L, S) D 0 0 := ⟨1, by rw [am_run, hf]; simp only [if_pos h8]⟩
theorem ay_e_step (hf : am_fetch i pc = some (ins, len, g, a, b)) (h8 : ¬ 8 ≤ g) (h7 : ¬ g = 7) (hst : am_step false scr ins len g a b pc L S ay_SK D = some (pc', L', S', ay_SK, D', 0, 0)) (kk : ay_ev scr i pc' L' S' D' r D2 c s) : ay_ev scr i pc L S D r D2 c s := by
  obtain ⟨n, hn⟩ := kk
  exact ⟨n + 1, by rw [am_run, hf]; simp only [if_neg h8, if_neg h7, hst, hn, Nat.zero_add]⟩
theorem ay_e_stk (hf : am_fetch i pc = some (ins, len, 0, a, b)) (h : am_stk ins S = some S') (kk : ay_ev scr i (pc + len) L S' D r D2 c s) : ay_ev scr i pc L S D r D2 c s := ay_e_step hf (by decide) (by decide) (by simp only [am_step, h]) kk
theorem ay_e_loc (hf : am_fetch i pc = some (ins, len, 1, a, b)) (h : am_loc ins L S = some (L', S')) (kk : ay_ev scr i (pc + len) L' S' D r D2 c s) : ay_ev scr i pc L S D r D2 c s := ay_e_step hf (by decide) (by decide) (by simp only [am_step, h]) kk
theorem ay_e_br (hf : am_fetch i pc = some (ins, len, 2, a, b)) (h : am_br ins a pc S = some (pc', S')) (kk : ay_ev scr i pc' L S' D r D2 c s) : ay_ev scr i pc L S D r D2 c s := ay_e_step hf (by decide) (by decide) (by simp only [am_step, h]) kk
theorem ay_e_rd (hf : am_fetch i pc = some (ins, len, 3, a, b)) (h : am_rd scr ins a b S ay_SK D = some S') (kk : ay_ev scr i (pc + len) L S' D r D2 c s) : ay_ev scr i pc L S D r D2 c s := ay_e_step hf (by decide) (by decide) (by simp only [am_step, h]) kk
theorem ay_e_wr (hf : am_fetch i pc = some (ins, len, 4, a, b)) (h : am_wr false ins a b S ay_SK D = some (S', ay_SK, D')) (kk : ay_ev scr i (pc + len) L S' D' r D2 c s) : ay_ev scr i pc L S D r D2 c s := ay_e_step hf (by decide) (by decide) (by simp only [am_step, h]) kk
theorem ay_e_lib (hf : am_fetch i pc = some (ins, len, 6, a, b)) (h : am_lib a b S ay_SK D = some (S', D')) (kk : ay_ev scr i (pc + 3) L S' D' r D2 c s) : ay_ev scr i pc L S D r D2 c s := ay_e_step hf (by decide) (by decide) (by simp only [am_step, h]) kk
theorem ay_e_call (hf : am_fetch i pc = some (ins, len, 7, a, b)) (hA : am_args a S = some (As, S1)) (hr : am_rcv ins a As ay_SK = true) (hm : ay_mo a As D (.inl v) D1) (kk : ay_ev scr i (pc + 3) L (v.toList ++ S1) D1 r D2 c s) : ay_ev scr i pc L S D r D2 c s := by
  obtain ⟨r1, ⟨n1, h1⟩, he⟩ := hm
  obtain ⟨n2, h2⟩ := kk
  have h3 := ay_mono n1 n2 _ _ _ _ _ _ _ _ _ h1
  have h4 := ay_mono n2 n1 _ _ _ _ _ _ _ _ _ h2
  rw [Nat.add_comm] at h4
  refine ⟨(n1 + n2) + 1, ?_⟩
  rw [am_run, hf]
  simp only [show ¬ 8 ≤ 7 by decide, if_false, if_true, hA, hr, h3, he, h4, Nat.zero_add]
  rfl
theorem ay_e_callX (hf : am_fetch i pc = some (ins, len, 7, a, b)) (hA : am_args a S = some (As, S1)) (hr : am_rcv ins a As ay_SK = true) (hm : ay_mo a As D (.inr E) D1) (hh : am_hnd i pc E = some (t, k)) (hcl : am_clear L k = true) (kk : ay_ev scr i t (L.set k none) [] D1 r D2 c s) : ay_ev scr i pc L S D r D2 (0 + 1 + c) (0 + 6 + s) := by
  obtain ⟨r1, ⟨n1, h1⟩, he⟩ := hm
  obtain ⟨n2, h2⟩ := kk
  have h3 := ay_mono n1 n2 _ _ _ _ _ _ _ _ _ h1
  have h4 := ay_mono n2 n1 _ _ _ _ _ _ _ _ _ h2
  rw [Nat.add_comm] at h4
  refine ⟨(n1 + n2) + 1, ?_⟩
  rw [am_run, hf]
  simp only [show ¬ 8 ≤ 7 by decide, if_false, if_true, hA, hr, h3, he, hh, hcl, h4]
  rfl
/-! the same, to the end -/
theorem ay_t_ret (hf : am_fetch i pc = some (ins, len, g, a, b)) (h8 : 8 ≤ g) (he : am_end i (pc, L, S) = some o) : ay_to i pc L S D o D := ⟨_, ay_e_end hf h8, he⟩
theorem ay_t_stk (hf : am_fetch i pc = some (ins, len, 0, a, b)) (h : am_stk ins S = some S') (kk : ay_to i (pc + len) L S' D o D2) : ay_to i pc L S D o D2 := let ⟨r, h1, h2⟩ := kk; ⟨r, ay_e_stk hf h h1, h2⟩
theorem ay_t_loc (hf : am_fetch i pc = some (ins, len, 1, a, b)) (h : am_loc ins L S = some (L', S')) (kk : ay_to i (pc + len) L' S' D o D2) : ay_to i pc L S D o D2 := let ⟨r, h1, h2⟩ := kk; ⟨r, ay_e_loc hf h h1, h2⟩
theorem ay_t_br (hf : am_fetch i pc = some (ins, len, 2, a, b)) (h : am_br ins a pc S = some (pc', S')) (kk : ay_to i pc' L S' D o D2) : ay_to i pc L S D o D2 := let ⟨r, h1, h2⟩ := kk; ⟨r, ay_e_br hf h h1, h2⟩
theorem ay_t_rd (hf : am_fetch i pc = some (ins, len, 3, a, b)) (h : am_rd none ins a b S ay_SK D = some S') (kk : ay_to i (pc + len) L S' D o D2) : ay_to i pc L S D o D2 := let ⟨r, h1, h2⟩ := kk; ⟨r, ay_e_rd hf h h1, h2⟩
theorem ay_t_wr (hf : am_fetch i pc = some (ins, len, 4, a, b)) (h : am_wr false ins a b S ay_SK D = some (S', ay_SK, D')) (kk : ay_to i (pc + len) L S' D' o D2) : ay_to i pc L S D o D2 := let ⟨r, h1, h2⟩ := kk; ⟨r, ay_e_wr hf h h1, h2⟩
theorem ay_t_lib (hf : am_fetch i pc = some (ins, len, 6, a, b)) (h : am_lib a b S ay_SK D = some (S', D')) (kk : ay_to i (pc + 3) L S' D' o D2) : ay_to i pc L S D o D2 := let ⟨r, h1, h2⟩ := kk; ⟨r, ay_e_lib hf h h1, h2⟩
theorem ay_t_call {w : Option Value} (hf : am_fetch i pc = some (ins, len, 7, a, b)) (hA : am_args a S = some (As, S1)) (hr : am_rcv ins a As ay_SK = true) (hm : ay_mo a As D (.inl w) D1) (kk : ay_to i (pc + 3) L (w.toList ++ S1) D1 o D2) : ay_to i pc L S D o D2 := let ⟨r, h1, h2⟩ := kk; ⟨r, ay_e_call hf hA hr hm h1, h2⟩
theorem ay_t_pos {P : Prop} [Decidable P] (hP : P) (hf : am_fetch i pc = some (ins, len, 2, a, b)) (h : am_br ins a pc S = am_go (decide P) a pc S') (k1 : ay_to i a L S' D o D2) : ay_to i pc L S D o D2 := ay_t_br hf (by rw [h, decide_eq_true hP]; rfl) k1
theorem ay_t_neg {P : Prop} [Decidable P] (hP : ¬ P) (hf : am_fetch i pc = some (ins, len, 2, a, b)) (h : am_br ins a pc S = am_go (decide P) a pc S') (k1 : ay_to i (pc + 3) L S' D o D2) : ay_to i pc L S D o D2 := ay_t_br hf (by rw [h, decide_eq_false hP]; rfl) k1
theorem ay_t_getI {q idx ci : Nat} {fs : List (Option Value)} (hf : am_fetch i pc = some (.getfield idx, len, 3, a, b)) (hat : am_at ay_SK q = some (.inl (ci, fs))) (hc : ci = a % 100 ∧ b < (am_cls (a % 100)).2.2) (hv : fs[b]? = some none) (kk : ay_to i (pc + len) L (.int (D q b) :: S) D o D2) : ay_to i pc L (.ref q :: S) D o D2 :=
  ay_t_rd hf (by simp only [am_rd, hat, if_pos hc, hv]) kk
theorem ay_t_getR {q idx ci : Nat} {w : Value} {fs : List (Option Value)} (hf : am_fetch i pc = some (.getfield idx, len, 3, a, b)) (hat : am_at ay_SK q = some (.inl (ci, fs))) (hc : ci = a % 100 ∧ b < (am_cls (a % 100)).2.2) (hv : fs[b]? = some (some w)) (kk : ay_to i (pc + len) L (w :: S) D o D2) : ay_to i pc L (.ref q :: S) D o D2 :=
  ay_t_rd hf (by simp only [am_rd, hat, if_pos hc, hv]) kk
theorem ay_t_put {q idx ci : Nat} {x : Int32} {fs : List (Option Value)} (hf : am_fetch i pc = some (.putfield idx, len, 4, a, b)) (hat : am_at ay_SK q = some (.inl (ci, fs))) (hc : ci = a % 100 ∧ b < (am_cls (a % 100)).2.2) (hv : fs[b]? = some none) (ht : am_ty (a % 100) b = .int) (kk : ay_to i (pc + len) L S (am_upd D q b x) o D2) : ay_to i pc L (.int x :: .ref q :: S) D o D2 :=
  ay_t_wr hf (by simp only [am_wr, hat, if_pos hc, hv, if_pos ht]) kk
theorem ay_t_iaload {q n : Nat} {x : Int32} {z : List (Option Nat)} (hf : am_fetch i pc = some (.iaload, len, 3, a, b)) (hat : am_at ay_SK q = some (.inr (0, n, z))) (hq : ¬ q = am_scr) (hb : ¬ (x < 0 ∨ n ≤ x.toNatClampNeg)) (kk : ay_to i (pc + len) L (.int (D q x.toNatClampNeg) :: S) D o D2) : ay_to i pc L (.int x :: .ref q :: S) D o D2 :=
  ay_t_rd hf (by simp only [am_rd, hat, if_neg hq, if_neg hb]) kk
theorem ay_t_baload {q n : Nat} {x : Int32} {z : List (Option Nat)} (hf : am_fetch i pc = some (.baload, len, 3, a, b)) (hat : am_at ay_SK q = some (.inr (1, n, z))) (hq : ¬ q = am_scr) (hb : ¬ (x < 0 ∨ n ≤ x.toNatClampNeg)) (kk : ay_to i (pc + len) L (.int (D q x.toNatClampNeg) :: S) D o D2) : ay_to i pc L (.int x :: .ref q :: S) D o D2 :=
  ay_t_rd hf (by simp only [am_rd, hat, if_neg hb]) kk
theorem ay_t_iastore {q n : Nat} {x y : Int32} {z : List (Option Nat)} (hf : am_fetch i pc = some (.iastore, len, 4, a, b)) (hat : am_at ay_SK q = some (.inr (0, n, z))) (hb : ¬ (x < 0 ∨ n ≤ x.toNatClampNeg)) (kk : ay_to i (pc + len) L S (am_upd D q x.toNatClampNeg y) o D2) : ay_to i pc L (.int y :: .int x :: .ref q :: S) D o D2 :=
  ay_t_wr hf (by simp only [am_wr, hat, if_neg hb]) kk
theorem ay_t_bastore {q n : Nat} {x y : Int32} {z : List (Option Nat)} (hf : am_fetch i pc = some (.bastore, len, 4, a, b)) (hat : am_at ay_SK q = some (.inr (1, n, z))) (hb : ¬ (x < 0 ∨ n ≤ x.toNatClampNeg)) (kk : ay_to i (pc + len) L S (am_upd D q x.toNatClampNeg (vp_nar .boolean y)) o D2) : ay_to i pc L (.int y :: .int x :: .ref q :: S) D o D2 :=
  ay_t_wr hf (by simp only [am_wr, hat, if_neg hb]) kk
theorem ay_t_alen {q n kd : Nat} {z : List (Option Nat)} (hf : am_fetch i pc = some (.arraylength, len, 3, a, b)) (hat : am_at ay_SK q = some (.inr (kd, n, z))) (kk : ay_to i (pc + len) L (.int (Int32.ofNat n) :: S) D o D2) : ay_to i pc L (.ref q :: S) D o D2 :=
  ay_t_rd hf (by simp only [am_rd, hat]) kk
theorem ay_idiv {x y : Int32} (h : ¬ y = 0) : am_stk .idiv (.int y :: .int x :: S) = some (.int (x / y) :: S) := by simp only [am_stk, if_neg h]
theorem ay_irem {x y : Int32} (h : ¬ y = 0) : am_stk .irem (.int y :: .int x :: S) = some (.int (x - x / y * y) :: S) := by simp only [am_stk, if_neg h]
theorem ay_rcvV {idx q ci j : Nat} {fs : List (Option Value)} (hat : am_at ay_SK q = some (.inl (ci, fs))) (h : ci = am_ci j) : am_rcv (.invokevirtual idx) j (.ref q :: As) ay_SK = true := by simp only [am_rcv, hat, h, decide_true]
theorem ay_t_iret {x : Int32} {ty : FieldType} (hf : am_fetch i pc = some (.ireturn, len, 8, a, b)) (hr : am_ret i = some ty) (hn : narrow ty (.int x) = .int x) : ay_to i pc L [.int x] D (.inl (some (.int x))) D := ay_t_ret hf (by decide) (by simp [am_end, hf, hr, hn])
def ay_isb (y : Int32) : Bool := decide (y &&& 1 = y)
theorem ay_t_zret {x : Int32} (hf : am_fetch i pc = some (.ireturn, len, 8, a, b)) (hr : am_ret i = some .boolean) (hn : ay_isb x = true) : ay_to i pc L [.int x] D (.inl (some (.int x))) D := ay_t_iret hf hr (by
  have h : x &&& 1 = x := of_decide_eq_true hn
  show Value.int (x &&& 1) = .int x
  rw [h])
theorem ay_t_vret (hf : am_fetch i pc = some (.return_, len, 8, a, b)) (hr : am_ret i = none) : ay_to i pc L [] D (.inl none) D := ay_t_ret hf (by decide) (by simp [am_end, hf, hr])
theorem ay_t_fret {x : UInt32} (hf : am_fetch i pc = some (.freturn, len, 8, a, b)) (hr : am_ret i = some .float) : ay_to i pc L [.float x] D (.inl (some (.float x))) D := ay_t_ret hf (by decide) (by simp [am_end, hf, hr])
theorem ay_t_thr (hf : am_fetch i pc = some (ins, len, 9, a, b)) (hw : am_words S ≤ 8) : ay_to i pc L S D (.inr a) D := ay_t_ret hf (by decide) (by simp [am_end, hf, hw])
theorem ay_tab_def {x : Int32} {d lo hi : Int} {offs : Array Int} (h : x.toInt < lo ∨ hi < x.toInt) (hj : am_jump pc d S = some (pc', S)) : am_br (.tableswitch d lo hi offs) a pc (.int x :: S) = some (pc', S) := by simp only [am_br, if_pos h, hj]
theorem ay_ne_toInt {x : Int32} {c : Int} (h : ¬ x = Int32.ofInt c) (hc : (Int32.ofInt c).toInt = c) : ¬ x.toInt = c := fun e => h (Int32.toInt_inj.mp (e.trans hc.symm))
end AYE
/-- the arguments of a call, from the top of the stack -/
theorem ay_args {j : Nat} (As S1 : List Value) (hn : am_np j = As.length) (hc : (As.all (fun v => v.category == 1)) = true) (hm : As.length ≤ am_mL j) (hw : am_words S1 ≤ 8) : am_args j (As.reverse ++ S1) = some (As, S1) := by
  have e1 : (As.reverse ++ S1).take (am_np j) = As.reverse := by rw [hn, ← List.length_reverse, List.take_left']; rfl
  have e2 : (As.reverse ++ S1).drop (am_np j) = S1 := by rw [hn, ← List.length_reverse, List.drop_left']; rfl
  unfold am_args
  rw [e1, e2, if_pos, List.reverse_reverse]
  refine ⟨by rw [hn, List.length_append, List.length_reverse]; exact Nat.le_add_right _ _, hw, fun v hv => ?_, by rw [hn]; exact hm⟩
  exact beq_iff_eq.mp (List.all_eq_true.mp hc v (List.mem_reverse.mp hv))
/-! fewer known locals are enough -/
def ay_le (L L' : am_LL) : Prop := L'.length = L.length ∧ (∀ (j : Nat) (v : Value), L[j]? = some (some v) → L'[j]? = some (some v)) ∧ ∀ (j : Nat) (v : Value), L'[j]? = some (some v) → L[j]? = some (some v) ∨ v.category = 1
theorem ay_le_get {L L' : am_LL} (h : ay_le L L') {j : Nat} {v : Value} (hv : L.getD j none = some v) : L'.getD j none = some v := by
  rw [List.getD_eq_getElem?_getD, h.2.1 j v (am_getD hv)]
  rfl
theorem ay_le_clear {L L' : am_LL} (h : ay_le L L') {j : Nat} (hc : am_clear L j = true) : am_clear L' j = true := by
  cases j with
  | zero => rfl
  | succ j =>
    unfold am_clear at hc ⊢
    dsimp only at hc ⊢
    cases hv : L'.getD j none with
    | none => rfl
    | some w =>
      dsimp only
      have h1 := am_getD hv
      rcases h.2.2 j w h1 with h2 | h2
      · rw [List.getD_eq_getElem?_getD, h2] at hc
        exact hc
      · exact decide_eq_true h2
theorem ay_le_set {L L' : am_LL} (h : ay_le L L') (j : Nat) (o : Option Value) : ay_le (L.set j o) (L'.set j o) := by
  refine ⟨by rw [List.length_set, List.length_set]; exact h.1, fun k v hk => ?_, fun k v hk => ?_⟩
  · rw [List.getElem?_set] at hk ⊢
    by_cases e : j = k
    · rw [if_pos e] at hk ⊢
      rw [h.1]
      exact hk
    · rw [if_neg e] at hk ⊢
      exact h.2.1 k v hk
  · rw [List.getElem?_set] at hk ⊢
    by_cases e : j = k
    · rw [if_pos e] at hk ⊢
      rw [h.1] at hk
      exact Or.inl hk
    · rw [if_neg e] at hk ⊢
      exact h.2.2 k v hk
theorem ay_le_rf (L : am_LL) : ay_le L L := ⟨rfl, fun _ _ h => h, fun _ _ h => Or.inl h⟩
theorem ay_le_st1 {L L' L2 : am_LL} {j : Nat} {v : Value} (h : ay_le L L') (hs : am_st1 L j v = some L2) : ∃ L2', am_st1 L' j v = some L2' ∧ ay_le L2 L2' := by
  unfold am_st1 at hs
  split at hs
  next hc =>
    cases hs
    refine ⟨L'.set j (some v), ?_, ay_le_set h _ _⟩
    unfold am_st1
    rw [if_pos ⟨by rw [h.1]; exact hc.1, hc.2.1, ay_le_clear h hc.2.2⟩]
  next => cases hs
theorem ay_le_st2 {L L' L2 : am_LL} {j : Nat} {v : Value} (h : ay_le L L') (hs : am_st2 L j v = some L2) : ∃ L2', am_st2 L' j v = some L2' ∧ ay_le L2 L2' := by
  unfold am_st2 at hs
  split at hs
  next hc =>
    cases hs
    refine ⟨(L'.set j (some v)).set (j + 1) none, ?_, ay_le_set (ay_le_set h _ _) _ _⟩
    unfold am_st2
    rw [if_pos ⟨by rw [h.1]; exact hc.1, hc.2.1, ay_le_clear h hc.2.2⟩]
  next => cases hs
theorem ay_le_ld {f : Value → Bool} {L L' L2 : am_LL} {j : Nat} {S S2 : List Value} (h : ay_le L L') (hs : am_ld f L j S = some (L2, S2)) : L2 = L ∧ am_ld f L' j S = some (L', S2) := by
  unfold am_ld at hs
  split at hs
  next v hv =>
    split at hs
    next hf =>
      cases hs
      refine ⟨rfl, ?_⟩
      unfold am_ld
      rw [ay_le_get h hv]
      simp only [hf, if_true]
    next => cases hs
  next => cases hs
theorem ay_le_map {β : Type} {L L' : Option am_LL} {S S2 : β} {L2 : am_LL} (h : L.map (fun x => (x, S)) = some (L2, S2)) : L = some L2 ∧ S2 = S := by
  cases L with
  | none => cases h
  | some x => cases h; exact ⟨rfl, rfl⟩
set_option maxHeartbeats 2000000 in
theorem ay_le_loc {ins : Instr} {L L' L2 : am_LL} {S S2 : List Value} (h : ay_le L L') (hs : am_loc ins L S = some (L2, S2)) : ∃ L2', am_loc ins L' S = some (L2', S2) ∧ ay_le L2 L2' := by
  unfold am_loc at hs
  split at hs
  · obtain ⟨rfl, h1⟩ := ay_le_ld h hs; exact ⟨L', h1, h⟩
  · obtain ⟨rfl, h1⟩ := ay_le_ld h hs; exact ⟨L', h1, h⟩
  · obtain ⟨rfl, h1⟩ := ay_le_ld h hs; exact ⟨L', h1, h⟩
  · obtain ⟨rfl, h1⟩ := ay_le_ld h hs; exact ⟨L', h1, h⟩
  · obtain ⟨rfl, h1⟩ := ay_le_ld h hs; exact ⟨L', h1, h⟩
  · obtain ⟨rfl, h1⟩ := ay_le_ld h hs; exact ⟨L', h1, h⟩
  · obtain ⟨z, h1, h2⟩ := Option.map_eq_some_iff.mp hs; cases h2; obtain ⟨L3, h3, h4⟩ := ay_le_st1 h h1; exact ⟨L3, by simp only [am_loc, h3, Option.map_some], h4⟩
  · obtain ⟨z, h1, h2⟩ := Option.map_eq_some_iff.mp hs; cases h2; obtain ⟨L3, h3, h4⟩ := ay_le_st1 h h1; exact ⟨L3, by simp only [am_loc, h3, Option.map_some], h4⟩
  · obtain ⟨z, h1, h2⟩ := Option.map_eq_some_iff.mp hs; cases h2; obtain ⟨L3, h3, h4⟩ := ay_le_st1 h h1; exact ⟨L3, by simp only [am_loc, h3, Option.map_some], h4⟩
  · obtain ⟨z, h1, h2⟩ := Option.map_eq_some_iff.mp hs; cases h2; obtain ⟨L3, h3, h4⟩ := ay_le_st1 h h1; exact ⟨L3, by simp only [am_loc, h3, Option.map_some], h4⟩
  · obtain ⟨z, h1, h2⟩ := Option.map_eq_some_iff.mp hs; cases h2; obtain ⟨L3, h3, h4⟩ := ay_le_st2 h h1; exact ⟨L3, by simp only [am_loc, h3, Option.map_some], h4⟩
  · obtain ⟨z, h1, h2⟩ := Option.map_eq_some_iff.mp hs; cases h2; obtain ⟨L3, h3, h4⟩ := ay_le_st2 h h1; exact ⟨L3, by simp only [am_loc, h3, Option.map_some], h4⟩
  · split at hs
    next x hx =>
      obtain ⟨z, h1, h2⟩ := Option.map_eq_some_iff.mp hs
      cases h2
      obtain ⟨L3, h3, h4⟩ := ay_le_st1 h h1
      exact ⟨L3, by simp only [am_loc, ay_le_get h hx, h3, Option.map_some], h4⟩
    next => cases hs
  · cases hs
theorem ay_le_step {al : Bool} {scr : Option (Nat × (Nat → Int32))} {ins : Instr} {len g a b pc pc' c s : Nat} {L L' L2 : am_LL} {S S2 : List Value} {SK SK2 : List am_SC} {D D2 : am_DD} (h : ay_le L L') (hs : am_step al scr ins len g a b pc L S SK D = some (pc', L2, S2, SK2, D2, c, s)) : ∃ L2', am_step al scr ins len g a b pc L' S SK D = some (pc', L2', S2, SK2, D2, c, s) ∧ ay_le L2 L2' := by
  unfold am_step at hs
  split at hs
  · split at hs
    next z hz => cases hs; exact ⟨L', by simp only [am_step, hz], h⟩
    next => cases hs
  · split at hs
    next z1 z2 hz =>
      cases hs
      obtain ⟨L3, h3, h4⟩ := ay_le_loc h hz
      exact ⟨L3, by simp only [am_step, h3], h4⟩
    next => cases hs
  · split at hs
    next z1 z2 hz => cases hs; exact ⟨L', by simp only [am_step, hz], h⟩
    next => cases hs
  · split at hs
    next z hz => cases hs; exact ⟨L', by simp only [am_step, hz], h⟩
    next => cases hs
  · split at hs
    next z1 z2 z3 hz => cases hs; exact ⟨L', by simp only [am_step, hz], h⟩
    next => cases hs
  · split at hs
    next z1 z2 z3 hz => cases hs; exact ⟨L', by simp only [am_step, hz], h⟩
    next => cases hs
  · split at hs
    next z1 z2 hz => cases hs; exact ⟨L', by simp only [am_step, hz], h⟩
    next => cases hs
  · cases hs
theorem ay_le_run : ∀ (n : Nat) (al : Bool) (scr : Option (Nat × (Nat → Int32))) (i pc : Nat) (L L' : am_LL) (S : List Value) (SK : List am_SC) (D : am_DD) (r : am_R) (SK2 : List am_SC) (D2 : am_DD) (c s : Nat), ay_le L L' → am_run al n scr i pc L S SK D = some (r, SK2, D2, c, s) → ∃ L2', am_run al n scr i pc L' S SK D = some ((r.1, L2', r.2.2), SK2, D2, c, s) ∧ ay_le r.2.1 L2' := by
  intro n
  induction n with
  | zero => intro al scr i pc L L' S SK D r SK2 D2 c s hl h; cases h
  | succ n ih =>
    intro al scr i pc L L' S SK D r SK2 D2 c s hl h
    rw [am_run] at h
    cases hf : am_fetch i pc with
    | none => rw [hf] at h; cases h
    | some q =>
      obtain ⟨ins, len, g, a, b⟩ := q
      rw [hf] at h
      dsimp only at h
      by_cases h8 : 8 ≤ g
      · rw [if_pos h8] at h
        cases h
        exact ⟨L', by rw [am_run, hf]; simp only [if_pos h8], hl⟩
      · rw [if_neg h8] at h
        by_cases h7 : g = 7
        · rw [if_pos h7] at h
          cases hA : am_args a S with
          | none => rw [hA] at h; cases h
          | some z =>
            obtain ⟨As, S1⟩ := z
            rw [hA] at h
            dsimp only at h
            by_cases hr : am_rcv ins a As SK = false
            · rw [if_pos hr] at h; cases h
            · rw [if_neg hr] at h
              cases hc : am_run al n none a 0 (am_L0 a As) [] SK D with
              | none => rw [hc] at h; cases h
              | some z =>
                obtain ⟨r1, SK1, D1, c1, s1⟩ := z
                rw [hc] at h
                dsimp only at h
                cases he : am_end a r1 with
                | none => rw [he] at h; cases h
                | some z =>
                  rw [he] at h
                  cases z with
                  | inl v =>
                    dsimp only at h
                    cases hk : am_run al n scr i (pc + 3) L (v.toList ++ S1) SK1 D1 with
                    | none => rw [hk] at h; cases h
                    | some z =>
                      obtain ⟨r2, SK3, D3, c3, s3⟩ := z
                      rw [hk] at h
                      cases h
                      obtain ⟨L3, h3, h4⟩ := ih _ _ _ _ _ _ _ _ _ _ _ _ _ _ hl hk
                      exact ⟨L3, by rw [am_run, hf]; simp only [if_neg h8, if_pos h7, hA, if_neg hr, hc, he, h3], h4⟩
                  | inr E =>
                    dsimp only at h
                    by_cases hal : al = true
                    · rw [if_pos hal] at h; cases h
                    · rw [if_neg hal] at h
                      cases hh : am_hnd i pc E with
                      | none => rw [hh] at h; cases h
                      | some z =>
                        obtain ⟨t, kk⟩ := z
                        rw [hh] at h
                        dsimp only at h
                        by_cases hcl : am_clear L kk = false
                        · rw [if_pos hcl] at h; cases h
                        · rw [if_neg hcl] at h
                          have hcl2 : ¬ am_clear L' kk = false := by
                            have : am_clear L kk = true := by
                              cases hq : am_clear L kk with
                              | true => rfl
                              | false => exact absurd hq hcl
                            rw [ay_le_clear hl this]
                            decide
                          cases hk : am_run al n scr i t (L.set kk none) [] SK1 D1 with
                          | none => rw [hk] at h; cases h
                          | some z =>
                            obtain ⟨r2, SK3, D3, c3, s3⟩ := z
                            rw [hk] at h
                            cases h
                            obtain ⟨L3, h3, h4⟩ := ih _ _ _ _ _ _ _ _ _ _ _ _ _ _ (ay_le_set hl kk none) hk
                            exact ⟨L3, by rw [am_run, hf]; simp only [if_neg h8, if_pos h7, hA, if_neg hr, hc, he, if_neg hal, hh, if_neg hcl2, h3], h4⟩
        · rw [if_neg h7] at h
          cases hst : am_step al scr ins len g a b pc L S SK D with
          | none => rw [hst] at h; cases h
          | some z =>
            obtain ⟨pc', L1, S', SK', D', c1, s1⟩ := z
            rw [hst] at h
            dsimp only at h
            cases hk : am_run al n scr i pc' L1 S' SK' D' with
            | none => rw [hk] at h; cases h
            | some z =>
              obtain ⟨r2, SK3, D3, c3, s3⟩ := z
              rw [hk] at h
              cases h
              obtain ⟨L3, h3, h4⟩ := ay_le_step hl hst
              obtain ⟨L4, h5, h6⟩ := ih _ _ _ _ _ _ _ _ _ _ _ _ _ _ h4 hk
              exact ⟨L4, by rw [am_run, hf]; simp only [if_neg h8, if_neg h7, h3, h5], h6⟩
theorem ay_end_le {i pc : Nat} {L L' : am_LL} {S : List Value} : am_end i (pc, L', S) = am_end i (pc, L, S) := rfl
/-- locals that are forgotten -/
theorem ay_t_less {i pc : Nat} {L L' : am_LL} {S : List Value} {D D2 : am_DD} {o : Option Value ⊕ Nat} (h : ay_le L L') (kk : ay_to i pc L S D o D2) : ay_to i pc L' S D o D2 := by
  obtain ⟨r, ⟨n, hn⟩, he⟩ := kk
  obtain ⟨L2, h1, -⟩ := ay_le_run n _ _ _ _ _ _ _ _ _ _ _ _ _ _ h hn
  exact ⟨_, ⟨n, h1⟩, he⟩
theorem ay_l0 : ay_le [] [] := ay_le_rf []
theorem ay_ls {L L' : am_LL} {o : Option Value} (h : ay_le L L') : ay_le (o :: L) (o :: L') := by
  refine ⟨by rw [List.length_cons, List.length_cons, h.1], fun j v hj => ?_, fun j v hj => ?_⟩
  · cases j with
    | zero => exact hj
    | succ j => exact h.2.1 j v hj
  · cases j with
    | zero => exact Or.inl hj
    | succ j => exact h.2.2 j v hj
theorem ay_ln {L L' : am_LL} {x : Int32} (h : ay_le L L') : ay_le (none :: L) (some (.int x) :: L') := by
  refine ⟨by rw [List.length_cons, List.length_cons, h.1], fun j v hj => ?_, fun j v hj => ?_⟩
  · cases j with
    | zero => simp at hj
    | succ j => exact h.2.1 j v hj
  · cases j with
    | zero => simp at hj; subst hj; exact Or.inr rfl
    | succ j => exact h.2.2 j v hj
theorem ay_lr {L L' : am_LL} {x : Nat} (h : ay_le L L') : ay_le (none :: L) (some (.ref x) :: L') := by
  refine ⟨by rw [List.length_cons, List.length_cons, h.1], fun j v hj => ?_, fun j v hj => ?_⟩
  · cases j with
    | zero => simp at hj
    | succ j => exact h.2.1 j v hj
  · cases j with
    | zero => simp at hj; subst hj; exact Or.inr rfl
    | succ j => exact h.2.2 j v hj
end
