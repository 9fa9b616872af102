-- ===== PART A: goes FIRST, ahead of the names: the tables' words, and 'selects' of the private methods out of them =====
/-- a private method of a class that the tables say can be made, by its rows of tables_1 -/
def lw_okq (q : MethodName × Nat) : Prop := (q.1.cls ≠ "java/lang/invoke/MethodHandle" ∧ q.1.cls ≠ "java/lang/invoke/VarHandle") ∧ Cond.instantiable q.1.cls q.2 ∈ tables_1 ∧ Cond.privateMethod q.1 ∈ tables_1 ∧ Cond.instanceMethod q.1 ∈ tables_1
theorem lw_p0 : lw_okq (⟨"DrownedBells", "settled", "(I)I"⟩, 17) := ⟨⟨by decide +kernel, by decide +kernel⟩, List.mem_of_getElem? (i := 20) (by decide +kernel), List.mem_of_getElem? (i := 354) (by decide +kernel), List.mem_of_getElem? (i := 355) (by decide +kernel)⟩
theorem lw_p1 : lw_okq (⟨"DrownedBells$History", "slotOf", "(I)LDrownedBells$Village;"⟩, 3) := ⟨⟨by decide +kernel, by decide +kernel⟩, List.mem_of_getElem? (i := 164) (by decide +kernel), List.mem_of_getElem? (i := 362) (by decide +kernel), List.mem_of_getElem? (i := 363) (by decide +kernel)⟩
theorem lw_p2 : lw_okq (⟨"DrownedBells$Book", "wordSpelt", "(I)I"⟩, 3) := ⟨⟨by decide +kernel, by decide +kernel⟩, List.mem_of_getElem? (i := 78) (by decide +kernel), List.mem_of_getElem? (i := 406) (by decide +kernel), List.mem_of_getElem? (i := 407) (by decide +kernel)⟩
theorem lw_p3 : lw_okq (⟨"DrownedBells", "settledDraft", "(I)I"⟩, 17) := ⟨⟨by decide +kernel, by decide +kernel⟩, List.mem_of_getElem? (i := 20) (by decide +kernel), List.mem_of_getElem? (i := 412) (by decide +kernel), List.mem_of_getElem? (i := 413) (by decide +kernel)⟩
theorem lw_p4 : lw_okq (⟨"DrownedBells", "swimmersWhoHear", "(I)I"⟩, 17) := ⟨⟨by decide +kernel, by decide +kernel⟩, List.mem_of_getElem? (i := 20) (by decide +kernel), List.mem_of_getElem? (i := 513) (by decide +kernel), List.mem_of_getElem? (i := 514) (by decide +kernel)⟩
theorem lw_p5 : lw_okq (⟨"DrownedBells", "bellsHeardBy", "(I)I"⟩, 17) := ⟨⟨by decide +kernel, by decide +kernel⟩, List.mem_of_getElem? (i := 20) (by decide +kernel), List.mem_of_getElem? (i := 548) (by decide +kernel), List.mem_of_getElem? (i := 549) (by decide +kernel)⟩
theorem lw_p6 : lw_okq (⟨"DrownedBells", "pealsUnderstoodBy", "(I)I"⟩, 17) := ⟨⟨by decide +kernel, by decide +kernel⟩, List.mem_of_getElem? (i := 20) (by decide +kernel), List.mem_of_getElem? (i := 552) (by decide +kernel), List.mem_of_getElem? (i := 553) (by decide +kernel)⟩
theorem lw_p7 : lw_okq (⟨"DrownedBells", "understanding", "(III)I"⟩, 17) := ⟨⟨by decide +kernel, by decide +kernel⟩, List.mem_of_getElem? (i := 20) (by decide +kernel), List.mem_of_getElem? (i := 556) (by decide +kernel), List.mem_of_getElem? (i := 557) (by decide +kernel)⟩
theorem lw_p8 : lw_okq (⟨"DrownedBells$Parser", "passSilence", "(II)V"⟩, 2) := ⟨⟨by decide +kernel, by decide +kernel⟩, List.mem_of_getElem? (i := 207) (by decide +kernel), List.mem_of_getElem? (i := 590) (by decide +kernel), List.mem_of_getElem? (i := 591) (by decide +kernel)⟩
theorem lw_p9 : lw_okq (⟨"DrownedBells$Parser", "waysBehind", "(LDrownedBells$Book;II)I"⟩, 2) := ⟨⟨by decide +kernel, by decide +kernel⟩, List.mem_of_getElem? (i := 207) (by decide +kernel), List.mem_of_getElem? (i := 605) (by decide +kernel), List.mem_of_getElem? (i := 606) (by decide +kernel)⟩
theorem lw_p10 : lw_okq (⟨"DrownedBells$Parser", "wordOnTheWay", "(LDrownedBells$Book;LDrownedBells$Row;II)I"⟩, 2) := ⟨⟨by decide +kernel, by decide +kernel⟩, List.mem_of_getElem? (i := 207) (by decide +kernel), List.mem_of_getElem? (i := 613) (by decide +kernel), List.mem_of_getElem? (i := 614) (by decide +kernel)⟩
theorem lw_p11 : lw_okq (⟨"DrownedBells", "isMeant", "(I)Z"⟩, 17) := ⟨⟨by decide +kernel, by decide +kernel⟩, List.mem_of_getElem? (i := 20) (by decide +kernel), List.mem_of_getElem? (i := 647) (by decide +kernel), List.mem_of_getElem? (i := 648) (by decide +kernel)⟩
theorem lw_p12 : lw_okq (⟨"DrownedBells", "echoAt", "(II)I"⟩, 17) := ⟨⟨by decide +kernel, by decide +kernel⟩, List.mem_of_getElem? (i := 20) (by decide +kernel), List.mem_of_getElem? (i := 676) (by decide +kernel), List.mem_of_getElem? (i := 677) (by decide +kernel)⟩
theorem lw_p13 : lw_okq (⟨"DrownedBells", "inOrder", "(I)I"⟩, 17) := ⟨⟨by decide +kernel, by decide +kernel⟩, List.mem_of_getElem? (i := 20) (by decide +kernel), List.mem_of_getElem? (i := 684) (by decide +kernel), List.mem_of_getElem? (i := 685) (by decide +kernel)⟩
theorem lw_p14 : lw_okq (⟨"DrownedBells$Text", "commandFrom", "(I)I"⟩, 4) := ⟨⟨by decide +kernel, by decide +kernel⟩, List.mem_of_getElem? (i := 223) (by decide +kernel), List.mem_of_getElem? (i := 753) (by decide +kernel), List.mem_of_getElem? (i := 754) (by decide +kernel)⟩
theorem lw_p15 : lw_okq (⟨"DrownedBells$Text", "match", "(II)I"⟩, 4) := ⟨⟨by decide +kernel, by decide +kernel⟩, List.mem_of_getElem? (i := 223) (by decide +kernel), List.mem_of_getElem? (i := 757) (by decide +kernel), List.mem_of_getElem? (i := 758) (by decide +kernel)⟩
def lw_privs_1 : List (MethodName × Nat) := [(⟨"DrownedBells", "settled", "(I)I"⟩, 17), (⟨"DrownedBells$History", "slotOf", "(I)LDrownedBells$Village;"⟩, 3), (⟨"DrownedBells$Book", "wordSpelt", "(I)I"⟩, 3), (⟨"DrownedBells", "settledDraft", "(I)I"⟩, 17), (⟨"DrownedBells", "swimmersWhoHear", "(I)I"⟩, 17), (⟨"DrownedBells", "bellsHeardBy", "(I)I"⟩, 17), (⟨"DrownedBells", "pealsUnderstoodBy", "(I)I"⟩, 17), (⟨"DrownedBells", "understanding", "(III)I"⟩, 17), (⟨"DrownedBells$Parser", "passSilence", "(II)V"⟩, 2), (⟨"DrownedBells$Parser", "waysBehind", "(LDrownedBells$Book;II)I"⟩, 2), (⟨"DrownedBells$Parser", "wordOnTheWay", "(LDrownedBells$Book;LDrownedBells$Row;II)I"⟩, 2), (⟨"DrownedBells", "isMeant", "(I)Z"⟩, 17), (⟨"DrownedBells", "echoAt", "(II)I"⟩, 17), (⟨"DrownedBells", "inOrder", "(I)I"⟩, 17), (⟨"DrownedBells$Text", "commandFrom", "(I)I"⟩, 4), (⟨"DrownedBells$Text", "match", "(II)I"⟩, 4)]
theorem lw_r1 : ∀ q ∈ lw_privs_1, lw_okq q := List.forall_mem_cons.mpr ⟨lw_p0, List.forall_mem_cons.mpr ⟨lw_p1, List.forall_mem_cons.mpr ⟨lw_p2, List.forall_mem_cons.mpr ⟨lw_p3, List.forall_mem_cons.mpr ⟨lw_p4, List.forall_mem_cons.mpr ⟨lw_p5, List.forall_mem_cons.mpr ⟨lw_p6, List.forall_mem_cons.mpr ⟨lw_p7, List.forall_mem_cons.mpr ⟨lw_p8, List.forall_mem_cons.mpr ⟨lw_p9, List.forall_mem_cons.mpr ⟨lw_p10, List.forall_mem_cons.mpr ⟨lw_p11, List.forall_mem_cons.mpr ⟨lw_p12, List.forall_mem_cons.mpr ⟨lw_p13, List.forall_mem_cons.mpr ⟨lw_p14, List.forall_mem_cons.mpr ⟨lw_p15, fun _ h => absurd h List.not_mem_nil⟩⟩⟩⟩⟩⟩⟩⟩⟩⟩⟩⟩⟩⟩⟩⟩
theorem lw_p16 : lw_okq (⟨"DrownedBells$Text", "longestMatch", "(I)I"⟩, 4) := ⟨⟨by decide +kernel, by decide +kernel⟩, List.mem_of_getElem? (i := 223) (by decide +kernel), List.mem_of_getElem? (i := 829) (by decide +kernel), List.mem_of_getElem? (i := 830) (by decide +kernel)⟩
theorem lw_p17 : lw_okq (⟨"DrownedBells$Text", "endOf", "(II)I"⟩, 4) := ⟨⟨by decide +kernel, by decide +kernel⟩, List.mem_of_getElem? (i := 223) (by decide +kernel), List.mem_of_getElem? (i := 834) (by decide +kernel), List.mem_of_getElem? (i := 835) (by decide +kernel)⟩
theorem lw_p18 : lw_okq (⟨"DrownedBells", "performAll", "()I"⟩, 17) := ⟨⟨by decide +kernel, by decide +kernel⟩, List.mem_of_getElem? (i := 20) (by decide +kernel), List.mem_of_getElem? (i := 840) (by decide +kernel), List.mem_of_getElem? (i := 841) (by decide +kernel)⟩
theorem lw_p19 : lw_okq (⟨"DrownedBells", "perform", "(I)I"⟩, 17) := ⟨⟨by decide +kernel, by decide +kernel⟩, List.mem_of_getElem? (i := 20) (by decide +kernel), List.mem_of_getElem? (i := 844) (by decide +kernel), List.mem_of_getElem? (i := 845) (by decide +kernel)⟩
theorem lw_p20 : lw_okq (⟨"DrownedBellsModel", "starts", "()V"⟩, 31) := ⟨⟨by decide +kernel, by decide +kernel⟩, List.mem_of_getElem? (i := 945) (by decide +kernel), List.mem_of_getElem? (i := 1077) (by decide +kernel), List.mem_of_getElem? (i := 1078) (by decide +kernel)⟩
theorem lw_p21 : lw_okq (⟨"DrownedBellsModel", "becomes", "(II)I"⟩, 31) := ⟨⟨by decide +kernel, by decide +kernel⟩, List.mem_of_getElem? (i := 945) (by decide +kernel), List.mem_of_getElem? (i := 1084) (by decide +kernel), List.mem_of_getElem? (i := 1085) (by decide +kernel)⟩
theorem lw_p22 : lw_okq (⟨"DrownedBellsModel", "hinders", "(ZII)V"⟩, 31) := ⟨⟨by decide +kernel, by decide +kernel⟩, List.mem_of_getElem? (i := 945) (by decide +kernel), List.mem_of_getElem? (i := 1088) (by decide +kernel), List.mem_of_getElem? (i := 1089) (by decide +kernel)⟩
theorem lw_p23 : lw_okq (⟨"DrownedBellsModel", "ends", "(I)I"⟩, 31) := ⟨⟨by decide +kernel, by decide +kernel⟩, List.mem_of_getElem? (i := 945) (by decide +kernel), List.mem_of_getElem? (i := 1092) (by decide +kernel), List.mem_of_getElem? (i := 1093) (by decide +kernel)⟩
theorem lw_p24 : lw_okq (⟨"DrownedBellsModel", "refuses", "(IIII)I"⟩, 31) := ⟨⟨by decide +kernel, by decide +kernel⟩, List.mem_of_getElem? (i := 945) (by decide +kernel), List.mem_of_getElem? (i := 1096) (by decide +kernel), List.mem_of_getElem? (i := 1097) (by decide +kernel)⟩
theorem lw_p25 : lw_okq (⟨"DrownedBellsModel", "remembers", "()V"⟩, 31) := ⟨⟨by decide +kernel, by decide +kernel⟩, List.mem_of_getElem? (i := 945) (by decide +kernel), List.mem_of_getElem? (i := 1100) (by decide +kernel), List.mem_of_getElem? (i := 1101) (by decide +kernel)⟩
theorem lw_p26 : lw_okq (⟨"DrownedBellsModel", "renews", "(I)I"⟩, 31) := ⟨⟨by decide +kernel, by decide +kernel⟩, List.mem_of_getElem? (i := 945) (by decide +kernel), List.mem_of_getElem? (i := 1108) (by decide +kernel), List.mem_of_getElem? (i := 1109) (by decide +kernel)⟩
theorem lw_p27 : lw_okq (⟨"DrownedBellsModel", "takesDraft", "()V"⟩, 31) := ⟨⟨by decide +kernel, by decide +kernel⟩, List.mem_of_getElem? (i := 945) (by decide +kernel), List.mem_of_getElem? (i := 1123) (by decide +kernel), List.mem_of_getElem? (i := 1124) (by decide +kernel)⟩
theorem lw_p28 : lw_okq (⟨"DrownedBellsModel", "adds", "(I)I"⟩, 31) := ⟨⟨by decide +kernel, by decide +kernel⟩, List.mem_of_getElem? (i := 945) (by decide +kernel), List.mem_of_getElem? (i := 1127) (by decide +kernel), List.mem_of_getElem? (i := 1128) (by decide +kernel)⟩
theorem lw_p29 : lw_okq (⟨"DrownedBellsModel", "same", "()I"⟩, 31) := ⟨⟨by decide +kernel, by decide +kernel⟩, List.mem_of_getElem? (i := 945) (by decide +kernel), List.mem_of_getElem? (i := 1131) (by decide +kernel), List.mem_of_getElem? (i := 1132) (by decide +kernel)⟩
theorem lw_p30 : lw_okq (⟨"DrownedBellsModel", "isWordHere", "(II)Z"⟩, 31) := ⟨⟨by decide +kernel, by decide +kernel⟩, List.mem_of_getElem? (i := 945) (by decide +kernel), List.mem_of_getElem? (i := 1138) (by decide +kernel), List.mem_of_getElem? (i := 1139) (by decide +kernel)⟩
theorem lw_p31 : lw_okq (⟨"DrownedBellsModel", "isWord", "(I)Z"⟩, 31) := ⟨⟨by decide +kernel, by decide +kernel⟩, List.mem_of_getElem? (i := 945) (by decide +kernel), List.mem_of_getElem? (i := 1146) (by decide +kernel), List.mem_of_getElem? (i := 1147) (by decide +kernel)⟩
def lw_privs_2 : List (MethodName × Nat) := [(⟨"DrownedBells$Text", "longestMatch", "(I)I"⟩, 4), (⟨"DrownedBells$Text", "endOf", "(II)I"⟩, 4), (⟨"DrownedBells", "performAll", "()I"⟩, 17), (⟨"DrownedBells", "perform", "(I)I"⟩, 17), (⟨"DrownedBellsModel", "starts", "()V"⟩, 31), (⟨"DrownedBellsModel", "becomes", "(II)I"⟩, 31), (⟨"DrownedBellsModel", "hinders", "(ZII)V"⟩, 31), (⟨"DrownedBellsModel", "ends", "(I)I"⟩, 31), (⟨"DrownedBellsModel", "refuses", "(IIII)I"⟩, 31), (⟨"DrownedBellsModel", "remembers", "()V"⟩, 31), (⟨"DrownedBellsModel", "renews", "(I)I"⟩, 31), (⟨"DrownedBellsModel", "takesDraft", "()V"⟩, 31), (⟨"DrownedBellsModel", "adds", "(I)I"⟩, 31), (⟨"DrownedBellsModel", "same", "()I"⟩, 31), (⟨"DrownedBellsModel", "isWordHere", "(II)Z"⟩, 31), (⟨"DrownedBellsModel", "isWord", "(I)Z"⟩, 31)]
theorem lw_r2 : ∀ q ∈ lw_privs_2, lw_okq q := List.forall_mem_cons.mpr ⟨lw_p16, List.forall_mem_cons.mpr ⟨lw_p17, List.forall_mem_cons.mpr ⟨lw_p18, List.forall_mem_cons.mpr ⟨lw_p19, List.forall_mem_cons.mpr ⟨lw_p20, List.forall_mem_cons.mpr ⟨lw_p21, List.forall_mem_cons.mpr ⟨lw_p22, List.forall_mem_cons.mpr ⟨lw_p23, List.forall_mem_cons.mpr ⟨lw_p24, List.forall_mem_cons.mpr ⟨lw_p25, List.forall_mem_cons.mpr ⟨lw_p26, List.forall_mem_cons.mpr ⟨lw_p27, List.forall_mem_cons.mpr ⟨lw_p28, List.forall_mem_cons.mpr ⟨lw_p29, List.forall_mem_cons.mpr ⟨lw_p30, List.forall_mem_cons.mpr ⟨lw_p31, fun _ h => absurd h List.not_mem_nil⟩⟩⟩⟩⟩⟩⟩⟩⟩⟩⟩⟩⟩⟩⟩⟩
theorem lw_p32 : lw_okq (⟨"DrownedBellsModel", "strikes", "(I)I"⟩, 31) := ⟨⟨by decide +kernel, by decide +kernel⟩, List.mem_of_getElem? (i := 945) (by decide +kernel), List.mem_of_getElem? (i := 1150) (by decide +kernel), List.mem_of_getElem? (i := 1151) (by decide +kernel)⟩
theorem lw_p33 : lw_okq (⟨"DrownedBellsModel", "comes", "(II)I"⟩, 31) := ⟨⟨by decide +kernel, by decide +kernel⟩, List.mem_of_getElem? (i := 945) (by decide +kernel), List.mem_of_getElem? (i := 1161) (by decide +kernel), List.mem_of_getElem? (i := 1162) (by decide +kernel)⟩
theorem lw_p34 : lw_okq (⟨"DrownedBellsModel", "isSwimmer", "(I)Z"⟩, 31) := ⟨⟨by decide +kernel, by decide +kernel⟩, List.mem_of_getElem? (i := 945) (by decide +kernel), List.mem_of_getElem? (i := 1172) (by decide +kernel), List.mem_of_getElem? (i := 1173) (by decide +kernel)⟩
theorem lw_p35 : lw_okq (⟨"DrownedBellsModel", "leaves", "(I)I"⟩, 31) := ⟨⟨by decide +kernel, by decide +kernel⟩, List.mem_of_getElem? (i := 945) (by decide +kernel), List.mem_of_getElem? (i := 1180) (by decide +kernel), List.mem_of_getElem? (i := 1181) (by decide +kernel)⟩
theorem lw_p36 : lw_okq (⟨"DrownedBellsModel", "rings", "()I"⟩, 31) := ⟨⟨by decide +kernel, by decide +kernel⟩, List.mem_of_getElem? (i := 945) (by decide +kernel), List.mem_of_getElem? (i := 1188) (by decide +kernel), List.mem_of_getElem? (i := 1189) (by decide +kernel)⟩
theorem lw_p37 : lw_okq (⟨"DrownedBellsModel", "keepsOne", "()V"⟩, 31) := ⟨⟨by decide +kernel, by decide +kernel⟩, List.mem_of_getElem? (i := 945) (by decide +kernel), List.mem_of_getElem? (i := 1192) (by decide +kernel), List.mem_of_getElem? (i := 1193) (by decide +kernel)⟩
theorem lw_p38 : lw_okq (⟨"DrownedBellsModel", "isPeal", "(I)Z"⟩, 31) := ⟨⟨by decide +kernel, by decide +kernel⟩, List.mem_of_getElem? (i := 945) (by decide +kernel), List.mem_of_getElem? (i := 1201) (by decide +kernel), List.mem_of_getElem? (i := 1202) (by decide +kernel)⟩
theorem lw_p39 : lw_okq (⟨"DrownedBellsModel", "takesPeal", "(I)V"⟩, 31) := ⟨⟨by decide +kernel, by decide +kernel⟩, List.mem_of_getElem? (i := 945) (by decide +kernel), List.mem_of_getElem? (i := 1205) (by decide +kernel), List.mem_of_getElem? (i := 1206) (by decide +kernel)⟩
theorem lw_p40 : lw_okq (⟨"DrownedBellsModel", "parsesNow", "()I"⟩, 31) := ⟨⟨by decide +kernel, by decide +kernel⟩, List.mem_of_getElem? (i := 945) (by decide +kernel), List.mem_of_getElem? (i := 1212) (by decide +kernel), List.mem_of_getElem? (i := 1213) (by decide +kernel)⟩
theorem lw_p41 : lw_okq (⟨"DrownedBellsModel", "endWays", "(II)I"⟩, 31) := ⟨⟨by decide +kernel, by decide +kernel⟩, List.mem_of_getElem? (i := 945) (by decide +kernel), List.mem_of_getElem? (i := 1219) (by decide +kernel), List.mem_of_getElem? (i := 1220) (by decide +kernel)⟩
theorem lw_p42 : lw_okq (⟨"DrownedBellsModel", "means", "()Z"⟩, 31) := ⟨⟨by decide +kernel, by decide +kernel⟩, List.mem_of_getElem? (i := 945) (by decide +kernel), List.mem_of_getElem? (i := 1235) (by decide +kernel), List.mem_of_getElem? (i := 1236) (by decide +kernel)⟩
theorem lw_p43 : lw_okq (⟨"DrownedBellsModel", "doesHear", "(III)Z"⟩, 31) := ⟨⟨by decide +kernel, by decide +kernel⟩, List.mem_of_getElem? (i := 945) (by decide +kernel), List.mem_of_getElem? (i := 1251) (by decide +kernel), List.mem_of_getElem? (i := 1252) (by decide +kernel)⟩
theorem lw_p44 : lw_okq (⟨"DrownedBellsModel", "clearsTo", "(II)I"⟩, 31) := ⟨⟨by decide +kernel, by decide +kernel⟩, List.mem_of_getElem? (i := 945) (by decide +kernel), List.mem_of_getElem? (i := 1260) (by decide +kernel), List.mem_of_getElem? (i := 1261) (by decide +kernel)⟩
theorem lw_p45 : lw_okq (⟨"DrownedBellsModel", "clears", "(III)I"⟩, 31) := ⟨⟨by decide +kernel, by decide +kernel⟩, List.mem_of_getElem? (i := 945) (by decide +kernel), List.mem_of_getElem? (i := 1264) (by decide +kernel), List.mem_of_getElem? (i := 1265) (by decide +kernel)⟩
theorem lw_p46 : lw_okq (⟨"DrownedBellsModel", "hearersOf", "(I)I"⟩, 31) := ⟨⟨by decide +kernel, by decide +kernel⟩, List.mem_of_getElem? (i := 945) (by decide +kernel), List.mem_of_getElem? (i := 1280) (by decide +kernel), List.mem_of_getElem? (i := 1281) (by decide +kernel)⟩
theorem lw_p47 : lw_okq (⟨"DrownedBellsModel", "wordsWith", "(I)I"⟩, 31) := ⟨⟨by decide +kernel, by decide +kernel⟩, List.mem_of_getElem? (i := 945) (by decide +kernel), List.mem_of_getElem? (i := 1284) (by decide +kernel), List.mem_of_getElem? (i := 1285) (by decide +kernel)⟩
def lw_privs_3 : List (MethodName × Nat) := [(⟨"DrownedBellsModel", "strikes", "(I)I"⟩, 31), (⟨"DrownedBellsModel", "comes", "(II)I"⟩, 31), (⟨"DrownedBellsModel", "isSwimmer", "(I)Z"⟩, 31), (⟨"DrownedBellsModel", "leaves", "(I)I"⟩, 31), (⟨"DrownedBellsModel", "rings", "()I"⟩, 31), (⟨"DrownedBellsModel", "keepsOne", "()V"⟩, 31), (⟨"DrownedBellsModel", "isPeal", "(I)Z"⟩, 31), (⟨"DrownedBellsModel", "takesPeal", "(I)V"⟩, 31), (⟨"DrownedBellsModel", "parsesNow", "()I"⟩, 31), (⟨"DrownedBellsModel", "endWays", "(II)I"⟩, 31), (⟨"DrownedBellsModel", "means", "()Z"⟩, 31), (⟨"DrownedBellsModel", "doesHear", "(III)Z"⟩, 31), (⟨"DrownedBellsModel", "clearsTo", "(II)I"⟩, 31), (⟨"DrownedBellsModel", "clears", "(III)I"⟩, 31), (⟨"DrownedBellsModel", "hearersOf", "(I)I"⟩, 31), (⟨"DrownedBellsModel", "wordsWith", "(I)I"⟩, 31)]
theorem lw_r3 : ∀ q ∈ lw_privs_3, lw_okq q := List.forall_mem_cons.mpr ⟨lw_p32, List.forall_mem_cons.mpr ⟨lw_p33, List.forall_mem_cons.mpr ⟨lw_p34, List.forall_mem_cons.mpr ⟨lw_p35, List.forall_mem_cons.mpr ⟨lw_p36, List.forall_mem_cons.mpr ⟨lw_p37, List.forall_mem_cons.mpr ⟨lw_p38, List.forall_mem_cons.mpr ⟨lw_p39, List.forall_mem_cons.mpr ⟨lw_p40, List.forall_mem_cons.mpr ⟨lw_p41, List.forall_mem_cons.mpr ⟨lw_p42, List.forall_mem_cons.mpr ⟨lw_p43, List.forall_mem_cons.mpr ⟨lw_p44, List.forall_mem_cons.mpr ⟨lw_p45, List.forall_mem_cons.mpr ⟨lw_p46, List.forall_mem_cons.mpr ⟨lw_p47, fun _ h => absurd h List.not_mem_nil⟩⟩⟩⟩⟩⟩⟩⟩⟩⟩⟩⟩⟩⟩⟩⟩
theorem lw_p48 : lw_okq (⟨"DrownedBellsModel", "signsOf", "(II)I"⟩, 31) := ⟨⟨by decide +kernel, by decide +kernel⟩, List.mem_of_getElem? (i := 945) (by decide +kernel), List.mem_of_getElem? (i := 1288) (by decide +kernel), List.mem_of_getElem? (i := 1289) (by decide +kernel)⟩
theorem lw_p49 : lw_okq (⟨"DrownedBellsModel", "bellsHeard", "(I)I"⟩, 31) := ⟨⟨by decide +kernel, by decide +kernel⟩, List.mem_of_getElem? (i := 945) (by decide +kernel), List.mem_of_getElem? (i := 1300) (by decide +kernel), List.mem_of_getElem? (i := 1301) (by decide +kernel)⟩
theorem lw_p50 : lw_okq (⟨"DrownedBellsModel", "understood", "(I)I"⟩, 31) := ⟨⟨by decide +kernel, by decide +kernel⟩, List.mem_of_getElem? (i := 945) (by decide +kernel), List.mem_of_getElem? (i := 1304) (by decide +kernel), List.mem_of_getElem? (i := 1305) (by decide +kernel)⟩
theorem lw_p51 : lw_okq (⟨"DrownedBellsModel", "alphabetOf", "(I)I"⟩, 31) := ⟨⟨by decide +kernel, by decide +kernel⟩, List.mem_of_getElem? (i := 945) (by decide +kernel), List.mem_of_getElem? (i := 1320) (by decide +kernel), List.mem_of_getElem? (i := 1321) (by decide +kernel)⟩
theorem lw_p52 : lw_okq (⟨"DrownedBellsModel", "wearNow", "()I"⟩, 31) := ⟨⟨by decide +kernel, by decide +kernel⟩, List.mem_of_getElem? (i := 945) (by decide +kernel), List.mem_of_getElem? (i := 1332) (by decide +kernel), List.mem_of_getElem? (i := 1333) (by decide +kernel)⟩
theorem lw_p53 : lw_okq (⟨"DrownedBellsModel", "putSign", "(II)I"⟩, 31) := ⟨⟨by decide +kernel, by decide +kernel⟩, List.mem_of_getElem? (i := 945) (by decide +kernel), List.mem_of_getElem? (i := 1349) (by decide +kernel), List.mem_of_getElem? (i := 1350) (by decide +kernel)⟩
theorem lw_p54 : lw_okq (⟨"DrownedBellsModel", "put", "(II)I"⟩, 31) := ⟨⟨by decide +kernel, by decide +kernel⟩, List.mem_of_getElem? (i := 945) (by decide +kernel), List.mem_of_getElem? (i := 1353) (by decide +kernel), List.mem_of_getElem? (i := 1354) (by decide +kernel)⟩
theorem lw_p55 : lw_okq (⟨"DrownedBellsModel", "putKind", "(II)I"⟩, 31) := ⟨⟨by decide +kernel, by decide +kernel⟩, List.mem_of_getElem? (i := 945) (by decide +kernel), List.mem_of_getElem? (i := 1357) (by decide +kernel), List.mem_of_getElem? (i := 1358) (by decide +kernel)⟩
theorem lw_p56 : lw_okq (⟨"DrownedBellsModel", "readsAll", "()V"⟩, 31) := ⟨⟨by decide +kernel, by decide +kernel⟩, List.mem_of_getElem? (i := 945) (by decide +kernel), List.mem_of_getElem? (i := 1381) (by decide +kernel), List.mem_of_getElem? (i := 1382) (by decide +kernel)⟩
theorem lw_p57 : lw_okq (⟨"DrownedBellsModel", "readsCommand", "()V"⟩, 31) := ⟨⟨by decide +kernel, by decide +kernel⟩, List.mem_of_getElem? (i := 945) (by decide +kernel), List.mem_of_getElem? (i := 1385) (by decide +kernel), List.mem_of_getElem? (i := 1386) (by decide +kernel)⟩
theorem lw_p58 : lw_okq (⟨"DrownedBellsModel", "kindHere", "()I"⟩, 31) := ⟨⟨by decide +kernel, by decide +kernel⟩, List.mem_of_getElem? (i := 945) (by decide +kernel), List.mem_of_getElem? (i := 1389) (by decide +kernel), List.mem_of_getElem? (i := 1390) (by decide +kernel)⟩
theorem lw_p59 : lw_okq (⟨"DrownedBellsModel", "readsRest", "(II)V"⟩, 31) := ⟨⟨by decide +kernel, by decide +kernel⟩, List.mem_of_getElem? (i := 945) (by decide +kernel), List.mem_of_getElem? (i := 1399) (by decide +kernel), List.mem_of_getElem? (i := 1400) (by decide +kernel)⟩
theorem lw_p60 : lw_okq (⟨"DrownedBellsModel", "reads", "(II)I"⟩, 31) := ⟨⟨by decide +kernel, by decide +kernel⟩, List.mem_of_getElem? (i := 945) (by decide +kernel), List.mem_of_getElem? (i := 1403) (by decide +kernel), List.mem_of_getElem? (i := 1404) (by decide +kernel)⟩
theorem lw_p61 : lw_okq (⟨"DrownedBellsModel", "letterHere", "()I"⟩, 31) := ⟨⟨by decide +kernel, by decide +kernel⟩, List.mem_of_getElem? (i := 945) (by decide +kernel), List.mem_of_getElem? (i := 1407) (by decide +kernel), List.mem_of_getElem? (i := 1408) (by decide +kernel)⟩
theorem lw_p62 : lw_okq (⟨"DrownedBellsModel", "blank", "()V"⟩, 31) := ⟨⟨by decide +kernel, by decide +kernel⟩, List.mem_of_getElem? (i := 945) (by decide +kernel), List.mem_of_getElem? (i := 1411) (by decide +kernel), List.mem_of_getElem? (i := 1412) (by decide +kernel)⟩
theorem lw_p63 : lw_okq (⟨"DrownedBellsModel", "digit", "()I"⟩, 31) := ⟨⟨by decide +kernel, by decide +kernel⟩, List.mem_of_getElem? (i := 945) (by decide +kernel), List.mem_of_getElem? (i := 1415) (by decide +kernel), List.mem_of_getElem? (i := 1416) (by decide +kernel)⟩
def lw_privs_4 : List (MethodName × Nat) := [(⟨"DrownedBellsModel", "signsOf", "(II)I"⟩, 31), (⟨"DrownedBellsModel", "bellsHeard", "(I)I"⟩, 31), (⟨"DrownedBellsModel", "understood", "(I)I"⟩, 31), (⟨"DrownedBellsModel", "alphabetOf", "(I)I"⟩, 31), (⟨"DrownedBellsModel", "wearNow", "()I"⟩, 31), (⟨"DrownedBellsModel", "putSign", "(II)I"⟩, 31), (⟨"DrownedBellsModel", "put", "(II)I"⟩, 31), (⟨"DrownedBellsModel", "putKind", "(II)I"⟩, 31), (⟨"DrownedBellsModel", "readsAll", "()V"⟩, 31), (⟨"DrownedBellsModel", "readsCommand", "()V"⟩, 31), (⟨"DrownedBellsModel", "kindHere", "()I"⟩, 31), (⟨"DrownedBellsModel", "readsRest", "(II)V"⟩, 31), (⟨"DrownedBellsModel", "reads", "(II)I"⟩, 31), (⟨"DrownedBellsModel", "letterHere", "()I"⟩, 31), (⟨"DrownedBellsModel", "blank", "()V"⟩, 31), (⟨"DrownedBellsModel", "digit", "()I"⟩, 31)]
theorem lw_r4 : ∀ q ∈ lw_privs_4, lw_okq q := List.forall_mem_cons.mpr ⟨lw_p48, List.forall_mem_cons.mpr ⟨lw_p49, List.forall_mem_cons.mpr ⟨lw_p50, List.forall_mem_cons.mpr ⟨lw_p51, List.forall_mem_cons.mpr ⟨lw_p52, List.forall_mem_cons.mpr ⟨lw_p53, List.forall_mem_cons.mpr ⟨lw_p54, List.forall_mem_cons.mpr ⟨lw_p55, List.forall_mem_cons.mpr ⟨lw_p56, List.forall_mem_cons.mpr ⟨lw_p57, List.forall_mem_cons.mpr ⟨lw_p58, List.forall_mem_cons.mpr ⟨lw_p59, List.forall_mem_cons.mpr ⟨lw_p60, List.forall_mem_cons.mpr ⟨lw_p61, List.forall_mem_cons.mpr ⟨lw_p62, List.forall_mem_cons.mpr ⟨lw_p63, fun _ h => absurd h List.not_mem_nil⟩⟩⟩⟩⟩⟩⟩⟩⟩⟩⟩⟩⟩⟩⟩⟩
theorem lw_p64 : lw_okq (⟨"DrownedBellsModel", "readsKind", "()I"⟩, 31) := ⟨⟨by decide +kernel, by decide +kernel⟩, List.mem_of_getElem? (i := 945) (by decide +kernel), List.mem_of_getElem? (i := 1419) (by decide +kernel), List.mem_of_getElem? (i := 1420) (by decide +kernel)⟩
theorem lw_p65 : lw_okq (⟨"DrownedBellsModel", "readsSigns", "(I)V"⟩, 31) := ⟨⟨by decide +kernel, by decide +kernel⟩, List.mem_of_getElem? (i := 945) (by decide +kernel), List.mem_of_getElem? (i := 1423) (by decide +kernel), List.mem_of_getElem? (i := 1424) (by decide +kernel)⟩
theorem lw_p66 : lw_okq (⟨"DrownedBellsModel", "isSign", "()Z"⟩, 31) := ⟨⟨by decide +kernel, by decide +kernel⟩, List.mem_of_getElem? (i := 945) (by decide +kernel), List.mem_of_getElem? (i := 1427) (by decide +kernel), List.mem_of_getElem? (i := 1428) (by decide +kernel)⟩
theorem lw_p67 : lw_okq (⟨"DrownedBellsModel", "isRight", "(I)Z"⟩, 31) := ⟨⟨by decide +kernel, by decide +kernel⟩, List.mem_of_getElem? (i := 945) (by decide +kernel), List.mem_of_getElem? (i := 1431) (by decide +kernel), List.mem_of_getElem? (i := 1432) (by decide +kernel)⟩
theorem lw_p68 : lw_okq (⟨"DrownedBellsModel", "does", "(I)I"⟩, 31) := ⟨⟨by decide +kernel, by decide +kernel⟩, List.mem_of_getElem? (i := 945) (by decide +kernel), List.mem_of_getElem? (i := 1435) (by decide +kernel), List.mem_of_getElem? (i := 1436) (by decide +kernel)⟩
theorem lw_p69 : lw_okq (⟨"DrownedBellsModel", "takesText", "(I)V"⟩, 31) := ⟨⟨by decide +kernel, by decide +kernel⟩, List.mem_of_getElem? (i := 945) (by decide +kernel), List.mem_of_getElem? (i := 1439) (by decide +kernel), List.mem_of_getElem? (i := 1440) (by decide +kernel)⟩
def lw_privs_5 : List (MethodName × Nat) := [(⟨"DrownedBellsModel", "readsKind", "()I"⟩, 31), (⟨"DrownedBellsModel", "readsSigns", "(I)V"⟩, 31), (⟨"DrownedBellsModel", "isSign", "()Z"⟩, 31), (⟨"DrownedBellsModel", "isRight", "(I)Z"⟩, 31), (⟨"DrownedBellsModel", "does", "(I)I"⟩, 31), (⟨"DrownedBellsModel", "takesText", "(I)V"⟩, 31)]
theorem lw_r5 : ∀ q ∈ lw_privs_5, lw_okq q := List.forall_mem_cons.mpr ⟨lw_p64, List.forall_mem_cons.mpr ⟨lw_p65, List.forall_mem_cons.mpr ⟨lw_p66, List.forall_mem_cons.mpr ⟨lw_p67, List.forall_mem_cons.mpr ⟨lw_p68, List.forall_mem_cons.mpr ⟨lw_p69, fun _ h => absurd h List.not_mem_nil⟩⟩⟩⟩⟩⟩
def lw_privs : List (MethodName × Nat) := lw_privs_1 ++ (lw_privs_2 ++ (lw_privs_3 ++ (lw_privs_4 ++ (lw_privs_5))))
def lw_tbl : List Cond := k2_sels lw_privs ++ tables_1
theorem lw_privs_ok : ∀ q ∈ lw_privs, lw_okq q := by
  show ∀ q ∈ lw_privs_1 ++ (lw_privs_2 ++ (lw_privs_3 ++ (lw_privs_4 ++ (lw_privs_5)))), lw_okq q
  exact List.forall_mem_append.mpr ⟨lw_r1, List.forall_mem_append.mpr ⟨lw_r2, List.forall_mem_append.mpr ⟨lw_r3, List.forall_mem_append.mpr ⟨lw_r4, lw_r5⟩⟩⟩⟩
/-- the streams that the claim lets the run draw from -/
abbrev lw_cs : List Choice := [Jvm.Choice.named "NaN.bits"]
theorem lw_bits : nanBits ∈ lw_cs := by first | decide | exact List.mem_cons_self | simp [lw_cs, nanBits]
-- ===== end of PART A; then your names; then what follows =====
/-! ===== the classes, methods, links and instructions of this claim, as lists ===== -/
def jb_T0 : u_T := fun k => match k with
  | 0 => ("DrownedBells$Bells", "depths", "LDrownedBells$Row;", true)
  | 1 => ("DrownedBells$Bells", "wears", "LDrownedBells$Row;", true)
  | _ => ("DrownedBells$Bells", "rings", "LDrownedBells$Row;", true)
def jb_T1 : u_T := fun k => match k with
  | 0 => ("DrownedBells$Book", "kinds", "LDrownedBells$Row;", true)
  | 1 => ("DrownedBells$Book", "sizes", "LDrownedBells$Row;", true)
  | _ => ("DrownedBells$Book", "spellings", "LDrownedBells$Row;", true)
def jb_T2 : u_T := fun k => match k with
  | 0 => ("DrownedBells$History", "villages", "[LDrownedBells$Village;", true)
  | 1 => ("DrownedBells$History", "oldest", "I", false)
  | _ => ("DrownedBells$History", "count", "I", false)
def jb_T3 : u_T := fun k => match k with
  | 0 => ("DrownedBells$Parser", "ways", "LDrownedBells$Row;", true)
  | _ => ("DrownedBells$Parser", "silencesBetween", "I", false)
def jb_T4 : u_T := fun k => match k with
  | 0 => ("DrownedBells$Peals", "sizes", "LDrownedBells$Row;", true)
  | _ => ("DrownedBells$Peals", "signs", "LDrownedBells$Row;", true)
def jb_T5 : u_T := fun k => match k with
  | 0 => ("DrownedBells$Reasons", "latest", "I", false)
  | 1 => ("DrownedBells$Reasons", "latestDetail", "I", false)
  | 2 => ("DrownedBells$Reasons", "behind", "I", false)
  | _ => ("DrownedBells$Reasons", "behindDetail", "I", false)
def jb_T6 : u_T := fun k => match k with
  | 0 => ("DrownedBells$Row", "cells", "[I", true)
  | _ => ("DrownedBells$Row", "size", "I", false)
def jb_T7 : u_T := fun k => match k with
  | 0 => ("DrownedBells$Swimmers", "depths", "LDrownedBells$Row;", true)
  | _ => ("DrownedBells$Swimmers", "reaches", "LDrownedBells$Row;", true)
def jb_T8 : u_T := fun k => match k with
  | 0 => ("DrownedBells$Text", "input", "LDrownedBells$Row;", true)
  | 1 => ("DrownedBells$Text", "commands", "LDrownedBells$Row;", true)
  | 2 => ("DrownedBells$Text", "starts", "LDrownedBells$Row;", true)
  | _ => ("DrownedBells$Text", "ends", "LDrownedBells$Row;", true)
def jb_T9 : u_T := fun k => match k with
  | 0 => ("DrownedBells$Village", "bells", "LDrownedBells$Bells;", true)
  | 1 => ("DrownedBells$Village", "book", "LDrownedBells$Book;", true)
  | 2 => ("DrownedBells$Village", "swimmers", "LDrownedBells$Swimmers;", true)
  | 3 => ("DrownedBells$Village", "peals", "LDrownedBells$Peals;", true)
  | 4 => ("DrownedBells$Village", "pealsRung", "I", false)
  | 5 => ("DrownedBells$Village", "bellsRung", "I", false)
  | _ => ("DrownedBells$Village", "bellsFallenSilent", "I", false)
def jb_T10 : u_T := fun k => match k with
  | 0 => ("DrownedBells", "village", "LDrownedBells$Village;", true)
  | 1 => ("DrownedBells", "before", "LDrownedBells$Village;", true)
  | 2 => ("DrownedBells", "saved", "LDrownedBells$Village;", true)
  | 3 => ("DrownedBells", "history", "LDrownedBells$History;", true)
  | 4 => ("DrownedBells", "reasons", "LDrownedBells$Reasons;", true)
  | 5 => ("DrownedBells", "parser", "LDrownedBells$Parser;", true)
  | 6 => ("DrownedBells", "text", "LDrownedBells$Text;", true)
  | 7 => ("DrownedBells", "draft", "LDrownedBells$Row;", true)
  | 8 => ("DrownedBells", "line", "LDrownedBells$Row;", true)
  | 9 => ("DrownedBells", "commandSigns", "LDrownedBells$Row;", true)
  | 10 => ("DrownedBells", "pealSigns", "LDrownedBells$Row;", true)
  | 11 => ("DrownedBells", "pealWords", "LDrownedBells$Row;", true)
  | 12 => ("DrownedBells", "heardSigns", "LDrownedBells$Row;", true)
  | 13 => ("DrownedBells", "heardWords", "LDrownedBells$Row;", true)
  | 14 => ("DrownedBells", "keys", "LDrownedBells$Row;", true)
  | 15 => ("DrownedBells", "isSaved", "Z", false)
  | _ => ("DrownedBells", "lastFault", "I", false)
def jb_T11 : u_T := fun k => match k with
  | 0 => ("DrownedBellsModel", "now", "[I", true)
  | 1 => ("DrownedBellsModel", "before", "[I", true)
  | 2 => ("DrownedBellsModel", "saved", "[I", true)
  | 3 => ("DrownedBellsModel", "history", "[I", true)
  | 4 => ("DrownedBellsModel", "isSaved", "Z", false)
  | 5 => ("DrownedBellsModel", "remembered", "I", false)
  | 6 => ("DrownedBellsModel", "reason", "I", false)
  | 7 => ("DrownedBellsModel", "detail", "I", false)
  | 8 => ("DrownedBellsModel", "behindReason", "I", false)
  | 9 => ("DrownedBellsModel", "behindDetail", "I", false)
  | 10 => ("DrownedBellsModel", "faultAt", "I", false)
  | 11 => ("DrownedBellsModel", "draft", "[I", true)
  | 12 => ("DrownedBellsModel", "laid", "I", false)
  | 13 => ("DrownedBellsModel", "text", "[I", true)
  | 14 => ("DrownedBellsModel", "typed", "I", false)
  | 15 => ("DrownedBellsModel", "line", "[I", true)
  | 16 => ("DrownedBellsModel", "lined", "I", false)
  | 17 => ("DrownedBellsModel", "why", "I", false)
  | 18 => ("DrownedBellsModel", "what", "I", false)
  | 19 => ("DrownedBellsModel", "row", "[I", true)
  | 20 => ("DrownedBellsModel", "size", "I", false)
  | 21 => ("DrownedBellsModel", "startWays", "[I", true)
  | 22 => ("DrownedBellsModel", "skipWays", "[I", true)
  | 23 => ("DrownedBellsModel", "words", "[I", true)
  | 24 => ("DrownedBellsModel", "wordMany", "I", false)
  | 25 => ("DrownedBellsModel", "heard", "[I", true)
  | 26 => ("DrownedBellsModel", "length", "I", false)
  | 27 => ("DrownedBellsModel", "place", "I", false)
  | 28 => ("DrownedBellsModel", "wrong", "I", false)
  | 29 => ("DrownedBellsModel", "told", "I", false)
  | _ => ("DrownedBellsModel", "numbers", "[I", true)
def jb_T (c : Nat) : u_T := match c with
  | 0 => jb_T0
  | 1 => jb_T1
  | 2 => jb_T2
  | 3 => jb_T3
  | 4 => jb_T4
  | 5 => jb_T5
  | 6 => jb_T6
  | 7 => jb_T7
  | 8 => jb_T8
  | 9 => jb_T9
  | 10 => jb_T10
  | _ => jb_T11
def jb_Ns : List Nat := [3, 3, 3, 2, 2, 4, 2, 2, 4, 7, 17, 31]
def jb_N (c : Nat) : Nat := jb_Ns.getD c 0
def jb_Os : List String := ["DrownedBells$Bells", "DrownedBells$Book", "DrownedBells$History", "DrownedBells$Parser", "DrownedBells$Peals", "DrownedBells$Reasons", "DrownedBells$Row", "DrownedBells$Swimmers", "DrownedBells$Text", "DrownedBells$Village", "DrownedBells", "DrownedBellsModel", "java/lang/Math", "java/lang/String", "java/lang/StringLatin1", "jdk/internal/util/Preconditions", "DrownedBellsLaw"]
def jb_O (c : Nat) : String := jb_Os.getD c ""
def jb_Tys : List (List FieldType) := [[.object "DrownedBells$Row", .object "DrownedBells$Row", .object "DrownedBells$Row"],
  [.object "DrownedBells$Row", .object "DrownedBells$Row", .object "DrownedBells$Row"],
  [.array (.object "DrownedBells$Village"), .int, .int],
  [.object "DrownedBells$Row", .int],
  [.object "DrownedBells$Row", .object "DrownedBells$Row"],
  [.int, .int, .int, .int],
  [.array .int, .int],
  [.object "DrownedBells$Row", .object "DrownedBells$Row"],
  [.object "DrownedBells$Row", .object "DrownedBells$Row", .object "DrownedBells$Row", .object "DrownedBells$Row"],
  [.object "DrownedBells$Bells", .object "DrownedBells$Book", .object "DrownedBells$Swimmers", .object "DrownedBells$Peals", .int, .int, .int],
  [.object "DrownedBells$Village", .object "DrownedBells$Village", .object "DrownedBells$Village", .object "DrownedBells$History", .object "DrownedBells$Reasons", .object "DrownedBells$Parser", .object "DrownedBells$Text", .object "DrownedBells$Row", .object "DrownedBells$Row", .object "DrownedBells$Row", .object "DrownedBells$Row", .object "DrownedBells$Row", .object "DrownedBells$Row", .object "DrownedBells$Row", .object "DrownedBells$Row", .boolean, .int],
  [.array .int, .array .int, .array .int, .array .int, .boolean, .int, .int, .int, .int, .int, .int, .array .int, .int, .array .int, .int, .array .int, .int, .int, .int, .array .int, .int, .array .int, .array .int, .array .int, .int, .array .int, .int, .int, .int, .int, .array .int]]
def jb_Ty (c k : Nat) : FieldType := (jb_Tys.getD c []).getD k .int
def jb_cl : List vw_C := (List.range 12).map (fun c => (jb_O c, jb_T c, jb_N c))
/-- the methods: name, bytes, locals, what it returns, its class, its height; the places of its words -/
abbrev jb_Me : Type := MethodName × ByteArray × Nat × Option FieldType × Nat × Nat × Nat × Nat × Nat × Nat
def jb_M : List jb_Me := [
  (⟨"DrownedBells$Row", "<init>", "(I)V"⟩, prog_8_method_1_code, 2, none, 6, 0, 113, 74, 112, 0),
  (⟨"DrownedBells$Row", "add", "(I)V"⟩, prog_8_method_8_code, 2, none, 6, 0, 133, 74, 131, 132),
  (⟨"DrownedBells$Reasons", "<init>", "()V"⟩, prog_7_method_1_code, 1, none, 5, 0, 257, 80, 256, 0),
  (⟨"DrownedBells$Row", "take", "(LDrownedBells$Row;)V"⟩, prog_8_method_13_code, 3, none, 6, 0, 384, 74, 382, 383),
  (⟨"DrownedBells$Row", "has", "(I)Z"⟩, prog_8_method_4_code, 2, (some .boolean), 6, 0, 407, 74, 405, 406),
  (⟨"DrownedBells", "isDepth", "(I)Z"⟩, prog_1_method_56_code, 1, (some .boolean), 10, 0, 410, 71, 409, 0),
  (⟨"DrownedBells$Row", "at", "(I)I"⟩, prog_8_method_5_code, 2, (some .int), 6, 0, 414, 74, 412, 413),
  (⟨"DrownedBells$Reasons", "refuse", "(II)I"⟩, prog_7_method_2_code, 3, (some .int), 5, 0, 418, 80, 416, 417),
  (⟨"DrownedBells$Row", "put", "(II)V"⟩, prog_8_method_6_code, 3, none, 6, 0, 422, 74, 420, 421),
  (⟨"DrownedBells$History", "slotOf", "(I)LDrownedBells$Village;"⟩, prog_4_method_5_code, 3, (some (.object "DrownedBells$Village")), 2, 0, 434, 79, 433, 1),
  (⟨"DrownedBells", "signOfCharacter", "(I)I"⟩, prog_1_method_52_code, 1, (some .int), 10, 0, 450, 71, 449, 0),
  (⟨"DrownedBells$Row", "isFull", "()Z"⟩, prog_8_method_3_code, 1, (some .boolean), 6, 0, 454, 74, 452, 453),
  (⟨"DrownedBells$Row", "size", "()I"⟩, prog_8_method_2_code, 1, (some .int), 6, 0, 459, 74, 457, 458),
  (⟨"DrownedBells$Row", "clear", "()V"⟩, prog_8_method_12_code, 1, none, 6, 0, 488, 74, 486, 487),
  (⟨"DrownedBells$Book", "signIn", "(II)I"⟩, prog_3_method_12_code, 3, (some .int), 1, 0, 607, 76, 606, 0),
  (⟨"DrownedBells$Parser", "cell", "(II)I"⟩, prog_5_method_9_code, 2, (some .int), 3, 0, 657, 81, 656, 0),
  (⟨"DrownedBells$Row", "raise", "(III)V"⟩, prog_8_method_7_code, 4, none, 6, 0, 666, 74, 664, 665),
  (⟨"DrownedBells$Parser", "stageAfter", "(I)I"⟩, prog_5_method_10_code, 1, (some .int), 3, 0, 680, 81, 679, 0),
  (⟨"DrownedBells", "characterOfSign", "(I)I"⟩, prog_1_method_53_code, 1, (some .int), 10, 0, 796, 71, 795, 0),
  (⟨"DrownedBells", "characterOfKind", "(I)I"⟩, prog_1_method_54_code, 1, (some .int), 10, 0, 799, 71, 798, 0),
  (⟨"DrownedBells$Text", "formOf", "(I)Ljava/lang/String;"⟩, prog_10_method_9_code, 1, (some (.object "java/lang/String")), 8, 0, 832, 82, 831, 0),
  (⟨"java/lang/String", "coder", "()B"⟩, prog_16_method_152_code, 1, (some .byte), 13, 0, 849, 84, 847, 848),
  (⟨"java/lang/String", "isLatin1", "()Z"⟩, prog_16_method_154_code, 1, (some .boolean), 13, 0, 859, 84, 857, 858),
  (⟨"jdk/internal/util/Preconditions", "checkIndex", "(IILjava/util/function/BiFunction;)I"⟩, prog_19_method_11_code, 3, (some .int), 15, 0, 870, 86, 869, 0),
  (⟨"DrownedBells", "kindOfCharacter", "(I)I"⟩, prog_1_method_55_code, 1, (some .int), 10, 0, 897, 71, 896, 0),
  (⟨"java/lang/StringLatin1", "canEncode", "(I)Z"⟩, prog_17_method_4_code, 1, (some .boolean), 14, 0, 935, 85, 934, 0),
  (⟨"java/lang/StringLatin1", "indexOfChar", "([BIII)I"⟩, prog_17_method_23_code, 6, (some .int), 14, 0, 940, 85, 939, 0),
  (⟨"DrownedBells", "fault", "()I"⟩, prog_1_method_36_code, 1, (some .int), 10, 0, 989, 71, 987, 988),
  (⟨"DrownedBells", "reason", "(IZ)I"⟩, prog_1_method_37_code, 3, (some .int), 10, 0, 993, 71, 991, 992),
  (⟨"DrownedBells$History", "clear", "()V"⟩, prog_4_method_4_code, 1, none, 2, 0, 1013, 79, 1011, 1012),
  (⟨"DrownedBellsModel", "<init>", "()V"⟩, prog_13_method_1_code, 2, none, 11, 0, 1018, 83, 1017, 0),
  (⟨"DrownedBellsModel", "isIn", "(III)Z"⟩, prog_13_method_2_code, 3, (some .boolean), 11, 0, 1120, 83, 1119, 0),
  (⟨"DrownedBellsModel", "copies", "([II[II)V"⟩, prog_13_method_3_code, 5, none, 11, 0, 1127, 83, 1126, 0),
  (⟨"DrownedBellsModel", "bellAt", "(I)I"⟩, prog_13_method_19_code, 1, (some .int), 11, 0, 1152, 83, 1151, 0),
  (⟨"DrownedBellsModel", "hinders", "(ZII)V"⟩, prog_13_method_4_code, 4, none, 11, 0, 1160, 83, 1159, 22),
  (⟨"DrownedBellsModel", "takesDraft", "()V"⟩, prog_13_method_28_code, 2, none, 11, 0, 1195, 83, 1194, 27),
  (⟨"DrownedBellsModel", "wordAt", "(I)I"⟩, prog_13_method_20_code, 1, (some .int), 11, 0, 1206, 83, 1205, 0),
  (⟨"DrownedBellsModel", "swimmerAt", "(I)I"⟩, prog_13_method_21_code, 1, (some .int), 11, 0, 1236, 83, 1235, 0),
  (⟨"DrownedBellsModel", "keepsOne", "()V"⟩, prog_13_method_42_code, 2, none, 11, 0, 1264, 83, 1263, 37),
  (⟨"DrownedBellsModel", "pealAt", "(I)I"⟩, prog_13_method_22_code, 1, (some .int), 11, 0, 1280, 83, 1279, 0),
  (⟨"DrownedBellsModel", "nextKind", "(I)I"⟩, prog_13_method_45_code, 1, (some .int), 11, 0, 1287, 83, 1286, 0),
  (⟨"DrownedBellsModel", "endWays", "(II)I"⟩, prog_13_method_46_code, 3, (some .int), 11, 0, 1291, 83, 1290, 41),
  (⟨"DrownedBellsModel", "isCounted", "()Z"⟩, prog_13_method_74_code, 1, (some .boolean), 11, 0, 1396, 83, 1394, 1395),
  (⟨"DrownedBellsModel", "put", "(II)I"⟩, prog_13_method_79_code, 3, (some .int), 11, 0, 1425, 83, 1424, 54),
  (⟨"DrownedBellsModel", "fault", "()I"⟩, prog_13_method_86_code, 1, (some .int), 11, 0, 1445, 83, 1443, 1444),
  (⟨"DrownedBellsModel", "startOf", "(I)I"⟩, prog_13_method_93_code, 1, (some .int), 11, 0, 1464, 83, 1463, 0),
  (⟨"DrownedBellsModel", "letterHere", "()I"⟩, prog_13_method_87_code, 1, (some .int), 11, 0, 1479, 83, 1478, 61),
  (⟨"DrownedBellsModel", "takesText", "(I)V"⟩, prog_13_method_100_code, 4, none, 11, 0, 1511, 83, 1510, 69),
  (⟨"DrownedBells$Row", "fill", "(II)V"⟩, prog_8_method_11_code, 4, none, 6, 1, 129, 74, 127, 128),
  (⟨"DrownedBells$Book", "<init>", "()V"⟩, prog_3_method_1_code, 1, none, 1, 1, 151, 76, 150, 0),
  (⟨"DrownedBells$Swimmers", "<init>", "()V"⟩, prog_9_method_1_code, 1, none, 7, 1, 174, 77, 173, 0),
  (⟨"DrownedBells$Parser", "<init>", "()V"⟩, prog_5_method_1_code, 1, none, 3, 1, 280, 81, 279, 0),
  (⟨"DrownedBells$Text", "<init>", "()V"⟩, prog_10_method_1_code, 1, none, 8, 1, 296, 82, 295, 0),
  (⟨"DrownedBells$Bells", "take", "(LDrownedBells$Bells;)V"⟩, prog_2_method_2_code, 2, none, 0, 1, 380, 73, 378, 379),
  (⟨"DrownedBells$Book", "take", "(LDrownedBells$Book;)V"⟩, prog_3_method_2_code, 2, none, 1, 1, 388, 76, 386, 387),
  (⟨"DrownedBells$Swimmers", "take", "(LDrownedBells$Swimmers;)V"⟩, prog_9_method_2_code, 2, none, 7, 1, 393, 77, 391, 392),
  (⟨"DrownedBells$Peals", "take", "(LDrownedBells$Peals;)V"⟩, prog_6_method_2_code, 2, none, 4, 1, 398, 78, 396, 397),
  (⟨"DrownedBells$Bells", "moveTo", "(IILDrownedBells$Reasons;)I"⟩, prog_2_method_3_code, 5, (some .int), 0, 1, 403, 73, 401, 402),
  (⟨"DrownedBells$Bells", "mend", "(ILDrownedBells$Reasons;)I"⟩, prog_2_method_4_code, 4, (some .int), 0, 1, 443, 73, 441, 442),
  (⟨"DrownedBells", "lay", "(C)I"⟩, prog_1_method_4_code, 3, (some .int), 10, 1, 447, 71, 445, 446),
  (⟨"DrownedBells$Book", "spell", "(LDrownedBells$Row;)I"⟩, prog_3_method_11_code, 4, (some .int), 1, 1, 473, 76, 472, 0),
  (⟨"DrownedBells$Book", "wordSpelt", "(I)I"⟩, prog_3_method_10_code, 3, (some .int), 1, 1, 478, 76, 477, 2),
  (⟨"DrownedBells$Row", "removeAt", "(I)V"⟩, prog_8_method_10_code, 3, none, 6, 1, 500, 74, 498, 499),
  (⟨"DrownedBells$Swimmers", "come", "(IILDrownedBells$Reasons;)I"⟩, prog_9_method_3_code, 4, (some .int), 7, 1, 511, 77, 509, 510),
  (⟨"DrownedBells$Swimmers", "moveTo", "(IILDrownedBells$Reasons;)I"⟩, prog_9_method_4_code, 5, (some .int), 7, 1, 524, 77, 522, 523),
  (⟨"DrownedBells$Bells", "canSound", "(I)Z"⟩, prog_2_method_5_code, 2, (some .boolean), 0, 1, 555, 73, 553, 554),
  (⟨"DrownedBells$Row", "addFirst", "(I)V"⟩, prog_8_method_9_code, 3, none, 6, 1, 563, 74, 561, 562),
  (⟨"DrownedBells$Peals", "addToLatest", "(I)V"⟩, prog_6_method_5_code, 3, none, 4, 1, 575, 78, 573, 574),
  (⟨"DrownedBells$Bells", "heardAs", "(III)I"⟩, prog_2_method_8_code, 5, (some .int), 0, 1, 589, 73, 587, 588),
  (⟨"DrownedBells$Book", "signAt", "(II)I"⟩, prog_3_method_5_code, 3, (some .int), 1, 1, 604, 76, 602, 603),
  (⟨"DrownedBells$Peals", "signAt", "(II)I"⟩, prog_6_method_6_code, 3, (some .int), 4, 1, 637, 78, 635, 636),
  (⟨"DrownedBells$Parser", "endsSilent", "(LDrownedBells$Row;)Z"⟩, prog_5_method_8_code, 1, (some .boolean), 3, 1, 652, 81, 651, 0),
  (⟨"DrownedBells$Parser", "passSilence", "(II)V"⟩, prog_5_method_7_code, 4, none, 3, 1, 662, 81, 661, 8),
  (⟨"DrownedBells$Book", "standsAt", "(ILDrownedBells$Row;I)Z"⟩, prog_3_method_8_code, 6, (some .boolean), 1, 1, 673, 76, 671, 672),
  (⟨"DrownedBells$Parser", "waysBehind", "(LDrownedBells$Book;II)I"⟩, prog_5_method_6_code, 4, (some .int), 3, 1, 677, 81, 676, 9),
  (⟨"DrownedBells$Row", "isLike", "(LDrownedBells$Row;)Z"⟩, prog_8_method_15_code, 3, (some .boolean), 6, 1, 690, 74, 688, 689),
  (⟨"DrownedBells$Peals", "has", "(I)Z"⟩, prog_6_method_3_code, 2, (some .boolean), 4, 1, 698, 78, 696, 697),
  (⟨"DrownedBells", "echoAt", "(II)I"⟩, prog_1_method_50_code, 4, (some .int), 10, 1, 748, 71, 747, 12),
  (⟨"DrownedBells", "inOrder", "(I)I"⟩, prog_1_method_51_code, 5, (some .int), 10, 1, 756, 71, 755, 13),
  (⟨"DrownedBells$Row", "sum", "()I"⟩, prog_8_method_14_code, 3, (some .int), 6, 1, 776, 74, 774, 775),
  (⟨"DrownedBells", "written", "(I)I"⟩, prog_1_method_33_code, 2, (some .int), 10, 1, 808, 71, 806, 807),
  (⟨"DrownedBells", "append", "(C)I"⟩, prog_1_method_34_code, 2, (some .int), 10, 1, 812, 71, 810, 811),
  (⟨"java/lang/String", "length", "()I"⟩, prog_16_method_54_code, 1, (some .int), 13, 1, 845, 84, 843, 844),
  (⟨"java/lang/String", "checkIndex", "(II)V"⟩, prog_16_method_155_code, 2, none, 13, 1, 865, 84, 864, 0),
  (⟨"DrownedBells$Text", "isFit", "(CI)Z"⟩, prog_10_method_10_code, 2, (some .boolean), 8, 1, 893, 82, 892, 0),
  (⟨"java/lang/StringLatin1", "indexOf", "([BIII)I"⟩, prog_17_method_22_code, 4, (some .int), 14, 1, 932, 85, 931, 0),
  (⟨"DrownedBells$Reasons", "refuseCommand", "(IZ)I"⟩, prog_7_method_3_code, 5, (some .int), 5, 1, 983, 80, 981, 982),
  (⟨"DrownedBellsModel", "reason", "(IZ)I"⟩, prog_13_method_9_code, 4, (some .int), 11, 1, 1117, 83, 1115, 1116),
  (⟨"DrownedBellsModel", "undo", "()I"⟩, prog_13_method_10_code, 1, (some .int), 11, 1, 1124, 83, 1122, 1123),
  (⟨"DrownedBellsModel", "save", "()I"⟩, prog_13_method_11_code, 1, (some .int), 11, 1, 1131, 83, 1129, 1130),
  (⟨"DrownedBellsModel", "restore", "()I"⟩, prog_13_method_12_code, 1, (some .int), 11, 1, 1135, 83, 1133, 1134),
  (⟨"DrownedBellsModel", "isBell", "(I)Z"⟩, prog_13_method_13_code, 1, (some .boolean), 11, 1, 1142, 83, 1141, 0),
  (⟨"DrownedBellsModel", "isDepth", "(I)Z"⟩, prog_13_method_17_code, 1, (some .boolean), 11, 1, 1145, 83, 1144, 0),
  (⟨"DrownedBellsModel", "starts", "()V"⟩, prog_13_method_5_code, 1, none, 11, 1, 1149, 83, 1148, 20),
  (⟨"DrownedBellsModel", "becomes", "(II)I"⟩, prog_13_method_23_code, 4, (some .int), 11, 1, 1156, 83, 1155, 21),
  (⟨"DrownedBellsModel", "refuses", "(IIII)I"⟩, prog_13_method_7_code, 5, (some .int), 11, 1, 1168, 83, 1167, 24),
  (⟨"DrownedBellsModel", "remembers", "()V"⟩, prog_13_method_6_code, 2, none, 11, 1, 1172, 83, 1171, 25),
  (⟨"DrownedBellsModel", "renews", "(I)I"⟩, prog_13_method_25_code, 3, (some .int), 11, 1, 1180, 83, 1179, 26),
  (⟨"DrownedBellsModel", "lay", "(C)I"⟩, prog_13_method_27_code, 3, (some .int), 11, 1, 1184, 83, 1182, 1183),
  (⟨"DrownedBellsModel", "isKind", "(I)Z"⟩, prog_13_method_32_code, 1, (some .boolean), 11, 1, 1191, 83, 1190, 0),
  (⟨"DrownedBellsModel", "isWordHere", "(II)Z"⟩, prog_13_method_30_code, 7, (some .boolean), 11, 1, 1210, 83, 1209, 30),
  (⟨"DrownedBellsModel", "isWord", "(I)Z"⟩, prog_13_method_14_code, 2, (some .boolean), 11, 1, 1218, 83, 1217, 31),
  (⟨"DrownedBellsModel", "strikes", "(I)I"⟩, prog_13_method_35_code, 3, (some .int), 11, 1, 1222, 83, 1221, 32),
  (⟨"DrownedBellsModel", "isReach", "(I)Z"⟩, prog_13_method_18_code, 1, (some .boolean), 11, 1, 1229, 83, 1228, 0),
  (⟨"DrownedBellsModel", "comes", "(II)I"⟩, prog_13_method_37_code, 3, (some .int), 11, 1, 1233, 83, 1232, 33),
  (⟨"DrownedBellsModel", "isSwimmer", "(I)Z"⟩, prog_13_method_15_code, 2, (some .boolean), 11, 1, 1244, 83, 1243, 34),
  (⟨"DrownedBellsModel", "leaves", "(I)I"⟩, prog_13_method_40_code, 3, (some .int), 11, 1, 1252, 83, 1251, 35),
  (⟨"DrownedBellsModel", "rings", "()I"⟩, prog_13_method_43_code, 5, (some .int), 11, 1, 1260, 83, 1259, 36),
  (⟨"DrownedBellsModel", "isPeal", "(I)Z"⟩, prog_13_method_16_code, 2, (some .boolean), 11, 1, 1273, 83, 1272, 38),
  (⟨"DrownedBellsModel", "takesPeal", "(I)V"⟩, prog_13_method_29_code, 3, none, 11, 1, 1277, 83, 1276, 39),
  (⟨"DrownedBellsModel", "doesHear", "(III)Z"⟩, prog_13_method_55_code, 4, (some .boolean), 11, 1, 1323, 83, 1322, 43),
  (⟨"DrownedBellsModel", "signsOf", "(II)I"⟩, prog_13_method_63_code, 5, (some .int), 11, 1, 1360, 83, 1359, 48),
  (⟨"DrownedBellsModel", "worn", "(I)I"⟩, prog_13_method_71_code, 8, (some .int), 11, 1, 1384, 83, 1382, 1383),
  (⟨"DrownedBellsModel", "alphabetOf", "(I)I"⟩, prog_13_method_72_code, 5, (some .int), 11, 1, 1392, 83, 1391, 51),
  (⟨"DrownedBellsModel", "wearNow", "()I"⟩, prog_13_method_75_code, 3, (some .int), 11, 1, 1404, 83, 1403, 52),
  (⟨"DrownedBellsModel", "putSign", "(II)I"⟩, prog_13_method_80_code, 3, (some .int), 11, 1, 1421, 83, 1420, 53),
  (⟨"DrownedBellsModel", "putKind", "(II)I"⟩, prog_13_method_81_code, 4, (some .int), 11, 1, 1429, 83, 1428, 55),
  (⟨"DrownedBellsModel", "written", "(I)I"⟩, prog_13_method_84_code, 2, (some .int), 11, 1, 1437, 83, 1435, 1436),
  (⟨"DrownedBellsModel", "append", "(C)I"⟩, prog_13_method_85_code, 2, (some .int), 11, 1, 1441, 83, 1439, 1440),
  (⟨"DrownedBellsModel", "reads", "(II)I"⟩, prog_13_method_88_code, 3, (some .int), 11, 1, 1475, 83, 1474, 60),
  (⟨"DrownedBellsModel", "isSign", "()Z"⟩, prog_13_method_91_code, 1, (some .boolean), 11, 1, 1499, 83, 1498, 66),
  (⟨"DrownedBells$Bells", "<init>", "()V"⟩, prog_2_method_1_code, 1, none, 0, 2, 107, 73, 106, 0),
  (⟨"DrownedBells$Peals", "<init>", "()V"⟩, prog_6_method_1_code, 1, none, 4, 2, 191, 78, 190, 0),
  (⟨"DrownedBells$Village", "take", "(LDrownedBells$Village;)V"⟩, prog_11_method_2_code, 2, none, 9, 2, 376, 72, 374, 375),
  (⟨"DrownedBells$Book", "enter", "(ILDrownedBells$Row;LDrownedBells$Reasons;)I"⟩, prog_3_method_3_code, 7, (some .int), 1, 2, 467, 76, 465, 466),
  (⟨"DrownedBells$Book", "remove", "(I)I"⟩, prog_3_method_4_code, 2, (some .int), 1, 2, 496, 76, 494, 495),
  (⟨"DrownedBells$Swimmers", "leave", "(I)I"⟩, prog_9_method_5_code, 2, (some .int), 7, 2, 535, 77, 533, 534),
  (⟨"DrownedBells$Bells", "canAnySound", "(LDrownedBells$Row;)Z"⟩, prog_2_method_6_code, 3, (some .boolean), 0, 2, 550, 73, 548, 549),
  (⟨"DrownedBells$Peals", "begin", "()V"⟩, prog_6_method_4_code, 2, none, 4, 2, 559, 78, 557, 558),
  (⟨"DrownedBells$Bells", "pull", "(I)I"⟩, prog_2_method_7_code, 2, (some .int), 0, 2, 571, 73, 569, 570),
  (⟨"DrownedBells", "swimmersWhoHear", "(I)I"⟩, prog_1_method_45_code, 6, (some .int), 10, 2, 585, 71, 584, 4),
  (⟨"DrownedBells$Book", "count", "(II)I"⟩, prog_3_method_6_code, 5, (some .int), 1, 2, 600, 76, 598, 599),
  (⟨"DrownedBells", "bellsHeardBy", "(I)I"⟩, prog_1_method_46_code, 6, (some .int), 10, 2, 620, 71, 619, 5),
  (⟨"DrownedBells$Peals", "copyTo", "(ILDrownedBells$Row;)V"⟩, prog_6_method_7_code, 4, none, 4, 2, 632, 78, 630, 631),
  (⟨"DrownedBells$Parser", "countBackward", "(LDrownedBells$Book;LDrownedBells$Row;)I"⟩, prog_5_method_3_code, 7, (some .int), 3, 2, 648, 81, 646, 647),
  (⟨"DrownedBells$Parser", "wordOnTheWay", "(LDrownedBells$Book;LDrownedBells$Row;II)I"⟩, prog_5_method_5_code, 7, (some .int), 3, 2, 685, 81, 684, 10),
  (⟨"DrownedBells$Parser", "countForward", "(LDrownedBells$Book;LDrownedBells$Row;)I"⟩, prog_5_method_2_code, 8, (some .int), 3, 2, 702, 81, 700, 701),
  (⟨"DrownedBells", "signOf", "(II)I"⟩, prog_1_method_19_code, 3, (some .int), 10, 2, 727, 71, 725, 726),
  (⟨"DrownedBells", "hears", "(III)I"⟩, prog_1_method_20_code, 6, (some .int), 10, 2, 732, 71, 730, 731),
  (⟨"DrownedBells", "worn", "(I)I"⟩, prog_1_method_25_code, 5, (some .int), 10, 2, 760, 71, 758, 759),
  (⟨"DrownedBells", "listed", "(I)I"⟩, prog_1_method_26_code, 3, (some .int), 10, 2, 764, 71, 762, 763),
  (⟨"DrownedBells$Book", "isWithoutTwins", "()Z"⟩, prog_3_method_9_code, 2, (some .boolean), 1, 2, 772, 76, 770, 771),
  (⟨"DrownedBells", "meanWear", "()D"⟩, prog_1_method_28_code, 1, (some .double), 10, 2, 780, 71, 778, 779),
  (⟨"DrownedBells", "account", "(I)I"⟩, prog_1_method_30_code, 2, (some .int), 10, 2, 789, 71, 787, 788),
  (⟨"DrownedBells", "writeBook", "()I"⟩, prog_1_method_32_code, 3, (some .int), 10, 2, 803, 71, 801, 802),
  (⟨"java/lang/StringLatin1", "charAt", "([BI)C"⟩, prog_17_method_2_code, 2, (some .char), 14, 2, 862, 85, 861, 0),
  (⟨"DrownedBells$Text", "endOf", "(II)I"⟩, prog_10_method_8_code, 5, (some .int), 8, 2, 906, 82, 905, 17),
  (⟨"java/lang/String", "indexOf", "(II)I"⟩, prog_16_method_80_code, 3, (some .int), 13, 2, 928, 84, 926, 927),
  (⟨"DrownedBells$Text", "copySigns", "(ILDrownedBells$Row;)V"⟩, prog_10_method_4_code, 5, none, 8, 2, 979, 82, 977, 978),
  (⟨"DrownedBellsModel", "ends", "(I)I"⟩, prog_13_method_8_code, 2, (some .int), 11, 2, 1164, 83, 1163, 23),
  (⟨"DrownedBellsModel", "same", "()I"⟩, prog_13_method_31_code, 3, (some .int), 11, 2, 1203, 83, 1202, 29),
  (⟨"DrownedBellsModel", "parsesNow", "()I"⟩, prog_13_method_47_code, 6, (some .int), 11, 2, 1284, 83, 1283, 40),
  (⟨"DrownedBellsModel", "signOf", "(II)I"⟩, prog_13_method_54_code, 4, (some .int), 11, 2, 1315, 83, 1313, 1314),
  (⟨"DrownedBellsModel", "hears", "(III)I"⟩, prog_13_method_56_code, 7, (some .int), 11, 2, 1319, 83, 1317, 1318),
  (⟨"DrownedBellsModel", "hearersOf", "(I)I"⟩, prog_13_method_62_code, 5, (some .int), 11, 2, 1352, 83, 1351, 46),
  (⟨"DrownedBellsModel", "wordsWith", "(I)I"⟩, prog_13_method_64_code, 4, (some .int), 11, 2, 1356, 83, 1355, 47),
  (⟨"DrownedBellsModel", "wordOf", "(II)I"⟩, prog_13_method_66_code, 3, (some .int), 11, 2, 1364, 83, 1362, 1363),
  (⟨"DrownedBellsModel", "bellsHeard", "(I)I"⟩, prog_13_method_67_code, 4, (some .int), 11, 2, 1372, 83, 1371, 49),
  (⟨"DrownedBellsModel", "listed", "(I)I"⟩, prog_13_method_73_code, 6, (some .int), 11, 2, 1388, 83, 1386, 1387),
  (⟨"DrownedBellsModel", "meanWear", "()D"⟩, prog_13_method_76_code, 1, (some .double), 11, 2, 1400, 83, 1398, 1399),
  (⟨"DrownedBellsModel", "account", "(I)I"⟩, prog_13_method_78_code, 2, (some .int), 11, 2, 1413, 83, 1411, 1412),
  (⟨"DrownedBellsModel", "writeBook", "()I"⟩, prog_13_method_83_code, 4, (some .int), 11, 2, 1433, 83, 1431, 1432),
  (⟨"DrownedBellsModel", "blank", "()V"⟩, prog_13_method_90_code, 2, none, 11, 2, 1483, 83, 1482, 62),
  (⟨"DrownedBellsModel", "digit", "()I"⟩, prog_13_method_89_code, 1, (some .int), 11, 2, 1487, 83, 1486, 63),
  (⟨"DrownedBellsModel", "readsKind", "()I"⟩, prog_13_method_95_code, 4, (some .int), 11, 2, 1491, 83, 1490, 64),
  (⟨"DrownedBellsModel", "readsSigns", "(I)V"⟩, prog_13_method_92_code, 2, none, 11, 2, 1495, 83, 1494, 65),
  (⟨"DrownedBellsModel", "isRight", "(I)Z"⟩, prog_13_method_99_code, 4, (some .boolean), 11, 2, 1503, 83, 1502, 67),
  (⟨"DrownedBells$Village", "<init>", "()V"⟩, prog_11_method_1_code, 1, none, 9, 3, 101, 72, 100, 0),
  (⟨"DrownedBells$History", "keep", "(LDrownedBells$Village;)V"⟩, prog_4_method_2_code, 3, none, 2, 3, 430, 79, 428, 429),
  (⟨"DrownedBells$Village", "ringPeal", "(LDrownedBells$Row;LDrownedBells$Reasons;)I"⟩, prog_11_method_3_code, 7, (some .int), 9, 3, 544, 72, 542, 543),
  (⟨"DrownedBells$Book", "wordsWith", "(I)I"⟩, prog_3_method_7_code, 4, (some .int), 1, 3, 596, 76, 594, 595),
  (⟨"DrownedBells", "wordOf", "(II)I"⟩, prog_1_method_12_code, 3, (some .int), 10, 3, 611, 71, 609, 610),
  (⟨"DrownedBells$Parser", "isMeant", "(LDrownedBells$Book;LDrownedBells$Row;LDrownedBells$Row;)Z"⟩, prog_5_method_4_code, 8, (some .boolean), 3, 3, 643, 81, 641, 642),
  (⟨"DrownedBells", "parses", "(I)I"⟩, prog_1_method_14_code, 2, (some .int), 10, 3, 694, 71, 692, 693),
  (⟨"DrownedBells", "parsesAgain", "(I)I"⟩, prog_1_method_15_code, 2, (some .int), 10, 3, 706, 71, 704, 705),
  (⟨"DrownedBells", "draftParses", "()I"⟩, prog_1_method_16_code, 1, (some .int), 10, 3, 711, 71, 709, 710),
  (⟨"DrownedBells", "echoes", "(II)I"⟩, prog_1_method_23_code, 4, (some .int), 10, 3, 744, 71, 742, 743),
  (⟨"DrownedBells", "isCounted", "()Z"⟩, prog_1_method_27_code, 3, (some .boolean), 10, 3, 768, 71, 766, 767),
  (⟨"java/lang/String", "charAt", "(I)C"⟩, prog_16_method_56_code, 2, (some .char), 13, 3, 855, 84, 853, 854),
  (⟨"java/lang/String", "indexOf", "(I)I"⟩, prog_16_method_79_code, 2, (some .int), 13, 3, 924, 84, 922, 923),
  (⟨"DrownedBells$History", "giveBack", "(LDrownedBells$Village;)V"⟩, prog_4_method_3_code, 3, none, 2, 3, 1001, 79, 999, 1000),
  (⟨"DrownedBells", "save", "()I"⟩, prog_1_method_39_code, 1, (some .int), 10, 3, 1005, 71, 1003, 1004),
  (⟨"DrownedBells", "restore", "()I"⟩, prog_1_method_40_code, 1, (some .int), 10, 3, 1009, 71, 1007, 1008),
  (⟨"DrownedBellsModel", "hang", "(II)I"⟩, prog_13_method_24_code, 3, (some .int), 11, 3, 1139, 83, 1137, 1138),
  (⟨"DrownedBellsModel", "splice", "(I)I"⟩, prog_13_method_26_code, 2, (some .int), 11, 3, 1176, 83, 1174, 1175),
  (⟨"DrownedBellsModel", "adds", "(I)I"⟩, prog_13_method_33_code, 4, (some .int), 11, 3, 1199, 83, 1198, 28),
  (⟨"DrownedBellsModel", "strike", "(I)I"⟩, prog_13_method_36_code, 2, (some .int), 11, 3, 1214, 83, 1212, 1213),
  (⟨"DrownedBellsModel", "swim", "(II)I"⟩, prog_13_method_38_code, 3, (some .int), 11, 3, 1226, 83, 1224, 1225),
  (⟨"DrownedBellsModel", "dive", "(II)I"⟩, prog_13_method_39_code, 3, (some .int), 11, 3, 1240, 83, 1238, 1239),
  (⟨"DrownedBellsModel", "go", "(I)I"⟩, prog_13_method_41_code, 2, (some .int), 11, 3, 1248, 83, 1246, 1247),
  (⟨"DrownedBellsModel", "ring", "()I"⟩, prog_13_method_44_code, 2, (some .int), 11, 3, 1256, 83, 1254, 1255),
  (⟨"DrownedBellsModel", "parses", "(I)I"⟩, prog_13_method_49_code, 2, (some .int), 11, 3, 1269, 83, 1267, 1268),
  (⟨"DrownedBellsModel", "parsesAgain", "(I)I"⟩, prog_13_method_50_code, 2, (some .int), 11, 3, 1295, 83, 1293, 1294),
  (⟨"DrownedBellsModel", "draftParses", "()I"⟩, prog_13_method_51_code, 1, (some .int), 11, 3, 1299, 83, 1297, 1298),
  (⟨"DrownedBellsModel", "means", "()Z"⟩, prog_13_method_48_code, 6, (some .boolean), 11, 3, 1307, 83, 1306, 42),
  (⟨"DrownedBellsModel", "echoes", "(II)I"⟩, prog_13_method_61_code, 4, (some .int), 11, 3, 1344, 83, 1342, 1343),
  (⟨"DrownedBellsModel", "bellOf", "(II)I"⟩, prog_13_method_65_code, 3, (some .int), 11, 3, 1348, 83, 1346, 1347),
  (⟨"DrownedBellsModel", "meantShare", "()F"⟩, prog_13_method_77_code, 3, (some .float), 11, 3, 1409, 83, 1407, 1408),
  (⟨"DrownedBellsModel", "readsRest", "(II)V"⟩, prog_13_method_96_code, 3, none, 11, 3, 1471, 83, 1470, 59),
  (⟨"DrownedBells$History", "<init>", "()V"⟩, prog_4_method_1_code, 2, none, 2, 4, 237, 79, 236, 0),
  (⟨"DrownedBells", "settled", "(I)I"⟩, prog_1_method_41_code, 2, (some .int), 10, 4, 426, 71, 425, 0),
  (⟨"DrownedBells", "bellOf", "(II)I"⟩, prog_1_method_11_code, 3, (some .int), 10, 4, 579, 71, 577, 578),
  (⟨"DrownedBells", "understanding", "(III)I"⟩, prog_1_method_49_code, 5, (some .int), 10, 4, 628, 71, 627, 7),
  (⟨"DrownedBells", "isMeant", "(I)Z"⟩, prog_1_method_48_code, 2, (some .boolean), 10, 4, 719, 71, 718, 11),
  (⟨"DrownedBells$Text", "match", "(II)I"⟩, prog_10_method_7_code, 5, (some .int), 8, 4, 829, 82, 828, 15),
  (⟨"DrownedBells$Text", "numberOf", "(II)I"⟩, prog_10_method_3_code, 6, (some .int), 8, 4, 920, 82, 918, 919),
  (⟨"DrownedBells", "undo", "()I"⟩, prog_1_method_38_code, 1, (some .int), 10, 4, 997, 71, 995, 996),
  (⟨"DrownedBellsModel", "word", "(I)I"⟩, prog_13_method_34_code, 3, (some .int), 11, 4, 1188, 83, 1186, 1187),
  (⟨"DrownedBellsModel", "said", "(II)I"⟩, prog_13_method_52_code, 3, (some .int), 11, 4, 1303, 83, 1301, 1302),
  (⟨"DrownedBellsModel", "silences", "(I)I"⟩, prog_13_method_53_code, 4, (some .int), 11, 4, 1311, 83, 1309, 1310),
  (⟨"DrownedBellsModel", "clears", "(III)I"⟩, prog_13_method_57_code, 7, (some .int), 11, 4, 1336, 83, 1335, 45),
  (⟨"DrownedBellsModel", "write", "(I)I"⟩, prog_13_method_82_code, 5, (some .int), 11, 4, 1417, 83, 1415, 1416),
  (⟨"DrownedBellsModel", "kindHere", "()I"⟩, prog_13_method_94_code, 6, (some .int), 11, 4, 1461, 83, 1460, 58),
  (⟨"DrownedBellsModel", "does", "(I)I"⟩, prog_13_method_101_code, 4, (some .int), 11, 4, 1507, 83, 1506, 68),
  (⟨"DrownedBells", "<init>", "()V"⟩, prog_1_method_1_code, 1, none, 10, 5, 93, 71, 92, 0),
  (⟨"DrownedBells", "hang", "(II)I"⟩, prog_1_method_2_code, 3, (some .int), 10, 5, 372, 71, 370, 371),
  (⟨"DrownedBells", "splice", "(I)I"⟩, prog_1_method_3_code, 2, (some .int), 10, 5, 439, 71, 437, 438),
  (⟨"DrownedBells", "settledDraft", "(I)I"⟩, prog_1_method_42_code, 2, (some .int), 10, 5, 484, 71, 483, 3),
  (⟨"DrownedBells", "strike", "(I)I"⟩, prog_1_method_6_code, 2, (some .int), 10, 5, 492, 71, 490, 491),
  (⟨"DrownedBells", "swim", "(II)I"⟩, prog_1_method_7_code, 3, (some .int), 10, 5, 507, 71, 505, 506),
  (⟨"DrownedBells", "dive", "(II)I"⟩, prog_1_method_8_code, 3, (some .int), 10, 5, 520, 71, 518, 519),
  (⟨"DrownedBells", "go", "(I)I"⟩, prog_1_method_9_code, 2, (some .int), 10, 5, 531, 71, 529, 530),
  (⟨"DrownedBells", "pealsUnderstoodBy", "(I)I"⟩, prog_1_method_47_code, 6, (some .int), 10, 5, 624, 71, 623, 6),
  (⟨"DrownedBells", "said", "(II)I"⟩, prog_1_method_17_code, 3, (some .int), 10, 5, 715, 71, 713, 714),
  (⟨"DrownedBells", "silences", "(I)I"⟩, prog_1_method_18_code, 2, (some .int), 10, 5, 723, 71, 721, 722),
  (⟨"DrownedBells", "understands", "(II)I"⟩, prog_1_method_21_code, 4, (some .int), 10, 5, 736, 71, 734, 735),
  (⟨"DrownedBells", "needs", "(II)I"⟩, prog_1_method_22_code, 5, (some .int), 10, 5, 740, 71, 738, 739),
  (⟨"DrownedBells", "meantShare", "()F"⟩, prog_1_method_29_code, 4, (some .float), 10, 5, 785, 71, 783, 784),
  (⟨"DrownedBells", "write", "(I)I"⟩, prog_1_method_31_code, 4, (some .int), 10, 5, 793, 71, 791, 792),
  (⟨"DrownedBells$Text", "commandFrom", "(I)I"⟩, prog_10_method_5_code, 3, (some .int), 8, 5, 825, 82, 824, 14),
  (⟨"DrownedBells$Text", "longestMatch", "(I)I"⟩, prog_10_method_6_code, 4, (some .int), 8, 5, 901, 82, 900, 16),
  (⟨"DrownedBells", "perform", "(I)I"⟩, prog_1_method_44_code, 4, (some .int), 10, 5, 916, 71, 915, 19),
  (⟨"DrownedBellsModel", "clearsTo", "(II)I"⟩, prog_13_method_58_code, 4, (some .int), 11, 5, 1332, 83, 1331, 44),
  (⟨"DrownedBellsModel", "needs", "(II)I"⟩, prog_13_method_60_code, 5, (some .int), 11, 5, 1340, 83, 1338, 1339),
  (⟨"DrownedBellsModel", "readsCommand", "()V"⟩, prog_13_method_97_code, 3, none, 11, 5, 1457, 83, 1456, 57),
  (⟨"DrownedBells", "word", "(I)I"⟩, prog_1_method_5_code, 2, (some .int), 10, 6, 463, 71, 461, 462),
  (⟨"DrownedBells", "ring", "()I"⟩, prog_1_method_10_code, 1, (some .int), 10, 6, 540, 71, 538, 539),
  (⟨"DrownedBells", "swimmerOf", "(II)I"⟩, prog_1_method_13_code, 3, (some .int), 10, 6, 616, 71, 614, 615),
  (⟨"DrownedBells", "ranked", "(I)I"⟩, prog_1_method_24_code, 4, (some .int), 10, 6, 752, 71, 750, 751),
  (⟨"DrownedBells$Text", "findFault", "()I"⟩, prog_10_method_2_code, 5, (some .int), 8, 6, 820, 82, 818, 819),
  (⟨"DrownedBells", "performAll", "()I"⟩, prog_1_method_43_code, 3, (some .int), 10, 6, 912, 71, 911, 18),
  (⟨"DrownedBellsModel", "understands", "(II)I"⟩, prog_13_method_59_code, 3, (some .int), 11, 6, 1328, 83, 1326, 1327),
  (⟨"DrownedBellsModel", "understood", "(I)I"⟩, prog_13_method_68_code, 4, (some .int), 11, 6, 1376, 83, 1375, 50),
  (⟨"DrownedBellsModel", "readsAll", "()V"⟩, prog_13_method_98_code, 2, none, 11, 6, 1453, 83, 1452, 56),
  (⟨"DrownedBells", "read", "()I"⟩, prog_1_method_35_code, 3, (some .int), 10, 7, 816, 71, 814, 815),
  (⟨"DrownedBellsModel", "swimmerOf", "(II)I"⟩, prog_13_method_69_code, 3, (some .int), 11, 7, 1368, 83, 1366, 1367),
  (⟨"DrownedBellsModel", "ranked", "(I)I"⟩, prog_13_method_70_code, 8, (some .int), 11, 7, 1380, 83, 1378, 1379),
  (⟨"DrownedBellsModel", "read", "()I"⟩, prog_13_method_102_code, 4, (some .int), 11, 7, 1449, 83, 1447, 1448)]
/-- the links: class, index, kind, two numbers, the place of its word -/
def jb_L : List (Nat × Nat × Nat × Nat × Nat × Nat) := [(6, 3, 8, 0, 0, 114), (6, 9, 0, 6, 1, 119), (6, 15, 15, 0, 0, 115), (6, 21, 0, 6, 0, 118), (5, 3, 8, 0, 0, 258), (5, 9, 0, 5, 0, 259), (5, 15, 0, 5, 1, 261), (5, 18, 0, 5, 2, 263), (5, 21, 0, 5, 3, 265), (2, 17, 0, 2, 1, 243), (2, 11, 0, 2, 0, 242), (6, 25, 15, 1, 0, 667), (3, 87, 15, 1, 0, 681), (8, 87, 11, 0, 0, 833), (8, 89, 11, 1, 0, 834), (8, 91, 11, 2, 0, 835), (8, 93, 11, 3, 0, 836), (8, 95, 11, 4, 0, 837), (8, 97, 11, 5, 0, 838), (8, 99, 11, 6, 0, 839), (8, 101, 11, 7, 0, 840), (8, 103, 11, 8, 0, 841), (13, 38, 13, 0, 0, 850), (13, 15, 14, 1, 0, 1513), (10, 84, 0, 10, 16, 333), (10, 32, 0, 10, 4, 321), (10, 281, 1, 5, 0, 260), (10, 284, 1, 5, 1, 262), (10, 287, 1, 5, 3, 266), (10, 290, 1, 5, 2, 264), (2, 21, 0, 2, 2, 244), (11, 3, 8, 0, 0, 1019), (11, 9, 0, 11, 0, 1020), (11, 13, 0, 11, 1, 1021), (11, 16, 0, 11, 2, 1022), (11, 19, 0, 11, 3, 1023), (11, 22, 0, 11, 10, 1030), (11, 26, 0, 11, 11, 1031), (11, 29, 0, 11, 13, 1033), (11, 32, 0, 11, 15, 1035), (11, 35, 0, 11, 19, 1039), (11, 38, 0, 11, 21, 1041), (11, 41, 0, 11, 22, 1042), (11, 44, 0, 11, 23, 1043), (11, 47, 0, 11, 25, 1045), (11, 50, 0, 11, 30, 1050), (11, 53, 0, 11, 17, 1037), (11, 56, 0, 11, 18, 1038), (11, 121, 0, 11, 12, 1032), (11, 124, 0, 11, 20, 1040), (11, 171, 15, 1, 0, 1265), (11, 256, 0, 11, 27, 1047), (11, 259, 0, 11, 26, 1046), (6, 40, 2, 1, 1, 130), (1, 3, 8, 0, 0, 152), (1, 9, 9, 6, 0, 153), (1, 11, 6, 0, 1, 154), (1, 14, 0, 1, 0, 155), (1, 20, 0, 1, 1, 158), (1, 23, 0, 1, 2, 161), (7, 3, 8, 0, 0, 175), (7, 9, 9, 6, 0, 176), (7, 11, 6, 0, 1, 177), (7, 14, 0, 7, 0, 178), (7, 20, 0, 7, 1, 180), (3, 3, 8, 0, 0, 281), (3, 9, 9, 6, 0, 282), (3, 13, 6, 0, 1, 283), (3, 16, 0, 3, 0, 284), (3, 20, 0, 3, 1, 285), (8, 3, 8, 0, 0, 297), (8, 9, 9, 6, 0, 298), (8, 11, 6, 0, 1, 299), (8, 14, 0, 8, 0, 300), (8, 20, 0, 8, 1, 302), (8, 23, 0, 8, 2, 304), (8, 26, 0, 8, 3, 305), (0, 14, 0, 0, 0, 134), (0, 30, 2, 3, 1, 381), (0, 20, 0, 0, 1, 136), (0, 23, 0, 0, 2, 138), (1, 26, 2, 3, 1, 389), (7, 23, 2, 3, 1, 394), (4, 14, 0, 4, 0, 196), (4, 27, 2, 3, 1, 399), (4, 20, 0, 4, 1, 198), (0, 34, 2, 4, 1, 404), (0, 38, 5, 5, 1, 408), (0, 41, 2, 6, 1, 411), (0, 45, 2, 7, 2, 415), (0, 51, 2, 8, 2, 419), (10, 110, 4, 10, 1, 448), (10, 55, 0, 10, 7, 324), (10, 113, 2, 11, 0, 451), (10, 117, 2, 1, 1, 455), (10, 120, 2, 12, 0, 456), (1, 58, 2, 4, 1, 474), (1, 40, 2, 6, 1, 470), (1, 30, 2, 12, 0, 468), (6, 36, 2, 4, 1, 501), (6, 28, 2, 6, 1, 502), (6, 32, 2, 8, 2, 503), (7, 27, 5, 5, 1, 512), (7, 31, 2, 11, 0, 513), (7, 35, 2, 7, 2, 514), (7, 41, 2, 1, 1, 515), (7, 44, 2, 12, 0, 516), (7, 48, 2, 4, 1, 525), (7, 51, 2, 6, 1, 526), (7, 55, 2, 8, 2, 527), (4, 42, 2, 6, 1, 565), (4, 46, 2, 8, 2, 566), (0, 61, 15, 2, 0, 590), (1, 65, 4, 14, 2, 605), (4, 31, 2, 4, 1, 638), (3, 24, 2, 12, 0, 649), (3, 43, 2, 6, 1, 653), (3, 36, 4, 15, 2, 655), (3, 65, 2, 16, 3, 663), (3, 59, 1, 1, 1, 159), (3, 50, 1, 1, 0, 156), (3, 62, 4, 17, 1, 678), (10, 65, 0, 10, 10, 327), (10, 164, 2, 6, 1, 581), (10, 77, 0, 10, 14, 331), (10, 59, 0, 10, 8, 325), (10, 160, 2, 4, 1, 580), (10, 46, 0, 10, 6, 323), (10, 263, 1, 8, 0, 301), (13, 9, 14, 0, 0, 1512), (13, 335, 2, 21, 0, 846), (13, 1053, 13, 1, 0, 866), (13, 1059, 4, 23, 3, 868), (8, 69, 5, 10, 1, 894), (8, 72, 5, 24, 1, 895), (14, 88, 4, 25, 1, 933), (14, 92, 15, 0, 0, 936), (14, 38, 15, 1, 0, 937), (14, 95, 4, 26, 4, 938), (5, 24, 2, 7, 2, 984), (11, 85, 4, 31, 3, 1118), (11, 66, 0, 11, 6, 1026), (11, 72, 0, 11, 8, 1028), (11, 69, 0, 11, 7, 1027), (11, 75, 0, 11, 9, 1029), (11, 63, 0, 11, 5, 1025), (11, 59, 4, 32, 4, 1125), (11, 89, 0, 11, 4, 1024), (11, 93, 2, 34, 3, 1157), (11, 107, 4, 33, 1, 1150), (11, 130, 4, 36, 1, 1204), (11, 156, 4, 37, 1, 1234), (11, 176, 2, 38, 0, 1261), (11, 127, 4, 39, 1, 1278), (11, 205, 15, 2, 0, 1324), (11, 244, 2, 43, 2, 1422), (11, 253, 0, 11, 16, 1036), (11, 241, 0, 11, 14, 1034), (11, 262, 0, 11, 28, 1048), (11, 265, 2, 46, 0, 1476), (0, 3, 8, 0, 0, 108), (0, 9, 9, 6, 0, 109), (0, 11, 6, 0, 1, 111), (0, 26, 2, 48, 2, 126), (4, 3, 8, 0, 0, 192), (4, 9, 9, 6, 0, 193), (4, 11, 6, 0, 1, 194), (4, 23, 2, 48, 2, 195), (9, 12, 0, 9, 0, 204), (9, 49, 2, 53, 1, 377), (9, 21, 0, 9, 1, 206), (9, 53, 2, 54, 1, 385), (9, 28, 0, 9, 2, 208), (9, 56, 2, 55, 1, 390), (9, 35, 0, 9, 3, 210), (9, 59, 2, 56, 1, 395), (9, 39, 0, 9, 4, 212), (9, 43, 0, 9, 5, 214), (9, 46, 0, 9, 6, 216), (1, 34, 2, 7, 2, 469), (1, 44, 4, 60, 1, 471), (1, 48, 2, 61, 1, 475), (1, 51, 2, 11, 0, 479), (1, 55, 2, 1, 1, 480), (1, 62, 2, 62, 1, 497), (7, 59, 2, 62, 1, 536), (0, 54, 2, 12, 0, 551), (0, 58, 2, 65, 1, 552), (4, 35, 2, 66, 1, 560), (4, 38, 2, 12, 0, 564), (10, 10, 0, 10, 0, 317), (10, 140, 1, 9, 2, 209), (10, 189, 1, 7, 0, 179), (10, 190, 1, 7, 1, 181), (10, 92, 1, 9, 0, 205), (10, 226, 2, 68, 3, 586), (1, 68, 2, 69, 2, 601), (4, 49, 2, 13, 0, 633), (4, 52, 2, 70, 2, 634), (4, 56, 2, 1, 1, 639), (3, 28, 4, 71, 1, 650), (3, 32, 2, 48, 2, 654), (3, 40, 2, 8, 2, 658), (3, 47, 2, 72, 2, 659), (3, 55, 2, 73, 3, 670), (3, 69, 2, 74, 3, 674), (10, 199, 1, 9, 3, 211), (10, 223, 2, 70, 2, 728), (10, 233, 2, 13, 0, 485), (10, 167, 1, 0, 1, 137), (10, 157, 1, 0, 0, 135), (10, 239, 2, 78, 1, 753), (10, 124, 1, 9, 1, 207), (10, 179, 1, 1, 0, 157), (10, 242, 1, 1, 2, 162), (10, 249, 2, 79, 0, 773), (10, 255, 12, 4617315517961601024, 0, 781), (10, 245, 1, 4, 0, 197), (10, 257, 1, 9, 4, 213), (10, 252, 1, 9, 5, 215), (10, 260, 1, 9, 6, 217), (10, 25, 0, 10, 3, 320), (10, 266, 1, 2, 2, 245), (10, 271, 4, 19, 1, 797), (10, 182, 1, 1, 1, 160), (10, 274, 2, 69, 2, 804), (10, 268, 4, 18, 1, 794), (14, 9, 4, 83, 2, 863), (8, 53, 4, 20, 1, 830), (8, 62, 2, 82, 0, 842), (8, 46, 2, 12, 0, 907), (8, 50, 2, 6, 1, 890), (13, 492, 2, 22, 0, 856), (13, 505, 2, 82, 0, 929), (13, 637, 4, 85, 4, 930), (8, 29, 2, 13, 0, 821), (8, 43, 2, 1, 1, 908), (11, 78, 2, 95, 4, 1165), (11, 82, 2, 96, 0, 1169), (11, 133, 2, 100, 2, 1207), (11, 182, 4, 40, 1, 1285), (11, 185, 2, 41, 2, 1288), (11, 194, 2, 108, 1, 1270), (11, 165, 2, 105, 1, 1241), (11, 208, 2, 110, 3, 1320), (11, 218, 2, 111, 2, 1357), (11, 150, 2, 101, 1, 1215), (11, 233, 2, 113, 1, 1389), (11, 236, 2, 114, 0, 1401), (11, 239, 12, 4617315517961601024, 0, 1405), (11, 250, 2, 116, 2, 1426), (11, 247, 2, 115, 2, 1418), (11, 268, 2, 119, 2, 1472), (11, 271, 2, 120, 0, 1496), (11, 101, 4, 92, 1, 1143), (9, 3, 8, 0, 0, 102), (9, 9, 9, 0, 0, 103), (9, 11, 6, 121, 0, 105), (9, 18, 9, 1, 0, 147), (9, 20, 7, 49, 0, 149), (9, 25, 9, 7, 0, 170), (9, 27, 7, 50, 0, 172), (9, 32, 9, 4, 0, 187), (9, 34, 6, 122, 0, 189), (2, 25, 2, 9, 1, 431), (2, 29, 2, 123, 1, 435), (9, 62, 2, 12, 0, 545), (9, 68, 2, 7, 2, 546), (9, 74, 2, 127, 1, 547), (9, 78, 2, 128, 0, 556), (9, 81, 2, 6, 1, 567), (9, 85, 2, 129, 1, 568), (9, 88, 2, 67, 1, 572), (1, 71, 2, 131, 2, 597), (10, 185, 2, 131, 2, 612), (3, 73, 2, 13, 0, 644), (3, 76, 2, 134, 2, 645), (3, 80, 2, 135, 4, 682), (3, 84, 2, 1, 1, 686), (10, 203, 2, 76, 1, 695), (10, 206, 2, 133, 2, 629), (10, 39, 0, 10, 5, 322), (10, 210, 2, 136, 2, 699), (10, 214, 2, 134, 2, 707), (10, 71, 0, 10, 12, 329), (10, 236, 2, 77, 2, 745), (10, 246, 2, 141, 0, 769), (10, 170, 1, 0, 2, 139), (13, 495, 4, 145, 2, 860), (13, 633, 2, 147, 2, 925), (10, 19, 0, 10, 2, 319), (10, 88, 2, 123, 1, 373), (10, 80, 0, 10, 15, 332), (10, 296, 2, 29, 0, 1010), (11, 97, 4, 91, 1, 1140), (11, 104, 2, 93, 0, 1146), (11, 111, 2, 94, 2, 1153), (11, 115, 2, 149, 1, 1161), (11, 118, 2, 97, 1, 1177), (11, 137, 2, 150, 0, 1200), (11, 153, 2, 102, 1, 1219), (11, 159, 4, 103, 1, 1227), (11, 162, 2, 104, 2, 1230), (11, 168, 2, 106, 1, 1249), (11, 144, 2, 35, 0, 1192), (11, 179, 2, 107, 0, 1257), (11, 197, 2, 109, 1, 1274), (11, 191, 2, 151, 0, 1281), (11, 188, 0, 11, 24, 1044), (11, 221, 2, 154, 1, 1349), (11, 224, 2, 155, 1, 1353), (11, 288, 2, 162, 0, 1480), (11, 291, 2, 163, 0, 1484), (11, 294, 2, 164, 0, 1488), (11, 297, 2, 165, 1, 1492), (2, 3, 8, 0, 0, 238), (2, 9, 10, 9, 0, 239), (2, 9, 9, 9, 0, 239), (2, 24, 7, 167, 0, 241), (10, 16, 0, 10, 1, 318), (10, 297, 2, 168, 1, 427), (10, 173, 2, 130, 1, 582), (10, 176, 2, 170, 1, 593), (10, 74, 0, 10, 13, 330), (10, 316, 2, 172, 3, 640), (10, 68, 0, 10, 11, 328), (10, 319, 2, 75, 1, 687), (8, 65, 2, 178, 1, 852), (8, 83, 4, 84, 2, 891), (8, 57, 2, 179, 1, 921), (10, 293, 2, 180, 1, 998), (11, 141, 4, 99, 1, 1189), (11, 147, 2, 185, 1, 1196), (11, 201, 2, 194, 0, 1304), (11, 274, 4, 45, 1, 1462), (11, 277, 11, 9, 0, 1465), (11, 279, 2, 178, 1, 1466), (11, 285, 15, 0, 0, 1467), (11, 313, 2, 47, 1, 1508), (10, 1, 8, 0, 0, 94), (10, 7, 9, 9, 0, 97), (10, 9, 7, 167, 0, 99), (10, 22, 9, 2, 0, 233), (10, 24, 6, 199, 0, 235), (10, 29, 9, 5, 0, 253), (10, 31, 7, 2, 0, 255), (10, 36, 9, 3, 0, 276), (10, 38, 7, 51, 0, 278), (10, 43, 9, 8, 0, 292), (10, 45, 7, 52, 0, 294), (10, 50, 9, 6, 0, 315), (10, 52, 6, 0, 1, 316), (10, 62, 0, 10, 9, 326), (10, 96, 2, 57, 3, 400), (10, 102, 2, 200, 1, 423), (10, 106, 2, 58, 2, 440), (10, 137, 2, 125, 1, 493), (10, 144, 2, 63, 3, 508), (10, 149, 2, 64, 3, 521), (10, 150, 2, 126, 1, 532), (10, 230, 2, 202, 3, 625), (10, 217, 2, 203, 1, 716), (10, 220, 1, 3, 1, 286), (8, 75, 2, 204, 2, 826), (8, 78, 15, 0, 0, 902), (10, 310, 2, 205, 2, 917), (10, 313, 2, 148, 2, 976), (10, 300, 1, 8, 1, 303), (10, 128, 2, 124, 3, 464), (10, 153, 2, 169, 2, 541), (11, 211, 2, 210, 3, 1333), (11, 300, 0, 11, 29, 1049), (11, 303, 2, 212, 0, 1458), (11, 306, 2, 198, 2, 1468), (10, 134, 2, 217, 1, 481), (10, 193, 2, 132, 1, 617), (10, 196, 2, 222, 1, 621), (8, 32, 2, 229, 1, 822), (8, 36, 2, 230, 1, 898), (8, 39, 2, 146, 2, 903), (10, 303, 2, 231, 1, 913), (10, 306, 2, 86, 2, 980), (11, 215, 2, 232, 2, 1329), (11, 310, 2, 234, 0, 1454), (10, 275, 2, 239, 0, 817), (10, 278, 2, 240, 0, 909), (11, 227, 2, 157, 1, 1369), (11, 230, 2, 242, 1, 1373), (11, 316, 2, 243, 0, 1450), (11, 319, 2, 166, 1, 1500), (11, 322, 2, 213, 1, 1504)]
def jb_S : List String := ["hang B D", "splice B", "word K S", "strike D", "swim D D", "dive D D", "go D", "ring S", "", "hang splice word strike swim dive go ring "]
