section
-- ===== PART A: goes FIRST, ahead of the names: the tables' words, and 'selects' of the private methods out of them =====
/-- a private method of a class that the tables say can be made, by its rows of tables_1 -/
def lw_okq (q : MethodName × Nat) : Prop := (q.1.cls ≠ "java/lang/invoke/MethodHandle" ∧ q.1.cls ≠ "java/lang/invoke/VarHandle") ∧ Cond.instantiable q.1.cls q.2 ∈ tables_1 ∧ Cond.privateMethod q.1 ∈ tables_1 ∧ Cond.instanceMethod q.1 ∈ tables_1
theorem lw_p0 : lw_okq (⟨"DrownedBells", "settled", "(I)I"⟩, 17) := ⟨⟨by decide +kernel, by decide +kernel⟩, List.mem_of_getElem? (i := 20) (by decide +kernel), List.mem_of_getElem? (i := 354) (by decide +kernel), List.mem_of_getElem? (i := 355) (by decide +kernel)⟩
theorem lw_p1 : lw_okq (⟨"DrownedBells$History", "slotOf", "(I)LDrownedBells$Village;"⟩, 3) := ⟨⟨by decide +kernel, by decide +kernel⟩, List.mem_of_getElem? (i := 164) (by decide +kernel), List.mem_of_getElem? (i := 362) (by decide +kernel), List.mem_of_getElem? (i := 363) (by decide +kernel)⟩
theorem lw_p2 : lw_okq (⟨"DrownedBells$Book", "wordSpelt", "(I)I"⟩, 3) := ⟨⟨by decide +kernel, by decide +kernel⟩, List.mem_of_getElem? (i := 78) (by decide +kernel), List.mem_of_getElem? (i := 406) (by decide +kernel), List.mem_of_getElem? (i := 407) (by decide +kernel)⟩
theorem lw_p3 : lw_okq (⟨"DrownedBells", "settledDraft", "(I)I"⟩, 17) := ⟨⟨by decide +kernel, by decide +kernel⟩, List.mem_of_getElem? (i := 20) (by decide +kernel), List.mem_of_getElem? (i := 412) (by decide +kernel), List.mem_of_getElem? (i := 413) (by decide +kernel)⟩
theorem lw_p4 : lw_okq (⟨"DrownedBells", "swimmersWhoHear", "(I)I"⟩, 17) := ⟨⟨by decide +kernel, by decide +kernel⟩, List.mem_of_getElem? (i := 20) (by decide +kernel), List.mem_of_getElem? (i := 513) (by decide +kernel), List.mem_of_getElem? (i := 514) (by decide +kernel)⟩
theorem lw_p5 : lw_okq (⟨"DrownedBells", "bellsHeardBy", "(I)I"⟩, 17) := ⟨⟨by decide +kernel, by decide +kernel⟩, List.mem_of_getElem? (i := 20) (by decide +kernel), List.mem_of_getElem? (i := 548) (by decide +kernel), List.mem_of_getElem? (i := 549) (by decide +kernel)⟩
theorem lw_p6 : lw_okq (⟨"DrownedBells", "pealsUnderstoodBy", "(I)I"⟩, 17) := ⟨⟨by decide +kernel, by decide +kernel⟩, List.mem_of_getElem? (i := 20) (by decide +kernel), List.mem_of_getElem? (i := 552) (by decide +kernel), List.mem_of_getElem? (i := 553) (by decide +kernel)⟩
theorem lw_p7 : lw_okq (⟨"DrownedBells", "understanding", "(III)I"⟩, 17) := ⟨⟨by decide +kernel, by decide +kernel⟩, List.mem_of_getElem? (i := 20) (by decide +kernel), List.mem_of_getElem? (i := 556) (by decide +kernel), List.mem_of_getElem? (i := 557) (by decide +kernel)⟩
theorem lw_p8 : lw_okq (⟨"DrownedBells$Parser", "passSilence", "(II)V"⟩, 2) := ⟨⟨by decide +kernel, by decide +kernel⟩, List.mem_of_getElem? (i := 207) (by decide +kernel), List.mem_of_getElem? (i := 590) (by decide +kernel), List.mem_of_getElem? (i := 591) (by decide +kernel)⟩
theorem lw_p9 : lw_okq (⟨"DrownedBells$Parser", "waysBehind", "(LDrownedBells$Book;II)I"⟩, 2) := ⟨⟨by decide +kernel, by decide +kernel⟩, List.mem_of_getElem? (i := 207) (by decide +kernel), List.mem_of_getElem? (i := 605) (by decide +kernel), List.mem_of_getElem? (i := 606) (by decide +kernel)⟩
theorem lw_p10 : lw_okq (⟨"DrownedBells$Parser", "wordOnTheWay", "(LDrownedBells$Book;LDrownedBells$Row;II)I"⟩, 2) := ⟨⟨by decide +kernel, by decide +kernel⟩, List.mem_of_getElem? (i := 207) (by decide +kernel), List.mem_of_getElem? (i := 613) (by decide +kernel), List.mem_of_getElem? (i := 614) (by decide +kernel)⟩
theorem lw_p11 : lw_okq (⟨"DrownedBells", "isMeant", "(I)Z"⟩, 17) := ⟨⟨by decide +kernel, by decide +kernel⟩, List.mem_of_getElem? (i := 20) (by decide +kernel), List.mem_of_getElem? (i := 647) (by decide +kernel), List.mem_of_getElem? (i := 648) (by decide +kernel)⟩
theorem lw_p12 : lw_okq (⟨"DrownedBells", "echoAt", "(II)I"⟩, 17) := ⟨⟨by decide +kernel, by decide +kernel⟩, List.mem_of_getElem? (i := 20) (by decide +kernel), List.mem_of_getElem? (i := 676) (by decide +kernel), List.mem_of_getElem? (i := 677) (by decide +kernel)⟩
theorem lw_p13 : lw_okq (⟨"DrownedBells", "inOrder", "(I)I"⟩, 17) := ⟨⟨by decide +kernel, by decide +kernel⟩, List.mem_of_getElem? (i := 20) (by decide +kernel), List.mem_of_getElem? (i := 684) (by decide +kernel), List.mem_of_getElem? (i := 685) (by decide +kernel)⟩
theorem lw_p14 : lw_okq (⟨"DrownedBells$Text", "commandFrom", "(I)I"⟩, 4) := ⟨⟨by decide +kernel, by decide +kernel⟩, List.mem_of_getElem? (i := 223) (by decide +kernel), List.mem_of_getElem? (i := 753) (by decide +kernel), List.mem_of_getElem? (i := 754) (by decide +kernel)⟩
theorem lw_p15 : lw_okq (⟨"DrownedBells$Text", "match", "(II)I"⟩, 4) := ⟨⟨by decide +kernel, by decide +kernel⟩, List.mem_of_getElem? (i := 223) (by decide +kernel), List.mem_of_getElem? (i := 757) (by decide +kernel), List.mem_of_getElem? (i := 758) (by decide +kernel)⟩
def lw_privs_1 : List (MethodName × Nat) := [(⟨"DrownedBells", "settled", "(I)I"⟩, 17), (⟨"DrownedBells$History", "slotOf", "(I)LDrownedBells$Village;"⟩, 3), (⟨"DrownedBells$Book", "wordSpelt", "(I)I"⟩, 3), (⟨"DrownedBells", "settledDraft", "(I)I"⟩, 17), (⟨"DrownedBells", "swimmersWhoHear", "(I)I"⟩, 17), (⟨"DrownedBells", "bellsHeardBy", "(I)I"⟩, 17), (⟨"DrownedBells", "pealsUnderstoodBy", "(I)I"⟩, 17), (⟨"DrownedBells", "understanding", "(III)I"⟩, 17), (⟨"DrownedBells$Parser", "passSilence", "(II)V"⟩, 2), (⟨"DrownedBells$Parser", "waysBehind", "(LDrownedBells$Book;II)I"⟩, 2), (⟨"DrownedBells$Parser", "wordOnTheWay", "(LDrownedBells$Book;LDrownedBells$Row;II)I"⟩, 2), (⟨"DrownedBells", "isMeant", "(I)Z"⟩, 17), (⟨"DrownedBells", "echoAt", "(II)I"⟩, 17), (⟨"DrownedBells", "inOrder", "(I)I"⟩, 17), (⟨"DrownedBells$Text", "commandFrom", "(I)I"⟩, 4), (⟨"DrownedBells$Text", "match", "(II)I"⟩, 4)]
theorem lw_r1 : ∀ q ∈ lw_privs_1, lw_okq q := List.forall_mem_cons.mpr ⟨lw_p0, List.forall_mem_cons.mpr ⟨lw_p1, List.forall_mem_cons.mpr ⟨lw_p2, List.forall_mem_cons.mpr ⟨lw_p3, List.forall_mem_cons.mpr ⟨lw_p4, List.forall_mem_cons.mpr ⟨lw_p5, List.forall_mem_cons.mpr ⟨lw_p6, List.forall_mem_cons.mpr ⟨lw_p7, List.forall_mem_cons.mpr ⟨lw_p8, List.forall_mem_cons.mpr ⟨lw_p9, List.forall_mem_cons.mpr ⟨lw_p10, List.forall_mem_cons.mpr ⟨lw_p11, List.forall_mem_cons.mpr ⟨lw_p12, List.forall_mem_cons.mpr ⟨lw_p13, List.forall_mem_cons.mpr ⟨lw_p14, List.forall_mem_cons.mpr ⟨lw_p15, fun _ h => absurd h List.not_mem_nil⟩⟩⟩⟩⟩⟩⟩⟩⟩⟩⟩⟩⟩⟩⟩⟩
theorem lw_p16 : lw_okq (⟨"DrownedBells$Text", "longestMatch", "(I)I"⟩, 4) := ⟨⟨by decide +kernel, by decide +kernel⟩, List.mem_of_getElem? (i := 223) (by decide +kernel), List.mem_of_getElem? (i := 829) (by decide +kernel), List.mem_of_getElem? (i := 830) (by decide +kernel)⟩
theorem lw_p17 : lw_okq (⟨"DrownedBells$Text", "endOf", "(II)I"⟩, 4) := ⟨⟨by decide +kernel, by decide +kernel⟩, List.mem_of_getElem? (i := 223) (by decide +kernel), List.mem_of_getElem? (i := 834) (by decide +kernel), List.mem_of_getElem? (i := 835) (by decide +kernel)⟩
theorem lw_p18 : lw_okq (⟨"DrownedBells", "performAll", "()I"⟩, 17) := ⟨⟨by decide +kernel, by decide +kernel⟩, List.mem_of_getElem? (i := 20) (by decide +kernel), List.mem_of_getElem? (i := 840) (by decide +kernel), List.mem_of_getElem? (i := 841) (by decide +kernel)⟩
theorem lw_p19 : lw_okq (⟨"DrownedBells", "perform", "(I)I"⟩, 17) := ⟨⟨by decide +kernel, by decide +kernel⟩, List.mem_of_getElem? (i := 20) (by decide +kernel), List.mem_of_getElem? (i := 844) (by decide +kernel), List.mem_of_getElem? (i := 845) (by decide +kernel)⟩
theorem lw_p20 : lw_okq (⟨"DrownedBellsModel", "starts", "()V"⟩, 31) := ⟨⟨by decide +kernel, by decide +kernel⟩, List.mem_of_getElem? (i := 945) (by decide +kernel), List.mem_of_getElem? (i := 1077) (by decide +kernel), List.mem_of_getElem? (i := 1078) (by decide +kernel)⟩
theorem lw_p21 : lw_okq (⟨"DrownedBellsModel", "becomes", "(II)I"⟩, 31) := ⟨⟨by decide +kernel, by decide +kernel⟩, List.mem_of_getElem? (i := 945) (by decide +kernel), List.mem_of_getElem? (i := 1084) (by decide +kernel), List.mem_of_getElem? (i := 1085) (by decide +kernel)⟩
theorem lw_p22 : lw_okq (⟨"DrownedBellsModel", "hinders", "(ZII)V"⟩, 31) := ⟨⟨by decide +kernel, by decide +kernel⟩, List.mem_of_getElem? (i := 945) (by decide +kernel), List.mem_of_getElem? (i := 1088) (by decide +kernel), List.mem_of_getElem? (i := 1089) (by decide +kernel)⟩
theorem lw_p23 : lw_okq (⟨"DrownedBellsModel", "ends", "(I)I"⟩, 31) := ⟨⟨by decide +kernel, by decide +kernel⟩, List.mem_of_getElem? (i := 945) (by decide +kernel), List.mem_of_getElem? (i := 1092) (by decide +kernel), List.mem_of_getElem? (i := 1093) (by decide +kernel)⟩
theorem lw_p24 : lw_okq (⟨"DrownedBellsModel", "refuses", "(IIII)I"⟩, 31) := ⟨⟨by decide +kernel, by decide +kernel⟩, List.mem_of_getElem? (i := 945) (by decide +kernel), List.mem_of_getElem? (i := 1096) (by decide +kernel), List.mem_of_getElem? (i := 1097) (by decide +kernel)⟩
theorem lw_p25 : lw_okq (⟨"DrownedBellsModel", "remembers", "()V"⟩, 31) := ⟨⟨by decide +kernel, by decide +kernel⟩, List.mem_of_getElem? (i := 945) (by decide +kernel), List.mem_of_getElem? (i := 1100) (by decide +kernel), List.mem_of_getElem? (i := 1101) (by decide +kernel)⟩
theorem lw_p26 : lw_okq (⟨"DrownedBellsModel", "renews", "(I)I"⟩, 31) := ⟨⟨by decide +kernel, by decide +kernel⟩, List.mem_of_getElem? (i := 945) (by decide +kernel), List.mem_of_getElem? (i := 1108) (by decide +kernel), List.mem_of_getElem? (i := 1109) (by decide +kernel)⟩
theorem lw_p27 : lw_okq (⟨"DrownedBellsModel", "takesDraft", "()V"⟩, 31) := ⟨⟨by decide +kernel, by decide +kernel⟩, List.mem_of_getElem? (i := 945) (by decide +kernel), List.mem_of_getElem? (i := 1123) (by decide +kernel), List.mem_of_getElem? (i := 1124) (by decide +kernel)⟩
theorem lw_p28 : lw_okq (⟨"DrownedBellsModel", "adds", "(I)I"⟩, 31) := ⟨⟨by decide +kernel, by decide +kernel⟩, List.mem_of_getElem? (i := 945) (by decide +kernel), List.mem_of_getElem? (i := 1127) (by decide +kernel), List.mem_of_getElem? (i := 1128) (by decide +kernel)⟩
theorem lw_p29 : lw_okq (⟨"DrownedBellsModel", "same", "()I"⟩, 31) := ⟨⟨by decide +kernel, by decide +kernel⟩, List.mem_of_getElem? (i := 945) (by decide +kernel), List.mem_of_getElem? (i := 1131) (by decide +kernel), List.mem_of_getElem? (i := 1132) (by decide +kernel)⟩
theorem lw_p30 : lw_okq (⟨"DrownedBellsModel", "isWordHere", "(II)Z"⟩, 31) := ⟨⟨by decide +kernel, by decide +kernel⟩, List.mem_of_getElem? (i := 945) (by decide +kernel), List.mem_of_getElem? (i := 1138) (by decide +kernel), List.mem_of_getElem? (i := 1139) (by decide +kernel)⟩
theorem lw_p31 : lw_okq (⟨"DrownedBellsModel", "isWord", "(I)Z"⟩, 31) := ⟨⟨by decide +kernel, by decide +kernel⟩, List.mem_of_getElem? (i := 945) (by decide +kernel), List.mem_of_getElem? (i := 1146) (by decide +kernel), List.mem_of_getElem? (i := 1147) (by decide +kernel)⟩
def lw_privs_2 : List (MethodName × Nat) := [(⟨"DrownedBells$Text", "longestMatch", "(I)I"⟩, 4), (⟨"DrownedBells$Text", "endOf", "(II)I"⟩, 4), (⟨"DrownedBells", "performAll", "()I"⟩, 17), (⟨"DrownedBells", "perform", "(I)I"⟩, 17), (⟨"DrownedBellsModel", "starts", "()V"⟩, 31), (⟨"DrownedBellsModel", "becomes", "(II)I"⟩, 31), (⟨"DrownedBellsModel", "hinders", "(ZII)V"⟩, 31), (⟨"DrownedBellsModel", "ends", "(I)I"⟩, 31), (⟨"DrownedBellsModel", "refuses", "(IIII)I"⟩, 31), (⟨"DrownedBellsModel", "remembers", "()V"⟩, 31), (⟨"DrownedBellsModel", "renews", "(I)I"⟩, 31), (⟨"DrownedBellsModel", "takesDraft", "()V"⟩, 31), (⟨"DrownedBellsModel", "adds", "(I)I"⟩, 31), (⟨"DrownedBellsModel", "same", "()I"⟩, 31), (⟨"DrownedBellsModel", "isWordHere", "(II)Z"⟩, 31), (⟨"DrownedBellsModel", "isWord", "(I)Z"⟩, 31)]
theorem lw_r2 : ∀ q ∈ lw_privs_2, lw_okq q := List.forall_mem_cons.mpr ⟨lw_p16, List.forall_mem_cons.mpr ⟨lw_p17, List.forall_mem_cons.mpr ⟨lw_p18, List.forall_mem_cons.mpr ⟨lw_p19, List.forall_mem_cons.mpr ⟨lw_p20, List.forall_mem_cons.mpr ⟨lw_p21, List.forall_mem_cons.mpr ⟨lw_p22, List.forall_mem_cons.mpr ⟨lw_p23, List.forall_mem_cons.mpr ⟨lw_p24, List.forall_mem_cons.mpr ⟨lw_p25, List.forall_mem_cons.mpr ⟨lw_p26, List.forall_mem_cons.mpr ⟨lw_p27, List.forall_mem_cons.mpr ⟨lw_p28, List.forall_mem_cons.mpr ⟨lw_p29, List.forall_mem_cons.mpr ⟨lw_p30, List.forall_mem_cons.mpr ⟨lw_p31, fun _ h => absurd h List.not_mem_nil⟩⟩⟩⟩⟩⟩⟩⟩⟩⟩⟩⟩⟩⟩⟩⟩
theorem lw_p32 : lw_okq (⟨"DrownedBellsModel", "strikes", "(I)I"⟩, 31) := ⟨⟨by decide +kernel, by decide +kernel⟩, List.mem_of_getElem? (i := 945) (by decide +kernel), List.mem_of_getElem? (i := 1150) (by decide +kernel), List.mem_of_getElem? (i := 1151) (by decide +kernel)⟩
theorem lw_p33 : lw_okq (⟨"DrownedBellsModel", "comes", "(II)I"⟩, 31) := ⟨⟨by decide +kernel, by decide +kernel⟩, List.mem_of_getElem? (i := 945) (by decide +kernel), List.mem_of_getElem? (i := 1161) (by decide +kernel), List.mem_of_getElem? (i := 1162) (by decide +kernel)⟩
theorem lw_p34 : lw_okq (⟨"DrownedBellsModel", "isSwimmer", "(I)Z"⟩, 31) := ⟨⟨by decide +kernel, by decide +kernel⟩, List.mem_of_getElem? (i := 945) (by decide +kernel), List.mem_of_getElem? (i := 1172) (by decide +kernel), List.mem_of_getElem? (i := 1173) (by decide +kernel)⟩
theorem lw_p35 : lw_okq (⟨"DrownedBellsModel", "leaves", "(I)I"⟩, 31) := ⟨⟨by decide +kernel, by decide +kernel⟩, List.mem_of_getElem? (i := 945) (by decide +kernel), List.mem_of_getElem? (i := 1180) (by decide +kernel), List.mem_of_getElem? (i := 1181) (by decide +kernel)⟩
theorem lw_p36 : lw_okq (⟨"DrownedBellsModel", "rings", "()I"⟩, 31) := ⟨⟨by decide +kernel, by decide +kernel⟩, List.mem_of_getElem? (i := 945) (by decide +kernel), List.mem_of_getElem? (i := 1188) (by decide +kernel), List.mem_of_getElem? (i := 1189) (by decide +kernel)⟩
theorem lw_p37 : lw_okq (⟨"DrownedBellsModel", "keepsOne", "()V"⟩, 31) := ⟨⟨by decide +kernel, by decide +kernel⟩, List.mem_of_getElem? (i := 945) (by decide +kernel), List.mem_of_getElem? (i := 1192) (by decide +kernel), List.mem_of_getElem? (i := 1193) (by decide +kernel)⟩
theorem lw_p38 : lw_okq (⟨"DrownedBellsModel", "isPeal", "(I)Z"⟩, 31) := ⟨⟨by decide +kernel, by decide +kernel⟩, List.mem_of_getElem? (i := 945) (by decide +kernel), List.mem_of_getElem? (i := 1201) (by decide +kernel), List.mem_of_getElem? (i := 1202) (by decide +kernel)⟩
theorem lw_p39 : lw_okq (⟨"DrownedBellsModel", "takesPeal", "(I)V"⟩, 31) := ⟨⟨by decide +kernel, by decide +kernel⟩, List.mem_of_getElem? (i := 945) (by decide +kernel), List.mem_of_getElem? (i := 1205) (by decide +kernel), List.mem_of_getElem? (i := 1206) (by decide +kernel)⟩
theorem lw_p40 : lw_okq (⟨"DrownedBellsModel", "parsesNow", "()I"⟩, 31) := ⟨⟨by decide +kernel, by decide +kernel⟩, List.mem_of_getElem? (i := 945) (by decide +kernel), List.mem_of_getElem? (i := 1212) (by decide +kernel), List.mem_of_getElem? (i := 1213) (by decide +kernel)⟩
theorem lw_p41 : lw_okq (⟨"DrownedBellsModel", "endWays", "(II)I"⟩, 31) := ⟨⟨by decide +kernel, by decide +kernel⟩, List.mem_of_getElem? (i := 945) (by decide +kernel), List.mem_of_getElem? (i := 1219) (by decide +kernel), List.mem_of_getElem? (i := 1220) (by decide +kernel)⟩
theorem lw_p42 : lw_okq (⟨"DrownedBellsModel", "means", "()Z"⟩, 31) := ⟨⟨by decide +kernel, by decide +kernel⟩, List.mem_of_getElem? (i := 945) (by decide +kernel), List.mem_of_getElem? (i := 1235) (by decide +kernel), List.mem_of_getElem? (i := 1236) (by decide +kernel)⟩
theorem lw_p43 : lw_okq (⟨"DrownedBellsModel", "doesHear", "(III)Z"⟩, 31) := ⟨⟨by decide +kernel, by decide +kernel⟩, List.mem_of_getElem? (i := 945) (by decide +kernel), List.mem_of_getElem? (i := 1251) (by decide +kernel), List.mem_of_getElem? (i := 1252) (by decide +kernel)⟩
theorem lw_p44 : lw_okq (⟨"DrownedBellsModel", "clearsTo", "(II)I"⟩, 31) := ⟨⟨by decide +kernel, by decide +kernel⟩, List.mem_of_getElem? (i := 945) (by decide +kernel), List.mem_of_getElem? (i := 1260) (by decide +kernel), List.mem_of_getElem? (i := 1261) (by decide +kernel)⟩
theorem lw_p45 : lw_okq (⟨"DrownedBellsModel", "clears", "(III)I"⟩, 31) := ⟨⟨by decide +kernel, by decide +kernel⟩, List.mem_of_getElem? (i := 945) (by decide +kernel), List.mem_of_getElem? (i := 1264) (by decide +kernel), List.mem_of_getElem? (i := 1265) (by decide +kernel)⟩
theorem lw_p46 : lw_okq (⟨"DrownedBellsModel", "hearersOf", "(I)I"⟩, 31) := ⟨⟨by decide +kernel, by decide +kernel⟩, List.mem_of_getElem? (i := 945) (by decide +kernel), List.mem_of_getElem? (i := 1280) (by decide +kernel), List.mem_of_getElem? (i := 1281) (by decide +kernel)⟩
theorem lw_p47 : lw_okq (⟨"DrownedBellsModel", "wordsWith", "(I)I"⟩, 31) := ⟨⟨by decide +kernel, by decide +kernel⟩, List.mem_of_getElem? (i := 945) (by decide +kernel), List.mem_of_getElem? (i := 1284) (by decide +kernel), List.mem_of_getElem? (i := 1285) (by decide +kernel)⟩
def lw_privs_3 : List (MethodName × Nat) := [(⟨"DrownedBellsModel", "strikes", "(I)I"⟩, 31), (⟨"DrownedBellsModel", "comes", "(II)I"⟩, 31), (⟨"DrownedBellsModel", "isSwimmer", "(I)Z"⟩, 31), (⟨"DrownedBellsModel", "leaves", "(I)I"⟩, 31), (⟨"DrownedBellsModel", "rings", "()I"⟩, 31), (⟨"DrownedBellsModel", "keepsOne", "()V"⟩, 31), (⟨"DrownedBellsModel", "isPeal", "(I)Z"⟩, 31), (⟨"DrownedBellsModel", "takesPeal", "(I)V"⟩, 31), (⟨"DrownedBellsModel", "parsesNow", "()I"⟩, 31), (⟨"DrownedBellsModel", "endWays", "(II)I"⟩, 31), (⟨"DrownedBellsModel", "means", "()Z"⟩, 31), (⟨"DrownedBellsModel", "doesHear", "(III)Z"⟩, 31), (⟨"DrownedBellsModel", "clearsTo", "(II)I"⟩, 31), (⟨"DrownedBellsModel", "clears", "(III)I"⟩, 31), (⟨"DrownedBellsModel", "hearersOf", "(I)I"⟩, 31), (⟨"DrownedBellsModel", "wordsWith", "(I)I"⟩, 31)]
theorem lw_r3 : ∀ q ∈ lw_privs_3, lw_okq q := List.forall_mem_cons.mpr ⟨lw_p32, List.forall_mem_cons.mpr ⟨lw_p33, List.forall_mem_cons.mpr ⟨lw_p34, List.forall_mem_cons.mpr ⟨lw_p35, List.forall_mem_cons.mpr ⟨lw_p36, List.forall_mem_cons.mpr ⟨lw_p37, List.forall_mem_cons.mpr ⟨lw_p38, List.forall_mem_cons.mpr ⟨lw_p39, List.forall_mem_cons.mpr ⟨lw_p40, List.forall_mem_cons.mpr ⟨lw_p41, List.forall_mem_cons.mpr ⟨lw_p42, List.forall_mem_cons.mpr ⟨lw_p43, List.forall_mem_cons.mpr ⟨lw_p44, List.forall_mem_cons.mpr ⟨lw_p45, List.forall_mem_cons.mpr ⟨lw_p46, List.forall_mem_cons.mpr ⟨lw_p47, fun _ h => absurd h List.not_mem_nil⟩⟩⟩⟩⟩⟩⟩⟩⟩⟩⟩⟩⟩⟩⟩⟩
theorem lw_p48 : lw_okq (⟨"DrownedBellsModel", "signsOf", "(II)I"⟩, 31) := ⟨⟨by decide +kernel, by decide +kernel⟩, List.mem_of_getElem? (i := 945) (by decide +kernel), List.mem_of_getElem? (i := 1288) (by decide +kernel), List.mem_of_getElem? (i := 1289) (by decide +kernel)⟩
theorem lw_p49 : lw_okq (⟨"DrownedBellsModel", "bellsHeard", "(I)I"⟩, 31) := ⟨⟨by decide +kernel, by decide +kernel⟩, List.mem_of_getElem? (i := 945) (by decide +kernel), List.mem_of_getElem? (i := 1300) (by decide +kernel), List.mem_of_getElem? (i := 1301) (by decide +kernel)⟩
theorem lw_p50 : lw_okq (⟨"DrownedBellsModel", "understood", "(I)I"⟩, 31) := ⟨⟨by decide +kernel, by decide +kernel⟩, List.mem_of_getElem? (i := 945) (by decide +kernel), List.mem_of_getElem? (i := 1304) (by decide +kernel), List.mem_of_getElem? (i := 1305) (by decide +kernel)⟩
theorem lw_p51 : lw_okq (⟨"DrownedBellsModel", "alphabetOf", "(I)I"⟩, 31) := ⟨⟨by decide +kernel, by decide +kernel⟩, List.mem_of_getElem? (i := 945) (by decide +kernel), List.mem_of_getElem? (i := 1320) (by decide +kernel), List.mem_of_getElem? (i := 1321) (by decide +kernel)⟩
theorem lw_p52 : lw_okq (⟨"DrownedBellsModel", "wearNow", "()I"⟩, 31) := ⟨⟨by decide +kernel, by decide +kernel⟩, List.mem_of_getElem? (i := 945) (by decide +kernel), List.mem_of_getElem? (i := 1332) (by decide +kernel), List.mem_of_getElem? (i := 1333) (by decide +kernel)⟩
theorem lw_p53 : lw_okq (⟨"DrownedBellsModel", "putSign", "(II)I"⟩, 31) := ⟨⟨by decide +kernel, by decide +kernel⟩, List.mem_of_getElem? (i := 945) (by decide +kernel), List.mem_of_getElem? (i := 1349) (by decide +kernel), List.mem_of_getElem? (i := 1350) (by decide +kernel)⟩
theorem lw_p54 : lw_okq (⟨"DrownedBellsModel", "put", "(II)I"⟩, 31) := ⟨⟨by decide +kernel, by decide +kernel⟩, List.mem_of_getElem? (i := 945) (by decide +kernel), List.mem_of_getElem? (i := 1353) (by decide +kernel), List.mem_of_getElem? (i := 1354) (by decide +kernel)⟩
theorem lw_p55 : lw_okq (⟨"DrownedBellsModel", "putKind", "(II)I"⟩, 31) := ⟨⟨by decide +kernel, by decide +kernel⟩, List.mem_of_getElem? (i := 945) (by decide +kernel), List.mem_of_getElem? (i := 1357) (by decide +kernel), List.mem_of_getElem? (i := 1358) (by decide +kernel)⟩
theorem lw_p56 : lw_okq (⟨"DrownedBellsModel", "readsAll", "()V"⟩, 31) := ⟨⟨by decide +kernel, by decide +kernel⟩, List.mem_of_getElem? (i := 945) (by decide +kernel), List.mem_of_getElem? (i := 1381) (by decide +kernel), List.mem_of_getElem? (i := 1382) (by decide +kernel)⟩
theorem lw_p57 : lw_okq (⟨"DrownedBellsModel", "readsCommand", "()V"⟩, 31) := ⟨⟨by decide +kernel, by decide +kernel⟩, List.mem_of_getElem? (i := 945) (by decide +kernel), List.mem_of_getElem? (i := 1385) (by decide +kernel), List.mem_of_getElem? (i := 1386) (by decide +kernel)⟩
theorem lw_p58 : lw_okq (⟨"DrownedBellsModel", "kindHere", "()I"⟩, 31) := ⟨⟨by decide +kernel, by decide +kernel⟩, List.mem_of_getElem? (i := 945) (by decide +kernel), List.mem_of_getElem? (i := 1389) (by decide +kernel), List.mem_of_getElem? (i := 1390) (by decide +kernel)⟩
theorem lw_p59 : lw_okq (⟨"DrownedBellsModel", "readsRest", "(II)V"⟩, 31) := ⟨⟨by decide +kernel, by decide +kernel⟩, List.mem_of_getElem? (i := 945) (by decide +kernel), List.mem_of_getElem? (i := 1399) (by decide +kernel), List.mem_of_getElem? (i := 1400) (by decide +kernel)⟩
theorem lw_p60 : lw_okq (⟨"DrownedBellsModel", "reads", "(II)I"⟩, 31) := ⟨⟨by decide +kernel, by decide +kernel⟩, List.mem_of_getElem? (i := 945) (by decide +kernel), List.mem_of_getElem? (i := 1403) (by decide +kernel), List.mem_of_getElem? (i := 1404) (by decide +kernel)⟩
theorem lw_p61 : lw_okq (⟨"DrownedBellsModel", "letterHere", "()I"⟩, 31) := ⟨⟨by decide +kernel, by decide +kernel⟩, List.mem_of_getElem? (i := 945) (by decide +kernel), List.mem_of_getElem? (i := 1407) (by decide +kernel), List.mem_of_getElem? (i := 1408) (by decide +kernel)⟩
theorem lw_p62 : lw_okq (⟨"DrownedBellsModel", "blank", "()V"⟩, 31) := ⟨⟨by decide +kernel, by decide +kernel⟩, List.mem_of_getElem? (i := 945) (by decide +kernel), List.mem_of_getElem? (i := 1411) (by decide +kernel), List.mem_of_getElem? (i := 1412) (by decide +kernel)⟩
theorem lw_p63 : lw_okq (⟨"DrownedBellsModel", "digit", "()I"⟩, 31) := ⟨⟨by decide +kernel, by decide +kernel⟩, List.mem_of_getElem? (i := 945) (by decide +kernel), List.mem_of_getElem? (i := 1415) (by decide +kernel), List.mem_of_getElem? (i := 1416) (by decide +kernel)⟩
def lw_privs_4 : List (MethodName × Nat) := [(⟨"DrownedBellsModel", "signsOf", "(II)I"⟩, 31), (⟨"DrownedBellsModel", "bellsHeard", "(I)I"⟩, 31), (⟨"DrownedBellsModel", "understood", "(I)I"⟩, 31), (⟨"DrownedBellsModel", "alphabetOf", "(I)I"⟩, 31), (⟨"DrownedBellsModel", "wearNow", "()I"⟩, 31), (⟨"DrownedBellsModel", "putSign", "(II)I"⟩, 31), (⟨"DrownedBellsModel", "put", "(II)I"⟩, 31), (⟨"DrownedBellsModel", "putKind", "(II)I"⟩, 31), (⟨"DrownedBellsModel", "readsAll", "()V"⟩, 31), (⟨"DrownedBellsModel", "readsCommand", "()V"⟩, 31), (⟨"DrownedBellsModel", "kindHere", "()I"⟩, 31), (⟨"DrownedBellsModel", "readsRest", "(II)V"⟩, 31), (⟨"DrownedBellsModel", "reads", "(II)I"⟩, 31), (⟨"DrownedBellsModel", "letterHere", "()I"⟩, 31), (⟨"DrownedBellsModel", "blank", "()V"⟩, 31), (⟨"DrownedBellsModel", "digit", "()I"⟩, 31)]
theorem lw_r4 : ∀ q ∈ lw_privs_4, lw_okq q := List.forall_mem_cons.mpr ⟨lw_p48, List.forall_mem_cons.mpr ⟨lw_p49, List.forall_mem_cons.mpr ⟨lw_p50, List.forall_mem_cons.mpr ⟨lw_p51, List.forall_mem_cons.mpr ⟨lw_p52, List.forall_mem_cons.mpr ⟨lw_p53, List.forall_mem_cons.mpr ⟨lw_p54, List.forall_mem_cons.mpr ⟨lw_p55, List.forall_mem_cons.mpr ⟨lw_p56, List.forall_mem_cons.mpr ⟨lw_p57, List.forall_mem_cons.mpr ⟨lw_p58, List.forall_mem_cons.mpr ⟨lw_p59, List.forall_mem_cons.mpr ⟨lw_p60, List.forall_mem_cons.mpr ⟨lw_p61, List.forall_mem_cons.mpr ⟨lw_p62, List.forall_mem_cons.mpr ⟨lw_p63, fun _ h => absurd h List.not_mem_nil⟩⟩⟩⟩⟩⟩⟩⟩⟩⟩⟩⟩⟩⟩⟩⟩
theorem lw_p64 : lw_okq (⟨"DrownedBellsModel", "readsKind", "()I"⟩, 31) := ⟨⟨by decide +kernel, by decide +kernel⟩, List.mem_of_getElem? (i := 945) (by decide +kernel), List.mem_of_getElem? (i := 1419) (by decide +kernel), List.mem_of_getElem? (i := 1420) (by decide +kernel)⟩
theorem lw_p65 : lw_okq (⟨"DrownedBellsModel", "readsSigns", "(I)V"⟩, 31) := ⟨⟨by decide +kernel, by decide +kernel⟩, List.mem_of_getElem? (i := 945) (by decide +kernel), List.mem_of_getElem? (i := 1423) (by decide +kernel), List.mem_of_getElem? (i := 1424) (by decide +kernel)⟩
theorem lw_p66 : lw_okq (⟨"DrownedBellsModel", "isSign", "()Z"⟩, 31) := ⟨⟨by decide +kernel, by decide +kernel⟩, List.mem_of_getElem? (i := 945) (by decide +kernel), List.mem_of_getElem? (i := 1427) (by decide +kernel), List.mem_of_getElem? (i := 1428) (by decide +kernel)⟩
theorem lw_p67 : lw_okq (⟨"DrownedBellsModel", "isRight", "(I)Z"⟩, 31) := ⟨⟨by decide +kernel, by decide +kernel⟩, List.mem_of_getElem? (i := 945) (by decide +kernel), List.mem_of_getElem? (i := 1431) (by decide +kernel), List.mem_of_getElem? (i := 1432) (by decide +kernel)⟩
theorem lw_p68 : lw_okq (⟨"DrownedBellsModel", "does", "(I)I"⟩, 31) := ⟨⟨by decide +kernel, by decide +kernel⟩, List.mem_of_getElem? (i := 945) (by decide +kernel), List.mem_of_getElem? (i := 1435) (by decide +kernel), List.mem_of_getElem? (i := 1436) (by decide +kernel)⟩
theorem lw_p69 : lw_okq (⟨"DrownedBellsModel", "takesText", "(I)V"⟩, 31) := ⟨⟨by decide +kernel, by decide +kernel⟩, List.mem_of_getElem? (i := 945) (by decide +kernel), List.mem_of_getElem? (i := 1439) (by decide +kernel), List.mem_of_getElem? (i := 1440) (by decide +kernel)⟩
def lw_privs_5 : List (MethodName × Nat) := [(⟨"DrownedBellsModel", "readsKind", "()I"⟩, 31), (⟨"DrownedBellsModel", "readsSigns", "(I)V"⟩, 31), (⟨"DrownedBellsModel", "isSign", "()Z"⟩, 31), (⟨"DrownedBellsModel", "isRight", "(I)Z"⟩, 31), (⟨"DrownedBellsModel", "does", "(I)I"⟩, 31), (⟨"DrownedBellsModel", "takesText", "(I)V"⟩, 31)]
theorem lw_r5 : ∀ q ∈ lw_privs_5, lw_okq q := List.forall_mem_cons.mpr ⟨lw_p64, List.forall_mem_cons.mpr ⟨lw_p65, List.forall_mem_cons.mpr ⟨lw_p66, List.forall_mem_cons.mpr ⟨lw_p67, List.forall_mem_cons.mpr ⟨lw_p68, List.forall_mem_cons.mpr ⟨lw_p69, fun _ h => absurd h List.not_mem_nil⟩⟩⟩⟩⟩⟩
def lw_privs : List (MethodName × Nat) := lw_privs_1 ++ (lw_privs_2 ++ (lw_privs_3 ++ (lw_privs_4 ++ (lw_privs_5))))
def lw_tbl : List Cond := k2_sels lw_privs ++ tables_1
theorem lw_privs_ok : ∀ q ∈ lw_privs, lw_okq q := by
  show ∀ q ∈ lw_privs_1 ++ (lw_privs_2 ++ (lw_privs_3 ++ (lw_privs_4 ++ (lw_privs_5)))), lw_okq q
  exact List.forall_mem_append.mpr ⟨lw_r1, List.forall_mem_append.mpr ⟨lw_r2, List.forall_mem_append.mpr ⟨lw_r3, List.forall_mem_append.mpr ⟨lw_r4, lw_r5⟩⟩⟩⟩
/-- the streams that the claim lets the run draw from -/
abbrev lw_cs : List Choice := [Jvm.Choice.named "NaN.bits"]
theorem lw_bits : nanBits ∈ lw_cs := by first | decide | exact List.mem_cons_self | simp [lw_cs, nanBits]
-- ===== end of PART A; then your names; then what follows =====
/-! ===== the classes, methods, links and instructions of this claim, as lists ===== -/
def jb_T0 : u_T := fun k => match k with
  | 0 => ("DrownedBells$Bells", "depths", "LDrownedBells$Row;", true)
  | 1 => ("DrownedBells$Bells", "wears", "LDrownedBells$Row;", true)
  | _ => ("DrownedBells$Bells", "rings", "LDrownedBells$Row;", true)
def jb_T1 : u_T := fun k => match k with
  | 0 => ("DrownedBells$Book", "kinds", "LDrownedBells$Row;", true)
  | 1 => ("DrownedBells$Book", "sizes", "LDrownedBells$Row;", true)
  | _ => ("DrownedBells$Book", "spellings", "LDrownedBells$Row;", true)
def jb_T2 : u_T := fun k => match k with
  | 0 => ("DrownedBells$History", "villages", "[LDrownedBells$Village;", true)
  | 1 => ("DrownedBells$History", "oldest", "I", false)
  | _ => ("DrownedBells$History", "count", "I", false)
def jb_T3 : u_T := fun k => match k with
  | 0 => ("DrownedBells$Parser", "ways", "LDrownedBells$Row;", true)
  | _ => ("DrownedBells$Parser", "silencesBetween", "I", false)
def jb_T4 : u_T := fun k => match k with
  | 0 => ("DrownedBells$Peals", "sizes", "LDrownedBells$Row;", true)
  | _ => ("DrownedBells$Peals", "signs", "LDrownedBells$Row;", true)
def jb_T5 : u_T := fun k => match k with
  | 0 => ("DrownedBells$Reasons", "latest", "I", false)
  | 1 => ("DrownedBells$Reasons", "latestDetail", "I", false)
  | 2 => ("DrownedBells$Reasons", "behind", "I", false)
  | _ => ("DrownedBells$Reasons", "behindDetail", "I", false)
def jb_T6 : u_T := fun k => match k with
  | 0 => ("DrownedBells$Row", "cells", "[I", true)
  | _ => ("DrownedBells$Row", "size", "I", false)
def jb_T7 : u_T := fun k => match k with
  | 0 => ("DrownedBells$Swimmers", "depths", "LDrownedBells$Row;", true)
  | _ => ("DrownedBells$Swimmers", "reaches", "LDrownedBells$Row;", true)
def jb_T8 : u_T := fun k => match k with
  | 0 => ("DrownedBells$Text", "input", "LDrownedBells$Row;", true)
  | 1 => ("DrownedBells$Text", "commands", "LDrownedBells$Row;", true)
  | 2 => ("DrownedBells$Text", "starts", "LDrownedBells$Row;", true)
  | _ => ("DrownedBells$Text", "ends", "LDrownedBells$Row;", true)
def jb_T9 : u_T := fun k => match k with
  | 0 => ("DrownedBells$Village", "bells", "LDrownedBells$Bells;", true)
  | 1 => ("DrownedBells$Village", "book", "LDrownedBells$Book;", true)
  | 2 => ("DrownedBells$Village", "swimmers", "LDrownedBells$Swimmers;", true)
  | 3 => ("DrownedBells$Village", "peals", "LDrownedBells$Peals;", true)
  | 4 => ("DrownedBells$Village", "pealsRung", "I", false)
  | 5 => ("DrownedBells$Village", "bellsRung", "I", false)
  | _ => ("DrownedBells$Village", "bellsFallenSilent", "I", false)
def jb_T10 : u_T := fun k => match k with
  | 0 => ("DrownedBells", "village", "LDrownedBells$Village;", true)
  | 1 => ("DrownedBells", "before", "LDrownedBells$Village;", true)
  | 2 => ("DrownedBells", "saved", "LDrownedBells$Village;", true)
  | 3 => ("DrownedBells", "history", "LDrownedBells$History;", true)
  | 4 => ("DrownedBells", "reasons", "LDrownedBells$Reasons;", true)
  | 5 => ("DrownedBells", "parser", "LDrownedBells$Parser;", true)
  | 6 => ("DrownedBells", "text", "LDrownedBells$Text;", true)
  | 7 => ("DrownedBells", "draft", "LDrownedBells$Row;", true)
  | 8 => ("DrownedBells", "line", "LDrownedBells$Row;", true)
  | 9 => ("DrownedBells", "commandSigns", "LDrownedBells$Row;", true)
  | 10 => ("DrownedBells", "pealSigns", "LDrownedBells$Row;", true)
  | 11 => ("DrownedBells", "pealWords", "LDrownedBells$Row;", true)
  | 12 => ("DrownedBells", "heardSigns", "LDrownedBells$Row;", true)
  | 13 => ("DrownedBells", "heardWords", "LDrownedBells$Row;", true)
  | 14 => ("DrownedBells", "keys", "LDrownedBells$Row;", true)
  | 15 => ("DrownedBells", "isSaved", "Z", false)
  | _ => ("DrownedBells", "lastFault", "I", false)
def jb_T11 : u_T := fun k => match k with
  | 0 => ("DrownedBellsModel", "now", "[I", true)
  | 1 => ("DrownedBellsModel", "before", "[I", true)
  | 2 => ("DrownedBellsModel", "saved", "[I", true)
  | 3 => ("DrownedBellsModel", "history", "[I", true)
  | 4 => ("DrownedBellsModel", "isSaved", "Z", false)
  | 5 => ("DrownedBellsModel", "remembered", "I", false)
  | 6 => ("DrownedBellsModel", "reason", "I", false)
  | 7 => ("DrownedBellsModel", "detail", "I", false)
  | 8 => ("DrownedBellsModel", "behindReason", "I", false)
  | 9 => ("DrownedBellsModel", "behindDetail", "I", false)
  | 10 => ("DrownedBellsModel", "faultAt", "I", false)
  | 11 => ("DrownedBellsModel", "draft", "[I", true)
  | 12 => ("DrownedBellsModel", "laid", "I", false)
  | 13 => ("DrownedBellsModel", "text", "[I", true)
  | 14 => ("DrownedBellsModel", "typed", "I", false)
  | 15 => ("DrownedBellsModel", "line", "[I", true)
  | 16 => ("DrownedBellsModel", "lined", "I", false)
  | 17 => ("DrownedBellsModel", "why", "I", false)
  | 18 => ("DrownedBellsModel", "what", "I", false)
  | 19 => ("DrownedBellsModel", "row", "[I", true)
  | 20 => ("DrownedBellsModel", "size", "I", false)
  | 21 => ("DrownedBellsModel", "startWays", "[I", true)
  | 22 => ("DrownedBellsModel", "skipWays", "[I", true)
  | 23 => ("DrownedBellsModel", "words", "[I", true)
  | 24 => ("DrownedBellsModel", "wordMany", "I", false)
  | 25 => ("DrownedBellsModel", "heard", "[I", true)
  | 26 => ("DrownedBellsModel", "length", "I", false)
  | 27 => ("DrownedBellsModel", "place", "I", false)
  | 28 => ("DrownedBellsModel", "wrong", "I", false)
  | 29 => ("DrownedBellsModel", "told", "I", false)
  | _ => ("DrownedBellsModel", "numbers", "[I", true)
def jb_T (c : Nat) : u_T := match c with
  | 0 => jb_T0
  | 1 => jb_T1
  | 2 => jb_T2
  | 3 => jb_T3
  | 4 => jb_T4
  | 5 => jb_T5
  | 6 => jb_T6
  | 7 => jb_T7
  | 8 => jb_T8
  | 9 => jb_T9
  | 10 => jb_T10
  | _ => jb_T11
def jb_Ns : List Nat := [3, 3, 3, 2, 2, 4, 2, 2, 4, 7, 17, 31]
def jb_N (c : Nat) : Nat := jb_Ns.getD c 0
def jb_Os : List String := ["DrownedBells$Bells", "DrownedBells$Book", "DrownedBells$History", "DrownedBells$Parser", "DrownedBells$Peals", "DrownedBells$Reasons", "DrownedBells$Row", "DrownedBells$Swimmers", "DrownedBells$Text", "DrownedBells$Village", "DrownedBells", "DrownedBellsModel", "java/lang/Math", "java/lang/String", "java/lang/StringLatin1", "jdk/internal/util/Preconditions", "DrownedBellsLaw"]
def jb_O (c : Nat) : String := jb_Os.getD c ""
def jb_Tys : List (List FieldType) := [[.object "DrownedBells$Row", .object "DrownedBells$Row", .object "DrownedBells$Row"],
  [.object "DrownedBells$Row", .object "DrownedBells$Row", .object "DrownedBells$Row"],
  [.array (.object "DrownedBells$Village"), .int, .int],
  [.object "DrownedBells$Row", .int],
  [.object "DrownedBells$Row", .object "DrownedBells$Row"],
  [.int, .int, .int, .int],
  [.array .int, .int],
  [.object "DrownedBells$Row", .object "DrownedBells$Row"],
  [.object "DrownedBells$Row", .object "DrownedBells$Row", .object "DrownedBells$Row", .object "DrownedBells$Row"],
  [.object "DrownedBells$Bells", .object "DrownedBells$Book", .object "DrownedBells$Swimmers", .object "DrownedBells$Peals", .int, .int, .int],
  [.object "DrownedBells$Village", .object "DrownedBells$Village", .object "DrownedBells$Village", .object "DrownedBells$History", .object "DrownedBells$Reasons", .object "DrownedBells$Parser", .object "DrownedBells$Text", .object "DrownedBells$Row", .object "DrownedBells$Row", .object "DrownedBells$Row", .object "DrownedBells$Row", .object "DrownedBells$Row", .object "DrownedBells$Row", .object "DrownedBells$Row", .object "DrownedBells$Row", .boolean, .int],
  [.array .int, .array .int, .array .int, .array .int, .boolean, .int, .int, .int, .int, .int, .int, .array .int, .int, .array .int, .int, .array .int, .int, .int, .int, .array .int, .int, .array .int, .array .int, .array .int, .int, .array .int, .int, .int, .int, .int, .array .int]]
def jb_Ty (c k : Nat) : FieldType := (jb_Tys.getD c []).getD k .int
def jb_cl : List vw_C := (List.range 12).map (fun c => (jb_O c, jb_T c, jb_N c))
/-- the methods: name, bytes, locals, what it returns, its class, its height; the places of its words -/
abbrev jb_Me : Type := MethodName × ByteArray × Nat × Option FieldType × Nat × Nat × Nat × Nat × Nat × Nat
def jb_M : List jb_Me := [
  (⟨"DrownedBells$Row", "<init>", "(I)V"⟩, prog_8_method_1_code, 2, none, 6, 0, 113, 74, 112, 0),
  (⟨"DrownedBells$Row", "add", "(I)V"⟩, prog_8_method_8_code, 2, none, 6, 0, 133, 74, 131, 132),
  (⟨"DrownedBells$Reasons", "<init>", "()V"⟩, prog_7_method_1_code, 1, none, 5, 0, 257, 80, 256, 0),
  (⟨"DrownedBells$Row", "take", "(LDrownedBells$Row;)V"⟩, prog_8_method_13_code, 3, none, 6, 0, 384, 74, 382, 383),
  (⟨"DrownedBells$Row", "has", "(I)Z"⟩, prog_8_method_4_code, 2, (some .boolean), 6, 0, 407, 74, 405, 406),
  (⟨"DrownedBells", "isDepth", "(I)Z"⟩, prog_1_method_56_code, 1, (some .boolean), 10, 0, 410, 71, 409, 0),
  (⟨"DrownedBells$Row", "at", "(I)I"⟩, prog_8_method_5_code, 2, (some .int), 6, 0, 414, 74, 412, 413),
  (⟨"DrownedBells$Reasons", "refuse", "(II)I"⟩, prog_7_method_2_code, 3, (some .int), 5, 0, 418, 80, 416, 417),
  (⟨"DrownedBells$Row", "put", "(II)V"⟩, prog_8_method_6_code, 3, none, 6, 0, 422, 74, 420, 421),
  (⟨"DrownedBells$History", "slotOf", "(I)LDrownedBells$Village;"⟩, prog_4_method_5_code, 3, (some (.object "DrownedBells$Village")), 2, 0, 434, 79, 433, 1),
  (⟨"DrownedBells", "signOfCharacter", "(I)I"⟩, prog_1_method_52_code, 1, (some .int), 10, 0, 450, 71, 449, 0),
  (⟨"DrownedBells$Row", "isFull", "()Z"⟩, prog_8_method_3_code, 1, (some .boolean), 6, 0, 454, 74, 452, 453),
  (⟨"DrownedBells$Row", "size", "()I"⟩, prog_8_method_2_code, 1, (some .int), 6, 0, 459, 74, 457, 458),
  (⟨"DrownedBells$Row", "clear", "()V"⟩, prog_8_method_12_code, 1, none, 6, 0, 488, 74, 486, 487),
  (⟨"DrownedBells$Book", "signIn", "(II)I"⟩, prog_3_method_12_code, 3, (some .int), 1, 0, 607, 76, 606, 0),
  (⟨"DrownedBells$Parser", "cell", "(II)I"⟩, prog_5_method_9_code, 2, (some .int), 3, 0, 657, 81, 656, 0),
  (⟨"DrownedBells$Row", "raise", "(III)V"⟩, prog_8_method_7_code, 4, none, 6, 0, 666, 74, 664, 665),
  (⟨"DrownedBells$Parser", "stageAfter", "(I)I"⟩, prog_5_method_10_code, 1, (some .int), 3, 0, 680, 81, 679, 0),
  (⟨"DrownedBells", "characterOfSign", "(I)I"⟩, prog_1_method_53_code, 1, (some .int), 10, 0, 796, 71, 795, 0),
  (⟨"DrownedBells", "characterOfKind", "(I)I"⟩, prog_1_method_54_code, 1, (some .int), 10, 0, 799, 71, 798, 0),
  (⟨"DrownedBells$Text", "formOf", "(I)Ljava/lang/String;"⟩, prog_10_method_9_code, 1, (some (.object "java/lang/String")), 8, 0, 832, 82, 831, 0),
  (⟨"java/lang/String", "coder", "()B"⟩, prog_16_method_152_code, 1, (some .byte), 13, 0, 849, 84, 847, 848),
  (⟨"java/lang/String", "isLatin1", "()Z"⟩, prog_16_method_154_code, 1, (some .boolean), 13, 0, 859, 84, 857, 858),
  (⟨"jdk/internal/util/Preconditions", "checkIndex", "(IILjava/util/function/BiFunction;)I"⟩, prog_19_method_11_code, 3, (some .int), 15, 0, 870, 86, 869, 0),
  (⟨"DrownedBells", "kindOfCharacter", "(I)I"⟩, prog_1_method_55_code, 1, (some .int), 10, 0, 897, 71, 896, 0),
  (⟨"java/lang/StringLatin1", "canEncode", "(I)Z"⟩, prog_17_method_4_code, 1, (some .boolean), 14, 0, 935, 85, 934, 0),
  (⟨"java/lang/StringLatin1", "indexOfChar", "([BIII)I"⟩, prog_17_method_23_code, 6, (some .int), 14, 0, 940, 85, 939, 0),
  (⟨"DrownedBells", "fault", "()I"⟩, prog_1_method_36_code, 1, (some .int), 10, 0, 989, 71, 987, 988),
  (⟨"DrownedBells", "reason", "(IZ)I"⟩, prog_1_method_37_code, 3, (some .int), 10, 0, 993, 71, 991, 992),
  (⟨"DrownedBells$History", "clear", "()V"⟩, prog_4_method_4_code, 1, none, 2, 0, 1013, 79, 1011, 1012),
  (⟨"DrownedBellsModel", "<init>", "()V"⟩, prog_13_method_1_code, 2, none, 11, 0, 1018, 83, 1017, 0),
  (⟨"DrownedBellsModel", "isIn", "(III)Z"⟩, prog_13_method_2_code, 3, (some .boolean), 11, 0, 1120, 83, 1119, 0),
  (⟨"DrownedBellsModel", "copies", "([II[II)V"⟩, prog_13_method_3_code, 5, none, 11, 0, 1127, 83, 1126, 0),
  (⟨"DrownedBellsModel", "bellAt", "(I)I"⟩, prog_13_method_19_code, 1, (some .int), 11, 0, 1152, 83, 1151, 0),
  (⟨"DrownedBellsModel", "hinders", "(ZII)V"⟩, prog_13_method_4_code, 4, none, 11, 0, 1160, 83, 1159, 22),
  (⟨"DrownedBellsModel", "takesDraft", "()V"⟩, prog_13_method_28_code, 2, none, 11, 0, 1195, 83, 1194, 27),
  (⟨"DrownedBellsModel", "wordAt", "(I)I"⟩, prog_13_method_20_code, 1, (some .int), 11, 0, 1206, 83, 1205, 0),
  (⟨"DrownedBellsModel", "swimmerAt", "(I)I"⟩, prog_13_method_21_code, 1, (some .int), 11, 0, 1236, 83, 1235, 0),
  (⟨"DrownedBellsModel", "keepsOne", "()V"⟩, prog_13_method_42_code, 2, none, 11, 0, 1264, 83, 1263, 37),
  (⟨"DrownedBellsModel", "pealAt", "(I)I"⟩, prog_13_method_22_code, 1, (some .int), 11, 0, 1280, 83, 1279, 0),
  (⟨"DrownedBellsModel", "nextKind", "(I)I"⟩, prog_13_method_45_code, 1, (some .int), 11, 0, 1287, 83, 1286, 0),
  (⟨"DrownedBellsModel", "endWays", "(II)I"⟩, prog_13_method_46_code, 3, (some .int), 11, 0, 1291, 83, 1290, 41),
  (⟨"DrownedBellsModel", "isCounted", "()Z"⟩, prog_13_method_74_code, 1, (some .boolean), 11, 0, 1396, 83, 1394, 1395),
  (⟨"DrownedBellsModel", "put", "(II)I"⟩, prog_13_method_79_code, 3, (some .int), 11, 0, 1425, 83, 1424, 54),
  (⟨"DrownedBellsModel", "fault", "()I"⟩, prog_13_method_86_code, 1, (some .int), 11, 0, 1445, 83, 1443, 1444),
  (⟨"DrownedBellsModel", "startOf", "(I)I"⟩, prog_13_method_93_code, 1, (some .int), 11, 0, 1464, 83, 1463, 0),
  (⟨"DrownedBellsModel", "letterHere", "()I"⟩, prog_13_method_87_code, 1, (some .int), 11, 0, 1479, 83, 1478, 61),
  (⟨"DrownedBellsModel", "takesText", "(I)V"⟩, prog_13_method_100_code, 4, none, 11, 0, 1511, 83, 1510, 69),
  (⟨"DrownedBells$Row", "fill", "(II)V"⟩, prog_8_method_11_code, 4, none, 6, 1, 129, 74, 127, 128),
  (⟨"DrownedBells$Book", "<init>", "()V"⟩, prog_3_method_1_code, 1, none, 1, 1, 151, 76, 150, 0),
  (⟨"DrownedBells$Swimmers", "<init>", "()V"⟩, prog_9_method_1_code, 1, none, 7, 1, 174, 77, 173, 0),
  (⟨"DrownedBells$Parser", "<init>", "()V"⟩, prog_5_method_1_code, 1, none, 3, 1, 280, 81, 279, 0),
  (⟨"DrownedBells$Text", "<init>", "()V"⟩, prog_10_method_1_code, 1, none, 8, 1, 296, 82, 295, 0),
  (⟨"DrownedBells$Bells", "take", "(LDrownedBells$Bells;)V"⟩, prog_2_method_2_code, 2, none, 0, 1, 380, 73, 378, 379),
  (⟨"DrownedBells$Book", "take", "(LDrownedBells$Book;)V"⟩, prog_3_method_2_code, 2, none, 1, 1, 388, 76, 386, 387),
  (⟨"DrownedBells$Swimmers", "take", "(LDrownedBells$Swimmers;)V"⟩, prog_9_method_2_code, 2, none, 7, 1, 393, 77, 391, 392),
  (⟨"DrownedBells$Peals", "take", "(LDrownedBells$Peals;)V"⟩, prog_6_method_2_code, 2, none, 4, 1, 398, 78, 396, 397),
  (⟨"DrownedBells$Bells", "moveTo", "(IILDrownedBells$Reasons;)I"⟩, prog_2_method_3_code, 5, (some .int), 0, 1, 403, 73, 401, 402),
  (⟨"DrownedBells$Bells", "mend", "(ILDrownedBells$Reasons;)I"⟩, prog_2_method_4_code, 4, (some .int), 0, 1, 443, 73, 441, 442),
  (⟨"DrownedBells", "lay", "(C)I"⟩, prog_1_method_4_code, 3, (some .int), 10, 1, 447, 71, 445, 446),
  (⟨"DrownedBells$Book", "spell", "(LDrownedBells$Row;)I"⟩, prog_3_method_11_code, 4, (some .int), 1, 1, 473, 76, 472, 0),
  (⟨"DrownedBells$Book", "wordSpelt", "(I)I"⟩, prog_3_method_10_code, 3, (some .int), 1, 1, 478, 76, 477, 2),
  (⟨"DrownedBells$Row", "removeAt", "(I)V"⟩, prog_8_method_10_code, 3, none, 6, 1, 500, 74, 498, 499),
  (⟨"DrownedBells$Swimmers", "come", "(IILDrownedBells$Reasons;)I"⟩, prog_9_method_3_code, 4, (some .int), 7, 1, 511, 77, 509, 510),
  (⟨"DrownedBells$Swimmers", "moveTo", "(IILDrownedBells$Reasons;)I"⟩, prog_9_method_4_code, 5, (some .int), 7, 1, 524, 77, 522, 523),
  (⟨"DrownedBells$Bells", "canSound", "(I)Z"⟩, prog_2_method_5_code, 2, (some .boolean), 0, 1, 555, 73, 553, 554),
  (⟨"DrownedBells$Row", "addFirst", "(I)V"⟩, prog_8_method_9_code, 3, none, 6, 1, 563, 74, 561, 562),
  (⟨"DrownedBells$Peals", "addToLatest", "(I)V"⟩, prog_6_method_5_code, 3, none, 4, 1, 575, 78, 573, 574),
  (⟨"DrownedBells$Bells", "heardAs", "(III)I"⟩, prog_2_method_8_code, 5, (some .int), 0, 1, 589, 73, 587, 588),
  (⟨"DrownedBells$Book", "signAt", "(II)I"⟩, prog_3_method_5_code, 3, (some .int), 1, 1, 604, 76, 602, 603),
  (⟨"DrownedBells$Peals", "signAt", "(II)I"⟩, prog_6_method_6_code, 3, (some .int), 4, 1, 637, 78, 635, 636),
  (⟨"DrownedBells$Parser", "endsSilent", "(LDrownedBells$Row;)Z"⟩, prog_5_method_8_code, 1, (some .boolean), 3, 1, 652, 81, 651, 0),
  (⟨"DrownedBells$Parser", "passSilence", "(II)V"⟩, prog_5_method_7_code, 4, none, 3, 1, 662, 81, 661, 8),
  (⟨"DrownedBells$Book", "standsAt", "(ILDrownedBells$Row;I)Z"⟩, prog_3_method_8_code, 6, (some .boolean), 1, 1, 673, 76, 671, 672),
  (⟨"DrownedBells$Parser", "waysBehind", "(LDrownedBells$Book;II)I"⟩, prog_5_method_6_code, 4, (some .int), 3, 1, 677, 81, 676, 9),
  (⟨"DrownedBells$Row", "isLike", "(LDrownedBells$Row;)Z"⟩, prog_8_method_15_code, 3, (some .boolean), 6, 1, 690, 74, 688, 689),
  (⟨"DrownedBells$Peals", "has", "(I)Z"⟩, prog_6_method_3_code, 2, (some .boolean), 4, 1, 698, 78, 696, 697),
  (⟨"DrownedBells", "echoAt", "(II)I"⟩, prog_1_method_50_code, 4, (some .int), 10, 1, 748, 71, 747, 12),
  (⟨"DrownedBells", "inOrder", "(I)I"⟩, prog_1_method_51_code, 5, (some .int), 10, 1, 756, 71, 755, 13),
  (⟨"DrownedBells$Row", "sum", "()I"⟩, prog_8_method_14_code, 3, (some .int), 6, 1, 776, 74, 774, 775),
  (⟨"DrownedBells", "written", "(I)I"⟩, prog_1_method_33_code, 2, (some .int), 10, 1, 808, 71, 806, 807),
  (⟨"DrownedBells", "append", "(C)I"⟩, prog_1_method_34_code, 2, (some .int), 10, 1, 812, 71, 810, 811),
  (⟨"java/lang/String", "length", "()I"⟩, prog_16_method_54_code, 1, (some .int), 13, 1, 845, 84, 843, 844),
  (⟨"java/lang/String", "checkIndex", "(II)V"⟩, prog_16_method_155_code, 2, none, 13, 1, 865, 84, 864, 0),
  (⟨"DrownedBells$Text", "isFit", "(CI)Z"⟩, prog_10_method_10_code, 2, (some .boolean), 8, 1, 893, 82, 892, 0),
  (⟨"java/lang/StringLatin1", "indexOf", "([BIII)I"⟩, prog_17_method_22_code, 4, (some .int), 14, 1, 932, 85, 931, 0),
  (⟨"DrownedBells$Reasons", "refuseCommand", "(IZ)I"⟩, prog_7_method_3_code, 5, (some .int), 5, 1, 983, 80, 981, 982),
  (⟨"DrownedBellsModel", "reason", "(IZ)I"⟩, prog_13_method_9_code, 4, (some .int), 11, 1, 1117, 83, 1115, 1116),
  (⟨"DrownedBellsModel", "undo", "()I"⟩, prog_13_method_10_code, 1, (some .int), 11, 1, 1124, 83, 1122, 1123),
  (⟨"DrownedBellsModel", "save", "()I"⟩, prog_13_method_11_code, 1, (some .int), 11, 1, 1131, 83, 1129, 1130),
  (⟨"DrownedBellsModel", "restore", "()I"⟩, prog_13_method_12_code, 1, (some .int), 11, 1, 1135, 83, 1133, 1134),
  (⟨"DrownedBellsModel", "isBell", "(I)Z"⟩, prog_13_method_13_code, 1, (some .boolean), 11, 1, 1142, 83, 1141, 0),
  (⟨"DrownedBellsModel", "isDepth", "(I)Z"⟩, prog_13_method_17_code, 1, (some .boolean), 11, 1, 1145, 83, 1144, 0),
  (⟨"DrownedBellsModel", "starts", "()V"⟩, prog_13_method_5_code, 1, none, 11, 1, 1149, 83, 1148, 20),
  (⟨"DrownedBellsModel", "becomes", "(II)I"⟩, prog_13_method_23_code, 4, (some .int), 11, 1, 1156, 83, 1155, 21),
  (⟨"DrownedBellsModel", "refuses", "(IIII)I"⟩, prog_13_method_7_code, 5, (some .int), 11, 1, 1168, 83, 1167, 24),
  (⟨"DrownedBellsModel", "remembers", "()V"⟩, prog_13_method_6_code, 2, none, 11, 1, 1172, 83, 1171, 25),
  (⟨"DrownedBellsModel", "renews", "(I)I"⟩, prog_13_method_25_code, 3, (some .int), 11, 1, 1180, 83, 1179, 26),
  (⟨"DrownedBellsModel", "lay", "(C)I"⟩, prog_13_method_27_code, 3, (some .int), 11, 1, 1184, 83, 1182, 1183),
  (⟨"DrownedBellsModel", "isKind", "(I)Z"⟩, prog_13_method_32_code, 1, (some .boolean), 11, 1, 1191, 83, 1190, 0),
  (⟨"DrownedBellsModel", "isWordHere", "(II)Z"⟩, prog_13_method_30_code, 7, (some .boolean), 11, 1, 1210, 83, 1209, 30),
  (⟨"DrownedBellsModel", "isWord", "(I)Z"⟩, prog_13_method_14_code, 2, (some .boolean), 11, 1, 1218, 83, 1217, 31),
  (⟨"DrownedBellsModel", "strikes", "(I)I"⟩, prog_13_method_35_code, 3, (some .int), 11, 1, 1222, 83, 1221, 32),
  (⟨"DrownedBellsModel", "isReach", "(I)Z"⟩, prog_13_method_18_code, 1, (some .boolean), 11, 1, 1229, 83, 1228, 0),
  (⟨"DrownedBellsModel", "comes", "(II)I"⟩, prog_13_method_37_code, 3, (some .int), 11, 1, 1233, 83, 1232, 33),
  (⟨"DrownedBellsModel", "isSwimmer", "(I)Z"⟩, prog_13_method_15_code, 2, (some .boolean), 11, 1, 1244, 83, 1243, 34),
  (⟨"DrownedBellsModel", "leaves", "(I)I"⟩, prog_13_method_40_code, 3, (some .int), 11, 1, 1252, 83, 1251, 35),
  (⟨"DrownedBellsModel", "rings", "()I"⟩, prog_13_method_43_code, 5, (some .int), 11, 1, 1260, 83, 1259, 36),
  (⟨"DrownedBellsModel", "isPeal", "(I)Z"⟩, prog_13_method_16_code, 2, (some .boolean), 11, 1, 1273, 83, 1272, 38),
  (⟨"DrownedBellsModel", "takesPeal", "(I)V"⟩, prog_13_method_29_code, 3, none, 11, 1, 1277, 83, 1276, 39),
  (⟨"DrownedBellsModel", "doesHear", "(III)Z"⟩, prog_13_method_55_code, 4, (some .boolean), 11, 1, 1323, 83, 1322, 43),
  (⟨"DrownedBellsModel", "signsOf", "(II)I"⟩, prog_13_method_63_code, 5, (some .int), 11, 1, 1360, 83, 1359, 48),
  (⟨"DrownedBellsModel", "worn", "(I)I"⟩, prog_13_method_71_code, 8, (some .int), 11, 1, 1384, 83, 1382, 1383),
  (⟨"DrownedBellsModel", "alphabetOf", "(I)I"⟩, prog_13_method_72_code, 5, (some .int), 11, 1, 1392, 83, 1391, 51),
  (⟨"DrownedBellsModel", "wearNow", "()I"⟩, prog_13_method_75_code, 3, (some .int), 11, 1, 1404, 83, 1403, 52),
  (⟨"DrownedBellsModel", "putSign", "(II)I"⟩, prog_13_method_80_code, 3, (some .int), 11, 1, 1421, 83, 1420, 53),
  (⟨"DrownedBellsModel", "putKind", "(II)I"⟩, prog_13_method_81_code, 4, (some .int), 11, 1, 1429, 83, 1428, 55),
  (⟨"DrownedBellsModel", "written", "(I)I"⟩, prog_13_method_84_code, 2, (some .int), 11, 1, 1437, 83, 1435, 1436),
  (⟨"DrownedBellsModel", "append", "(C)I"⟩, prog_13_method_85_code, 2, (some .int), 11, 1, 1441, 83, 1439, 1440),
  (⟨"DrownedBellsModel", "reads", "(II)I"⟩, prog_13_method_88_code, 3, (some .int), 11, 1, 1475, 83, 1474, 60),
  (⟨"DrownedBellsModel", "isSign", "()Z"⟩, prog_13_method_91_code, 1, (some .boolean), 11, 1, 1499, 83, 1498, 66),
  (⟨"DrownedBells$Bells", "<init>", "()V"⟩, prog_2_method_1_code, 1, none, 0, 2, 107, 73, 106, 0),
  (⟨"DrownedBells$Peals", "<init>", "()V"⟩, prog_6_method_1_code, 1, none, 4, 2, 191, 78, 190, 0),
  (⟨"DrownedBells$Village", "take", "(LDrownedBells$Village;)V"⟩, prog_11_method_2_code, 2, none, 9, 2, 376, 72, 374, 375),
  (⟨"DrownedBells$Book", "enter", "(ILDrownedBells$Row;LDrownedBells$Reasons;)I"⟩, prog_3_method_3_code, 7, (some .int), 1, 2, 467, 76, 465, 466),
  (⟨"DrownedBells$Book", "remove", "(I)I"⟩, prog_3_method_4_code, 2, (some .int), 1, 2, 496, 76, 494, 495),
  (⟨"DrownedBells$Swimmers", "leave", "(I)I"⟩, prog_9_method_5_code, 2, (some .int), 7, 2, 535, 77, 533, 534),
  (⟨"DrownedBells$Bells", "canAnySound", "(LDrownedBells$Row;)Z"⟩, prog_2_method_6_code, 3, (some .boolean), 0, 2, 550, 73, 548, 549),
  (⟨"DrownedBells$Peals", "begin", "()V"⟩, prog_6_method_4_code, 2, none, 4, 2, 559, 78, 557, 558),
  (⟨"DrownedBells$Bells", "pull", "(I)I"⟩, prog_2_method_7_code, 2, (some .int), 0, 2, 571, 73, 569, 570),
  (⟨"DrownedBells", "swimmersWhoHear", "(I)I"⟩, prog_1_method_45_code, 6, (some .int), 10, 2, 585, 71, 584, 4),
  (⟨"DrownedBells$Book", "count", "(II)I"⟩, prog_3_method_6_code, 5, (some .int), 1, 2, 600, 76, 598, 599),
  (⟨"DrownedBells", "bellsHeardBy", "(I)I"⟩, prog_1_method_46_code, 6, (some .int), 10, 2, 620, 71, 619, 5),
  (⟨"DrownedBells$Peals", "copyTo", "(ILDrownedBells$Row;)V"⟩, prog_6_method_7_code, 4, none, 4, 2, 632, 78, 630, 631),
  (⟨"DrownedBells$Parser", "countBackward", "(LDrownedBells$Book;LDrownedBells$Row;)I"⟩, prog_5_method_3_code, 7, (some .int), 3, 2, 648, 81, 646, 647),
  (⟨"DrownedBells$Parser", "wordOnTheWay", "(LDrownedBells$Book;LDrownedBells$Row;II)I"⟩, prog_5_method_5_code, 7, (some .int), 3, 2, 685, 81, 684, 10),
  (⟨"DrownedBells$Parser", "countForward", "(LDrownedBells$Book;LDrownedBells$Row;)I"⟩, prog_5_method_2_code, 8, (some .int), 3, 2, 702, 81, 700, 701),
  (⟨"DrownedBells", "signOf", "(II)I"⟩, prog_1_method_19_code, 3, (some .int), 10, 2, 727, 71, 725, 726),
  (⟨"DrownedBells", "hears", "(III)I"⟩, prog_1_method_20_code, 6, (some .int), 10, 2, 732, 71, 730, 731),
  (⟨"DrownedBells", "worn", "(I)I"⟩, prog_1_method_25_code, 5, (some .int), 10, 2, 760, 71, 758, 759),
  (⟨"DrownedBells", "listed", "(I)I"⟩, prog_1_method_26_code, 3, (some .int), 10, 2, 764, 71, 762, 763),
  (⟨"DrownedBells$Book", "isWithoutTwins", "()Z"⟩, prog_3_method_9_code, 2, (some .boolean), 1, 2, 772, 76, 770, 771),
  (⟨"DrownedBells", "meanWear", "()D"⟩, prog_1_method_28_code, 1, (some .double), 10, 2, 780, 71, 778, 779),
  (⟨"DrownedBells", "account", "(I)I"⟩, prog_1_method_30_code, 2, (some .int), 10, 2, 789, 71, 787, 788),
  (⟨"DrownedBells", "writeBook", "()I"⟩, prog_1_method_32_code, 3, (some .int), 10, 2, 803, 71, 801, 802),
  (⟨"java/lang/StringLatin1", "charAt", "([BI)C"⟩, prog_17_method_2_code, 2, (some .char), 14, 2, 862, 85, 861, 0),
  (⟨"DrownedBells$Text", "endOf", "(II)I"⟩, prog_10_method_8_code, 5, (some .int), 8, 2, 906, 82, 905, 17),
  (⟨"java/lang/String", "indexOf", "(II)I"⟩, prog_16_method_80_code, 3, (some .int), 13, 2, 928, 84, 926, 927),
  (⟨"DrownedBells$Text", "copySigns", "(ILDrownedBells$Row;)V"⟩, prog_10_method_4_code, 5, none, 8, 2, 979, 82, 977, 978),
  (⟨"DrownedBellsModel", "ends", "(I)I"⟩, prog_13_method_8_code, 2, (some .int), 11, 2, 1164, 83, 1163, 23),
  (⟨"DrownedBellsModel", "same", "()I"⟩, prog_13_method_31_code, 3, (some .int), 11, 2, 1203, 83, 1202, 29),
  (⟨"DrownedBellsModel", "parsesNow", "()I"⟩, prog_13_method_47_code, 6, (some .int), 11, 2, 1284, 83, 1283, 40),
  (⟨"DrownedBellsModel", "signOf", "(II)I"⟩, prog_13_method_54_code, 4, (some .int), 11, 2, 1315, 83, 1313, 1314),
  (⟨"DrownedBellsModel", "hears", "(III)I"⟩, prog_13_method_56_code, 7, (some .int), 11, 2, 1319, 83, 1317, 1318),
  (⟨"DrownedBellsModel", "hearersOf", "(I)I"⟩, prog_13_method_62_code, 5, (some .int), 11, 2, 1352, 83, 1351, 46),
  (⟨"DrownedBellsModel", "wordsWith", "(I)I"⟩, prog_13_method_64_code, 4, (some .int), 11, 2, 1356, 83, 1355, 47),
  (⟨"DrownedBellsModel", "wordOf", "(II)I"⟩, prog_13_method_66_code, 3, (some .int), 11, 2, 1364, 83, 1362, 1363),
  (⟨"DrownedBellsModel", "bellsHeard", "(I)I"⟩, prog_13_method_67_code, 4, (some .int), 11, 2, 1372, 83, 1371, 49),
  (⟨"DrownedBellsModel", "listed", "(I)I"⟩, prog_13_method_73_code, 6, (some .int), 11, 2, 1388, 83, 1386, 1387),
  (⟨"DrownedBellsModel", "meanWear", "()D"⟩, prog_13_method_76_code, 1, (some .double), 11, 2, 1400, 83, 1398, 1399),
  (⟨"DrownedBellsModel", "account", "(I)I"⟩, prog_13_method_78_code, 2, (some .int), 11, 2, 1413, 83, 1411, 1412),
  (⟨"DrownedBellsModel", "writeBook", "()I"⟩, prog_13_method_83_code, 4, (some .int), 11, 2, 1433, 83, 1431, 1432),
  (⟨"DrownedBellsModel", "blank", "()V"⟩, prog_13_method_90_code, 2, none, 11, 2, 1483, 83, 1482, 62),
  (⟨"DrownedBellsModel", "digit", "()I"⟩, prog_13_method_89_code, 1, (some .int), 11, 2, 1487, 83, 1486, 63),
  (⟨"DrownedBellsModel", "readsKind", "()I"⟩, prog_13_method_95_code, 4, (some .int), 11, 2, 1491, 83, 1490, 64),
  (⟨"DrownedBellsModel", "readsSigns", "(I)V"⟩, prog_13_method_92_code, 2, none, 11, 2, 1495, 83, 1494, 65),
  (⟨"DrownedBellsModel", "isRight", "(I)Z"⟩, prog_13_method_99_code, 4, (some .boolean), 11, 2, 1503, 83, 1502, 67),
  (⟨"DrownedBells$Village", "<init>", "()V"⟩, prog_11_method_1_code, 1, none, 9, 3, 101, 72, 100, 0),
  (⟨"DrownedBells$History", "keep", "(LDrownedBells$Village;)V"⟩, prog_4_method_2_code, 3, none, 2, 3, 430, 79, 428, 429),
  (⟨"DrownedBells$Village", "ringPeal", "(LDrownedBells$Row;LDrownedBells$Reasons;)I"⟩, prog_11_method_3_code, 7, (some .int), 9, 3, 544, 72, 542, 543),
  (⟨"DrownedBells$Book", "wordsWith", "(I)I"⟩, prog_3_method_7_code, 4, (some .int), 1, 3, 596, 76, 594, 595),
  (⟨"DrownedBells", "wordOf", "(II)I"⟩, prog_1_method_12_code, 3, (some .int), 10, 3, 611, 71, 609, 610),
  (⟨"DrownedBells$Parser", "isMeant", "(LDrownedBells$Book;LDrownedBells$Row;LDrownedBells$Row;)Z"⟩, prog_5_method_4_code, 8, (some .boolean), 3, 3, 643, 81, 641, 642),
  (⟨"DrownedBells", "parses", "(I)I"⟩, prog_1_method_14_code, 2, (some .int), 10, 3, 694, 71, 692, 693),
  (⟨"DrownedBells", "parsesAgain", "(I)I"⟩, prog_1_method_15_code, 2, (some .int), 10, 3, 706, 71, 704, 705),
  (⟨"DrownedBells", "draftParses", "()I"⟩, prog_1_method_16_code, 1, (some .int), 10, 3, 711, 71, 709, 710),
  (⟨"DrownedBells", "echoes", "(II)I"⟩, prog_1_method_23_code, 4, (some .int), 10, 3, 744, 71, 742, 743),
  (⟨"DrownedBells", "isCounted", "()Z"⟩, prog_1_method_27_code, 3, (some .boolean), 10, 3, 768, 71, 766, 767),
  (⟨"java/lang/String", "charAt", "(I)C"⟩, prog_16_method_56_code, 2, (some .char), 13, 3, 855, 84, 853, 854),
  (⟨"java/lang/String", "indexOf", "(I)I"⟩, prog_16_method_79_code, 2, (some .int), 13, 3, 924, 84, 922, 923),
  (⟨"DrownedBells$History", "giveBack", "(LDrownedBells$Village;)V"⟩, prog_4_method_3_code, 3, none, 2, 3, 1001, 79, 999, 1000),
  (⟨"DrownedBells", "save", "()I"⟩, prog_1_method_39_code, 1, (some .int), 10, 3, 1005, 71, 1003, 1004),
  (⟨"DrownedBells", "restore", "()I"⟩, prog_1_method_40_code, 1, (some .int), 10, 3, 1009, 71, 1007, 1008),
  (⟨"DrownedBellsModel", "hang", "(II)I"⟩, prog_13_method_24_code, 3, (some .int), 11, 3, 1139, 83, 1137, 1138),
  (⟨"DrownedBellsModel", "splice", "(I)I"⟩, prog_13_method_26_code, 2, (some .int), 11, 3, 1176, 83, 1174, 1175),
  (⟨"DrownedBellsModel", "adds", "(I)I"⟩, prog_13_method_33_code, 4, (some .int), 11, 3, 1199, 83, 1198, 28),
  (⟨"DrownedBellsModel", "strike", "(I)I"⟩, prog_13_method_36_code, 2, (some .int), 11, 3, 1214, 83, 1212, 1213),
  (⟨"DrownedBellsModel", "swim", "(II)I"⟩, prog_13_method_38_code, 3, (some .int), 11, 3, 1226, 83, 1224, 1225),
  (⟨"DrownedBellsModel", "dive", "(II)I"⟩, prog_13_method_39_code, 3, (some .int), 11, 3, 1240, 83, 1238, 1239),
  (⟨"DrownedBellsModel", "go", "(I)I"⟩, prog_13_method_41_code, 2, (some .int), 11, 3, 1248, 83, 1246, 1247),
  (⟨"DrownedBellsModel", "ring", "()I"⟩, prog_13_method_44_code, 2, (some .int), 11, 3, 1256, 83, 1254, 1255),
  (⟨"DrownedBellsModel", "parses", "(I)I"⟩, prog_13_method_49_code, 2, (some .int), 11, 3, 1269, 83, 1267, 1268),
  (⟨"DrownedBellsModel", "parsesAgain", "(I)I"⟩, prog_13_method_50_code, 2, (some .int), 11, 3, 1295, 83, 1293, 1294),
  (⟨"DrownedBellsModel", "draftParses", "()I"⟩, prog_13_method_51_code, 1, (some .int), 11, 3, 1299, 83, 1297, 1298),
  (⟨"DrownedBellsModel", "means", "()Z"⟩, prog_13_method_48_code, 6, (some .boolean), 11, 3, 1307, 83, 1306, 42),
  (⟨"DrownedBellsModel", "echoes", "(II)I"⟩, prog_13_method_61_code, 4, (some .int), 11, 3, 1344, 83, 1342, 1343),
  (⟨"DrownedBellsModel", "bellOf", "(II)I"⟩, prog_13_method_65_code, 3, (some .int), 11, 3, 1348, 83, 1346, 1347),
  (⟨"DrownedBellsModel", "meantShare", "()F"⟩, prog_13_method_77_code, 3, (some .float), 11, 3, 1409, 83, 1407, 1408),
  (⟨"DrownedBellsModel", "readsRest", "(II)V"⟩, prog_13_method_96_code, 3, none, 11, 3, 1471, 83, 1470, 59),
  (⟨"DrownedBells$History", "<init>", "()V"⟩, prog_4_method_1_code, 2, none, 2, 4, 237, 79, 236, 0),
  (⟨"DrownedBells", "settled", "(I)I"⟩, prog_1_method_41_code, 2, (some .int), 10, 4, 426, 71, 425, 0),
  (⟨"DrownedBells", "bellOf", "(II)I"⟩, prog_1_method_11_code, 3, (some .int), 10, 4, 579, 71, 577, 578),
  (⟨"DrownedBells", "understanding", "(III)I"⟩, prog_1_method_49_code, 5, (some .int), 10, 4, 628, 71, 627, 7),
  (⟨"DrownedBells", "isMeant", "(I)Z"⟩, prog_1_method_48_code, 2, (some .boolean), 10, 4, 719, 71, 718, 11),
  (⟨"DrownedBells$Text", "match", "(II)I"⟩, prog_10_method_7_code, 5, (some .int), 8, 4, 829, 82, 828, 15),
  (⟨"DrownedBells$Text", "numberOf", "(II)I"⟩, prog_10_method_3_code, 6, (some .int), 8, 4, 920, 82, 918, 919),
  (⟨"DrownedBells", "undo", "()I"⟩, prog_1_method_38_code, 1, (some .int), 10, 4, 997, 71, 995, 996),
  (⟨"DrownedBellsModel", "word", "(I)I"⟩, prog_13_method_34_code, 3, (some .int), 11, 4, 1188, 83, 1186, 1187),
  (⟨"DrownedBellsModel", "said", "(II)I"⟩, prog_13_method_52_code, 3, (some .int), 11, 4, 1303, 83, 1301, 1302),
  (⟨"DrownedBellsModel", "silences", "(I)I"⟩, prog_13_method_53_code, 4, (some .int), 11, 4, 1311, 83, 1309, 1310),
  (⟨"DrownedBellsModel", "clears", "(III)I"⟩, prog_13_method_57_code, 7, (some .int), 11, 4, 1336, 83, 1335, 45),
  (⟨"DrownedBellsModel", "write", "(I)I"⟩, prog_13_method_82_code, 5, (some .int), 11, 4, 1417, 83, 1415, 1416),
  (⟨"DrownedBellsModel", "kindHere", "()I"⟩, prog_13_method_94_code, 6, (some .int), 11, 4, 1461, 83, 1460, 58),
  (⟨"DrownedBellsModel", "does", "(I)I"⟩, prog_13_method_101_code, 4, (some .int), 11, 4, 1507, 83, 1506, 68),
  (⟨"DrownedBells", "<init>", "()V"⟩, prog_1_method_1_code, 1, none, 10, 5, 93, 71, 92, 0),
  (⟨"DrownedBells", "hang", "(II)I"⟩, prog_1_method_2_code, 3, (some .int), 10, 5, 372, 71, 370, 371),
  (⟨"DrownedBells", "splice", "(I)I"⟩, prog_1_method_3_code, 2, (some .int), 10, 5, 439, 71, 437, 438),
  (⟨"DrownedBells", "settledDraft", "(I)I"⟩, prog_1_method_42_code, 2, (some .int), 10, 5, 484, 71, 483, 3),
  (⟨"DrownedBells", "strike", "(I)I"⟩, prog_1_method_6_code, 2, (some .int), 10, 5, 492, 71, 490, 491),
  (⟨"DrownedBells", "swim", "(II)I"⟩, prog_1_method_7_code, 3, (some .int), 10, 5, 507, 71, 505, 506),
  (⟨"DrownedBells", "dive", "(II)I"⟩, prog_1_method_8_code, 3, (some .int), 10, 5, 520, 71, 518, 519),
  (⟨"DrownedBells", "go", "(I)I"⟩, prog_1_method_9_code, 2, (some .int), 10, 5, 531, 71, 529, 530),
  (⟨"DrownedBells", "pealsUnderstoodBy", "(I)I"⟩, prog_1_method_47_code, 6, (some .int), 10, 5, 624, 71, 623, 6),
  (⟨"DrownedBells", "said", "(II)I"⟩, prog_1_method_17_code, 3, (some .int), 10, 5, 715, 71, 713, 714),
  (⟨"DrownedBells", "silences", "(I)I"⟩, prog_1_method_18_code, 2, (some .int), 10, 5, 723, 71, 721, 722),
  (⟨"DrownedBells", "understands", "(II)I"⟩, prog_1_method_21_code, 4, (some .int), 10, 5, 736, 71, 734, 735),
  (⟨"DrownedBells", "needs", "(II)I"⟩, prog_1_method_22_code, 5, (some .int), 10, 5, 740, 71, 738, 739),
  (⟨"DrownedBells", "meantShare", "()F"⟩, prog_1_method_29_code, 4, (some .float), 10, 5, 785, 71, 783, 784),
  (⟨"DrownedBells", "write", "(I)I"⟩, prog_1_method_31_code, 4, (some .int), 10, 5, 793, 71, 791, 792),
  (⟨"DrownedBells$Text", "commandFrom", "(I)I"⟩, prog_10_method_5_code, 3, (some .int), 8, 5, 825, 82, 824, 14),
  (⟨"DrownedBells$Text", "longestMatch", "(I)I"⟩, prog_10_method_6_code, 4, (some .int), 8, 5, 901, 82, 900, 16),
  (⟨"DrownedBells", "perform", "(I)I"⟩, prog_1_method_44_code, 4, (some .int), 10, 5, 916, 71, 915, 19),
  (⟨"DrownedBellsModel", "clearsTo", "(II)I"⟩, prog_13_method_58_code, 4, (some .int), 11, 5, 1332, 83, 1331, 44),
  (⟨"DrownedBellsModel", "needs", "(II)I"⟩, prog_13_method_60_code, 5, (some .int), 11, 5, 1340, 83, 1338, 1339),
  (⟨"DrownedBellsModel", "readsCommand", "()V"⟩, prog_13_method_97_code, 3, none, 11, 5, 1457, 83, 1456, 57),
  (⟨"DrownedBells", "word", "(I)I"⟩, prog_1_method_5_code, 2, (some .int), 10, 6, 463, 71, 461, 462),
  (⟨"DrownedBells", "ring", "()I"⟩, prog_1_method_10_code, 1, (some .int), 10, 6, 540, 71, 538, 539),
  (⟨"DrownedBells", "swimmerOf", "(II)I"⟩, prog_1_method_13_code, 3, (some .int), 10, 6, 616, 71, 614, 615),
  (⟨"DrownedBells", "ranked", "(I)I"⟩, prog_1_method_24_code, 4, (some .int), 10, 6, 752, 71, 750, 751),
  (⟨"DrownedBells$Text", "findFault", "()I"⟩, prog_10_method_2_code, 5, (some .int), 8, 6, 820, 82, 818, 819),
  (⟨"DrownedBells", "performAll", "()I"⟩, prog_1_method_43_code, 3, (some .int), 10, 6, 912, 71, 911, 18),
  (⟨"DrownedBellsModel", "understands", "(II)I"⟩, prog_13_method_59_code, 3, (some .int), 11, 6, 1328, 83, 1326, 1327),
  (⟨"DrownedBellsModel", "understood", "(I)I"⟩, prog_13_method_68_code, 4, (some .int), 11, 6, 1376, 83, 1375, 50),
  (⟨"DrownedBellsModel", "readsAll", "()V"⟩, prog_13_method_98_code, 2, none, 11, 6, 1453, 83, 1452, 56),
  (⟨"DrownedBells", "read", "()I"⟩, prog_1_method_35_code, 3, (some .int), 10, 7, 816, 71, 814, 815),
  (⟨"DrownedBellsModel", "swimmerOf", "(II)I"⟩, prog_13_method_69_code, 3, (some .int), 11, 7, 1368, 83, 1366, 1367),
  (⟨"DrownedBellsModel", "ranked", "(I)I"⟩, prog_13_method_70_code, 8, (some .int), 11, 7, 1380, 83, 1378, 1379),
  (⟨"DrownedBellsModel", "read", "()I"⟩, prog_13_method_102_code, 4, (some .int), 11, 7, 1449, 83, 1447, 1448)]
/-- the links: class, index, kind, two numbers, the place of its word -/
def jb_L : List (Nat × Nat × Nat × Nat × Nat × Nat) := [(6, 3, 8, 0, 0, 114), (6, 9, 0, 6, 1, 119), (6, 15, 15, 0, 0, 115), (6, 21, 0, 6, 0, 118), (5, 3, 8, 0, 0, 258), (5, 9, 0, 5, 0, 259), (5, 15, 0, 5, 1, 261), (5, 18, 0, 5, 2, 263), (5, 21, 0, 5, 3, 265), (2, 17, 0, 2, 1, 243), (2, 11, 0, 2, 0, 242), (6, 25, 15, 1, 0, 667), (3, 87, 15, 1, 0, 681), (8, 87, 11, 0, 0, 833), (8, 89, 11, 1, 0, 834), (8, 91, 11, 2, 0, 835), (8, 93, 11, 3, 0, 836), (8, 95, 11, 4, 0, 837), (8, 97, 11, 5, 0, 838), (8, 99, 11, 6, 0, 839), (8, 101, 11, 7, 0, 840), (8, 103, 11, 8, 0, 841), (13, 38, 13, 0, 0, 850), (13, 15, 14, 1, 0, 1513), (10, 84, 0, 10, 16, 333), (10, 32, 0, 10, 4, 321), (10, 281, 1, 5, 0, 260), (10, 284, 1, 5, 1, 262), (10, 287, 1, 5, 3, 266), (10, 290, 1, 5, 2, 264), (2, 21, 0, 2, 2, 244), (11, 3, 8, 0, 0, 1019), (11, 9, 0, 11, 0, 1020), (11, 13, 0, 11, 1, 1021), (11, 16, 0, 11, 2, 1022), (11, 19, 0, 11, 3, 1023), (11, 22, 0, 11, 10, 1030), (11, 26, 0, 11, 11, 1031), (11, 29, 0, 11, 13, 1033), (11, 32, 0, 11, 15, 1035), (11, 35, 0, 11, 19, 1039), (11, 38, 0, 11, 21, 1041), (11, 41, 0, 11, 22, 1042), (11, 44, 0, 11, 23, 1043), (11, 47, 0, 11, 25, 1045), (11, 50, 0, 11, 30, 1050), (11, 53, 0, 11, 17, 1037), (11, 56, 0, 11, 18, 1038), (11, 121, 0, 11, 12, 1032), (11, 124, 0, 11, 20, 1040), (11, 171, 15, 1, 0, 1265), (11, 256, 0, 11, 27, 1047), (11, 259, 0, 11, 26, 1046), (6, 40, 2, 1, 1, 130), (1, 3, 8, 0, 0, 152), (1, 9, 9, 6, 0, 153), (1, 11, 6, 0, 1, 154), (1, 14, 0, 1, 0, 155), (1, 20, 0, 1, 1, 158), (1, 23, 0, 1, 2, 161), (7, 3, 8, 0, 0, 175), (7, 9, 9, 6, 0, 176), (7, 11, 6, 0, 1, 177), (7, 14, 0, 7, 0, 178), (7, 20, 0, 7, 1, 180), (3, 3, 8, 0, 0, 281), (3, 9, 9, 6, 0, 282), (3, 13, 6, 0, 1, 283), (3, 16, 0, 3, 0, 284), (3, 20, 0, 3, 1, 285), (8, 3, 8, 0, 0, 297), (8, 9, 9, 6, 0, 298), (8, 11, 6, 0, 1, 299), (8, 14, 0, 8, 0, 300), (8, 20, 0, 8, 1, 302), (8, 23, 0, 8, 2, 304), (8, 26, 0, 8, 3, 305), (0, 14, 0, 0, 0, 134), (0, 30, 2, 3, 1, 381), (0, 20, 0, 0, 1, 136), (0, 23, 0, 0, 2, 138), (1, 26, 2, 3, 1, 389), (7, 23, 2, 3, 1, 394), (4, 14, 0, 4, 0, 196), (4, 27, 2, 3, 1, 399), (4, 20, 0, 4, 1, 198), (0, 34, 2, 4, 1, 404), (0, 38, 5, 5, 1, 408), (0, 41, 2, 6, 1, 411), (0, 45, 2, 7, 2, 415), (0, 51, 2, 8, 2, 419), (10, 110, 4, 10, 1, 448), (10, 55, 0, 10, 7, 324), (10, 113, 2, 11, 0, 451), (10, 117, 2, 1, 1, 455), (10, 120, 2, 12, 0, 456), (1, 58, 2, 4, 1, 474), (1, 40, 2, 6, 1, 470), (1, 30, 2, 12, 0, 468), (6, 36, 2, 4, 1, 501), (6, 28, 2, 6, 1, 502), (6, 32, 2, 8, 2, 503), (7, 27, 5, 5, 1, 512), (7, 31, 2, 11, 0, 513), (7, 35, 2, 7, 2, 514), (7, 41, 2, 1, 1, 515), (7, 44, 2, 12, 0, 516), (7, 48, 2, 4, 1, 525), (7, 51, 2, 6, 1, 526), (7, 55, 2, 8, 2, 527), (4, 42, 2, 6, 1, 565), (4, 46, 2, 8, 2, 566), (0, 61, 15, 2, 0, 590), (1, 65, 4, 14, 2, 605), (4, 31, 2, 4, 1, 638), (3, 24, 2, 12, 0, 649), (3, 43, 2, 6, 1, 653), (3, 36, 4, 15, 2, 655), (3, 65, 2, 16, 3, 663), (3, 59, 1, 1, 1, 159), (3, 50, 1, 1, 0, 156), (3, 62, 4, 17, 1, 678), (10, 65, 0, 10, 10, 327), (10, 164, 2, 6, 1, 581), (10, 77, 0, 10, 14, 331), (10, 59, 0, 10, 8, 325), (10, 160, 2, 4, 1, 580), (10, 46, 0, 10, 6, 323), (10, 263, 1, 8, 0, 301), (13, 9, 14, 0, 0, 1512), (13, 335, 2, 21, 0, 846), (13, 1053, 13, 1, 0, 866), (13, 1059, 4, 23, 3, 868), (8, 69, 5, 10, 1, 894), (8, 72, 5, 24, 1, 895), (14, 88, 4, 25, 1, 933), (14, 92, 15, 0, 0, 936), (14, 38, 15, 1, 0, 937), (14, 95, 4, 26, 4, 938), (5, 24, 2, 7, 2, 984), (11, 85, 4, 31, 3, 1118), (11, 66, 0, 11, 6, 1026), (11, 72, 0, 11, 8, 1028), (11, 69, 0, 11, 7, 1027), (11, 75, 0, 11, 9, 1029), (11, 63, 0, 11, 5, 1025), (11, 59, 4, 32, 4, 1125), (11, 89, 0, 11, 4, 1024), (11, 93, 2, 34, 3, 1157), (11, 107, 4, 33, 1, 1150), (11, 130, 4, 36, 1, 1204), (11, 156, 4, 37, 1, 1234), (11, 176, 2, 38, 0, 1261), (11, 127, 4, 39, 1, 1278), (11, 205, 15, 2, 0, 1324), (11, 244, 2, 43, 2, 1422), (11, 253, 0, 11, 16, 1036), (11, 241, 0, 11, 14, 1034), (11, 262, 0, 11, 28, 1048), (11, 265, 2, 46, 0, 1476), (0, 3, 8, 0, 0, 108), (0, 9, 9, 6, 0, 109), (0, 11, 6, 0, 1, 111), (0, 26, 2, 48, 2, 126), (4, 3, 8, 0, 0, 192), (4, 9, 9, 6, 0, 193), (4, 11, 6, 0, 1, 194), (4, 23, 2, 48, 2, 195), (9, 12, 0, 9, 0, 204), (9, 49, 2, 53, 1, 377), (9, 21, 0, 9, 1, 206), (9, 53, 2, 54, 1, 385), (9, 28, 0, 9, 2, 208), (9, 56, 2, 55, 1, 390), (9, 35, 0, 9, 3, 210), (9, 59, 2, 56, 1, 395), (9, 39, 0, 9, 4, 212), (9, 43, 0, 9, 5, 214), (9, 46, 0, 9, 6, 216), (1, 34, 2, 7, 2, 469), (1, 44, 4, 60, 1, 471), (1, 48, 2, 61, 1, 475), (1, 51, 2, 11, 0, 479), (1, 55, 2, 1, 1, 480), (1, 62, 2, 62, 1, 497), (7, 59, 2, 62, 1, 536), (0, 54, 2, 12, 0, 551), (0, 58, 2, 65, 1, 552), (4, 35, 2, 66, 1, 560), (4, 38, 2, 12, 0, 564), (10, 10, 0, 10, 0, 317), (10, 140, 1, 9, 2, 209), (10, 189, 1, 7, 0, 179), (10, 190, 1, 7, 1, 181), (10, 92, 1, 9, 0, 205), (10, 226, 2, 68, 3, 586), (1, 68, 2, 69, 2, 601), (4, 49, 2, 13, 0, 633), (4, 52, 2, 70, 2, 634), (4, 56, 2, 1, 1, 639), (3, 28, 4, 71, 1, 650), (3, 32, 2, 48, 2, 654), (3, 40, 2, 8, 2, 658), (3, 47, 2, 72, 2, 659), (3, 55, 2, 73, 3, 670), (3, 69, 2, 74, 3, 674), (10, 199, 1, 9, 3, 211), (10, 223, 2, 70, 2, 728), (10, 233, 2, 13, 0, 485), (10, 167, 1, 0, 1, 137), (10, 157, 1, 0, 0, 135), (10, 239, 2, 78, 1, 753), (10, 124, 1, 9, 1, 207), (10, 179, 1, 1, 0, 157), (10, 242, 1, 1, 2, 162), (10, 249, 2, 79, 0, 773), (10, 255, 12, 4617315517961601024, 0, 781), (10, 245, 1, 4, 0, 197), (10, 257, 1, 9, 4, 213), (10, 252, 1, 9, 5, 215), (10, 260, 1, 9, 6, 217), (10, 25, 0, 10, 3, 320), (10, 266, 1, 2, 2, 245), (10, 271, 4, 19, 1, 797), (10, 182, 1, 1, 1, 160), (10, 274, 2, 69, 2, 804), (10, 268, 4, 18, 1, 794), (14, 9, 4, 83, 2, 863), (8, 53, 4, 20, 1, 830), (8, 62, 2, 82, 0, 842), (8, 46, 2, 12, 0, 907), (8, 50, 2, 6, 1, 890), (13, 492, 2, 22, 0, 856), (13, 505, 2, 82, 0, 929), (13, 637, 4, 85, 4, 930), (8, 29, 2, 13, 0, 821), (8, 43, 2, 1, 1, 908), (11, 78, 2, 95, 4, 1165), (11, 82, 2, 96, 0, 1169), (11, 133, 2, 100, 2, 1207), (11, 182, 4, 40, 1, 1285), (11, 185, 2, 41, 2, 1288), (11, 194, 2, 108, 1, 1270), (11, 165, 2, 105, 1, 1241), (11, 208, 2, 110, 3, 1320), (11, 218, 2, 111, 2, 1357), (11, 150, 2, 101, 1, 1215), (11, 233, 2, 113, 1, 1389), (11, 236, 2, 114, 0, 1401), (11, 239, 12, 4617315517961601024, 0, 1405), (11, 250, 2, 116, 2, 1426), (11, 247, 2, 115, 2, 1418), (11, 268, 2, 119, 2, 1472), (11, 271, 2, 120, 0, 1496), (11, 101, 4, 92, 1, 1143), (9, 3, 8, 0, 0, 102), (9, 9, 9, 0, 0, 103), (9, 11, 6, 121, 0, 105), (9, 18, 9, 1, 0, 147), (9, 20, 7, 49, 0, 149), (9, 25, 9, 7, 0, 170), (9, 27, 7, 50, 0, 172), (9, 32, 9, 4, 0, 187), (9, 34, 6, 122, 0, 189), (2, 25, 2, 9, 1, 431), (2, 29, 2, 123, 1, 435), (9, 62, 2, 12, 0, 545), (9, 68, 2, 7, 2, 546), (9, 74, 2, 127, 1, 547), (9, 78, 2, 128, 0, 556), (9, 81, 2, 6, 1, 567), (9, 85, 2, 129, 1, 568), (9, 88, 2, 67, 1, 572), (1, 71, 2, 131, 2, 597), (10, 185, 2, 131, 2, 612), (3, 73, 2, 13, 0, 644), (3, 76, 2, 134, 2, 645), (3, 80, 2, 135, 4, 682), (3, 84, 2, 1, 1, 686), (10, 203, 2, 76, 1, 695), (10, 206, 2, 133, 2, 629), (10, 39, 0, 10, 5, 322), (10, 210, 2, 136, 2, 699), (10, 214, 2, 134, 2, 707), (10, 71, 0, 10, 12, 329), (10, 236, 2, 77, 2, 745), (10, 246, 2, 141, 0, 769), (10, 170, 1, 0, 2, 139), (13, 495, 4, 145, 2, 860), (13, 633, 2, 147, 2, 925), (10, 19, 0, 10, 2, 319), (10, 88, 2, 123, 1, 373), (10, 80, 0, 10, 15, 332), (10, 296, 2, 29, 0, 1010), (11, 97, 4, 91, 1, 1140), (11, 104, 2, 93, 0, 1146), (11, 111, 2, 94, 2, 1153), (11, 115, 2, 149, 1, 1161), (11, 118, 2, 97, 1, 1177), (11, 137, 2, 150, 0, 1200), (11, 153, 2, 102, 1, 1219), (11, 159, 4, 103, 1, 1227), (11, 162, 2, 104, 2, 1230), (11, 168, 2, 106, 1, 1249), (11, 144, 2, 35, 0, 1192), (11, 179, 2, 107, 0, 1257), (11, 197, 2, 109, 1, 1274), (11, 191, 2, 151, 0, 1281), (11, 188, 0, 11, 24, 1044), (11, 221, 2, 154, 1, 1349), (11, 224, 2, 155, 1, 1353), (11, 288, 2, 162, 0, 1480), (11, 291, 2, 163, 0, 1484), (11, 294, 2, 164, 0, 1488), (11, 297, 2, 165, 1, 1492), (2, 3, 8, 0, 0, 238), (2, 9, 10, 9, 0, 239), (2, 9, 9, 9, 0, 239), (2, 24, 7, 167, 0, 241), (10, 16, 0, 10, 1, 318), (10, 297, 2, 168, 1, 427), (10, 173, 2, 130, 1, 582), (10, 176, 2, 170, 1, 593), (10, 74, 0, 10, 13, 330), (10, 316, 2, 172, 3, 640), (10, 68, 0, 10, 11, 328), (10, 319, 2, 75, 1, 687), (8, 65, 2, 178, 1, 852), (8, 83, 4, 84, 2, 891), (8, 57, 2, 179, 1, 921), (10, 293, 2, 180, 1, 998), (11, 141, 4, 99, 1, 1189), (11, 147, 2, 185, 1, 1196), (11, 201, 2, 194, 0, 1304), (11, 274, 4, 45, 1, 1462), (11, 277, 11, 9, 0, 1465), (11, 279, 2, 178, 1, 1466), (11, 285, 15, 0, 0, 1467), (11, 313, 2, 47, 1, 1508), (10, 1, 8, 0, 0, 94), (10, 7, 9, 9, 0, 97), (10, 9, 7, 167, 0, 99), (10, 22, 9, 2, 0, 233), (10, 24, 6, 199, 0, 235), (10, 29, 9, 5, 0, 253), (10, 31, 7, 2, 0, 255), (10, 36, 9, 3, 0, 276), (10, 38, 7, 51, 0, 278), (10, 43, 9, 8, 0, 292), (10, 45, 7, 52, 0, 294), (10, 50, 9, 6, 0, 315), (10, 52, 6, 0, 1, 316), (10, 62, 0, 10, 9, 326), (10, 96, 2, 57, 3, 400), (10, 102, 2, 200, 1, 423), (10, 106, 2, 58, 2, 440), (10, 137, 2, 125, 1, 493), (10, 144, 2, 63, 3, 508), (10, 149, 2, 64, 3, 521), (10, 150, 2, 126, 1, 532), (10, 230, 2, 202, 3, 625), (10, 217, 2, 203, 1, 716), (10, 220, 1, 3, 1, 286), (8, 75, 2, 204, 2, 826), (8, 78, 15, 0, 0, 902), (10, 310, 2, 205, 2, 917), (10, 313, 2, 148, 2, 976), (10, 300, 1, 8, 1, 303), (10, 128, 2, 124, 3, 464), (10, 153, 2, 169, 2, 541), (11, 211, 2, 210, 3, 1333), (11, 300, 0, 11, 29, 1049), (11, 303, 2, 212, 0, 1458), (11, 306, 2, 198, 2, 1468), (10, 134, 2, 217, 1, 481), (10, 193, 2, 132, 1, 617), (10, 196, 2, 222, 1, 621), (8, 32, 2, 229, 1, 822), (8, 36, 2, 230, 1, 898), (8, 39, 2, 146, 2, 903), (10, 303, 2, 231, 1, 913), (10, 306, 2, 86, 2, 980), (11, 215, 2, 232, 2, 1329), (11, 310, 2, 234, 0, 1454), (10, 275, 2, 239, 0, 817), (10, 278, 2, 240, 0, 909), (11, 227, 2, 157, 1, 1369), (11, 230, 2, 242, 1, 1373), (11, 316, 2, 243, 0, 1450), (11, 319, 2, 166, 1, 1500), (11, 322, 2, 213, 1, 1504)]
def jb_S : List String := ["hang B D", "splice B", "word K S", "strike D", "swim D D", "dive D D", "go D", "ring S", "", "hang splice word strike swim dive go ring "]
end
section
/-- Row_init -/
def jb_I0 : List (Nat × Instr × Nat × Nat) := [(0, .aload_n 0, 1, 0), (1, .invokespecial 3, 3, 1), (4, .aload_n 0, 1, 0), (5, .iconst 0, 1, 0), (6, .putfield 9, 3, 2), (9, .aload_n 0, 1, 0), (10, .iload_n 1, 1, 0), (11, .iconst 0, 1, 0), (12, .invokestatic 15, 3, 3), (15, .newarray .int, 2, 0), (17, .putfield 21, 3, 4), (20, .return_, 1, 0)]
/-- Row_add -/
def jb_I1 : List (Nat × Instr × Nat × Nat) := [(0, .aload_n 0, 1, 0), (1, .getfield 9, 3, 2), (4, .ifCond .lt (15), 3, 0), (7, .aload_n 0, 1, 0), (8, .getfield 9, 3, 2), (11, .aload_n 0, 1, 0), (12, .getfield 21, 3, 4), (15, .arraylength, 1, 0), (16, .if_icmp .lt (4), 3, 0), (19, .return_, 1, 0), (20, .aload_n 0, 1, 0), (21, .getfield 21, 3, 4), (24, .aload_n 0, 1, 0), (25, .getfield 9, 3, 2), (28, .iload_n 1, 1, 0), (29, .iastore, 1, 0), (30, .aload_n 0, 1, 0), (31, .dup, 1, 0), (32, .getfield 9, 3, 2), (35, .iconst 1, 1, 0), (36, .iadd, 1, 0), (37, .putfield 9, 3, 2), (40, .return_, 1, 0)]
/-- Reasons_init -/
def jb_I2 : List (Nat × Instr × Nat × Nat) := [(0, .aload_n 0, 1, 0), (1, .invokespecial 3, 3, 5), (4, .aload_n 0, 1, 0), (5, .bipush (-6), 2, 0), (7, .putfield 9, 3, 6), (10, .aload_n 0, 1, 0), (11, .bipush (-6), 2, 0), (13, .putfield 15, 3, 7), (16, .aload_n 0, 1, 0), (17, .bipush (-6), 2, 0), (19, .putfield 18, 3, 8), (22, .aload_n 0, 1, 0), (23, .bipush (-6), 2, 0), (25, .putfield 21, 3, 9), (28, .return_, 1, 0)]
/-- Row_take -/
def jb_I3 : List (Nat × Instr × Nat × Nat) := [(0, .aload_n 0, 1, 0), (1, .iconst 0, 1, 0), (2, .putfield 9, 3, 2), (5, .iconst 0, 1, 0), (6, .istore_n 2, 1, 0), (7, .iload_n 2, 1, 0), (8, .aload_n 1, 1, 0), (9, .getfield 9, 3, 2), (12, .if_icmp .ge (49), 3, 0), (15, .iload_n 2, 1, 0), (16, .aload_n 1, 1, 0), (17, .getfield 21, 3, 4), (20, .arraylength, 1, 0), (21, .if_icmp .ge (40), 3, 0), (24, .iload_n 2, 1, 0), (25, .aload_n 0, 1, 0), (26, .getfield 21, 3, 4), (29, .arraylength, 1, 0), (30, .if_icmp .ge (31), 3, 0), (33, .aload_n 0, 1, 0), (34, .getfield 21, 3, 4), (37, .iload_n 2, 1, 0), (38, .aload_n 1, 1, 0), (39, .getfield 21, 3, 4), (42, .iload_n 2, 1, 0), (43, .iaload, 1, 0), (44, .iastore, 1, 0), (45, .aload_n 0, 1, 0), (46, .dup, 1, 0), (47, .getfield 9, 3, 2), (50, .iconst 1, 1, 0), (51, .iadd, 1, 0), (52, .putfield 9, 3, 2), (55, .iinc 2 1, 3, 0), (58, .goto (-51), 3, 0), (61, .return_, 1, 0)]
/-- Row_has -/
def jb_I4 : List (Nat × Instr × Nat × Nat) := [(0, .iload_n 1, 1, 0), (1, .ifCond .lt (24), 3, 0), (4, .iload_n 1, 1, 0), (5, .aload_n 0, 1, 0), (6, .getfield 9, 3, 2), (9, .if_icmp .ge (16), 3, 0), (12, .iload_n 1, 1, 0), (13, .aload_n 0, 1, 0), (14, .getfield 21, 3, 4), (17, .arraylength, 1, 0), (18, .if_icmp .ge (7), 3, 0), (21, .iconst 1, 1, 0), (22, .goto 4, 3, 0), (25, .iconst 0, 1, 0), (26, .ireturn, 1, 0)]
/-- D_isDepth -/
def jb_I5 : List (Nat × Instr × Nat × Nat) := [(0, .iload_n 0, 1, 0), (1, .iconst 1, 1, 0), (2, .if_icmp .lt (13), 3, 0), (5, .iload_n 0, 1, 0), (6, .bipush 9, 2, 0), (8, .if_icmp .gt (7), 3, 0), (11, .iconst 1, 1, 0), (12, .goto 4, 3, 0), (15, .iconst 0, 1, 0), (16, .ireturn, 1, 0)]
/-- Row_at -/
def jb_I6 : List (Nat × Instr × Nat × Nat) := [(0, .iload_n 1, 1, 0), (1, .ifCond .lt (20), 3, 0), (4, .iload_n 1, 1, 0), (5, .aload_n 0, 1, 0), (6, .getfield 9, 3, 2), (9, .if_icmp .ge (12), 3, 0), (12, .iload_n 1, 1, 0), (13, .aload_n 0, 1, 0), (14, .getfield 21, 3, 4), (17, .arraylength, 1, 0), (18, .if_icmp .lt (5), 3, 0), (21, .iconst (-1), 1, 0), (22, .ireturn, 1, 0), (23, .aload_n 0, 1, 0), (24, .getfield 21, 3, 4), (27, .iload_n 1, 1, 0), (28, .iaload, 1, 0), (29, .ireturn, 1, 0)]
/-- Reasons_refuse -/
def jb_I7 : List (Nat × Instr × Nat × Nat) := [(0, .aload_n 0, 1, 0), (1, .iload_n 1, 1, 0), (2, .putfield 9, 3, 6), (5, .aload_n 0, 1, 0), (6, .iload_n 2, 1, 0), (7, .putfield 15, 3, 7), (10, .aload_n 0, 1, 0), (11, .bipush (-6), 2, 0), (13, .putfield 18, 3, 8), (16, .aload_n 0, 1, 0), (17, .bipush (-6), 2, 0), (19, .putfield 21, 3, 9), (22, .bipush (-5), 2, 0), (24, .ireturn, 1, 0)]
/-- Row_put -/
def jb_I8 : List (Nat × Instr × Nat × Nat) := [(0, .iload_n 1, 1, 0), (1, .ifCond .lt (20), 3, 0), (4, .iload_n 1, 1, 0), (5, .aload_n 0, 1, 0), (6, .getfield 9, 3, 2), (9, .if_icmp .ge (12), 3, 0), (12, .iload_n 1, 1, 0), (13, .aload_n 0, 1, 0), (14, .getfield 21, 3, 4), (17, .arraylength, 1, 0), (18, .if_icmp .lt (4), 3, 0), (21, .return_, 1, 0), (22, .aload_n 0, 1, 0), (23, .getfield 21, 3, 4), (26, .iload_n 1, 1, 0), (27, .iload_n 2, 1, 0), (28, .iastore, 1, 0), (29, .return_, 1, 0)]
/-- History_slotOf -/
def jb_I9 : List (Nat × Instr × Nat × Nat) := [(0, .aload_n 0, 1, 0), (1, .getfield 17, 3, 10), (4, .iload_n 1, 1, 0), (5, .iadd, 1, 0), (6, .bipush 8, 2, 0), (8, .irem, 1, 0), (9, .istore_n 2, 1, 0), (10, .iload_n 2, 1, 0), (11, .ifCond .lt (12), 3, 0), (14, .iload_n 2, 1, 0), (15, .aload_n 0, 1, 0), (16, .getfield 11, 3, 11), (19, .arraylength, 1, 0), (20, .if_icmp .lt (5), 3, 0), (23, .aconst_null, 1, 0), (24, .areturn, 1, 0), (25, .aload_n 0, 1, 0), (26, .getfield 11, 3, 11), (29, .iload_n 2, 1, 0), (30, .aaload, 1, 0), (31, .areturn, 1, 0)]
/-- D_signOfCharacter -/
def jb_I10 : List (Nat × Instr × Nat × Nat) := [(0, .iload_n 0, 1, 0), (1, .bipush 46, 2, 0), (3, .if_icmp .ne (5), 3, 0), (6, .iconst 5, 1, 0), (7, .ireturn, 1, 0), (8, .iload_n 0, 1, 0), (9, .bipush 97, 2, 0), (11, .if_icmp .lt (16), 3, 0), (14, .iload_n 0, 1, 0), (15, .bipush 101, 2, 0), (17, .if_icmp .gt (10), 3, 0), (20, .iload_n 0, 1, 0), (21, .bipush 97, 2, 0), (23, .isub, 1, 0), (24, .goto 4, 3, 0), (27, .iconst (-1), 1, 0), (28, .ireturn, 1, 0)]
/-- Row_isFull -/
def jb_I11 : List (Nat × Instr × Nat × Nat) := [(0, .aload_n 0, 1, 0), (1, .getfield 9, 3, 2), (4, .aload_n 0, 1, 0), (5, .getfield 21, 3, 4), (8, .arraylength, 1, 0), (9, .if_icmp .lt (7), 3, 0), (12, .iconst 1, 1, 0), (13, .goto 4, 3, 0), (16, .iconst 0, 1, 0), (17, .ireturn, 1, 0)]
/-- Row_size -/
def jb_I12 : List (Nat × Instr × Nat × Nat) := [(0, .aload_n 0, 1, 0), (1, .getfield 9, 3, 2), (4, .ireturn, 1, 0)]
/-- Row_clear -/
def jb_I13 : List (Nat × Instr × Nat × Nat) := [(0, .aload_n 0, 1, 0), (1, .iconst 0, 1, 0), (2, .putfield 9, 3, 2), (5, .return_, 1, 0)]
/-- Book_signIn -/
def jb_I14 : List (Nat × Instr × Nat × Nat) := [(0, .iload_n 0, 1, 0), (1, .iconst 3, 1, 0), (2, .iconst 3, 1, 0), (3, .iload_n 1, 1, 0), (4, .isub, 1, 0), (5, .imul, 1, 0), (6, .ishr, 1, 0), (7, .bipush 7, 2, 0), (9, .iand, 1, 0), (10, .istore_n 2, 1, 0), (11, .iload_n 2, 1, 0), (12, .iconst 1, 1, 0), (13, .if_icmp .ne (7), 3, 0), (16, .iconst 5, 1, 0), (17, .goto 6, 3, 0), (20, .iload_n 2, 1, 0), (21, .iconst 2, 1, 0), (22, .isub, 1, 0), (23, .ireturn, 1, 0)]
/-- Parser_cell -/
def jb_I15 : List (Nat × Instr × Nat × Nat) := [(0, .iload_n 0, 1, 0), (1, .iconst 3, 1, 0), (2, .imul, 1, 0), (3, .iload_n 1, 1, 0), (4, .iadd, 1, 0), (5, .ireturn, 1, 0)]
/-- Row_raise -/
def jb_I16 : List (Nat × Instr × Nat × Nat) := [(0, .iload_n 1, 1, 0), (1, .ifCond .lt (20), 3, 0), (4, .iload_n 1, 1, 0), (5, .aload_n 0, 1, 0), (6, .getfield 9, 3, 2), (9, .if_icmp .ge (12), 3, 0), (12, .iload_n 1, 1, 0), (13, .aload_n 0, 1, 0), (14, .getfield 21, 3, 4), (17, .arraylength, 1, 0), (18, .if_icmp .lt (4), 3, 0), (21, .return_, 1, 0), (22, .aload_n 0, 1, 0), (23, .getfield 21, 3, 4), (26, .iload_n 1, 1, 0), (27, .aload_n 0, 1, 0), (28, .getfield 21, 3, 4), (31, .iload_n 1, 1, 0), (32, .iaload, 1, 0), (33, .iload_n 2, 1, 0), (34, .iadd, 1, 0), (35, .iload_n 3, 1, 0), (36, .invokestatic 25, 3, 12), (39, .iastore, 1, 0), (40, .return_, 1, 0)]
/-- Parser_stageAfter -/
def jb_I17 : List (Nat × Instr × Nat × Nat) := [(0, .iload_n 0, 1, 0), (1, .iconst 1, 1, 0), (2, .iadd, 1, 0), (3, .iconst 2, 1, 0), (4, .invokestatic 87, 3, 13), (7, .ireturn, 1, 0)]
/-- D_characterOfSign -/
def jb_I18 : List (Nat × Instr × Nat × Nat) := [(0, .iload_n 0, 1, 0), (1, .iconst 5, 1, 0), (2, .if_icmp .ne (8), 3, 0), (5, .bipush 46, 2, 0), (7, .goto 7, 3, 0), (10, .bipush 97, 2, 0), (12, .iload_n 0, 1, 0), (13, .iadd, 1, 0), (14, .ireturn, 1, 0)]
/-- D_characterOfKind -/
def jb_I19 : List (Nat × Instr × Nat × Nat) := [(0, .iload_n 0, 1, 0), (1, .ifCond .ne (6), 3, 0), (4, .bipush 110, 2, 0), (6, .ireturn, 1, 0), (7, .iload_n 0, 1, 0), (8, .iconst 1, 1, 0), (9, .if_icmp .ne (8), 3, 0), (12, .bipush 100, 2, 0), (14, .goto 5, 3, 0), (17, .bipush 116, 2, 0), (19, .ireturn, 1, 0)]
/-- Text_formOf -/
def jb_I20 : List (Nat × Instr × Nat × Nat) := [(0, .iload_n 0, 1, 0), (1, .tableswitch (71) (0) (7) #[(47), (50), (53), (56), (59), (62), (65), (68)], 47, 0), (48, .ldc 87, 2, 14), (50, .areturn, 1, 0), (51, .ldc 89, 2, 15), (53, .areturn, 1, 0), (54, .ldc 91, 2, 16), (56, .areturn, 1, 0), (57, .ldc 93, 2, 17), (59, .areturn, 1, 0), (60, .ldc 95, 2, 18), (62, .areturn, 1, 0), (63, .ldc 97, 2, 19), (65, .areturn, 1, 0), (66, .ldc 99, 2, 20), (68, .areturn, 1, 0), (69, .ldc 101, 2, 21), (71, .areturn, 1, 0), (72, .ldc 103, 2, 22), (74, .areturn, 1, 0)]
/-- Str_coder -/
def jb_I21 : List (Nat × Instr × Nat × Nat) := [(0, .getstatic 38, 3, 23), (3, .ifCond .eq (10), 3, 0), (6, .aload_n 0, 1, 0), (7, .getfield 15, 3, 24), (10, .goto 4, 3, 0), (13, .iconst 1, 1, 0), (14, .ireturn, 1, 0)]
/-- Str_isLatin1 -/
def jb_I22 : List (Nat × Instr × Nat × Nat) := [(0, .getstatic 38, 3, 23), (3, .ifCond .eq (14), 3, 0), (6, .aload_n 0, 1, 0), (7, .getfield 15, 3, 24), (10, .ifCond .ne (7), 3, 0), (13, .iconst 1, 1, 0), (14, .goto 4, 3, 0), (17, .iconst 0, 1, 0), (18, .ireturn, 1, 0)]
/-- Pre_checkIndex -/
def jb_I23 : List (Nat × Instr × Nat × Nat) := [(0, .iload_n 0, 1, 0), (1, .ifCond .lt (8), 3, 0), (4, .iload_n 0, 1, 0), (5, .iload_n 1, 1, 0), (6, .if_icmp .lt (10), 3, 0), (9, .aload_n 2, 1, 0), (10, .iload_n 0, 1, 0), (11, .iload_n 1, 1, 0), (16, .iload_n 0, 1, 0), (17, .ireturn, 1, 0)]
/-- D_kindOfCharacter -/
def jb_I24 : List (Nat × Instr × Nat × Nat) := [(0, .iload_n 0, 1, 0), (1, .bipush 110, 2, 0), (3, .if_icmp .ne (5), 3, 0), (6, .iconst 0, 1, 0), (7, .ireturn, 1, 0), (8, .iload_n 0, 1, 0), (9, .bipush 100, 2, 0), (11, .if_icmp .ne (5), 3, 0), (14, .iconst 1, 1, 0), (15, .ireturn, 1, 0), (16, .iload_n 0, 1, 0), (17, .bipush 116, 2, 0), (19, .if_icmp .ne (7), 3, 0), (22, .iconst 2, 1, 0), (23, .goto 4, 3, 0), (26, .iconst (-1), 1, 0), (27, .ireturn, 1, 0)]
/-- L1_canEncode -/
def jb_I25 : List (Nat × Instr × Nat × Nat) := [(0, .iload_n 0, 1, 0), (1, .ifCond .lt (14), 3, 0), (4, .iload_n 0, 1, 0), (5, .sipush 255, 3, 0), (8, .if_icmp .gt (7), 3, 0), (11, .iconst 1, 1, 0), (12, .goto 4, 3, 0), (15, .iconst 0, 1, 0), (16, .ireturn, 1, 0)]
/-- L1_indexOfChar -/
def jb_I26 : List (Nat × Instr × Nat × Nat) := [(0, .iload_n 1, 1, 0), (1, .i2b, 1, 0), (2, .istore 4, 2, 0), (4, .iload_n 2, 1, 0), (5, .istore 5, 2, 0), (7, .iload 5, 2, 0), (9, .iload_n 3, 1, 0), (10, .if_icmp .ge (21), 3, 0), (13, .aload_n 0, 1, 0), (14, .iload 5, 2, 0), (16, .baload, 1, 0), (17, .iload 4, 2, 0), (19, .if_icmp .ne (6), 3, 0), (22, .iload 5, 2, 0), (24, .ireturn, 1, 0), (25, .iinc 5 1, 3, 0), (28, .goto (-21), 3, 0), (31, .iconst (-1), 1, 0), (32, .ireturn, 1, 0)]
/-- D_fault -/
def jb_I27 : List (Nat × Instr × Nat × Nat) := [(0, .aload_n 0, 1, 0), (1, .getfield 84, 3, 25), (4, .iconst (-1), 1, 0), (5, .if_icmp .ne (8), 3, 0), (8, .bipush (-3), 2, 0), (10, .goto 7, 3, 0), (13, .aload_n 0, 1, 0), (14, .getfield 84, 3, 25), (17, .ireturn, 1, 0)]
/-- D_reason -/
def jb_I28 : List (Nat × Instr × Nat × Nat) := [(0, .iload_n 1, 1, 0), (1, .ifCond .lt (8), 3, 0), (4, .iload_n 1, 1, 0), (5, .iconst 1, 1, 0), (6, .if_icmp .le (6), 3, 0), (9, .bipush (-2), 2, 0), (11, .ireturn, 1, 0), (12, .aload_n 0, 1, 0), (13, .getfield 32, 3, 26), (16, .getfield 281, 3, 27), (19, .bipush (-6), 2, 0), (21, .if_icmp .ne (6), 3, 0), (24, .bipush (-3), 2, 0), (26, .ireturn, 1, 0), (27, .iload_n 1, 1, 0), (28, .ifCond .ne (25), 3, 0), (31, .iload_n 2, 1, 0), (32, .ifCond .eq (13), 3, 0), (35, .aload_n 0, 1, 0), (36, .getfield 32, 3, 26), (39, .getfield 284, 3, 28), (42, .goto 10, 3, 0), (45, .aload_n 0, 1, 0), (46, .getfield 32, 3, 26), (49, .getfield 281, 3, 27), (52, .ireturn, 1, 0), (53, .iload_n 2, 1, 0), (54, .ifCond .eq (13), 3, 0), (57, .aload_n 0, 1, 0), (58, .getfield 32, 3, 26), (61, .getfield 287, 3, 29), (64, .goto 10, 3, 0), (67, .aload_n 0, 1, 0), (68, .getfield 32, 3, 26), (71, .getfield 290, 3, 30), (74, .ireturn, 1, 0)]
/-- History_clear -/
def jb_I29 : List (Nat × Instr × Nat × Nat) := [(0, .aload_n 0, 1, 0), (1, .iconst 0, 1, 0), (2, .putfield 21, 3, 31), (5, .return_, 1, 0)]
/-- M_init -/
def jb_I30 : List (Nat × Instr × Nat × Nat) := [(0, .aload_n 0, 1, 0), (1, .invokespecial 3, 3, 32), (4, .aload_n 0, 1, 0), (5, .sipush 146, 3, 0), (8, .newarray .int, 2, 0), (10, .putfield 9, 3, 33), (13, .aload_n 0, 1, 0), (14, .sipush 146, 3, 0), (17, .newarray .int, 2, 0), (19, .putfield 13, 3, 34), (22, .aload_n 0, 1, 0), (23, .sipush 146, 3, 0), (26, .newarray .int, 2, 0), (28, .putfield 16, 3, 35), (31, .aload_n 0, 1, 0), (32, .sipush 1168, 3, 0), (35, .newarray .int, 2, 0), (37, .putfield 19, 3, 36), (40, .aload_n 0, 1, 0), (41, .bipush (-3), 2, 0), (43, .putfield 22, 3, 37), (46, .aload_n 0, 1, 0), (47, .bipush 20, 2, 0), (49, .newarray .int, 2, 0), (51, .putfield 26, 3, 38), (54, .aload_n 0, 1, 0), (55, .bipush 60, 2, 0), (57, .newarray .int, 2, 0), (59, .putfield 29, 3, 39), (62, .aload_n 0, 1, 0), (63, .bipush 80, 2, 0), (65, .newarray .int, 2, 0), (67, .putfield 32, 3, 40), (70, .aload_n 0, 1, 0), (71, .bipush 60, 2, 0), (73, .newarray .int, 2, 0), (75, .putfield 35, 3, 41), (78, .aload_n 0, 1, 0), (79, .bipush 63, 2, 0), (81, .newarray .int, 2, 0), (83, .putfield 38, 3, 42), (86, .aload_n 0, 1, 0), (87, .bipush 63, 2, 0), (89, .newarray .int, 2, 0), (91, .putfield 41, 3, 43), (94, .aload_n 0, 1, 0), (95, .bipush 20, 2, 0), (97, .newarray .int, 2, 0), (99, .putfield 44, 3, 44), (102, .aload_n 0, 1, 0), (103, .bipush 20, 2, 0), (105, .newarray .int, 2, 0), (107, .putfield 47, 3, 45), (110, .aload_n 0, 1, 0), (111, .bipush 120, 2, 0), (113, .newarray .int, 2, 0), (115, .putfield 50, 3, 46), (118, .iconst 0, 1, 0), (119, .istore_n 1, 1, 0), (120, .iload_n 1, 1, 0), (121, .iconst 5, 1, 0), (122, .if_icmp .ge (23), 3, 0), (125, .aload_n 0, 1, 0), (126, .getfield 9, 3, 33), (129, .bipush 6, 2, 0), (131, .iconst 3, 1, 0), (132, .iload_n 1, 1, 0), (133, .imul, 1, 0), (134, .iadd, 1, 0), (135, .iconst 0, 1, 0), (136, .iadd, 1, 0), (137, .iconst 1, 1, 0), (138, .iastore, 1, 0), (139, .iinc 1 1, 3, 0), (142, .goto (-22), 3, 0), (145, .return_, 1, 0)]
/-- M_isIn -/
def jb_I31 : List (Nat × Instr × Nat × Nat) := [(0, .iload_n 0, 1, 0), (1, .iload_n 1, 1, 0), (2, .if_icmp .lt (12), 3, 0), (5, .iload_n 0, 1, 0), (6, .iload_n 2, 1, 0), (7, .if_icmp .gt (7), 3, 0), (10, .iconst 1, 1, 0), (11, .goto 4, 3, 0), (14, .iconst 0, 1, 0), (15, .ireturn, 1, 0)]
/-- M_copies -/
def jb_I32 : List (Nat × Instr × Nat × Nat) := [(0, .iconst 0, 1, 0), (1, .istore 4, 2, 0), (3, .iload 4, 2, 0), (5, .sipush 146, 3, 0), (8, .if_icmp .ge (21), 3, 0), (11, .aload_n 2, 1, 0), (12, .iload_n 3, 1, 0), (13, .iload 4, 2, 0), (15, .iadd, 1, 0), (16, .aload_n 0, 1, 0), (17, .iload_n 1, 1, 0), (18, .iload 4, 2, 0), (20, .iadd, 1, 0), (21, .iaload, 1, 0), (22, .iastore, 1, 0), (23, .iinc 4 1, 3, 0), (26, .goto (-23), 3, 0), (29, .return_, 1, 0)]
/-- M_bellAt -/
def jb_I33 : List (Nat × Instr × Nat × Nat) := [(0, .bipush 6, 2, 0), (2, .iconst 3, 1, 0), (3, .iload_n 0, 1, 0), (4, .imul, 1, 0), (5, .iadd, 1, 0), (6, .ireturn, 1, 0)]
/-- M_hinders -/
def jb_I34 : List (Nat × Instr × Nat × Nat) := [(0, .iload_n 1, 1, 0), (1, .ifCond .eq (20), 3, 0), (4, .aload_n 0, 1, 0), (5, .getfield 53, 3, 47), (8, .ifCond .ne (13), 3, 0), (11, .aload_n 0, 1, 0), (12, .iload_n 2, 1, 0), (13, .putfield 53, 3, 47), (16, .aload_n 0, 1, 0), (17, .iload_n 3, 1, 0), (18, .putfield 56, 3, 48), (21, .return_, 1, 0)]
/-- M_takesDraft -/
def jb_I35 : List (Nat × Instr × Nat × Nat) := [(0, .iconst 0, 1, 0), (1, .istore_n 1, 1, 0), (2, .iload_n 1, 1, 0), (3, .aload_n 0, 1, 0), (4, .getfield 121, 3, 49), (7, .if_icmp .ge (21), 3, 0), (10, .aload_n 0, 1, 0), (11, .getfield 35, 3, 41), (14, .iload_n 1, 1, 0), (15, .aload_n 0, 1, 0), (16, .getfield 26, 3, 38), (19, .iload_n 1, 1, 0), (20, .iaload, 1, 0), (21, .iastore, 1, 0), (22, .iinc 1 1, 3, 0), (25, .goto (-23), 3, 0), (28, .aload_n 0, 1, 0), (29, .aload_n 0, 1, 0), (30, .getfield 121, 3, 49), (33, .putfield 124, 3, 50), (36, .return_, 1, 0)]
/-- M_wordAt -/
def jb_I36 : List (Nat × Instr × Nat × Nat) := [(0, .bipush 21, 2, 0), (2, .bipush 6, 2, 0), (4, .iload_n 0, 1, 0), (5, .imul, 1, 0), (6, .iadd, 1, 0), (7, .ireturn, 1, 0)]
/-- M_swimmerAt -/
def jb_I37 : List (Nat × Instr × Nat × Nat) := [(0, .bipush 69, 2, 0), (2, .iconst 2, 1, 0), (3, .iload_n 0, 1, 0), (4, .imul, 1, 0), (5, .iadd, 1, 0), (6, .ireturn, 1, 0)]
/-- M_keepsOne -/
def jb_I38 : List (Nat × Instr × Nat × Nat) := [(0, .sipush 145, 3, 0), (3, .istore_n 1, 1, 0), (4, .iload_n 1, 1, 0), (5, .bipush 94, 2, 0), (7, .if_icmp .lt (24), 3, 0), (10, .aload_n 0, 1, 0), (11, .getfield 9, 3, 33), (14, .iload_n 1, 1, 0), (15, .aload_n 0, 1, 0), (16, .getfield 9, 3, 33), (19, .iload_n 1, 1, 0), (20, .bipush 13, 2, 0), (22, .isub, 1, 0), (23, .iaload, 1, 0), (24, .iastore, 1, 0), (25, .iinc 1 (-1), 3, 0), (28, .goto (-24), 3, 0), (31, .aload_n 0, 1, 0), (32, .getfield 9, 3, 33), (35, .bipush 81, 2, 0), (37, .aload_n 0, 1, 0), (38, .getfield 124, 3, 50), (41, .iastore, 1, 0), (42, .iconst 0, 1, 0), (43, .istore_n 1, 1, 0), (44, .iload_n 1, 1, 0), (45, .bipush 12, 2, 0), (47, .if_icmp .ge (36), 3, 0), (50, .aload_n 0, 1, 0), (51, .getfield 9, 3, 33), (54, .bipush 82, 2, 0), (56, .iload_n 1, 1, 0), (57, .iadd, 1, 0), (58, .iload_n 1, 1, 0), (59, .aload_n 0, 1, 0), (60, .getfield 124, 3, 50), (63, .if_icmp .ge (12), 3, 0), (66, .aload_n 0, 1, 0), (67, .getfield 35, 3, 41), (70, .iload_n 1, 1, 0), (71, .iaload, 1, 0), (72, .goto 4, 3, 0), (75, .iconst 0, 1, 0), (76, .iastore, 1, 0), (77, .iinc 1 1, 3, 0), (80, .goto (-36), 3, 0), (83, .aload_n 0, 1, 0), (84, .getfield 9, 3, 33), (87, .iconst 2, 1, 0), (88, .iconst 5, 1, 0), (89, .aload_n 0, 1, 0), (90, .getfield 9, 3, 33), (93, .iconst 2, 1, 0), (94, .iaload, 1, 0), (95, .iconst 1, 1, 0), (96, .iadd, 1, 0), (97, .invokestatic 171, 3, 51), (100, .iastore, 1, 0), (101, .aload_n 0, 1, 0), (102, .getfield 9, 3, 33), (105, .iconst 3, 1, 0), (106, .dup2, 1, 0), (107, .iaload, 1, 0), (108, .iconst 1, 1, 0), (109, .iadd, 1, 0), (110, .iastore, 1, 0), (111, .return_, 1, 0)]
/-- M_pealAt -/
def jb_I39 : List (Nat × Instr × Nat × Nat) := [(0, .bipush 81, 2, 0), (2, .bipush 13, 2, 0), (4, .iload_n 0, 1, 0), (5, .imul, 1, 0), (6, .iadd, 1, 0), (7, .ireturn, 1, 0)]
/-- M_nextKind -/
def jb_I40 : List (Nat × Instr × Nat × Nat) := [(0, .iload_n 0, 1, 0), (1, .ifCond .ne (7), 3, 0), (4, .iconst 1, 1, 0), (5, .goto 4, 3, 0), (8, .iconst 2, 1, 0), (9, .ireturn, 1, 0)]
/-- M_endWays -/
def jb_I41 : List (Nat × Instr × Nat × Nat) := [(0, .iload_n 1, 1, 0), (1, .aload_n 0, 1, 0), (2, .getfield 124, 3, 50), (5, .if_icmp .ne (12), 3, 0), (8, .iload_n 2, 1, 0), (9, .iconst 2, 1, 0), (10, .if_icmp .ne (7), 3, 0), (13, .iconst 1, 1, 0), (14, .goto 4, 3, 0), (17, .iconst 0, 1, 0), (18, .aload_n 0, 1, 0), (19, .getfield 41, 3, 43), (22, .iconst 3, 1, 0), (23, .iload_n 1, 1, 0), (24, .imul, 1, 0), (25, .iload_n 2, 1, 0), (26, .iadd, 1, 0), (27, .iaload, 1, 0), (28, .iadd, 1, 0), (29, .ireturn, 1, 0)]
/-- M_isCounted -/
def jb_I42 : List (Nat × Instr × Nat × Nat) := [(0, .iconst 1, 1, 0), (1, .ireturn, 1, 0)]
/-- M_put -/
def jb_I43 : List (Nat × Instr × Nat × Nat) := [(0, .aload_n 0, 1, 0), (1, .getfield 32, 3, 40), (4, .iload_n 1, 1, 0), (5, .iload_n 2, 1, 0), (6, .iastore, 1, 0), (7, .iload_n 1, 1, 0), (8, .iconst 1, 1, 0), (9, .iadd, 1, 0), (10, .ireturn, 1, 0)]
/-- M_fault -/
def jb_I44 : List (Nat × Instr × Nat × Nat) := [(0, .aload_n 0, 1, 0), (1, .getfield 22, 3, 37), (4, .ireturn, 1, 0)]
/-- M_startOf -/
def jb_I45 : List (Nat × Instr × Nat × Nat) := [(0, .iload_n 0, 1, 0), (1, .tableswitch (69) (0) (7) #[(47), (49), (51), (54), (57), (60), (63), (66)], 47, 0), (48, .iconst 0, 1, 0), (49, .ireturn, 1, 0), (50, .iconst 5, 1, 0), (51, .ireturn, 1, 0), (52, .bipush 12, 2, 0), (54, .ireturn, 1, 0), (55, .bipush 17, 2, 0), (57, .ireturn, 1, 0), (58, .bipush 24, 2, 0), (60, .ireturn, 1, 0), (61, .bipush 29, 2, 0), (63, .ireturn, 1, 0), (64, .bipush 34, 2, 0), (66, .ireturn, 1, 0), (67, .bipush 37, 2, 0), (69, .ireturn, 1, 0), (70, .bipush 42, 2, 0), (72, .ireturn, 1, 0)]
/-- M_letterHere -/
def jb_I46 : List (Nat × Instr × Nat × Nat) := [(0, .aload_n 0, 1, 0), (1, .getfield 256, 3, 52), (4, .aload_n 0, 1, 0), (5, .getfield 259, 3, 53), (8, .if_icmp .ge (15), 3, 0), (11, .aload_n 0, 1, 0), (12, .getfield 29, 3, 39), (15, .aload_n 0, 1, 0), (16, .getfield 256, 3, 52), (19, .iaload, 1, 0), (20, .goto 4, 3, 0), (23, .iconst (-1), 1, 0), (24, .ireturn, 1, 0)]
/-- M_takesText -/
def jb_I47 : List (Nat × Instr × Nat × Nat) := [(0, .aload_n 0, 1, 0), (1, .aload_n 0, 1, 0), (2, .getfield 50, 3, 46), (5, .iload_n 1, 1, 0), (6, .iconst 3, 1, 0), (7, .iadd, 1, 0), (8, .iaload, 1, 0), (9, .aload_n 0, 1, 0), (10, .getfield 50, 3, 46), (13, .iload_n 1, 1, 0), (14, .iconst 2, 1, 0), (15, .iadd, 1, 0), (16, .iaload, 1, 0), (17, .isub, 1, 0), (18, .putfield 124, 3, 50), (21, .iconst 0, 1, 0), (22, .istore_n 2, 1, 0), (23, .iload_n 2, 1, 0), (24, .aload_n 0, 1, 0), (25, .getfield 124, 3, 50), (28, .if_icmp .ge (45), 3, 0), (31, .aload_n 0, 1, 0), (32, .getfield 29, 3, 39), (35, .aload_n 0, 1, 0), (36, .getfield 50, 3, 46), (39, .iload_n 1, 1, 0), (40, .iconst 2, 1, 0), (41, .iadd, 1, 0), (42, .iaload, 1, 0), (43, .iload_n 2, 1, 0), (44, .iadd, 1, 0), (45, .iaload, 1, 0), (46, .istore_n 3, 1, 0), (47, .aload_n 0, 1, 0), (48, .getfield 35, 3, 41), (51, .iload_n 2, 1, 0), (52, .iload_n 3, 1, 0), (53, .bipush 46, 2, 0), (55, .if_icmp .ne (7), 3, 0), (58, .iconst 5, 1, 0), (59, .goto 7, 3, 0), (62, .iload_n 3, 1, 0), (63, .bipush 97, 2, 0), (65, .isub, 1, 0), (66, .iastore, 1, 0), (67, .iinc 2 1, 3, 0), (70, .goto (-47), 3, 0), (73, .return_, 1, 0)]
/-- Row_fill -/
def jb_I48 : List (Nat × Instr × Nat × Nat) := [(0, .aload_n 0, 1, 0), (1, .iconst 0, 1, 0), (2, .putfield 9, 3, 2), (5, .iconst 0, 1, 0), (6, .istore_n 3, 1, 0), (7, .iload_n 3, 1, 0), (8, .iload_n 1, 1, 0), (9, .if_icmp .ge (14), 3, 0), (12, .aload_n 0, 1, 0), (13, .iload_n 2, 1, 0), (14, .invokevirtual 40, 3, 54), (17, .iinc 3 1, 3, 0), (20, .goto (-13), 3, 0), (23, .return_, 1, 0)]
/-- Book_init -/
def jb_I49 : List (Nat × Instr × Nat × Nat) := [(0, .aload_n 0, 1, 0), (1, .invokespecial 3, 3, 55), (4, .aload_n 0, 1, 0), (5, .new 9, 3, 56), (8, .dup, 1, 0), (9, .bipush 8, 2, 0), (11, .invokespecial 11, 3, 57), (14, .putfield 14, 3, 58), (17, .aload_n 0, 1, 0), (18, .new 9, 3, 56), (21, .dup, 1, 0), (22, .bipush 8, 2, 0), (24, .invokespecial 11, 3, 57), (27, .putfield 20, 3, 59), (30, .aload_n 0, 1, 0), (31, .new 9, 3, 56), (34, .dup, 1, 0), (35, .bipush 8, 2, 0), (37, .invokespecial 11, 3, 57), (40, .putfield 23, 3, 60), (43, .return_, 1, 0)]
/-- Swimmers_init -/
def jb_I50 : List (Nat × Instr × Nat × Nat) := [(0, .aload_n 0, 1, 0), (1, .invokespecial 3, 3, 61), (4, .aload_n 0, 1, 0), (5, .new 9, 3, 62), (8, .dup, 1, 0), (9, .bipush 6, 2, 0), (11, .invokespecial 11, 3, 63), (14, .putfield 14, 3, 64), (17, .aload_n 0, 1, 0), (18, .new 9, 3, 62), (21, .dup, 1, 0), (22, .bipush 6, 2, 0), (24, .invokespecial 11, 3, 63), (27, .putfield 20, 3, 65), (30, .return_, 1, 0)]
/-- Parser_init -/
def jb_I51 : List (Nat × Instr × Nat × Nat) := [(0, .aload_n 0, 1, 0), (1, .invokespecial 3, 3, 66), (4, .aload_n 0, 1, 0), (5, .new 9, 3, 67), (8, .dup, 1, 0), (9, .bipush 63, 2, 0), (11, .invokespecial 13, 3, 68), (14, .putfield 16, 3, 69), (17, .aload_n 0, 1, 0), (18, .iconst 0, 1, 0), (19, .putfield 20, 3, 70), (22, .return_, 1, 0)]
/-- Text_init -/
def jb_I52 : List (Nat × Instr × Nat × Nat) := [(0, .aload_n 0, 1, 0), (1, .invokespecial 3, 3, 71), (4, .aload_n 0, 1, 0), (5, .new 9, 3, 72), (8, .dup, 1, 0), (9, .bipush 60, 2, 0), (11, .invokespecial 11, 3, 73), (14, .putfield 14, 3, 74), (17, .aload_n 0, 1, 0), (18, .new 9, 3, 72), (21, .dup, 1, 0), (22, .bipush 12, 2, 0), (24, .invokespecial 11, 3, 73), (27, .putfield 20, 3, 75), (30, .aload_n 0, 1, 0), (31, .new 9, 3, 72), (34, .dup, 1, 0), (35, .bipush 12, 2, 0), (37, .invokespecial 11, 3, 73), (40, .putfield 23, 3, 76), (43, .aload_n 0, 1, 0), (44, .new 9, 3, 72), (47, .dup, 1, 0), (48, .bipush 12, 2, 0), (50, .invokespecial 11, 3, 73), (53, .putfield 26, 3, 77), (56, .return_, 1, 0)]
/-- Bells_take -/
def jb_I53 : List (Nat × Instr × Nat × Nat) := [(0, .aload_n 0, 1, 0), (1, .getfield 14, 3, 78), (4, .aload_n 1, 1, 0), (5, .getfield 14, 3, 78), (8, .invokevirtual 30, 3, 79), (11, .aload_n 0, 1, 0), (12, .getfield 20, 3, 80), (15, .aload_n 1, 1, 0), (16, .getfield 20, 3, 80), (19, .invokevirtual 30, 3, 79), (22, .aload_n 0, 1, 0), (23, .getfield 23, 3, 81), (26, .aload_n 1, 1, 0), (27, .getfield 23, 3, 81), (30, .invokevirtual 30, 3, 79), (33, .return_, 1, 0)]
/-- Book_take -/
def jb_I54 : List (Nat × Instr × Nat × Nat) := [(0, .aload_n 0, 1, 0), (1, .getfield 14, 3, 58), (4, .aload_n 1, 1, 0), (5, .getfield 14, 3, 58), (8, .invokevirtual 26, 3, 82), (11, .aload_n 0, 1, 0), (12, .getfield 20, 3, 59), (15, .aload_n 1, 1, 0), (16, .getfield 20, 3, 59), (19, .invokevirtual 26, 3, 82), (22, .aload_n 0, 1, 0), (23, .getfield 23, 3, 60), (26, .aload_n 1, 1, 0), (27, .getfield 23, 3, 60), (30, .invokevirtual 26, 3, 82), (33, .return_, 1, 0)]
/-- Swimmers_take -/
def jb_I55 : List (Nat × Instr × Nat × Nat) := [(0, .aload_n 0, 1, 0), (1, .getfield 14, 3, 64), (4, .aload_n 1, 1, 0), (5, .getfield 14, 3, 64), (8, .invokevirtual 23, 3, 83), (11, .aload_n 0, 1, 0), (12, .getfield 20, 3, 65), (15, .aload_n 1, 1, 0), (16, .getfield 20, 3, 65), (19, .invokevirtual 23, 3, 83), (22, .return_, 1, 0)]
/-- Peals_take -/
def jb_I56 : List (Nat × Instr × Nat × Nat) := [(0, .aload_n 0, 1, 0), (1, .getfield 14, 3, 84), (4, .aload_n 1, 1, 0), (5, .getfield 14, 3, 84), (8, .invokevirtual 27, 3, 85), (11, .aload_n 0, 1, 0), (12, .getfield 20, 3, 86), (15, .aload_n 1, 1, 0), (16, .getfield 20, 3, 86), (19, .invokevirtual 27, 3, 85), (22, .return_, 1, 0)]
/-- Bells_moveTo -/
def jb_I57 : List (Nat × Instr × Nat × Nat) := [(0, .aload_n 0, 1, 0), (1, .getfield 14, 3, 78), (4, .iload_n 1, 1, 0), (5, .invokevirtual 34, 3, 87), (8, .ifCond .ne (5), 3, 0), (11, .iconst (-1), 1, 0), (12, .ireturn, 1, 0), (13, .iload_n 2, 1, 0), (14, .invokestatic 38, 3, 88), (17, .ifCond .ne (6), 3, 0), (20, .bipush (-2), 2, 0), (22, .ireturn, 1, 0), (23, .aload_n 0, 1, 0), (24, .getfield 14, 3, 78), (27, .iload_n 1, 1, 0), (28, .invokevirtual 41, 3, 89), (31, .istore 4, 2, 0), (33, .iload 4, 2, 0), (35, .iload_n 2, 1, 0), (36, .if_icmp .ne (10), 3, 0), (39, .aload_n 3, 1, 0), (40, .iconst 2, 1, 0), (41, .iload_n 2, 1, 0), (42, .invokevirtual 45, 3, 90), (45, .ireturn, 1, 0), (46, .aload_n 0, 1, 0), (47, .getfield 14, 3, 78), (50, .iload_n 1, 1, 0), (51, .iload_n 2, 1, 0), (52, .invokevirtual 51, 3, 91), (55, .iload 4, 2, 0), (57, .ireturn, 1, 0)]
/-- Bells_mend -/
def jb_I58 : List (Nat × Instr × Nat × Nat) := [(0, .aload_n 0, 1, 0), (1, .getfield 20, 3, 80), (4, .iload_n 1, 1, 0), (5, .invokevirtual 34, 3, 87), (8, .ifCond .ne (5), 3, 0), (11, .iconst (-1), 1, 0), (12, .ireturn, 1, 0), (13, .aload_n 0, 1, 0), (14, .getfield 20, 3, 80), (17, .iload_n 1, 1, 0), (18, .invokevirtual 41, 3, 89), (21, .istore_n 3, 1, 0), (22, .iload_n 3, 1, 0), (23, .ifCond .ne (10), 3, 0), (26, .aload_n 2, 1, 0), (27, .iconst 3, 1, 0), (28, .iload_n 1, 1, 0), (29, .invokevirtual 45, 3, 90), (32, .ireturn, 1, 0), (33, .aload_n 0, 1, 0), (34, .getfield 20, 3, 80), (37, .iload_n 1, 1, 0), (38, .iconst 0, 1, 0), (39, .invokevirtual 51, 3, 91), (42, .iload_n 3, 1, 0), (43, .ireturn, 1, 0)]
/-- D_lay -/
def jb_I59 : List (Nat × Instr × Nat × Nat) := [(0, .iload_n 1, 1, 0), (1, .invokestatic 110, 3, 92), (4, .istore_n 2, 1, 0), (5, .iload_n 2, 1, 0), (6, .iconst (-1), 1, 0), (7, .if_icmp .ne (6), 3, 0), (10, .bipush (-2), 2, 0), (12, .ireturn, 1, 0), (13, .aload_n 0, 1, 0), (14, .getfield 55, 3, 93), (17, .invokevirtual 113, 3, 94), (20, .ifCond .eq (6), 3, 0), (23, .bipush (-4), 2, 0), (25, .ireturn, 1, 0), (26, .aload_n 0, 1, 0), (27, .getfield 55, 3, 93), (30, .iload_n 2, 1, 0), (31, .invokevirtual 117, 3, 95), (34, .aload_n 0, 1, 0), (35, .getfield 55, 3, 93), (38, .invokevirtual 120, 3, 96), (41, .ireturn, 1, 0)]
/-- Book_spell -/
def jb_I60 : List (Nat × Instr × Nat × Nat) := [(0, .iconst 0, 1, 0), (1, .istore_n 1, 1, 0), (2, .iconst 0, 1, 0), (3, .istore_n 2, 1, 0), (4, .iload_n 2, 1, 0), (5, .iconst 4, 1, 0), (6, .if_icmp .ge (47), 3, 0), (9, .iconst 0, 1, 0), (10, .istore_n 3, 1, 0), (11, .aload_n 0, 1, 0), (12, .iload_n 2, 1, 0), (13, .invokevirtual 58, 3, 97), (16, .ifCond .eq (24), 3, 0), (19, .aload_n 0, 1, 0), (20, .iload_n 2, 1, 0), (21, .invokevirtual 40, 3, 98), (24, .iconst 5, 1, 0), (25, .if_icmp .ne (7), 3, 0), (28, .iconst 1, 1, 0), (29, .goto 10, 3, 0), (32, .aload_n 0, 1, 0), (33, .iload_n 2, 1, 0), (34, .invokevirtual 40, 3, 98), (37, .iconst 2, 1, 0), (38, .iadd, 1, 0), (39, .istore_n 3, 1, 0), (40, .iload_n 1, 1, 0), (41, .bipush 8, 2, 0), (43, .imul, 1, 0), (44, .iload_n 3, 1, 0), (45, .iadd, 1, 0), (46, .istore_n 1, 1, 0), (47, .iinc 2 1, 3, 0), (50, .goto (-46), 3, 0), (53, .iload_n 1, 1, 0), (54, .ireturn, 1, 0)]
/-- Book_wordSpelt -/
def jb_I61 : List (Nat × Instr × Nat × Nat) := [(0, .iconst 0, 1, 0), (1, .istore_n 2, 1, 0), (2, .iload_n 2, 1, 0), (3, .aload_n 0, 1, 0), (4, .getfield 23, 3, 60), (7, .invokevirtual 30, 3, 99), (10, .if_icmp .ge (23), 3, 0), (13, .aload_n 0, 1, 0), (14, .getfield 23, 3, 60), (17, .iload_n 2, 1, 0), (18, .invokevirtual 40, 3, 98), (21, .iload_n 1, 1, 0), (22, .if_icmp .ne (5), 3, 0), (25, .iload_n 2, 1, 0), (26, .ireturn, 1, 0), (27, .iinc 2 1, 3, 0), (30, .goto (-28), 3, 0), (33, .iconst (-1), 1, 0), (34, .ireturn, 1, 0)]
/-- Row_removeAt -/
def jb_I62 : List (Nat × Instr × Nat × Nat) := [(0, .aload_n 0, 1, 0), (1, .iload_n 1, 1, 0), (2, .invokevirtual 36, 3, 100), (5, .ifCond .ne (4), 3, 0), (8, .return_, 1, 0), (9, .iload_n 1, 1, 0), (10, .istore_n 2, 1, 0), (11, .iload_n 2, 1, 0), (12, .aload_n 0, 1, 0), (13, .getfield 9, 3, 2), (16, .iconst 1, 1, 0), (17, .isub, 1, 0), (18, .if_icmp .ge (21), 3, 0), (21, .aload_n 0, 1, 0), (22, .iload_n 2, 1, 0), (23, .aload_n 0, 1, 0), (24, .iload_n 2, 1, 0), (25, .iconst 1, 1, 0), (26, .iadd, 1, 0), (27, .invokevirtual 28, 3, 101), (30, .invokevirtual 32, 3, 102), (33, .iinc 2 1, 3, 0), (36, .goto (-25), 3, 0), (39, .aload_n 0, 1, 0), (40, .dup, 1, 0), (41, .getfield 9, 3, 2), (44, .iconst 1, 1, 0), (45, .isub, 1, 0), (46, .putfield 9, 3, 2), (49, .return_, 1, 0)]
/-- Swimmers_come -/
def jb_I63 : List (Nat × Instr × Nat × Nat) := [(0, .iload_n 1, 1, 0), (1, .invokestatic 27, 3, 103), (4, .ifCond .eq (13), 3, 0), (7, .iload_n 2, 1, 0), (8, .ifCond .lt (9), 3, 0), (11, .iload_n 2, 1, 0), (12, .bipush 9, 2, 0), (14, .if_icmp .le (6), 3, 0), (17, .bipush (-2), 2, 0), (19, .ireturn, 1, 0), (20, .aload_n 0, 1, 0), (21, .getfield 14, 3, 64), (24, .invokevirtual 31, 3, 104), (27, .ifCond .eq (11), 3, 0), (30, .aload_n 3, 1, 0), (31, .iconst 1, 1, 0), (32, .bipush 6, 2, 0), (34, .invokevirtual 35, 3, 105), (37, .ireturn, 1, 0), (38, .aload_n 0, 1, 0), (39, .getfield 14, 3, 64), (42, .iload_n 1, 1, 0), (43, .invokevirtual 41, 3, 106), (46, .aload_n 0, 1, 0), (47, .getfield 20, 3, 65), (50, .iload_n 2, 1, 0), (51, .invokevirtual 41, 3, 106), (54, .aload_n 0, 1, 0), (55, .getfield 14, 3, 64), (58, .invokevirtual 44, 3, 107), (61, .iconst 1, 1, 0), (62, .isub, 1, 0), (63, .ireturn, 1, 0)]
/-- Swimmers_moveTo -/
def jb_I64 : List (Nat × Instr × Nat × Nat) := [(0, .aload_n 0, 1, 0), (1, .getfield 14, 3, 64), (4, .iload_n 1, 1, 0), (5, .invokevirtual 48, 3, 108), (8, .ifCond .ne (5), 3, 0), (11, .iconst (-1), 1, 0), (12, .ireturn, 1, 0), (13, .iload_n 2, 1, 0), (14, .invokestatic 27, 3, 103), (17, .ifCond .ne (6), 3, 0), (20, .bipush (-2), 2, 0), (22, .ireturn, 1, 0), (23, .aload_n 0, 1, 0), (24, .getfield 14, 3, 64), (27, .iload_n 1, 1, 0), (28, .invokevirtual 51, 3, 109), (31, .istore 4, 2, 0), (33, .iload 4, 2, 0), (35, .iload_n 2, 1, 0), (36, .if_icmp .ne (10), 3, 0), (39, .aload_n 3, 1, 0), (40, .iconst 2, 1, 0), (41, .iload_n 2, 1, 0), (42, .invokevirtual 35, 3, 105), (45, .ireturn, 1, 0), (46, .aload_n 0, 1, 0), (47, .getfield 14, 3, 64), (50, .iload_n 1, 1, 0), (51, .iload_n 2, 1, 0), (52, .invokevirtual 55, 3, 110), (55, .iload 4, 2, 0), (57, .ireturn, 1, 0)]
/-- Bells_canSound -/
def jb_I65 : List (Nat × Instr × Nat × Nat) := [(0, .aload_n 0, 1, 0), (1, .getfield 20, 3, 80), (4, .iload_n 1, 1, 0), (5, .invokevirtual 34, 3, 87), (8, .ifCond .eq (20), 3, 0), (11, .aload_n 0, 1, 0), (12, .getfield 20, 3, 80), (15, .iload_n 1, 1, 0), (16, .invokevirtual 41, 3, 89), (19, .bipush 9, 2, 0), (21, .if_icmp .ge (7), 3, 0), (24, .iconst 1, 1, 0), (25, .goto 4, 3, 0), (28, .iconst 0, 1, 0), (29, .ireturn, 1, 0)]
/-- Row_addFirst -/
def jb_I66 : List (Nat × Instr × Nat × Nat) := [(0, .aload_n 0, 1, 0), (1, .getfield 9, 3, 2), (4, .aload_n 0, 1, 0), (5, .getfield 21, 3, 4), (8, .arraylength, 1, 0), (9, .if_icmp .ge (13), 3, 0), (12, .aload_n 0, 1, 0), (13, .dup, 1, 0), (14, .getfield 9, 3, 2), (17, .iconst 1, 1, 0), (18, .iadd, 1, 0), (19, .putfield 9, 3, 2), (22, .aload_n 0, 1, 0), (23, .getfield 9, 3, 2), (26, .iconst 1, 1, 0), (27, .isub, 1, 0), (28, .istore_n 2, 1, 0), (29, .iload_n 2, 1, 0), (30, .ifCond .le (21), 3, 0), (33, .aload_n 0, 1, 0), (34, .iload_n 2, 1, 0), (35, .aload_n 0, 1, 0), (36, .iload_n 2, 1, 0), (37, .iconst 1, 1, 0), (38, .isub, 1, 0), (39, .invokevirtual 28, 3, 101), (42, .invokevirtual 32, 3, 102), (45, .iinc 2 (-1), 3, 0), (48, .goto (-19), 3, 0), (51, .aload_n 0, 1, 0), (52, .iconst 0, 1, 0), (53, .iload_n 1, 1, 0), (54, .invokevirtual 32, 3, 102), (57, .return_, 1, 0)]
/-- Peals_addToLatest -/
def jb_I67 : List (Nat × Instr × Nat × Nat) := [(0, .aload_n 0, 1, 0), (1, .getfield 14, 3, 84), (4, .iconst 0, 1, 0), (5, .invokevirtual 42, 3, 111), (8, .istore_n 2, 1, 0), (9, .iload_n 2, 1, 0), (10, .bipush 12, 2, 0), (12, .if_icmp .lt (4), 3, 0), (15, .return_, 1, 0), (16, .aload_n 0, 1, 0), (17, .getfield 20, 3, 86), (20, .iload_n 2, 1, 0), (21, .iload_n 1, 1, 0), (22, .invokevirtual 46, 3, 112), (25, .aload_n 0, 1, 0), (26, .getfield 14, 3, 84), (29, .iconst 0, 1, 0), (30, .iload_n 2, 1, 0), (31, .iconst 1, 1, 0), (32, .iadd, 1, 0), (33, .invokevirtual 46, 3, 112), (36, .return_, 1, 0)]
/-- Bells_heardAs -/
def jb_I68 : List (Nat × Instr × Nat × Nat) := [(0, .aload_n 0, 1, 0), (1, .getfield 14, 3, 78), (4, .iload_n 1, 1, 0), (5, .invokevirtual 34, 3, 87), (8, .ifCond .eq (24), 3, 0), (11, .aload_n 0, 1, 0), (12, .getfield 14, 3, 78), (15, .iload_n 1, 1, 0), (16, .invokevirtual 41, 3, 89), (19, .iload_n 2, 1, 0), (20, .isub, 1, 0), (21, .invokestatic 61, 3, 113), (24, .iload_n 3, 1, 0), (25, .if_icmp .gt (7), 3, 0), (28, .iconst 1, 1, 0), (29, .goto 4, 3, 0), (32, .iconst 0, 1, 0), (33, .istore 4, 2, 0), (35, .iload 4, 2, 0), (37, .ifCond .eq (7), 3, 0), (40, .iload_n 1, 1, 0), (41, .goto 4, 3, 0), (44, .iconst 5, 1, 0), (45, .ireturn, 1, 0)]
/-- Book_signAt -/
def jb_I69 : List (Nat × Instr × Nat × Nat) := [(0, .aload_n 0, 1, 0), (1, .getfield 23, 3, 60), (4, .iload_n 1, 1, 0), (5, .invokevirtual 40, 3, 98), (8, .iload_n 2, 1, 0), (9, .invokestatic 65, 3, 114), (12, .ireturn, 1, 0)]
/-- Peals_signAt -/
def jb_I70 : List (Nat × Instr × Nat × Nat) := [(0, .aload_n 0, 1, 0), (1, .getfield 14, 3, 84), (4, .iload_n 1, 1, 0), (5, .invokevirtual 31, 3, 115), (8, .ifCond .eq (19), 3, 0), (11, .iload_n 2, 1, 0), (12, .ifCond .lt (15), 3, 0), (15, .iload_n 2, 1, 0), (16, .aload_n 0, 1, 0), (17, .getfield 14, 3, 84), (20, .iload_n 1, 1, 0), (21, .invokevirtual 42, 3, 111), (24, .if_icmp .lt (5), 3, 0), (27, .iconst (-1), 1, 0), (28, .ireturn, 1, 0), (29, .aload_n 0, 1, 0), (30, .getfield 20, 3, 86), (33, .iload_n 1, 1, 0), (34, .bipush 12, 2, 0), (36, .imul, 1, 0), (37, .iload_n 2, 1, 0), (38, .iadd, 1, 0), (39, .invokevirtual 42, 3, 111), (42, .ireturn, 1, 0)]
/-- Parser_endsSilent -/
def jb_I71 : List (Nat × Instr × Nat × Nat) := [(0, .aload_n 0, 1, 0), (1, .invokevirtual 24, 3, 116), (4, .ifCond .eq (17), 3, 0), (7, .aload_n 0, 1, 0), (8, .aload_n 0, 1, 0), (9, .invokevirtual 24, 3, 116), (12, .iconst 1, 1, 0), (13, .isub, 1, 0), (14, .invokevirtual 43, 3, 117), (17, .iconst 5, 1, 0), (18, .if_icmp .ne (7), 3, 0), (21, .iconst 1, 1, 0), (22, .goto 4, 3, 0), (25, .iconst 0, 1, 0), (26, .ireturn, 1, 0)]
/-- Parser_passSilence -/
def jb_I72 : List (Nat × Instr × Nat × Nat) := [(0, .iconst 1, 1, 0), (1, .istore_n 3, 1, 0), (2, .iload_n 3, 1, 0), (3, .iconst 3, 1, 0), (4, .if_icmp .ge (36), 3, 0), (7, .aload_n 0, 1, 0), (8, .getfield 16, 3, 69), (11, .iload_n 2, 1, 0), (12, .iload_n 3, 1, 0), (13, .invokestatic 36, 3, 118), (16, .aload_n 0, 1, 0), (17, .getfield 16, 3, 69), (20, .iload_n 1, 1, 0), (21, .iload_n 3, 1, 0), (22, .invokestatic 36, 3, 118), (25, .invokevirtual 43, 3, 117), (28, .sipush 9999, 3, 0), (31, .invokevirtual 65, 3, 119), (34, .iinc 3 1, 3, 0), (37, .goto (-35), 3, 0), (40, .return_, 1, 0)]
/-- Book_standsAt -/
def jb_I73 : List (Nat × Instr × Nat × Nat) := [(0, .aload_n 0, 1, 0), (1, .getfield 23, 3, 60), (4, .iload_n 1, 1, 0), (5, .invokevirtual 40, 3, 98), (8, .istore 4, 2, 0), (10, .iconst 0, 1, 0), (11, .istore 5, 2, 0), (13, .iload 5, 2, 0), (15, .aload_n 0, 1, 0), (16, .getfield 20, 3, 59), (19, .iload_n 1, 1, 0), (20, .invokevirtual 40, 3, 98), (23, .if_icmp .ge (29), 3, 0), (26, .iload 4, 2, 0), (28, .iload 5, 2, 0), (30, .invokestatic 65, 3, 114), (33, .aload_n 2, 1, 0), (34, .iload_n 3, 1, 0), (35, .iload 5, 2, 0), (37, .iadd, 1, 0), (38, .invokevirtual 40, 3, 98), (41, .if_icmp .eq (5), 3, 0), (44, .iconst 0, 1, 0), (45, .ireturn, 1, 0), (46, .iinc 5 1, 3, 0), (49, .goto (-36), 3, 0), (52, .iconst 1, 1, 0), (53, .ireturn, 1, 0)]
/-- Parser_waysBehind -/
def jb_I74 : List (Nat × Instr × Nat × Nat) := [(0, .aload_n 0, 1, 0), (1, .getfield 16, 3, 69), (4, .iload_n 3, 1, 0), (5, .aload_n 1, 1, 0), (6, .getfield 59, 3, 120), (9, .iload_n 2, 1, 0), (10, .invokevirtual 43, 3, 117), (13, .iadd, 1, 0), (14, .aload_n 1, 1, 0), (15, .getfield 50, 3, 121), (18, .iload_n 2, 1, 0), (19, .invokevirtual 43, 3, 117), (22, .invokestatic 62, 3, 122), (25, .invokestatic 36, 3, 118), (28, .invokevirtual 43, 3, 117), (31, .ireturn, 1, 0)]
/-- Row_isLike -/
def jb_I75 : List (Nat × Instr × Nat × Nat) := [(0, .aload_n 0, 1, 0), (1, .getfield 9, 3, 2), (4, .aload_n 1, 1, 0), (5, .getfield 9, 3, 2), (8, .if_icmp .eq (5), 3, 0), (11, .iconst 0, 1, 0), (12, .ireturn, 1, 0), (13, .iconst 0, 1, 0), (14, .istore_n 2, 1, 0), (15, .iload_n 2, 1, 0), (16, .aload_n 0, 1, 0), (17, .getfield 9, 3, 2), (20, .if_icmp .ge (24), 3, 0), (23, .aload_n 0, 1, 0), (24, .iload_n 2, 1, 0), (25, .invokevirtual 28, 3, 101), (28, .aload_n 1, 1, 0), (29, .iload_n 2, 1, 0), (30, .invokevirtual 28, 3, 101), (33, .if_icmp .eq (5), 3, 0), (36, .iconst 0, 1, 0), (37, .ireturn, 1, 0), (38, .iinc 2 1, 3, 0), (41, .goto (-26), 3, 0), (44, .iconst 1, 1, 0), (45, .ireturn, 1, 0)]
/-- Peals_has -/
def jb_I76 : List (Nat × Instr × Nat × Nat) := [(0, .aload_n 0, 1, 0), (1, .getfield 14, 3, 84), (4, .iload_n 1, 1, 0), (5, .invokevirtual 31, 3, 115), (8, .ireturn, 1, 0)]
/-- D_echoAt -/
def jb_I77 : List (Nat × Instr × Nat × Nat) := [(0, .aload_n 0, 1, 0), (1, .getfield 65, 3, 123), (4, .iload_n 1, 1, 0), (5, .invokevirtual 164, 3, 124), (8, .istore_n 3, 1, 0), (9, .iload_n 3, 1, 0), (10, .iconst 5, 1, 0), (11, .if_icmp .ne (8), 3, 0), (14, .iload_n 1, 1, 0), (15, .iload_n 2, 1, 0), (16, .if_icmp .ge (5), 3, 0), (19, .iload_n 3, 1, 0), (20, .ireturn, 1, 0), (21, .aload_n 0, 1, 0), (22, .getfield 65, 3, 123), (25, .iload_n 1, 1, 0), (26, .iload_n 2, 1, 0), (27, .isub, 1, 0), (28, .invokevirtual 164, 3, 124), (31, .ireturn, 1, 0)]
/-- D_inOrder -/
def jb_I78 : List (Nat × Instr × Nat × Nat) := [(0, .iconst 0, 1, 0), (1, .istore_n 2, 1, 0), (2, .iload_n 2, 1, 0), (3, .aload_n 0, 1, 0), (4, .getfield 77, 3, 125), (7, .invokevirtual 120, 3, 96), (10, .if_icmp .ge (62), 3, 0), (13, .iconst 0, 1, 0), (14, .istore_n 3, 1, 0), (15, .iconst 0, 1, 0), (16, .istore 4, 2, 0), (18, .iload 4, 2, 0), (20, .aload_n 0, 1, 0), (21, .getfield 77, 3, 125), (24, .invokevirtual 120, 3, 96), (27, .if_icmp .ge (32), 3, 0), (30, .aload_n 0, 1, 0), (31, .getfield 77, 3, 125), (34, .iload 4, 2, 0), (36, .invokevirtual 164, 3, 124), (39, .aload_n 0, 1, 0), (40, .getfield 77, 3, 125), (43, .iload_n 2, 1, 0), (44, .invokevirtual 164, 3, 124), (47, .if_icmp .ge (6), 3, 0), (50, .iinc 3 1, 3, 0), (53, .iinc 4 1, 3, 0), (56, .goto (-38), 3, 0), (59, .iload_n 3, 1, 0), (60, .iload_n 1, 1, 0), (61, .if_icmp .ne (5), 3, 0), (64, .iload_n 2, 1, 0), (65, .ireturn, 1, 0), (66, .iinc 2 1, 3, 0), (69, .goto (-67), 3, 0), (72, .iconst (-1), 1, 0), (73, .ireturn, 1, 0)]
/-- Row_sum -/
def jb_I79 : List (Nat × Instr × Nat × Nat) := [(0, .iconst 0, 1, 0), (1, .istore_n 1, 1, 0), (2, .iconst 0, 1, 0), (3, .istore_n 2, 1, 0), (4, .iload_n 2, 1, 0), (5, .aload_n 0, 1, 0), (6, .getfield 9, 3, 2), (9, .if_icmp .ge (17), 3, 0), (12, .iload_n 1, 1, 0), (13, .aload_n 0, 1, 0), (14, .iload_n 2, 1, 0), (15, .invokevirtual 28, 3, 101), (18, .iadd, 1, 0), (19, .istore_n 1, 1, 0), (20, .iinc 2 1, 3, 0), (23, .goto (-19), 3, 0), (26, .iload_n 1, 1, 0), (27, .ireturn, 1, 0)]
/-- D_written -/
def jb_I80 : List (Nat × Instr × Nat × Nat) := [(0, .aload_n 0, 1, 0), (1, .getfield 59, 3, 126), (4, .iload_n 1, 1, 0), (5, .invokevirtual 160, 3, 127), (8, .ifCond .eq (14), 3, 0), (11, .aload_n 0, 1, 0), (12, .getfield 59, 3, 126), (15, .iload_n 1, 1, 0), (16, .invokevirtual 164, 3, 124), (19, .goto 4, 3, 0), (22, .iconst (-1), 1, 0), (23, .ireturn, 1, 0)]
/-- D_append -/
def jb_I81 : List (Nat × Instr × Nat × Nat) := [(0, .iload_n 1, 1, 0), (1, .bipush 32, 2, 0), (3, .if_icmp .lt (9), 3, 0), (6, .iload_n 1, 1, 0), (7, .bipush 126, 2, 0), (9, .if_icmp .le (6), 3, 0), (12, .bipush (-2), 2, 0), (14, .ireturn, 1, 0), (15, .aload_n 0, 1, 0), (16, .getfield 46, 3, 128), (19, .getfield 263, 3, 129), (22, .invokevirtual 113, 3, 94), (25, .ifCond .eq (6), 3, 0), (28, .bipush (-4), 2, 0), (30, .ireturn, 1, 0), (31, .aload_n 0, 1, 0), (32, .getfield 46, 3, 128), (35, .getfield 263, 3, 129), (38, .iload_n 1, 1, 0), (39, .invokevirtual 117, 3, 95), (42, .aload_n 0, 1, 0), (43, .getfield 46, 3, 128), (46, .getfield 263, 3, 129), (49, .invokevirtual 120, 3, 96), (52, .ireturn, 1, 0)]
/-- Str_length -/
def jb_I82 : List (Nat × Instr × Nat × Nat) := [(0, .aload_n 0, 1, 0), (1, .getfield 9, 3, 130), (4, .arraylength, 1, 0), (5, .aload_n 0, 1, 0), (6, .invokevirtual 335, 3, 131), (9, .ishr, 1, 0), (10, .ireturn, 1, 0)]
/-- Str_checkIndex -/
def jb_I83 : List (Nat × Instr × Nat × Nat) := [(0, .iload_n 0, 1, 0), (1, .iload_n 1, 1, 0), (2, .getstatic 1053, 3, 132), (5, .invokestatic 1059, 3, 133), (8, .pop, 1, 0), (9, .return_, 1, 0)]
/-- Text_isFit -/
def jb_I84 : List (Nat × Instr × Nat × Nat) := [(0, .iload_n 0, 1, 0), (1, .lookupswitch (109) #[((66), (43)), ((68), (63)), ((75), (81)), ((83), (95))], 43, 0), (44, .iload_n 1, 1, 0), (45, .bipush 46, 2, 0), (47, .if_icmp .eq (15), 3, 0), (50, .iload_n 1, 1, 0), (51, .invokestatic 69, 3, 134), (54, .iconst (-1), 1, 0), (55, .if_icmp .eq (7), 3, 0), (58, .iconst 1, 1, 0), (59, .goto 4, 3, 0), (62, .iconst 0, 1, 0), (63, .ireturn, 1, 0), (64, .iload_n 1, 1, 0), (65, .bipush 48, 2, 0), (67, .if_icmp .lt (13), 3, 0), (70, .iload_n 1, 1, 0), (71, .bipush 57, 2, 0), (73, .if_icmp .gt (7), 3, 0), (76, .iconst 1, 1, 0), (77, .goto 4, 3, 0), (80, .iconst 0, 1, 0), (81, .ireturn, 1, 0), (82, .iload_n 1, 1, 0), (83, .invokestatic 72, 3, 135), (86, .iconst (-1), 1, 0), (87, .if_icmp .eq (7), 3, 0), (90, .iconst 1, 1, 0), (91, .goto 4, 3, 0), (94, .iconst 0, 1, 0), (95, .ireturn, 1, 0), (96, .iload_n 1, 1, 0), (97, .invokestatic 69, 3, 134), (100, .iconst (-1), 1, 0), (101, .if_icmp .eq (7), 3, 0), (104, .iconst 1, 1, 0), (105, .goto 4, 3, 0), (108, .iconst 0, 1, 0), (109, .ireturn, 1, 0), (110, .iload_n 1, 1, 0), (111, .iload_n 0, 1, 0), (112, .if_icmp .ne (7), 3, 0), (115, .iconst 1, 1, 0), (116, .goto 4, 3, 0), (119, .iconst 0, 1, 0), (120, .ireturn, 1, 0)]
/-- L1_indexOf -/
def jb_I85 : List (Nat × Instr × Nat × Nat) := [(0, .iload_n 1, 1, 0), (1, .invokestatic 88, 3, 136), (4, .ifCond .ne (5), 3, 0), (7, .iconst (-1), 1, 0), (8, .ireturn, 1, 0), (9, .iload_n 2, 1, 0), (10, .iconst 0, 1, 0), (11, .invokestatic 92, 3, 137), (14, .istore_n 2, 1, 0), (15, .iload_n 3, 1, 0), (16, .aload_n 0, 1, 0), (17, .arraylength, 1, 0), (18, .invokestatic 38, 3, 138), (21, .istore_n 3, 1, 0), (22, .iload_n 2, 1, 0), (23, .iload_n 3, 1, 0), (24, .if_icmp .lt (5), 3, 0), (27, .iconst (-1), 1, 0), (28, .ireturn, 1, 0), (29, .aload_n 0, 1, 0), (30, .iload_n 1, 1, 0), (31, .iload_n 2, 1, 0), (32, .iload_n 3, 1, 0), (33, .invokestatic 95, 3, 139), (36, .ireturn, 1, 0)]
/-- Reasons_refuseCommand -/
def jb_I86 : List (Nat × Instr × Nat × Nat) := [(0, .iload_n 2, 1, 0), (1, .ifCond .eq (10), 3, 0), (4, .aload_n 0, 1, 0), (5, .getfield 9, 3, 6), (8, .goto 5, 3, 0), (11, .bipush (-6), 2, 0), (13, .istore_n 3, 1, 0), (14, .iload_n 2, 1, 0), (15, .ifCond .eq (10), 3, 0), (18, .aload_n 0, 1, 0), (19, .getfield 15, 3, 7), (22, .goto 5, 3, 0), (25, .bipush (-6), 2, 0), (27, .istore 4, 2, 0), (29, .aload_n 0, 1, 0), (30, .bipush 7, 2, 0), (32, .iload_n 1, 1, 0), (33, .invokevirtual 24, 3, 140), (36, .pop, 1, 0), (37, .aload_n 0, 1, 0), (38, .iload_n 3, 1, 0), (39, .putfield 18, 3, 8), (42, .aload_n 0, 1, 0), (43, .iload 4, 2, 0), (45, .putfield 21, 3, 9), (48, .bipush (-5), 2, 0), (50, .ireturn, 1, 0)]
/-- M_reason -/
def jb_I87 : List (Nat × Instr × Nat × Nat) := [(0, .iload_n 1, 1, 0), (1, .iconst 0, 1, 0), (2, .iconst 1, 1, 0), (3, .invokestatic 85, 3, 141), (6, .ifCond .ne (6), 3, 0), (9, .bipush (-2), 2, 0), (11, .ireturn, 1, 0), (12, .aload_n 0, 1, 0), (13, .getfield 66, 3, 142), (16, .ifCond .ne (6), 3, 0), (19, .bipush (-3), 2, 0), (21, .ireturn, 1, 0), (22, .iload_n 1, 1, 0), (23, .ifCond .ne (10), 3, 0), (26, .aload_n 0, 1, 0), (27, .getfield 66, 3, 142), (30, .goto 7, 3, 0), (33, .aload_n 0, 1, 0), (34, .getfield 72, 3, 143), (37, .istore_n 3, 1, 0), (38, .iload_n 3, 1, 0), (39, .ifCond .ne (8), 3, 0), (42, .bipush (-6), 2, 0), (44, .goto 26, 3, 0), (47, .iload_n 2, 1, 0), (48, .ifCond .ne (7), 3, 0), (51, .iload_n 3, 1, 0), (52, .goto 18, 3, 0), (55, .iload_n 1, 1, 0), (56, .ifCond .ne (10), 3, 0), (59, .aload_n 0, 1, 0), (60, .getfield 69, 3, 144), (63, .goto 7, 3, 0), (66, .aload_n 0, 1, 0), (67, .getfield 75, 3, 145), (70, .ireturn, 1, 0)]
/-- M_undo -/
def jb_I88 : List (Nat × Instr × Nat × Nat) := [(0, .aload_n 0, 1, 0), (1, .getfield 63, 3, 146), (4, .ifCond .ne (6), 3, 0), (7, .bipush (-3), 2, 0), (9, .ireturn, 1, 0), (10, .aload_n 0, 1, 0), (11, .dup, 1, 0), (12, .getfield 63, 3, 146), (15, .iconst 1, 1, 0), (16, .isub, 1, 0), (17, .putfield 63, 3, 146), (20, .aload_n 0, 1, 0), (21, .getfield 19, 3, 36), (24, .aload_n 0, 1, 0), (25, .getfield 63, 3, 146), (28, .sipush 146, 3, 0), (31, .imul, 1, 0), (32, .aload_n 0, 1, 0), (33, .getfield 9, 3, 33), (36, .iconst 0, 1, 0), (37, .invokestatic 59, 3, 147), (40, .aload_n 0, 1, 0), (41, .getfield 63, 3, 146), (44, .ireturn, 1, 0)]
/-- M_save -/
def jb_I89 : List (Nat × Instr × Nat × Nat) := [(0, .aload_n 0, 1, 0), (1, .getfield 9, 3, 33), (4, .iconst 0, 1, 0), (5, .aload_n 0, 1, 0), (6, .getfield 16, 3, 35), (9, .iconst 0, 1, 0), (10, .invokestatic 59, 3, 147), (13, .aload_n 0, 1, 0), (14, .iconst 1, 1, 0), (15, .putfield 89, 3, 148), (18, .aload_n 0, 1, 0), (19, .getfield 9, 3, 33), (22, .iconst 0, 1, 0), (23, .iaload, 1, 0), (24, .ireturn, 1, 0)]
/-- M_restore -/
def jb_I90 : List (Nat × Instr × Nat × Nat) := [(0, .aload_n 0, 1, 0), (1, .getfield 89, 3, 148), (4, .ifCond .ne (6), 3, 0), (7, .bipush (-3), 2, 0), (9, .ireturn, 1, 0), (10, .aload_n 0, 1, 0), (11, .getfield 16, 3, 35), (14, .iconst 0, 1, 0), (15, .aload_n 0, 1, 0), (16, .getfield 9, 3, 33), (19, .iconst 0, 1, 0), (20, .invokestatic 59, 3, 147), (23, .aload_n 0, 1, 0), (24, .iconst 0, 1, 0), (25, .putfield 63, 3, 146), (28, .aload_n 0, 1, 0), (29, .getfield 9, 3, 33), (32, .iconst 0, 1, 0), (33, .iaload, 1, 0), (34, .ireturn, 1, 0)]
/-- M_isBell -/
def jb_I91 : List (Nat × Instr × Nat × Nat) := [(0, .iload_n 0, 1, 0), (1, .iconst 0, 1, 0), (2, .iconst 4, 1, 0), (3, .invokestatic 85, 3, 141), (6, .ireturn, 1, 0)]
/-- M_isDepth -/
def jb_I92 : List (Nat × Instr × Nat × Nat) := [(0, .iload_n 0, 1, 0), (1, .iconst 1, 1, 0), (2, .bipush 9, 2, 0), (4, .invokestatic 85, 3, 141), (7, .ireturn, 1, 0)]
/-- M_starts -/
def jb_I93 : List (Nat × Instr × Nat × Nat) := [(0, .aload_n 0, 1, 0), (1, .getfield 9, 3, 33), (4, .iconst 0, 1, 0), (5, .aload_n 0, 1, 0), (6, .getfield 13, 3, 34), (9, .iconst 0, 1, 0), (10, .invokestatic 59, 3, 147), (13, .aload_n 0, 1, 0), (14, .iconst 0, 1, 0), (15, .putfield 53, 3, 47), (18, .return_, 1, 0)]
/-- M_becomes -/
def jb_I94 : List (Nat × Instr × Nat × Nat) := [(0, .aload_n 0, 1, 0), (1, .getfield 9, 3, 33), (4, .iload_n 1, 1, 0), (5, .iaload, 1, 0), (6, .istore_n 3, 1, 0), (7, .aload_n 0, 1, 0), (8, .iload_n 3, 1, 0), (9, .iload_n 2, 1, 0), (10, .if_icmp .ne (7), 3, 0), (13, .iconst 1, 1, 0), (14, .goto 4, 3, 0), (17, .iconst 0, 1, 0), (18, .iconst 2, 1, 0), (19, .iload_n 2, 1, 0), (20, .invokevirtual 93, 3, 149), (23, .aload_n 0, 1, 0), (24, .getfield 9, 3, 33), (27, .iload_n 1, 1, 0), (28, .iload_n 2, 1, 0), (29, .iastore, 1, 0), (30, .iload_n 3, 1, 0), (31, .ireturn, 1, 0)]
/-- M_refuses -/
def jb_I95 : List (Nat × Instr × Nat × Nat) := [(0, .aload_n 0, 1, 0), (1, .iload_n 1, 1, 0), (2, .putfield 66, 3, 142), (5, .aload_n 0, 1, 0), (6, .iload_n 2, 1, 0), (7, .putfield 69, 3, 144), (10, .aload_n 0, 1, 0), (11, .iload_n 3, 1, 0), (12, .putfield 72, 3, 143), (15, .aload_n 0, 1, 0), (16, .iload 4, 2, 0), (18, .putfield 75, 3, 145), (21, .aload_n 0, 1, 0), (22, .getfield 13, 3, 34), (25, .iconst 0, 1, 0), (26, .aload_n 0, 1, 0), (27, .getfield 9, 3, 33), (30, .iconst 0, 1, 0), (31, .invokestatic 59, 3, 147), (34, .bipush (-5), 2, 0), (36, .ireturn, 1, 0)]
/-- M_remembers -/
def jb_I96 : List (Nat × Instr × Nat × Nat) := [(0, .aload_n 0, 1, 0), (1, .getfield 63, 3, 146), (4, .bipush 8, 2, 0), (6, .if_icmp .ne (44), 3, 0), (9, .iconst 0, 1, 0), (10, .istore_n 1, 1, 0), (11, .iload_n 1, 1, 0), (12, .sipush 1022, 3, 0), (15, .if_icmp .ge (25), 3, 0), (18, .aload_n 0, 1, 0), (19, .getfield 19, 3, 36), (22, .iload_n 1, 1, 0), (23, .aload_n 0, 1, 0), (24, .getfield 19, 3, 36), (27, .iload_n 1, 1, 0), (28, .sipush 146, 3, 0), (31, .iadd, 1, 0), (32, .iaload, 1, 0), (33, .iastore, 1, 0), (34, .iinc 1 1, 3, 0), (37, .goto (-26), 3, 0), (40, .aload_n 0, 1, 0), (41, .dup, 1, 0), (42, .getfield 63, 3, 146), (45, .iconst 1, 1, 0), (46, .isub, 1, 0), (47, .putfield 63, 3, 146), (50, .aload_n 0, 1, 0), (51, .getfield 13, 3, 34), (54, .iconst 0, 1, 0), (55, .aload_n 0, 1, 0), (56, .getfield 19, 3, 36), (59, .aload_n 0, 1, 0), (60, .getfield 63, 3, 146), (63, .sipush 146, 3, 0), (66, .imul, 1, 0), (67, .invokestatic 59, 3, 147), (70, .aload_n 0, 1, 0), (71, .dup, 1, 0), (72, .getfield 63, 3, 146), (75, .iconst 1, 1, 0), (76, .iadd, 1, 0), (77, .putfield 63, 3, 146), (80, .return_, 1, 0)]
/-- M_renews -/
def jb_I97 : List (Nat × Instr × Nat × Nat) := [(0, .aload_n 0, 1, 0), (1, .getfield 9, 3, 33), (4, .iload_n 1, 1, 0), (5, .invokestatic 107, 3, 150), (8, .iconst 1, 1, 0), (9, .iadd, 1, 0), (10, .iaload, 1, 0), (11, .istore_n 2, 1, 0), (12, .aload_n 0, 1, 0), (13, .iload_n 2, 1, 0), (14, .ifCond .ne (7), 3, 0), (17, .iconst 1, 1, 0), (18, .goto 4, 3, 0), (21, .iconst 0, 1, 0), (22, .iconst 3, 1, 0), (23, .iload_n 1, 1, 0), (24, .invokevirtual 93, 3, 149), (27, .aload_n 0, 1, 0), (28, .getfield 9, 3, 33), (31, .iload_n 1, 1, 0), (32, .invokestatic 107, 3, 150), (35, .iconst 1, 1, 0), (36, .iadd, 1, 0), (37, .iconst 0, 1, 0), (38, .iastore, 1, 0), (39, .iload_n 2, 1, 0), (40, .ireturn, 1, 0)]
/-- M_lay -/
def jb_I98 : List (Nat × Instr × Nat × Nat) := [(0, .iload_n 1, 1, 0), (1, .bipush 46, 2, 0), (3, .if_icmp .ne (7), 3, 0), (6, .iconst 5, 1, 0), (7, .goto 7, 3, 0), (10, .iload_n 1, 1, 0), (11, .bipush 97, 2, 0), (13, .isub, 1, 0), (14, .istore_n 2, 1, 0), (15, .iload_n 2, 1, 0), (16, .iconst 0, 1, 0), (17, .iconst 5, 1, 0), (18, .invokestatic 85, 3, 141), (21, .ifCond .eq (9), 3, 0), (24, .iload_n 1, 1, 0), (25, .bipush 102, 2, 0), (27, .if_icmp .ne (6), 3, 0), (30, .bipush (-2), 2, 0), (32, .ireturn, 1, 0), (33, .aload_n 0, 1, 0), (34, .getfield 121, 3, 49), (37, .bipush 20, 2, 0), (39, .if_icmp .ne (6), 3, 0), (42, .bipush (-4), 2, 0), (44, .ireturn, 1, 0), (45, .aload_n 0, 1, 0), (46, .getfield 26, 3, 38), (49, .aload_n 0, 1, 0), (50, .getfield 121, 3, 49), (53, .iload_n 2, 1, 0), (54, .iastore, 1, 0), (55, .aload_n 0, 1, 0), (56, .dup, 1, 0), (57, .getfield 121, 3, 49), (60, .iconst 1, 1, 0), (61, .iadd, 1, 0), (62, .putfield 121, 3, 49), (65, .aload_n 0, 1, 0), (66, .getfield 121, 3, 49), (69, .ireturn, 1, 0)]
/-- M_isKind -/
def jb_I99 : List (Nat × Instr × Nat × Nat) := [(0, .iload_n 0, 1, 0), (1, .iconst 0, 1, 0), (2, .iconst 2, 1, 0), (3, .invokestatic 85, 3, 141), (6, .ireturn, 1, 0)]
/-- M_isWordHere -/
def jb_I100 : List (Nat × Instr × Nat × Nat) := [(0, .iload_n 1, 1, 0), (1, .invokestatic 130, 3, 151), (4, .istore_n 3, 1, 0), (5, .aload_n 0, 1, 0), (6, .getfield 9, 3, 33), (9, .iload_n 3, 1, 0), (10, .iconst 1, 1, 0), (11, .iadd, 1, 0), (12, .iaload, 1, 0), (13, .istore 4, 2, 0), (15, .iload_n 2, 1, 0), (16, .iload 4, 2, 0), (18, .iadd, 1, 0), (19, .aload_n 0, 1, 0), (20, .getfield 124, 3, 50), (23, .if_icmp .gt (7), 3, 0), (26, .iconst 1, 1, 0), (27, .goto 4, 3, 0), (30, .iconst 0, 1, 0), (31, .istore 5, 2, 0), (33, .iconst 0, 1, 0), (34, .istore 6, 2, 0), (36, .iload 6, 2, 0), (38, .iload 4, 2, 0), (40, .if_icmp .ge (44), 3, 0), (43, .iload 5, 2, 0), (45, .ifCond .eq (39), 3, 0), (48, .aload_n 0, 1, 0), (49, .getfield 35, 3, 41), (52, .iload_n 2, 1, 0), (53, .iload 6, 2, 0), (55, .iadd, 1, 0), (56, .iaload, 1, 0), (57, .aload_n 0, 1, 0), (58, .getfield 9, 3, 33), (61, .iload_n 3, 1, 0), (62, .iconst 2, 1, 0), (63, .iadd, 1, 0), (64, .iload 6, 2, 0), (66, .iadd, 1, 0), (67, .iaload, 1, 0), (68, .if_icmp .ne (7), 3, 0), (71, .iconst 1, 1, 0), (72, .goto 4, 3, 0), (75, .iconst 0, 1, 0), (76, .istore 5, 2, 0), (78, .iinc 6 1, 3, 0), (81, .goto (-45), 3, 0), (84, .iload 5, 2, 0), (86, .ireturn, 1, 0)]
/-- M_isWord -/
def jb_I101 : List (Nat × Instr × Nat × Nat) := [(0, .iload_n 1, 1, 0), (1, .iconst 0, 1, 0), (2, .aload_n 0, 1, 0), (3, .getfield 9, 3, 33), (6, .iconst 0, 1, 0), (7, .iaload, 1, 0), (8, .iconst 1, 1, 0), (9, .isub, 1, 0), (10, .invokestatic 85, 3, 141), (13, .ireturn, 1, 0)]
/-- M_strikes -/
def jb_I102 : List (Nat × Instr × Nat × Nat) := [(0, .iload_n 1, 1, 0), (1, .invokestatic 130, 3, 151), (4, .istore_n 2, 1, 0), (5, .iload_n 2, 1, 0), (6, .bipush 63, 2, 0), (8, .if_icmp .ge (24), 3, 0), (11, .aload_n 0, 1, 0), (12, .getfield 9, 3, 33), (15, .iload_n 2, 1, 0), (16, .aload_n 0, 1, 0), (17, .getfield 9, 3, 33), (20, .iload_n 2, 1, 0), (21, .bipush 6, 2, 0), (23, .iadd, 1, 0), (24, .iaload, 1, 0), (25, .iastore, 1, 0), (26, .iinc 2 1, 3, 0), (29, .goto (-24), 3, 0), (32, .bipush 63, 2, 0), (34, .istore_n 2, 1, 0), (35, .iload_n 2, 1, 0), (36, .bipush 69, 2, 0), (38, .if_icmp .ge (16), 3, 0), (41, .aload_n 0, 1, 0), (42, .getfield 9, 3, 33), (45, .iload_n 2, 1, 0), (46, .iconst 0, 1, 0), (47, .iastore, 1, 0), (48, .iinc 2 1, 3, 0), (51, .goto (-16), 3, 0), (54, .aload_n 0, 1, 0), (55, .getfield 9, 3, 33), (58, .iconst 0, 1, 0), (59, .dup2, 1, 0), (60, .iaload, 1, 0), (61, .iconst 1, 1, 0), (62, .isub, 1, 0), (63, .iastore, 1, 0), (64, .aload_n 0, 1, 0), (65, .getfield 9, 3, 33), (68, .iconst 0, 1, 0), (69, .iaload, 1, 0), (70, .ireturn, 1, 0)]
/-- M_isReach -/
def jb_I103 : List (Nat × Instr × Nat × Nat) := [(0, .iload_n 0, 1, 0), (1, .iconst 0, 1, 0), (2, .bipush 9, 2, 0), (4, .invokestatic 85, 3, 141), (7, .ireturn, 1, 0)]
/-- M_comes -/
def jb_I104 : List (Nat × Instr × Nat × Nat) := [(0, .aload_n 0, 1, 0), (1, .aload_n 0, 1, 0), (2, .getfield 9, 3, 33), (5, .iconst 1, 1, 0), (6, .iaload, 1, 0), (7, .bipush 6, 2, 0), (9, .if_icmp .ne (7), 3, 0), (12, .iconst 1, 1, 0), (13, .goto 4, 3, 0), (16, .iconst 0, 1, 0), (17, .iconst 1, 1, 0), (18, .bipush 6, 2, 0), (20, .invokevirtual 93, 3, 149), (23, .aload_n 0, 1, 0), (24, .getfield 53, 3, 47), (27, .ifCond .eq (5), 3, 0), (30, .iconst 0, 1, 0), (31, .ireturn, 1, 0), (32, .aload_n 0, 1, 0), (33, .getfield 9, 3, 33), (36, .aload_n 0, 1, 0), (37, .getfield 9, 3, 33), (40, .iconst 1, 1, 0), (41, .iaload, 1, 0), (42, .invokestatic 156, 3, 152), (45, .iconst 0, 1, 0), (46, .iadd, 1, 0), (47, .iload_n 1, 1, 0), (48, .iastore, 1, 0), (49, .aload_n 0, 1, 0), (50, .getfield 9, 3, 33), (53, .aload_n 0, 1, 0), (54, .getfield 9, 3, 33), (57, .iconst 1, 1, 0), (58, .iaload, 1, 0), (59, .invokestatic 156, 3, 152), (62, .iconst 1, 1, 0), (63, .iadd, 1, 0), (64, .iload_n 2, 1, 0), (65, .iastore, 1, 0), (66, .aload_n 0, 1, 0), (67, .getfield 9, 3, 33), (70, .iconst 1, 1, 0), (71, .dup2, 1, 0), (72, .iaload, 1, 0), (73, .iconst 1, 1, 0), (74, .iadd, 1, 0), (75, .iastore, 1, 0), (76, .aload_n 0, 1, 0), (77, .getfield 9, 3, 33), (80, .iconst 1, 1, 0), (81, .iaload, 1, 0), (82, .iconst 1, 1, 0), (83, .isub, 1, 0), (84, .ireturn, 1, 0)]
/-- M_isSwimmer -/
def jb_I105 : List (Nat × Instr × Nat × Nat) := [(0, .iload_n 1, 1, 0), (1, .iconst 0, 1, 0), (2, .aload_n 0, 1, 0), (3, .getfield 9, 3, 33), (6, .iconst 1, 1, 0), (7, .iaload, 1, 0), (8, .iconst 1, 1, 0), (9, .isub, 1, 0), (10, .invokestatic 85, 3, 141), (13, .ireturn, 1, 0)]
/-- M_leaves -/
def jb_I106 : List (Nat × Instr × Nat × Nat) := [(0, .iload_n 1, 1, 0), (1, .invokestatic 156, 3, 152), (4, .istore_n 2, 1, 0), (5, .iload_n 2, 1, 0), (6, .bipush 79, 2, 0), (8, .if_icmp .ge (23), 3, 0), (11, .aload_n 0, 1, 0), (12, .getfield 9, 3, 33), (15, .iload_n 2, 1, 0), (16, .aload_n 0, 1, 0), (17, .getfield 9, 3, 33), (20, .iload_n 2, 1, 0), (21, .iconst 2, 1, 0), (22, .iadd, 1, 0), (23, .iaload, 1, 0), (24, .iastore, 1, 0), (25, .iinc 2 1, 3, 0), (28, .goto (-23), 3, 0), (31, .aload_n 0, 1, 0), (32, .getfield 9, 3, 33), (35, .bipush 79, 2, 0), (37, .iconst 0, 1, 0), (38, .iastore, 1, 0), (39, .aload_n 0, 1, 0), (40, .getfield 9, 3, 33), (43, .bipush 80, 2, 0), (45, .iconst 0, 1, 0), (46, .iastore, 1, 0), (47, .aload_n 0, 1, 0), (48, .getfield 9, 3, 33), (51, .iconst 1, 1, 0), (52, .dup2, 1, 0), (53, .iaload, 1, 0), (54, .iconst 1, 1, 0), (55, .isub, 1, 0), (56, .iastore, 1, 0), (57, .aload_n 0, 1, 0), (58, .getfield 9, 3, 33), (61, .iconst 1, 1, 0), (62, .iaload, 1, 0), (63, .ireturn, 1, 0)]
/-- M_rings -/
def jb_I107 : List (Nat × Instr × Nat × Nat) := [(0, .aload_n 0, 1, 0), (1, .aload_n 0, 1, 0), (2, .getfield 124, 3, 50), (5, .iconst 1, 1, 0), (6, .bipush 12, 2, 0), (8, .invokestatic 85, 3, 141), (11, .ifCond .ne (7), 3, 0), (14, .iconst 1, 1, 0), (15, .goto 4, 3, 0), (18, .iconst 0, 1, 0), (19, .iconst 4, 1, 0), (20, .aload_n 0, 1, 0), (21, .getfield 124, 3, 50), (24, .invokevirtual 93, 3, 149), (27, .iconst 0, 1, 0), (28, .istore_n 1, 1, 0), (29, .iconst 0, 1, 0), (30, .istore_n 2, 1, 0), (31, .iload_n 2, 1, 0), (32, .aload_n 0, 1, 0), (33, .getfield 124, 3, 50), (36, .if_icmp .ge (170), 3, 0), (39, .aload_n 0, 1, 0), (40, .getfield 53, 3, 47), (43, .ifCond .ne (163), 3, 0), (46, .aload_n 0, 1, 0), (47, .getfield 35, 3, 41), (50, .iload_n 2, 1, 0), (51, .iaload, 1, 0), (52, .iconst 5, 1, 0), (53, .if_icmp .eq (147), 3, 0), (56, .aload_n 0, 1, 0), (57, .getfield 35, 3, 41), (60, .iload_n 2, 1, 0), (61, .iaload, 1, 0), (62, .invokestatic 107, 3, 150), (65, .istore_n 3, 1, 0), (66, .aload_n 0, 1, 0), (67, .getfield 9, 3, 33), (70, .iload_n 3, 1, 0), (71, .iconst 1, 1, 0), (72, .iadd, 1, 0), (73, .iaload, 1, 0), (74, .bipush 9, 2, 0), (76, .if_icmp .ge (7), 3, 0), (79, .iconst 1, 1, 0), (80, .goto 4, 3, 0), (83, .iconst 0, 1, 0), (84, .istore 4, 2, 0), (86, .aload_n 0, 1, 0), (87, .getfield 9, 3, 33), (90, .iload_n 3, 1, 0), (91, .iconst 1, 1, 0), (92, .iadd, 1, 0), (93, .dup2, 1, 0), (94, .iaload, 1, 0), (95, .iload 4, 2, 0), (97, .ifCond .eq (7), 3, 0), (100, .iconst 1, 1, 0), (101, .goto 4, 3, 0), (104, .iconst 0, 1, 0), (105, .iadd, 1, 0), (106, .iastore, 1, 0), (107, .aload_n 0, 1, 0), (108, .getfield 9, 3, 33), (111, .iload_n 3, 1, 0), (112, .iconst 2, 1, 0), (113, .iadd, 1, 0), (114, .dup2, 1, 0), (115, .iaload, 1, 0), (116, .iload 4, 2, 0), (118, .ifCond .eq (7), 3, 0), (121, .iconst 1, 1, 0), (122, .goto 4, 3, 0), (125, .iconst 0, 1, 0), (126, .iadd, 1, 0), (127, .iastore, 1, 0), (128, .aload_n 0, 1, 0), (129, .getfield 9, 3, 33), (132, .iconst 4, 1, 0), (133, .dup2, 1, 0), (134, .iaload, 1, 0), (135, .iload 4, 2, 0), (137, .ifCond .eq (7), 3, 0), (140, .iconst 1, 1, 0), (141, .goto 4, 3, 0), (144, .iconst 0, 1, 0), (145, .iadd, 1, 0), (146, .iastore, 1, 0), (147, .aload_n 0, 1, 0), (148, .getfield 9, 3, 33), (151, .iconst 5, 1, 0), (152, .dup2, 1, 0), (153, .iaload, 1, 0), (154, .iload 4, 2, 0), (156, .ifCond .eq (7), 3, 0), (159, .iconst 0, 1, 0), (160, .goto 4, 3, 0), (163, .iconst 1, 1, 0), (164, .iadd, 1, 0), (165, .iastore, 1, 0), (166, .iload_n 1, 1, 0), (167, .iload 4, 2, 0), (169, .ifCond .eq (7), 3, 0), (172, .iconst 1, 1, 0), (173, .goto 4, 3, 0), (176, .iconst 0, 1, 0), (177, .iadd, 1, 0), (178, .istore_n 1, 1, 0), (179, .aload_n 0, 1, 0), (180, .getfield 35, 3, 41), (183, .iload_n 2, 1, 0), (184, .iload 4, 2, 0), (186, .ifCond .eq (12), 3, 0), (189, .aload_n 0, 1, 0), (190, .getfield 35, 3, 41), (193, .iload_n 2, 1, 0), (194, .iaload, 1, 0), (195, .goto 4, 3, 0), (198, .iconst 5, 1, 0), (199, .iastore, 1, 0), (200, .iinc 2 1, 3, 0), (203, .goto (-172), 3, 0), (206, .aload_n 0, 1, 0), (207, .iload_n 1, 1, 0), (208, .ifCond .ne (7), 3, 0), (211, .iconst 1, 1, 0), (212, .goto 4, 3, 0), (215, .iconst 0, 1, 0), (216, .bipush 6, 2, 0), (218, .aload_n 0, 1, 0), (219, .getfield 124, 3, 50), (222, .invokevirtual 93, 3, 149), (225, .aload_n 0, 1, 0), (226, .getfield 53, 3, 47), (229, .ifCond .eq (5), 3, 0), (232, .iconst 0, 1, 0), (233, .ireturn, 1, 0), (234, .aload_n 0, 1, 0), (235, .invokevirtual 176, 3, 153), (238, .iload_n 1, 1, 0), (239, .ireturn, 1, 0)]
/-- M_isPeal -/
def jb_I108 : List (Nat × Instr × Nat × Nat) := [(0, .iload_n 1, 1, 0), (1, .iconst 0, 1, 0), (2, .aload_n 0, 1, 0), (3, .getfield 9, 3, 33), (6, .iconst 2, 1, 0), (7, .iaload, 1, 0), (8, .iconst 1, 1, 0), (9, .isub, 1, 0), (10, .invokestatic 85, 3, 141), (13, .ireturn, 1, 0)]
/-- M_takesPeal -/
def jb_I109 : List (Nat × Instr × Nat × Nat) := [(0, .aload_n 0, 1, 0), (1, .aload_n 0, 1, 0), (2, .getfield 9, 3, 33), (5, .iload_n 1, 1, 0), (6, .invokestatic 127, 3, 154), (9, .iconst 0, 1, 0), (10, .iadd, 1, 0), (11, .iaload, 1, 0), (12, .putfield 124, 3, 50), (15, .iconst 0, 1, 0), (16, .istore_n 2, 1, 0), (17, .iload_n 2, 1, 0), (18, .aload_n 0, 1, 0), (19, .getfield 124, 3, 50), (22, .if_icmp .ge (28), 3, 0), (25, .aload_n 0, 1, 0), (26, .getfield 35, 3, 41), (29, .iload_n 2, 1, 0), (30, .aload_n 0, 1, 0), (31, .getfield 9, 3, 33), (34, .iload_n 1, 1, 0), (35, .invokestatic 127, 3, 154), (38, .iconst 1, 1, 0), (39, .iadd, 1, 0), (40, .iload_n 2, 1, 0), (41, .iadd, 1, 0), (42, .iaload, 1, 0), (43, .iastore, 1, 0), (44, .iinc 2 1, 3, 0), (47, .goto (-30), 3, 0), (50, .return_, 1, 0)]
/-- M_doesHear -/
def jb_I110 : List (Nat × Instr × Nat × Nat) := [(0, .iload_n 3, 1, 0), (1, .iconst 5, 1, 0), (2, .if_icmp .eq (27), 3, 0), (5, .iload_n 1, 1, 0), (6, .aload_n 0, 1, 0), (7, .getfield 9, 3, 33), (10, .iload_n 3, 1, 0), (11, .invokestatic 107, 3, 150), (14, .iconst 0, 1, 0), (15, .iadd, 1, 0), (16, .iaload, 1, 0), (17, .isub, 1, 0), (18, .invokestatic 205, 3, 155), (21, .iload_n 2, 1, 0), (22, .if_icmp .gt (7), 3, 0), (25, .iconst 1, 1, 0), (26, .goto 4, 3, 0), (29, .iconst 0, 1, 0), (30, .ireturn, 1, 0)]
/-- M_signsOf -/
def jb_I111 : List (Nat × Instr × Nat × Nat) := [(0, .iconst 0, 1, 0), (1, .istore_n 3, 1, 0), (2, .iconst 0, 1, 0), (3, .istore 4, 2, 0), (5, .iload 4, 2, 0), (7, .aload_n 0, 1, 0), (8, .getfield 9, 3, 33), (11, .iload_n 1, 1, 0), (12, .invokestatic 130, 3, 151), (15, .iconst 1, 1, 0), (16, .iadd, 1, 0), (17, .iaload, 1, 0), (18, .if_icmp .ge (35), 3, 0), (21, .iload_n 3, 1, 0), (22, .aload_n 0, 1, 0), (23, .getfield 9, 3, 33), (26, .iload_n 1, 1, 0), (27, .invokestatic 130, 3, 151), (30, .iconst 2, 1, 0), (31, .iadd, 1, 0), (32, .iload 4, 2, 0), (34, .iadd, 1, 0), (35, .iaload, 1, 0), (36, .iload_n 2, 1, 0), (37, .if_icmp .ne (7), 3, 0), (40, .iconst 1, 1, 0), (41, .goto 4, 3, 0), (44, .iconst 0, 1, 0), (45, .iadd, 1, 0), (46, .istore_n 3, 1, 0), (47, .iinc 4 1, 3, 0), (50, .goto (-45), 3, 0), (53, .iload_n 3, 1, 0), (54, .ireturn, 1, 0)]
/-- M_worn -/
def jb_I112 : List (Nat × Instr × Nat × Nat) := [(0, .iconst (-1), 1, 0), (1, .istore_n 2, 1, 0), (2, .iconst 0, 1, 0), (3, .istore_n 3, 1, 0), (4, .iload_n 3, 1, 0), (5, .iconst 5, 1, 0), (6, .if_icmp .ge (127), 3, 0), (9, .iconst 0, 1, 0), (10, .istore 4, 2, 0), (12, .iconst 0, 1, 0), (13, .istore 5, 2, 0), (15, .iload 5, 2, 0), (17, .iconst 5, 1, 0), (18, .if_icmp .ge (97), 3, 0), (21, .aload_n 0, 1, 0), (22, .getfield 9, 3, 33), (25, .iload 5, 2, 0), (27, .invokestatic 107, 3, 150), (30, .iconst 1, 1, 0), (31, .iadd, 1, 0), (32, .iaload, 1, 0), (33, .aload_n 0, 1, 0), (34, .getfield 9, 3, 33), (37, .iload_n 3, 1, 0), (38, .invokestatic 107, 3, 150), (41, .iconst 1, 1, 0), (42, .iadd, 1, 0), (43, .iaload, 1, 0), (44, .isub, 1, 0), (45, .istore 6, 2, 0), (47, .aload_n 0, 1, 0), (48, .getfield 9, 3, 33), (51, .iload 5, 2, 0), (53, .invokestatic 107, 3, 150), (56, .iconst 0, 1, 0), (57, .iadd, 1, 0), (58, .iaload, 1, 0), (59, .aload_n 0, 1, 0), (60, .getfield 9, 3, 33), (63, .iload_n 3, 1, 0), (64, .invokestatic 107, 3, 150), (67, .iconst 0, 1, 0), (68, .iadd, 1, 0), (69, .iaload, 1, 0), (70, .isub, 1, 0), (71, .istore 7, 2, 0), (73, .iload 4, 2, 0), (75, .iload 6, 2, 0), (77, .ifCond .gt (24), 3, 0), (80, .iload 6, 2, 0), (82, .ifCond .ne (23), 3, 0), (85, .iload 7, 2, 0), (87, .ifCond .gt (14), 3, 0), (90, .iload 7, 2, 0), (92, .ifCond .ne (13), 3, 0), (95, .iload 5, 2, 0), (97, .iload_n 3, 1, 0), (98, .if_icmp .ge (7), 3, 0), (101, .iconst 1, 1, 0), (102, .goto 4, 3, 0), (105, .iconst 0, 1, 0), (106, .iadd, 1, 0), (107, .istore 4, 2, 0), (109, .iinc 5 1, 3, 0), (112, .goto (-97), 3, 0), (115, .iload 4, 2, 0), (117, .iload_n 1, 1, 0), (118, .if_icmp .ne (7), 3, 0), (121, .iload_n 3, 1, 0), (122, .goto 4, 3, 0), (125, .iload_n 2, 1, 0), (126, .istore_n 2, 1, 0), (127, .iinc 3 1, 3, 0), (130, .goto (-126), 3, 0), (133, .iload_n 2, 1, 0), (134, .ireturn, 1, 0)]
/-- M_alphabetOf -/
def jb_I113 : List (Nat × Instr × Nat × Nat) := [(0, .iconst 0, 1, 0), (1, .istore_n 2, 1, 0), (2, .iconst 0, 1, 0), (3, .istore_n 3, 1, 0), (4, .iload_n 3, 1, 0), (5, .iconst 4, 1, 0), (6, .if_icmp .ge (73), 3, 0), (9, .iload_n 3, 1, 0), (10, .aload_n 0, 1, 0), (11, .getfield 9, 3, 33), (14, .iload_n 1, 1, 0), (15, .invokestatic 130, 3, 151), (18, .iconst 1, 1, 0), (19, .iadd, 1, 0), (20, .iaload, 1, 0), (21, .if_icmp .ge (19), 3, 0), (24, .aload_n 0, 1, 0), (25, .getfield 9, 3, 33), (28, .iload_n 1, 1, 0), (29, .invokestatic 130, 3, 151), (32, .iconst 2, 1, 0), (33, .iadd, 1, 0), (34, .iload_n 3, 1, 0), (35, .iadd, 1, 0), (36, .iaload, 1, 0), (37, .goto 4, 3, 0), (40, .iconst (-1), 1, 0), (41, .istore 4, 2, 0), (43, .bipush 7, 2, 0), (45, .iload_n 2, 1, 0), (46, .imul, 1, 0), (47, .iload 4, 2, 0), (49, .iconst (-1), 1, 0), (50, .if_icmp .ne (7), 3, 0), (53, .iconst 0, 1, 0), (54, .goto 17, 3, 0), (57, .iload 4, 2, 0), (59, .iconst 5, 1, 0), (60, .if_icmp .ne (7), 3, 0), (63, .iconst 1, 1, 0), (64, .goto 7, 3, 0), (67, .iload 4, 2, 0), (69, .iconst 2, 1, 0), (70, .iadd, 1, 0), (71, .iadd, 1, 0), (72, .istore_n 2, 1, 0), (73, .iinc 3 1, 3, 0), (76, .goto (-72), 3, 0), (79, .iload_n 2, 1, 0), (80, .ireturn, 1, 0)]
/-- M_wearNow -/
def jb_I114 : List (Nat × Instr × Nat × Nat) := [(0, .iconst 0, 1, 0), (1, .istore_n 1, 1, 0), (2, .iconst 0, 1, 0), (3, .istore_n 2, 1, 0), (4, .iload_n 2, 1, 0), (5, .iconst 5, 1, 0), (6, .if_icmp .ge (23), 3, 0), (9, .iload_n 1, 1, 0), (10, .aload_n 0, 1, 0), (11, .getfield 9, 3, 33), (14, .iload_n 2, 1, 0), (15, .invokestatic 107, 3, 150), (18, .iconst 1, 1, 0), (19, .iadd, 1, 0), (20, .iaload, 1, 0), (21, .iadd, 1, 0), (22, .istore_n 1, 1, 0), (23, .iinc 2 1, 3, 0), (26, .goto (-22), 3, 0), (29, .iload_n 1, 1, 0), (30, .ireturn, 1, 0)]
/-- M_putSign -/
def jb_I115 : List (Nat × Instr × Nat × Nat) := [(0, .aload_n 0, 1, 0), (1, .iload_n 1, 1, 0), (2, .iload_n 2, 1, 0), (3, .iconst 5, 1, 0), (4, .if_icmp .ne (8), 3, 0), (7, .bipush 46, 2, 0), (9, .goto 7, 3, 0), (12, .bipush 97, 2, 0), (14, .iload_n 2, 1, 0), (15, .iadd, 1, 0), (16, .invokevirtual 244, 3, 156), (19, .ireturn, 1, 0)]
/-- M_putKind -/
def jb_I116 : List (Nat × Instr × Nat × Nat) := [(0, .aload_n 0, 1, 0), (1, .getfield 9, 3, 33), (4, .iload_n 2, 1, 0), (5, .invokestatic 130, 3, 151), (8, .iconst 0, 1, 0), (9, .iadd, 1, 0), (10, .iaload, 1, 0), (11, .istore_n 3, 1, 0), (12, .aload_n 0, 1, 0), (13, .iload_n 1, 1, 0), (14, .iload_n 3, 1, 0), (15, .ifCond .ne (8), 3, 0), (18, .bipush 110, 2, 0), (20, .goto 15, 3, 0), (23, .iload_n 3, 1, 0), (24, .iconst 1, 1, 0), (25, .if_icmp .ne (8), 3, 0), (28, .bipush 100, 2, 0), (30, .goto 5, 3, 0), (33, .bipush 116, 2, 0), (35, .invokevirtual 244, 3, 156), (38, .ireturn, 1, 0)]
/-- M_written -/
def jb_I117 : List (Nat × Instr × Nat × Nat) := [(0, .iload_n 1, 1, 0), (1, .iconst 0, 1, 0), (2, .aload_n 0, 1, 0), (3, .getfield 253, 3, 157), (6, .iconst 1, 1, 0), (7, .isub, 1, 0), (8, .invokestatic 85, 3, 141), (11, .ifCond .eq (12), 3, 0), (14, .aload_n 0, 1, 0), (15, .getfield 32, 3, 40), (18, .iload_n 1, 1, 0), (19, .iaload, 1, 0), (20, .goto 4, 3, 0), (23, .iconst (-1), 1, 0), (24, .ireturn, 1, 0)]
/-- M_append -/
def jb_I118 : List (Nat × Instr × Nat × Nat) := [(0, .iload_n 1, 1, 0), (1, .bipush 32, 2, 0), (3, .bipush 126, 2, 0), (5, .invokestatic 85, 3, 141), (8, .ifCond .ne (6), 3, 0), (11, .bipush (-2), 2, 0), (13, .ireturn, 1, 0), (14, .aload_n 0, 1, 0), (15, .getfield 241, 3, 158), (18, .bipush 60, 2, 0), (20, .if_icmp .ne (6), 3, 0), (23, .bipush (-4), 2, 0), (25, .ireturn, 1, 0), (26, .aload_n 0, 1, 0), (27, .getfield 29, 3, 39), (30, .aload_n 0, 1, 0), (31, .getfield 241, 3, 158), (34, .iload_n 1, 1, 0), (35, .iastore, 1, 0), (36, .aload_n 0, 1, 0), (37, .dup, 1, 0), (38, .getfield 241, 3, 158), (41, .iconst 1, 1, 0), (42, .iadd, 1, 0), (43, .putfield 241, 3, 158), (46, .aload_n 0, 1, 0), (47, .getfield 241, 3, 158), (50, .ireturn, 1, 0)]
/-- M_reads -/
def jb_I119 : List (Nat × Instr × Nat × Nat) := [(0, .aload_n 0, 1, 0), (1, .getfield 262, 3, 159), (4, .iconst (-1), 1, 0), (5, .if_icmp .ne (39), 3, 0), (8, .aload_n 0, 1, 0), (9, .invokevirtual 265, 3, 160), (12, .iload_n 1, 1, 0), (13, .iload_n 2, 1, 0), (14, .invokestatic 85, 3, 141), (17, .ifCond .eq (27), 3, 0), (20, .aload_n 0, 1, 0), (21, .dup, 1, 0), (22, .getfield 256, 3, 52), (25, .iconst 1, 1, 0), (26, .iadd, 1, 0), (27, .putfield 256, 3, 52), (30, .aload_n 0, 1, 0), (31, .getfield 29, 3, 39), (34, .aload_n 0, 1, 0), (35, .getfield 256, 3, 52), (38, .iconst 1, 1, 0), (39, .isub, 1, 0), (40, .iaload, 1, 0), (41, .iload_n 1, 1, 0), (42, .isub, 1, 0), (43, .ireturn, 1, 0), (44, .aload_n 0, 1, 0), (45, .aload_n 0, 1, 0), (46, .getfield 262, 3, 159), (49, .iconst (-1), 1, 0), (50, .if_icmp .ne (10), 3, 0), (53, .aload_n 0, 1, 0), (54, .getfield 256, 3, 52), (57, .goto 7, 3, 0), (60, .aload_n 0, 1, 0), (61, .getfield 262, 3, 159), (64, .putfield 262, 3, 159), (67, .iconst 0, 1, 0), (68, .ireturn, 1, 0)]
/-- M_isSign -/
def jb_I120 : List (Nat × Instr × Nat × Nat) := [(0, .aload_n 0, 1, 0), (1, .invokevirtual 265, 3, 160), (4, .bipush 46, 2, 0), (6, .if_icmp .eq (17), 3, 0), (9, .aload_n 0, 1, 0), (10, .invokevirtual 265, 3, 160), (13, .bipush 97, 2, 0), (15, .bipush 101, 2, 0), (17, .invokestatic 85, 3, 141), (20, .ifCond .eq (7), 3, 0), (23, .iconst 1, 1, 0), (24, .goto 4, 3, 0), (27, .iconst 0, 1, 0), (28, .ireturn, 1, 0)]
/-- Bells_init -/
def jb_I121 : List (Nat × Instr × Nat × Nat) := [(0, .aload_n 0, 1, 0), (1, .invokespecial 3, 3, 161), (4, .aload_n 0, 1, 0), (5, .new 9, 3, 162), (8, .dup, 1, 0), (9, .iconst 5, 1, 0), (10, .invokespecial 11, 3, 163), (13, .putfield 14, 3, 78), (16, .aload_n 0, 1, 0), (17, .new 9, 3, 162), (20, .dup, 1, 0), (21, .iconst 5, 1, 0), (22, .invokespecial 11, 3, 163), (25, .putfield 20, 3, 80), (28, .aload_n 0, 1, 0), (29, .new 9, 3, 162), (32, .dup, 1, 0), (33, .iconst 5, 1, 0), (34, .invokespecial 11, 3, 163), (37, .putfield 23, 3, 81), (40, .aload_n 0, 1, 0), (41, .getfield 14, 3, 78), (44, .iconst 5, 1, 0), (45, .iconst 1, 1, 0), (46, .invokevirtual 26, 3, 164), (49, .aload_n 0, 1, 0), (50, .getfield 20, 3, 80), (53, .iconst 5, 1, 0), (54, .iconst 0, 1, 0), (55, .invokevirtual 26, 3, 164), (58, .aload_n 0, 1, 0), (59, .getfield 23, 3, 81), (62, .iconst 5, 1, 0), (63, .iconst 0, 1, 0), (64, .invokevirtual 26, 3, 164), (67, .return_, 1, 0)]
/-- Peals_init -/
def jb_I122 : List (Nat × Instr × Nat × Nat) := [(0, .aload_n 0, 1, 0), (1, .invokespecial 3, 3, 165), (4, .aload_n 0, 1, 0), (5, .new 9, 3, 166), (8, .dup, 1, 0), (9, .iconst 5, 1, 0), (10, .invokespecial 11, 3, 167), (13, .putfield 14, 3, 84), (16, .aload_n 0, 1, 0), (17, .new 9, 3, 166), (20, .dup, 1, 0), (21, .bipush 60, 2, 0), (23, .invokespecial 11, 3, 167), (26, .putfield 20, 3, 86), (29, .aload_n 0, 1, 0), (30, .getfield 20, 3, 86), (33, .bipush 60, 2, 0), (35, .iconst 5, 1, 0), (36, .invokevirtual 23, 3, 168), (39, .return_, 1, 0)]
/-- Village_take -/
def jb_I123 : List (Nat × Instr × Nat × Nat) := [(0, .aload_n 0, 1, 0), (1, .getfield 12, 3, 169), (4, .aload_n 1, 1, 0), (5, .getfield 12, 3, 169), (8, .invokevirtual 49, 3, 170), (11, .aload_n 0, 1, 0), (12, .getfield 21, 3, 171), (15, .aload_n 1, 1, 0), (16, .getfield 21, 3, 171), (19, .invokevirtual 53, 3, 172), (22, .aload_n 0, 1, 0), (23, .getfield 28, 3, 173), (26, .aload_n 1, 1, 0), (27, .getfield 28, 3, 173), (30, .invokevirtual 56, 3, 174), (33, .aload_n 0, 1, 0), (34, .getfield 35, 3, 175), (37, .aload_n 1, 1, 0), (38, .getfield 35, 3, 175), (41, .invokevirtual 59, 3, 176), (44, .aload_n 0, 1, 0), (45, .aload_n 1, 1, 0), (46, .getfield 39, 3, 177), (49, .putfield 39, 3, 177), (52, .aload_n 0, 1, 0), (53, .aload_n 1, 1, 0), (54, .getfield 43, 3, 178), (57, .putfield 43, 3, 178), (60, .aload_n 0, 1, 0), (61, .aload_n 1, 1, 0), (62, .getfield 46, 3, 179), (65, .putfield 46, 3, 179), (68, .return_, 1, 0)]
/-- Book_enter -/
def jb_I124 : List (Nat × Instr × Nat × Nat) := [(0, .iload_n 1, 1, 0), (1, .ifCond .lt (8), 3, 0), (4, .iload_n 1, 1, 0), (5, .iconst 2, 1, 0), (6, .if_icmp .le (6), 3, 0), (9, .bipush (-2), 2, 0), (11, .ireturn, 1, 0), (12, .aload_n 2, 1, 0), (13, .invokevirtual 30, 3, 99), (16, .istore 4, 2, 0), (18, .iload 4, 2, 0), (20, .iconst 1, 1, 0), (21, .if_icmp .lt (9), 3, 0), (24, .iload 4, 2, 0), (26, .iconst 4, 1, 0), (27, .if_icmp .le (11), 3, 0), (30, .aload_n 3, 1, 0), (31, .iconst 4, 1, 0), (32, .iload 4, 2, 0), (34, .invokevirtual 34, 3, 180), (37, .ireturn, 1, 0), (38, .aload_n 2, 1, 0), (39, .iconst 0, 1, 0), (40, .invokevirtual 40, 3, 98), (43, .iconst 5, 1, 0), (44, .if_icmp .ne (10), 3, 0), (47, .aload_n 3, 1, 0), (48, .iconst 5, 1, 0), (49, .iconst 0, 1, 0), (50, .invokevirtual 34, 3, 180), (53, .ireturn, 1, 0), (54, .aload_n 2, 1, 0), (55, .iload 4, 2, 0), (57, .iconst 1, 1, 0), (58, .isub, 1, 0), (59, .invokevirtual 40, 3, 98), (62, .iconst 5, 1, 0), (63, .if_icmp .ne (13), 3, 0), (66, .aload_n 3, 1, 0), (67, .iconst 5, 1, 0), (68, .iload 4, 2, 0), (70, .iconst 1, 1, 0), (71, .isub, 1, 0), (72, .invokevirtual 34, 3, 180), (75, .ireturn, 1, 0), (76, .aload_n 2, 1, 0), (77, .invokestatic 44, 3, 181), (80, .istore 5, 2, 0), (82, .aload_n 0, 1, 0), (83, .iload 5, 2, 0), (85, .invokevirtual 48, 3, 182), (88, .istore 6, 2, 0), (90, .iload 6, 2, 0), (92, .iconst (-1), 1, 0), (93, .if_icmp .eq (11), 3, 0), (96, .aload_n 3, 1, 0), (97, .iconst 2, 1, 0), (98, .iload 6, 2, 0), (100, .invokevirtual 34, 3, 180), (103, .ireturn, 1, 0), (104, .aload_n 0, 1, 0), (105, .getfield 14, 3, 58), (108, .invokevirtual 51, 3, 183), (111, .ifCond .eq (11), 3, 0), (114, .aload_n 3, 1, 0), (115, .iconst 1, 1, 0), (116, .bipush 8, 2, 0), (118, .invokevirtual 34, 3, 180), (121, .ireturn, 1, 0), (122, .aload_n 0, 1, 0), (123, .getfield 14, 3, 58), (126, .iload_n 1, 1, 0), (127, .invokevirtual 55, 3, 184), (130, .aload_n 0, 1, 0), (131, .getfield 20, 3, 59), (134, .iload 4, 2, 0), (136, .invokevirtual 55, 3, 184), (139, .aload_n 0, 1, 0), (140, .getfield 23, 3, 60), (143, .iload 5, 2, 0), (145, .invokevirtual 55, 3, 184), (148, .aload_n 0, 1, 0), (149, .getfield 14, 3, 58), (152, .invokevirtual 30, 3, 99), (155, .iconst 1, 1, 0), (156, .isub, 1, 0), (157, .ireturn, 1, 0)]
/-- Book_remove -/
def jb_I125 : List (Nat × Instr × Nat × Nat) := [(0, .aload_n 0, 1, 0), (1, .getfield 14, 3, 58), (4, .iload_n 1, 1, 0), (5, .invokevirtual 58, 3, 97), (8, .ifCond .ne (5), 3, 0), (11, .iconst (-1), 1, 0), (12, .ireturn, 1, 0), (13, .aload_n 0, 1, 0), (14, .getfield 14, 3, 58), (17, .iload_n 1, 1, 0), (18, .invokevirtual 62, 3, 185), (21, .aload_n 0, 1, 0), (22, .getfield 20, 3, 59), (25, .iload_n 1, 1, 0), (26, .invokevirtual 62, 3, 185), (29, .aload_n 0, 1, 0), (30, .getfield 23, 3, 60), (33, .iload_n 1, 1, 0), (34, .invokevirtual 62, 3, 185), (37, .aload_n 0, 1, 0), (38, .getfield 14, 3, 58), (41, .invokevirtual 30, 3, 99), (44, .ireturn, 1, 0)]
/-- Swimmers_leave -/
def jb_I126 : List (Nat × Instr × Nat × Nat) := [(0, .aload_n 0, 1, 0), (1, .getfield 14, 3, 64), (4, .iload_n 1, 1, 0), (5, .invokevirtual 48, 3, 108), (8, .ifCond .ne (5), 3, 0), (11, .iconst (-1), 1, 0), (12, .ireturn, 1, 0), (13, .aload_n 0, 1, 0), (14, .getfield 14, 3, 64), (17, .iload_n 1, 1, 0), (18, .invokevirtual 59, 3, 186), (21, .aload_n 0, 1, 0), (22, .getfield 20, 3, 65), (25, .iload_n 1, 1, 0), (26, .invokevirtual 59, 3, 186), (29, .aload_n 0, 1, 0), (30, .getfield 14, 3, 64), (33, .invokevirtual 44, 3, 107), (36, .ireturn, 1, 0)]
/-- Bells_canAnySound -/
def jb_I127 : List (Nat × Instr × Nat × Nat) := [(0, .iconst 0, 1, 0), (1, .istore_n 2, 1, 0), (2, .iload_n 2, 1, 0), (3, .aload_n 1, 1, 0), (4, .invokevirtual 54, 3, 187), (7, .if_icmp .ge (23), 3, 0), (10, .aload_n 0, 1, 0), (11, .aload_n 1, 1, 0), (12, .iload_n 2, 1, 0), (13, .invokevirtual 41, 3, 89), (16, .invokevirtual 58, 3, 188), (19, .ifCond .eq (5), 3, 0), (22, .iconst 1, 1, 0), (23, .ireturn, 1, 0), (24, .iinc 2 1, 3, 0), (27, .goto (-25), 3, 0), (30, .iconst 0, 1, 0), (31, .ireturn, 1, 0)]
/-- Peals_begin -/
def jb_I128 : List (Nat × Instr × Nat × Nat) := [(0, .aload_n 0, 1, 0), (1, .getfield 14, 3, 84), (4, .iconst 0, 1, 0), (5, .invokevirtual 35, 3, 189), (8, .aload_n 0, 1, 0), (9, .getfield 20, 3, 86), (12, .invokevirtual 38, 3, 190), (15, .iconst 1, 1, 0), (16, .isub, 1, 0), (17, .istore_n 1, 1, 0), (18, .iload_n 1, 1, 0), (19, .bipush 12, 2, 0), (21, .if_icmp .lt (28), 3, 0), (24, .aload_n 0, 1, 0), (25, .getfield 20, 3, 86), (28, .iload_n 1, 1, 0), (29, .aload_n 0, 1, 0), (30, .getfield 20, 3, 86), (33, .iload_n 1, 1, 0), (34, .bipush 12, 2, 0), (36, .isub, 1, 0), (37, .invokevirtual 42, 3, 111), (40, .invokevirtual 46, 3, 112), (43, .iinc 1 (-1), 3, 0), (46, .goto (-28), 3, 0), (49, .return_, 1, 0)]
/-- Bells_pull -/
def jb_I129 : List (Nat × Instr × Nat × Nat) := [(0, .aload_n 0, 1, 0), (1, .iload_n 1, 1, 0), (2, .invokevirtual 58, 3, 188), (5, .ifCond .ne (5), 3, 0), (8, .iconst 5, 1, 0), (9, .ireturn, 1, 0), (10, .aload_n 0, 1, 0), (11, .getfield 20, 3, 80), (14, .iload_n 1, 1, 0), (15, .aload_n 0, 1, 0), (16, .getfield 20, 3, 80), (19, .iload_n 1, 1, 0), (20, .invokevirtual 41, 3, 89), (23, .iconst 1, 1, 0), (24, .iadd, 1, 0), (25, .invokevirtual 51, 3, 91), (28, .aload_n 0, 1, 0), (29, .getfield 23, 3, 81), (32, .iload_n 1, 1, 0), (33, .aload_n 0, 1, 0), (34, .getfield 23, 3, 81), (37, .iload_n 1, 1, 0), (38, .invokevirtual 41, 3, 89), (41, .iconst 1, 1, 0), (42, .iadd, 1, 0), (43, .invokevirtual 51, 3, 91), (46, .iload_n 1, 1, 0), (47, .ireturn, 1, 0)]
/-- D_swimmersWhoHear -/
def jb_I130 : List (Nat × Instr × Nat × Nat) := [(0, .iconst 0, 1, 0), (1, .istore_n 2, 1, 0), (2, .iconst 0, 1, 0), (3, .istore_n 3, 1, 0), (4, .iload_n 3, 1, 0), (5, .aload_n 0, 1, 0), (6, .getfield 10, 3, 191), (9, .getfield 140, 3, 192), (12, .getfield 189, 3, 193), (15, .invokevirtual 120, 3, 96), (18, .if_icmp .ge (63), 3, 0), (21, .aload_n 0, 1, 0), (22, .getfield 10, 3, 191), (25, .getfield 140, 3, 192), (28, .getfield 189, 3, 193), (31, .iload_n 3, 1, 0), (32, .invokevirtual 164, 3, 124), (35, .istore 4, 2, 0), (37, .aload_n 0, 1, 0), (38, .getfield 10, 3, 191), (41, .getfield 140, 3, 192), (44, .getfield 190, 3, 194), (47, .iload_n 3, 1, 0), (48, .invokevirtual 164, 3, 124), (51, .istore 5, 2, 0), (53, .aload_n 0, 1, 0), (54, .getfield 10, 3, 191), (57, .getfield 92, 3, 195), (60, .iload_n 1, 1, 0), (61, .iload 4, 2, 0), (63, .iload 5, 2, 0), (65, .invokevirtual 226, 3, 196), (68, .iload_n 1, 1, 0), (69, .if_icmp .ne (6), 3, 0), (72, .iinc 2 1, 3, 0), (75, .iinc 3 1, 3, 0), (78, .goto (-74), 3, 0), (81, .iload_n 2, 1, 0), (82, .ireturn, 1, 0)]
/-- Book_count -/
def jb_I131 : List (Nat × Instr × Nat × Nat) := [(0, .iconst 0, 1, 0), (1, .istore_n 3, 1, 0), (2, .iconst 0, 1, 0), (3, .istore 4, 2, 0), (5, .iload 4, 2, 0), (7, .aload_n 0, 1, 0), (8, .getfield 20, 3, 59), (11, .iload_n 1, 1, 0), (12, .invokevirtual 40, 3, 98), (15, .if_icmp .ge (23), 3, 0), (18, .aload_n 0, 1, 0), (19, .iload_n 1, 1, 0), (20, .iload 4, 2, 0), (22, .invokevirtual 68, 3, 197), (25, .iload_n 2, 1, 0), (26, .if_icmp .ne (6), 3, 0), (29, .iinc 3 1, 3, 0), (32, .iinc 4 1, 3, 0), (35, .goto (-30), 3, 0), (38, .iload_n 3, 1, 0), (39, .ireturn, 1, 0)]
/-- D_bellsHeardBy -/
def jb_I132 : List (Nat × Instr × Nat × Nat) := [(0, .aload_n 0, 1, 0), (1, .getfield 10, 3, 191), (4, .getfield 140, 3, 192), (7, .getfield 189, 3, 193), (10, .iload_n 1, 1, 0), (11, .invokevirtual 164, 3, 124), (14, .istore_n 2, 1, 0), (15, .aload_n 0, 1, 0), (16, .getfield 10, 3, 191), (19, .getfield 140, 3, 192), (22, .getfield 190, 3, 194), (25, .iload_n 1, 1, 0), (26, .invokevirtual 164, 3, 124), (29, .istore_n 3, 1, 0), (30, .iconst 0, 1, 0), (31, .istore 4, 2, 0), (33, .iconst 0, 1, 0), (34, .istore 5, 2, 0), (36, .iload 5, 2, 0), (38, .iconst 5, 1, 0), (39, .if_icmp .ge (31), 3, 0), (42, .aload_n 0, 1, 0), (43, .getfield 10, 3, 191), (46, .getfield 92, 3, 195), (49, .iload 5, 2, 0), (51, .iload_n 2, 1, 0), (52, .iload_n 3, 1, 0), (53, .invokevirtual 226, 3, 196), (56, .iload 5, 2, 0), (58, .if_icmp .ne (6), 3, 0), (61, .iinc 4 1, 3, 0), (64, .iinc 5 1, 3, 0), (67, .goto (-31), 3, 0), (70, .iload 4, 2, 0), (72, .ireturn, 1, 0)]
/-- Peals_copyTo -/
def jb_I133 : List (Nat × Instr × Nat × Nat) := [(0, .aload_n 2, 1, 0), (1, .invokevirtual 49, 3, 198), (4, .iconst 0, 1, 0), (5, .istore_n 3, 1, 0), (6, .iload_n 3, 1, 0), (7, .aload_n 0, 1, 0), (8, .getfield 14, 3, 84), (11, .iload_n 1, 1, 0), (12, .invokevirtual 42, 3, 111), (15, .if_icmp .ge (19), 3, 0), (18, .aload_n 2, 1, 0), (19, .aload_n 0, 1, 0), (20, .iload_n 1, 1, 0), (21, .iload_n 3, 1, 0), (22, .invokevirtual 52, 3, 199), (25, .invokevirtual 56, 3, 200), (28, .iinc 3 1, 3, 0), (31, .goto (-25), 3, 0), (34, .return_, 1, 0)]
/-- Parser_countBackward -/
def jb_I134 : List (Nat × Instr × Nat × Nat) := [(0, .aload_n 2, 1, 0), (1, .invokevirtual 24, 3, 116), (4, .istore_n 3, 1, 0), (5, .aload_n 2, 1, 0), (6, .invokestatic 28, 3, 201), (9, .ifCond .eq (5), 3, 0), (12, .iconst 0, 1, 0), (13, .ireturn, 1, 0), (14, .aload_n 0, 1, 0), (15, .getfield 16, 3, 69), (18, .iload_n 3, 1, 0), (19, .iconst 1, 1, 0), (20, .iadd, 1, 0), (21, .iconst 3, 1, 0), (22, .imul, 1, 0), (23, .iconst 0, 1, 0), (24, .invokevirtual 32, 3, 202), (27, .aload_n 0, 1, 0), (28, .getfield 16, 3, 69), (31, .iload_n 3, 1, 0), (32, .iconst 2, 1, 0), (33, .invokestatic 36, 3, 118), (36, .iconst 1, 1, 0), (37, .invokevirtual 40, 3, 203), (40, .iload_n 3, 1, 0), (41, .iconst 1, 1, 0), (42, .isub, 1, 0), (43, .istore 4, 2, 0), (45, .iload 4, 2, 0), (47, .ifCond .lt (102), 3, 0), (50, .aload_n 2, 1, 0), (51, .iload 4, 2, 0), (53, .invokevirtual 43, 3, 117), (56, .iconst 5, 1, 0), (57, .if_icmp .ne (16), 3, 0), (60, .aload_n 0, 1, 0), (61, .iload 4, 2, 0), (63, .iconst 1, 1, 0), (64, .iadd, 1, 0), (65, .iload 4, 2, 0), (67, .invokevirtual 47, 3, 204), (70, .goto 73, 3, 0), (73, .iconst 0, 1, 0), (74, .istore 5, 2, 0), (76, .iload 5, 2, 0), (78, .aload_n 1, 1, 0), (79, .getfield 50, 3, 121), (82, .invokevirtual 24, 3, 116), (85, .if_icmp .ge (58), 3, 0), (88, .aload_n 1, 1, 0), (89, .iload 5, 2, 0), (91, .aload_n 2, 1, 0), (92, .iload 4, 2, 0), (94, .invokevirtual 55, 3, 205), (97, .ifCond .eq (40), 3, 0), (100, .iload 4, 2, 0), (102, .aload_n 1, 1, 0), (103, .getfield 50, 3, 121), (106, .iload 5, 2, 0), (108, .invokevirtual 43, 3, 117), (111, .invokestatic 36, 3, 118), (114, .istore 6, 2, 0), (116, .aload_n 0, 1, 0), (117, .getfield 16, 3, 69), (120, .iload 6, 2, 0), (122, .aload_n 0, 1, 0), (123, .aload_n 1, 1, 0), (124, .iload 5, 2, 0), (126, .iload 4, 2, 0), (128, .invokevirtual 69, 3, 206), (131, .sipush 9999, 3, 0), (134, .invokevirtual 65, 3, 119), (137, .iinc 5 1, 3, 0), (140, .goto (-64), 3, 0), (143, .iinc 4 (-1), 3, 0), (146, .goto (-101), 3, 0), (149, .aload_n 0, 1, 0), (150, .getfield 16, 3, 69), (153, .iconst 0, 1, 0), (154, .iconst 0, 1, 0), (155, .invokestatic 36, 3, 118), (158, .invokevirtual 43, 3, 117), (161, .ireturn, 1, 0)]
/-- Parser_wordOnTheWay -/
def jb_I135 : List (Nat × Instr × Nat × Nat) := [(0, .iconst 0, 1, 0), (1, .istore 5, 2, 0), (3, .iload 5, 2, 0), (5, .aload_n 1, 1, 0), (6, .getfield 50, 3, 121), (9, .invokevirtual 24, 3, 116), (12, .if_icmp .ge (60), 3, 0), (15, .aload_n 1, 1, 0), (16, .getfield 50, 3, 121), (19, .iload 5, 2, 0), (21, .invokevirtual 43, 3, 117), (24, .iload 4, 2, 0), (26, .if_icmp .ne (18), 3, 0), (29, .aload_n 1, 1, 0), (30, .iload 5, 2, 0), (32, .aload_n 2, 1, 0), (33, .iload_n 3, 1, 0), (34, .invokevirtual 55, 3, 205), (37, .ifCond .eq (7), 3, 0), (40, .iconst 1, 1, 0), (41, .goto 4, 3, 0), (44, .iconst 0, 1, 0), (45, .istore 6, 2, 0), (47, .iload 6, 2, 0), (49, .ifCond .eq (17), 3, 0), (52, .aload_n 0, 1, 0), (53, .aload_n 1, 1, 0), (54, .iload 5, 2, 0), (56, .iload_n 3, 1, 0), (57, .invokevirtual 69, 3, 206), (60, .ifCond .le (6), 3, 0), (63, .iload 5, 2, 0), (65, .ireturn, 1, 0), (66, .iinc 5 1, 3, 0), (69, .goto (-66), 3, 0), (72, .iconst (-1), 1, 0), (73, .ireturn, 1, 0)]
/-- Parser_countForward -/
def jb_I136 : List (Nat × Instr × Nat × Nat) := [(0, .aload_n 2, 1, 0), (1, .invokevirtual 24, 3, 116), (4, .istore_n 3, 1, 0), (5, .aload_n 2, 1, 0), (6, .invokestatic 28, 3, 201), (9, .ifCond .eq (5), 3, 0), (12, .iconst 0, 1, 0), (13, .ireturn, 1, 0), (14, .aload_n 0, 1, 0), (15, .getfield 16, 3, 69), (18, .iload_n 3, 1, 0), (19, .iconst 1, 1, 0), (20, .iadd, 1, 0), (21, .iconst 3, 1, 0), (22, .imul, 1, 0), (23, .iconst 0, 1, 0), (24, .invokevirtual 32, 3, 202), (27, .aload_n 0, 1, 0), (28, .getfield 16, 3, 69), (31, .iconst 0, 1, 0), (32, .iconst 0, 1, 0), (33, .invokestatic 36, 3, 118), (36, .iconst 1, 1, 0), (37, .invokevirtual 40, 3, 203), (40, .iconst 0, 1, 0), (41, .istore 4, 2, 0), (43, .iload 4, 2, 0), (45, .iload_n 3, 1, 0), (46, .if_icmp .ge (124), 3, 0), (49, .aload_n 2, 1, 0), (50, .iload 4, 2, 0), (52, .invokevirtual 43, 3, 117), (55, .iconst 5, 1, 0), (56, .if_icmp .ne (16), 3, 0), (59, .aload_n 0, 1, 0), (60, .iload 4, 2, 0), (62, .iload 4, 2, 0), (64, .iconst 1, 1, 0), (65, .iadd, 1, 0), (66, .invokevirtual 47, 3, 204), (69, .goto 95, 3, 0), (72, .iconst 0, 1, 0), (73, .istore 5, 2, 0), (75, .iload 5, 2, 0), (77, .aload_n 1, 1, 0), (78, .getfield 50, 3, 121), (81, .invokevirtual 24, 3, 116), (84, .if_icmp .ge (80), 3, 0), (87, .aload_n 1, 1, 0), (88, .iload 5, 2, 0), (90, .aload_n 2, 1, 0), (91, .iload 4, 2, 0), (93, .invokevirtual 55, 3, 205), (96, .ifCond .eq (62), 3, 0), (99, .aload_n 1, 1, 0), (100, .getfield 50, 3, 121), (103, .iload 5, 2, 0), (105, .invokevirtual 43, 3, 117), (108, .istore 6, 2, 0), (110, .iload 4, 2, 0), (112, .aload_n 1, 1, 0), (113, .getfield 59, 3, 120), (116, .iload 5, 2, 0), (118, .invokevirtual 43, 3, 117), (121, .iadd, 1, 0), (122, .iload 6, 2, 0), (124, .invokestatic 62, 3, 122), (127, .invokestatic 36, 3, 118), (130, .istore 7, 2, 0), (132, .aload_n 0, 1, 0), (133, .getfield 16, 3, 69), (136, .iload 7, 2, 0), (138, .aload_n 0, 1, 0), (139, .getfield 16, 3, 69), (142, .iload 4, 2, 0), (144, .iload 6, 2, 0), (146, .invokestatic 36, 3, 118), (149, .invokevirtual 43, 3, 117), (152, .sipush 9999, 3, 0), (155, .invokevirtual 65, 3, 119), (158, .iinc 5 1, 3, 0), (161, .goto (-86), 3, 0), (164, .iinc 4 1, 3, 0), (167, .goto (-124), 3, 0), (170, .aload_n 0, 1, 0), (171, .getfield 16, 3, 69), (174, .iload_n 3, 1, 0), (175, .iconst 2, 1, 0), (176, .invokestatic 36, 3, 118), (179, .invokevirtual 43, 3, 117), (182, .ireturn, 1, 0)]
/-- D_signOf -/
def jb_I137 : List (Nat × Instr × Nat × Nat) := [(0, .aload_n 0, 1, 0), (1, .getfield 10, 3, 191), (4, .getfield 199, 3, 207), (7, .iload_n 1, 1, 0), (8, .iload_n 2, 1, 0), (9, .invokevirtual 223, 3, 208), (12, .ireturn, 1, 0)]
/-- D_hears -/
def jb_I138 : List (Nat × Instr × Nat × Nat) := [(0, .aload_n 0, 1, 0), (1, .getfield 10, 3, 191), (4, .getfield 140, 3, 192), (7, .getfield 189, 3, 193), (10, .iload_n 1, 1, 0), (11, .invokevirtual 160, 3, 127), (14, .ifCond .ne (5), 3, 0), (17, .iconst (-1), 1, 0), (18, .ireturn, 1, 0), (19, .aload_n 0, 1, 0), (20, .getfield 10, 3, 191), (23, .getfield 199, 3, 207), (26, .iload_n 2, 1, 0), (27, .iload_n 3, 1, 0), (28, .invokevirtual 223, 3, 208), (31, .istore 4, 2, 0), (33, .iload 4, 2, 0), (35, .iconst (-1), 1, 0), (36, .if_icmp .ne (5), 3, 0), (39, .iconst (-1), 1, 0), (40, .ireturn, 1, 0), (41, .aload_n 0, 1, 0), (42, .getfield 10, 3, 191), (45, .getfield 140, 3, 192), (48, .getfield 189, 3, 193), (51, .iload_n 1, 1, 0), (52, .invokevirtual 164, 3, 124), (55, .istore 5, 2, 0), (57, .aload_n 0, 1, 0), (58, .getfield 10, 3, 191), (61, .getfield 92, 3, 195), (64, .iload 4, 2, 0), (66, .iload 5, 2, 0), (68, .aload_n 0, 1, 0), (69, .getfield 10, 3, 191), (72, .getfield 140, 3, 192), (75, .getfield 190, 3, 194), (78, .iload_n 1, 1, 0), (79, .invokevirtual 164, 3, 124), (82, .invokevirtual 226, 3, 196), (85, .ireturn, 1, 0)]
/-- D_worn -/
def jb_I139 : List (Nat × Instr × Nat × Nat) := [(0, .aload_n 0, 1, 0), (1, .getfield 77, 3, 125), (4, .invokevirtual 233, 3, 209), (7, .iconst 0, 1, 0), (8, .istore_n 2, 1, 0), (9, .iload_n 2, 1, 0), (10, .iconst 5, 1, 0), (11, .if_icmp .ge (65), 3, 0), (14, .bipush 9, 2, 0), (16, .aload_n 0, 1, 0), (17, .getfield 10, 3, 191), (20, .getfield 92, 3, 195), (23, .getfield 167, 3, 210), (26, .iload_n 2, 1, 0), (27, .invokevirtual 164, 3, 124), (30, .isub, 1, 0), (31, .istore_n 3, 1, 0), (32, .bipush 9, 2, 0), (34, .aload_n 0, 1, 0), (35, .getfield 10, 3, 191), (38, .getfield 92, 3, 195), (41, .getfield 157, 3, 211), (44, .iload_n 2, 1, 0), (45, .invokevirtual 164, 3, 124), (48, .isub, 1, 0), (49, .istore 4, 2, 0), (51, .aload_n 0, 1, 0), (52, .getfield 77, 3, 125), (55, .iload_n 3, 1, 0), (56, .bipush 10, 2, 0), (58, .imul, 1, 0), (59, .iload 4, 2, 0), (61, .iadd, 1, 0), (62, .bipush 10, 2, 0), (64, .imul, 1, 0), (65, .iload_n 2, 1, 0), (66, .iadd, 1, 0), (67, .invokevirtual 117, 3, 95), (70, .iinc 2 1, 3, 0), (73, .goto (-64), 3, 0), (76, .aload_n 0, 1, 0), (77, .iload_n 1, 1, 0), (78, .invokevirtual 239, 3, 212), (81, .ireturn, 1, 0)]
/-- D_listed -/
def jb_I140 : List (Nat × Instr × Nat × Nat) := [(0, .aload_n 0, 1, 0), (1, .getfield 77, 3, 125), (4, .invokevirtual 233, 3, 209), (7, .iconst 0, 1, 0), (8, .istore_n 2, 1, 0), (9, .iload_n 2, 1, 0), (10, .aload_n 0, 1, 0), (11, .getfield 10, 3, 191), (14, .getfield 124, 3, 213), (17, .getfield 179, 3, 214), (20, .invokevirtual 120, 3, 96), (23, .if_icmp .ge (35), 3, 0), (26, .aload_n 0, 1, 0), (27, .getfield 77, 3, 125), (30, .aload_n 0, 1, 0), (31, .getfield 10, 3, 191), (34, .getfield 124, 3, 213), (37, .getfield 242, 3, 215), (40, .iload_n 2, 1, 0), (41, .invokevirtual 164, 3, 124), (44, .bipush 10, 2, 0), (46, .imul, 1, 0), (47, .iload_n 2, 1, 0), (48, .iadd, 1, 0), (49, .invokevirtual 117, 3, 95), (52, .iinc 2 1, 3, 0), (55, .goto (-46), 3, 0), (58, .aload_n 0, 1, 0), (59, .iload_n 1, 1, 0), (60, .invokevirtual 239, 3, 212), (63, .ireturn, 1, 0)]
/-- Book_isWithoutTwins -/
def jb_I141 : List (Nat × Instr × Nat × Nat) := [(0, .iconst 0, 1, 0), (1, .istore_n 1, 1, 0), (2, .iload_n 1, 1, 0), (3, .aload_n 0, 1, 0), (4, .getfield 23, 3, 60), (7, .invokevirtual 30, 3, 99), (10, .if_icmp .ge (27), 3, 0), (13, .aload_n 0, 1, 0), (14, .aload_n 0, 1, 0), (15, .getfield 23, 3, 60), (18, .iload_n 1, 1, 0), (19, .invokevirtual 40, 3, 98), (22, .invokevirtual 48, 3, 182), (25, .iload_n 1, 1, 0), (26, .if_icmp .eq (5), 3, 0), (29, .iconst 0, 1, 0), (30, .ireturn, 1, 0), (31, .iinc 1 1, 3, 0), (34, .goto (-32), 3, 0), (37, .iconst 1, 1, 0), (38, .ireturn, 1, 0)]
/-- D_meanWear -/
def jb_I142 : List (Nat × Instr × Nat × Nat) := [(0, .aload_n 0, 1, 0), (1, .getfield 10, 3, 191), (4, .getfield 92, 3, 195), (7, .getfield 167, 3, 210), (10, .invokevirtual 249, 3, 216), (13, .i2d, 1, 0), (14, .ldc2_w 255, 3, 217), (17, .ddiv, 1, 0), (18, .dreturn, 1, 0)]
/-- D_account -/
def jb_I143 : List (Nat × Instr × Nat × Nat) := [(0, .iload_n 1, 1, 0), (1, .tableswitch (162) (0) (9) #[(55), (69), (83), (97), (105), (113), (121), (135), (143), (154)], 55, 0), (56, .aload_n 0, 1, 0), (57, .getfield 10, 3, 191), (60, .getfield 124, 3, 213), (63, .getfield 179, 3, 214), (66, .invokevirtual 120, 3, 96), (69, .ireturn, 1, 0), (70, .aload_n 0, 1, 0), (71, .getfield 10, 3, 191), (74, .getfield 140, 3, 192), (77, .getfield 189, 3, 193), (80, .invokevirtual 120, 3, 96), (83, .ireturn, 1, 0), (84, .aload_n 0, 1, 0), (85, .getfield 10, 3, 191), (88, .getfield 199, 3, 207), (91, .getfield 245, 3, 218), (94, .invokevirtual 120, 3, 96), (97, .ireturn, 1, 0), (98, .aload_n 0, 1, 0), (99, .getfield 10, 3, 191), (102, .getfield 257, 3, 219), (105, .ireturn, 1, 0), (106, .aload_n 0, 1, 0), (107, .getfield 10, 3, 191), (110, .getfield 252, 3, 220), (113, .ireturn, 1, 0), (114, .aload_n 0, 1, 0), (115, .getfield 10, 3, 191), (118, .getfield 260, 3, 221), (121, .ireturn, 1, 0), (122, .aload_n 0, 1, 0), (123, .getfield 10, 3, 191), (126, .getfield 92, 3, 195), (129, .getfield 167, 3, 210), (132, .invokevirtual 249, 3, 216), (135, .ireturn, 1, 0), (136, .aload_n 0, 1, 0), (137, .getfield 55, 3, 93), (140, .invokevirtual 120, 3, 96), (143, .ireturn, 1, 0), (144, .aload_n 0, 1, 0), (145, .getfield 46, 3, 128), (148, .getfield 263, 3, 129), (151, .invokevirtual 120, 3, 96), (154, .ireturn, 1, 0), (155, .aload_n 0, 1, 0), (156, .getfield 25, 3, 222), (159, .getfield 266, 3, 223), (162, .ireturn, 1, 0), (163, .bipush (-2), 2, 0), (165, .ireturn, 1, 0)]
/-- D_writeBook -/
def jb_I144 : List (Nat × Instr × Nat × Nat) := [(0, .aload_n 0, 1, 0), (1, .getfield 59, 3, 126), (4, .invokevirtual 233, 3, 209), (7, .iconst 0, 1, 0), (8, .istore_n 1, 1, 0), (9, .iload_n 1, 1, 0), (10, .aload_n 0, 1, 0), (11, .getfield 10, 3, 191), (14, .getfield 124, 3, 213), (17, .getfield 179, 3, 214), (20, .invokevirtual 120, 3, 96), (23, .if_icmp .ge (103), 3, 0), (26, .iload_n 1, 1, 0), (27, .ifCond .le (12), 3, 0), (30, .aload_n 0, 1, 0), (31, .getfield 59, 3, 126), (34, .bipush 32, 2, 0), (36, .invokevirtual 117, 3, 95), (39, .aload_n 0, 1, 0), (40, .getfield 59, 3, 126), (43, .aload_n 0, 1, 0), (44, .getfield 10, 3, 191), (47, .getfield 124, 3, 213), (50, .getfield 179, 3, 214), (53, .iload_n 1, 1, 0), (54, .invokevirtual 164, 3, 124), (57, .invokestatic 271, 3, 224), (60, .invokevirtual 117, 3, 95), (63, .aload_n 0, 1, 0), (64, .getfield 59, 3, 126), (67, .bipush 58, 2, 0), (69, .invokevirtual 117, 3, 95), (72, .iconst 0, 1, 0), (73, .istore_n 2, 1, 0), (74, .iload_n 2, 1, 0), (75, .aload_n 0, 1, 0), (76, .getfield 10, 3, 191), (79, .getfield 124, 3, 213), (82, .getfield 182, 3, 225), (85, .iload_n 1, 1, 0), (86, .invokevirtual 164, 3, 124), (89, .if_icmp .ge (31), 3, 0), (92, .aload_n 0, 1, 0), (93, .getfield 59, 3, 126), (96, .aload_n 0, 1, 0), (97, .getfield 10, 3, 191), (100, .getfield 124, 3, 213), (103, .iload_n 1, 1, 0), (104, .iload_n 2, 1, 0), (105, .invokevirtual 274, 3, 226), (108, .invokestatic 268, 3, 227), (111, .invokevirtual 117, 3, 95), (114, .iinc 2 1, 3, 0), (117, .goto (-43), 3, 0), (120, .iinc 1 1, 3, 0), (123, .goto (-114), 3, 0), (126, .aload_n 0, 1, 0), (127, .getfield 59, 3, 126), (130, .invokevirtual 120, 3, 96), (133, .ireturn, 1, 0)]
/-- L1_charAt -/
def jb_I145 : List (Nat × Instr × Nat × Nat) := [(0, .iload_n 1, 1, 0), (1, .aload_n 0, 1, 0), (2, .arraylength, 1, 0), (3, .invokestatic 9, 3, 228), (6, .aload_n 0, 1, 0), (7, .iload_n 1, 1, 0), (8, .baload, 1, 0), (9, .sipush 255, 3, 0), (12, .iand, 1, 0), (13, .i2c, 1, 0), (14, .ireturn, 1, 0)]
/-- Text_endOf -/
def jb_I146 : List (Nat × Instr × Nat × Nat) := [(0, .iload_n 2, 1, 0), (1, .iload_n 1, 1, 0), (2, .invokestatic 53, 3, 229), (5, .invokevirtual 62, 3, 230), (8, .iadd, 1, 0), (9, .istore_n 3, 1, 0), (10, .iload_n 1, 1, 0), (11, .iconst 2, 1, 0), (12, .if_icmp .eq (11), 3, 0), (15, .iload_n 1, 1, 0), (16, .bipush 7, 2, 0), (18, .if_icmp .eq (5), 3, 0), (21, .iload_n 3, 1, 0), (22, .ireturn, 1, 0), (23, .iload_n 3, 1, 0), (24, .istore 4, 2, 0), (26, .iload 4, 2, 0), (28, .aload_n 0, 1, 0), (29, .getfield 14, 3, 74), (32, .invokevirtual 46, 3, 231), (35, .if_icmp .ge (28), 3, 0), (38, .aload_n 0, 1, 0), (39, .getfield 14, 3, 74), (42, .iload 4, 2, 0), (44, .invokevirtual 50, 3, 232), (47, .invokestatic 69, 3, 134), (50, .iconst (-1), 1, 0), (51, .if_icmp .ne (6), 3, 0), (54, .iload 4, 2, 0), (56, .ireturn, 1, 0), (57, .iinc 4 1, 3, 0), (60, .goto (-34), 3, 0), (63, .aload_n 0, 1, 0), (64, .getfield 14, 3, 74), (67, .invokevirtual 46, 3, 231), (70, .ireturn, 1, 0)]
/-- Str_indexOf2 -/
def jb_I147 : List (Nat × Instr × Nat × Nat) := [(0, .aload_n 0, 1, 0), (1, .invokevirtual 492, 3, 233), (4, .ifCond .eq (19), 3, 0), (7, .aload_n 0, 1, 0), (8, .getfield 9, 3, 130), (11, .iload_n 1, 1, 0), (12, .iload_n 2, 1, 0), (13, .aload_n 0, 1, 0), (14, .invokevirtual 505, 3, 234), (17, .invokestatic 637, 3, 235), (20, .goto 16, 3, 0), (23, .aload_n 0, 1, 0), (24, .getfield 9, 3, 130), (27, .iload_n 1, 1, 0), (28, .iload_n 2, 1, 0), (29, .aload_n 0, 1, 0), (30, .invokevirtual 505, 3, 234), (36, .ireturn, 1, 0)]
/-- Text_copySigns -/
def jb_I148 : List (Nat × Instr × Nat × Nat) := [(0, .aload_n 2, 1, 0), (1, .invokevirtual 29, 3, 236), (4, .aload_n 0, 1, 0), (5, .getfield 23, 3, 76), (8, .iload_n 1, 1, 0), (9, .invokevirtual 50, 3, 232), (12, .aload_n 0, 1, 0), (13, .getfield 20, 3, 75), (16, .iload_n 1, 1, 0), (17, .invokevirtual 50, 3, 232), (20, .invokestatic 53, 3, 229), (23, .invokevirtual 62, 3, 230), (26, .iadd, 1, 0), (27, .iconst 1, 1, 0), (28, .isub, 1, 0), (29, .istore_n 3, 1, 0), (30, .iload_n 3, 1, 0), (31, .istore 4, 2, 0), (33, .iload 4, 2, 0), (35, .aload_n 0, 1, 0), (36, .getfield 26, 3, 77), (39, .iload_n 1, 1, 0), (40, .invokevirtual 50, 3, 232), (43, .if_icmp .ge (25), 3, 0), (46, .aload_n 2, 1, 0), (47, .aload_n 0, 1, 0), (48, .getfield 14, 3, 74), (51, .iload 4, 2, 0), (53, .invokevirtual 50, 3, 232), (56, .invokestatic 69, 3, 134), (59, .invokevirtual 43, 3, 237), (62, .iinc 4 1, 3, 0), (65, .goto (-32), 3, 0), (68, .return_, 1, 0)]
/-- M_ends -/
def jb_I149 : List (Nat × Instr × Nat × Nat) := [(0, .aload_n 0, 1, 0), (1, .getfield 53, 3, 47), (4, .ifCond .eq (18), 3, 0), (7, .aload_n 0, 1, 0), (8, .aload_n 0, 1, 0), (9, .getfield 53, 3, 47), (12, .aload_n 0, 1, 0), (13, .getfield 56, 3, 48), (16, .iconst 0, 1, 0), (17, .iconst 0, 1, 0), (18, .invokevirtual 78, 3, 238), (21, .ireturn, 1, 0), (22, .aload_n 0, 1, 0), (23, .invokevirtual 82, 3, 239), (26, .iload_n 1, 1, 0), (27, .ireturn, 1, 0)]
/-- M_same -/
def jb_I150 : List (Nat × Instr × Nat × Nat) := [(0, .iconst (-1), 1, 0), (1, .istore_n 1, 1, 0), (2, .iconst 0, 1, 0), (3, .istore_n 2, 1, 0), (4, .iload_n 2, 1, 0), (5, .aload_n 0, 1, 0), (6, .getfield 9, 3, 33), (9, .iconst 0, 1, 0), (10, .iaload, 1, 0), (11, .if_icmp .ge (42), 3, 0), (14, .aload_n 0, 1, 0), (15, .getfield 9, 3, 33), (18, .iload_n 2, 1, 0), (19, .invokestatic 130, 3, 151), (22, .iconst 1, 1, 0), (23, .iadd, 1, 0), (24, .iaload, 1, 0), (25, .aload_n 0, 1, 0), (26, .getfield 124, 3, 50), (29, .if_icmp .ne (16), 3, 0), (32, .aload_n 0, 1, 0), (33, .iload_n 2, 1, 0), (34, .iconst 0, 1, 0), (35, .invokevirtual 133, 3, 240), (38, .ifCond .eq (7), 3, 0), (41, .iload_n 2, 1, 0), (42, .goto 4, 3, 0), (45, .iload_n 1, 1, 0), (46, .istore_n 1, 1, 0), (47, .iinc 2 1, 3, 0), (50, .goto (-46), 3, 0), (53, .iload_n 1, 1, 0), (54, .ireturn, 1, 0)]
/-- M_parsesNow -/
def jb_I151 : List (Nat × Instr × Nat × Nat) := [(0, .iconst 0, 1, 0), (1, .istore_n 1, 1, 0), (2, .iload_n 1, 1, 0), (3, .iconst 3, 1, 0), (4, .if_icmp .ge (37), 3, 0), (7, .aload_n 0, 1, 0), (8, .getfield 38, 3, 42), (11, .iconst 3, 1, 0), (12, .aload_n 0, 1, 0), (13, .getfield 124, 3, 50), (16, .imul, 1, 0), (17, .iload_n 1, 1, 0), (18, .iadd, 1, 0), (19, .iconst 0, 1, 0), (20, .iastore, 1, 0), (21, .aload_n 0, 1, 0), (22, .getfield 41, 3, 43), (25, .iconst 3, 1, 0), (26, .aload_n 0, 1, 0), (27, .getfield 124, 3, 50), (30, .imul, 1, 0), (31, .iload_n 1, 1, 0), (32, .iadd, 1, 0), (33, .iconst 0, 1, 0), (34, .iastore, 1, 0), (35, .iinc 1 1, 3, 0), (38, .goto (-36), 3, 0), (41, .aload_n 0, 1, 0), (42, .getfield 124, 3, 50), (45, .iconst 1, 1, 0), (46, .isub, 1, 0), (47, .istore_n 1, 1, 0), (48, .iload_n 1, 1, 0), (49, .ifCond .lt (160), 3, 0), (52, .iconst 0, 1, 0), (53, .istore_n 2, 1, 0), (54, .iload_n 2, 1, 0), (55, .iconst 3, 1, 0), (56, .if_icmp .ge (147), 3, 0), (59, .iconst 0, 1, 0), (60, .istore_n 3, 1, 0), (61, .iconst 0, 1, 0), (62, .istore 4, 2, 0), (64, .iload 4, 2, 0), (66, .aload_n 0, 1, 0), (67, .getfield 9, 3, 33), (70, .iconst 0, 1, 0), (71, .iaload, 1, 0), (72, .if_icmp .ge (76), 3, 0), (75, .aload_n 0, 1, 0), (76, .getfield 9, 3, 33), (79, .iload 4, 2, 0), (81, .invokestatic 130, 3, 151), (84, .iconst 0, 1, 0), (85, .iadd, 1, 0), (86, .iaload, 1, 0), (87, .iload_n 2, 1, 0), (88, .if_icmp .ne (17), 3, 0), (91, .aload_n 0, 1, 0), (92, .iload 4, 2, 0), (94, .iload_n 1, 1, 0), (95, .invokevirtual 133, 3, 240), (98, .ifCond .eq (7), 3, 0), (101, .iconst 1, 1, 0), (102, .goto 4, 3, 0), (105, .iconst 0, 1, 0), (106, .istore 5, 2, 0), (108, .iload_n 3, 1, 0), (109, .iload 5, 2, 0), (111, .ifCond .eq (28), 3, 0), (114, .aload_n 0, 1, 0), (115, .iload_n 1, 1, 0), (116, .aload_n 0, 1, 0), (117, .getfield 9, 3, 33), (120, .iload 4, 2, 0), (122, .invokestatic 130, 3, 151), (125, .iconst 1, 1, 0), (126, .iadd, 1, 0), (127, .iaload, 1, 0), (128, .iadd, 1, 0), (129, .iload_n 2, 1, 0), (130, .invokestatic 182, 3, 241), (133, .invokevirtual 185, 3, 242), (136, .goto 4, 3, 0), (139, .iconst 0, 1, 0), (140, .iadd, 1, 0), (141, .istore_n 3, 1, 0), (142, .iinc 4 1, 3, 0), (145, .goto (-81), 3, 0), (148, .aload_n 0, 1, 0), (149, .getfield 38, 3, 42), (152, .iconst 3, 1, 0), (153, .iload_n 1, 1, 0), (154, .imul, 1, 0), (155, .iload_n 2, 1, 0), (156, .iadd, 1, 0), (157, .iload_n 3, 1, 0), (158, .iastore, 1, 0), (159, .aload_n 0, 1, 0), (160, .getfield 41, 3, 43), (163, .iconst 3, 1, 0), (164, .iload_n 1, 1, 0), (165, .imul, 1, 0), (166, .iload_n 2, 1, 0), (167, .iadd, 1, 0), (168, .iload_n 3, 1, 0), (169, .aload_n 0, 1, 0), (170, .getfield 35, 3, 41), (173, .iload_n 1, 1, 0), (174, .iaload, 1, 0), (175, .iconst 5, 1, 0), (176, .if_icmp .ne (18), 3, 0), (179, .aload_n 0, 1, 0), (180, .getfield 41, 3, 43), (183, .iconst 3, 1, 0), (184, .iload_n 1, 1, 0), (185, .imul, 1, 0), (186, .iconst 3, 1, 0), (187, .iadd, 1, 0), (188, .iload_n 2, 1, 0), (189, .iadd, 1, 0), (190, .iaload, 1, 0), (191, .goto 4, 3, 0), (194, .iconst 0, 1, 0), (195, .iadd, 1, 0), (196, .iastore, 1, 0), (197, .iinc 2 1, 3, 0), (200, .goto (-146), 3, 0), (203, .iinc 1 (-1), 3, 0), (206, .goto (-158), 3, 0), (209, .sipush 9999, 3, 0), (212, .aload_n 0, 1, 0), (213, .getfield 38, 3, 42), (216, .iconst 0, 1, 0), (217, .iaload, 1, 0), (218, .invokestatic 171, 3, 51), (221, .ireturn, 1, 0)]
/-- M_signOf -/
def jb_I152 : List (Nat × Instr × Nat × Nat) := [(0, .aload_n 0, 1, 0), (1, .iload_n 1, 1, 0), (2, .invokevirtual 194, 3, 243), (5, .ifCond .eq (28), 3, 0), (8, .iload_n 2, 1, 0), (9, .iconst 0, 1, 0), (10, .aload_n 0, 1, 0), (11, .getfield 9, 3, 33), (14, .iload_n 1, 1, 0), (15, .invokestatic 127, 3, 154), (18, .iconst 0, 1, 0), (19, .iadd, 1, 0), (20, .iaload, 1, 0), (21, .iconst 1, 1, 0), (22, .isub, 1, 0), (23, .invokestatic 85, 3, 141), (26, .ifCond .eq (7), 3, 0), (29, .iconst 1, 1, 0), (30, .goto 4, 3, 0), (33, .iconst 0, 1, 0), (34, .istore_n 3, 1, 0), (35, .iload_n 3, 1, 0), (36, .ifCond .eq (19), 3, 0), (39, .aload_n 0, 1, 0), (40, .getfield 9, 3, 33), (43, .iload_n 1, 1, 0), (44, .invokestatic 127, 3, 154), (47, .iconst 1, 1, 0), (48, .iadd, 1, 0), (49, .iload_n 2, 1, 0), (50, .iadd, 1, 0), (51, .iaload, 1, 0), (52, .goto 4, 3, 0), (55, .iconst (-1), 1, 0), (56, .ireturn, 1, 0)]
/-- M_hears -/
def jb_I153 : List (Nat × Instr × Nat × Nat) := [(0, .aload_n 0, 1, 0), (1, .iload_n 1, 1, 0), (2, .invokevirtual 165, 3, 244), (5, .ifCond .eq (36), 3, 0), (8, .aload_n 0, 1, 0), (9, .iload_n 2, 1, 0), (10, .invokevirtual 194, 3, 243), (13, .ifCond .eq (28), 3, 0), (16, .iload_n 3, 1, 0), (17, .iconst 0, 1, 0), (18, .aload_n 0, 1, 0), (19, .getfield 9, 3, 33), (22, .iload_n 2, 1, 0), (23, .invokestatic 127, 3, 154), (26, .iconst 0, 1, 0), (27, .iadd, 1, 0), (28, .iaload, 1, 0), (29, .iconst 1, 1, 0), (30, .isub, 1, 0), (31, .invokestatic 85, 3, 141), (34, .ifCond .eq (7), 3, 0), (37, .iconst 1, 1, 0), (38, .goto 4, 3, 0), (41, .iconst 0, 1, 0), (42, .istore 4, 2, 0), (44, .iload 4, 2, 0), (46, .ifCond .ne (5), 3, 0), (49, .iconst (-1), 1, 0), (50, .ireturn, 1, 0), (51, .aload_n 0, 1, 0), (52, .getfield 9, 3, 33), (55, .iload_n 2, 1, 0), (56, .invokestatic 127, 3, 154), (59, .iconst 1, 1, 0), (60, .iadd, 1, 0), (61, .iload_n 3, 1, 0), (62, .iadd, 1, 0), (63, .iaload, 1, 0), (64, .istore 5, 2, 0), (66, .iload_n 1, 1, 0), (67, .invokestatic 156, 3, 152), (70, .istore 6, 2, 0), (72, .aload_n 0, 1, 0), (73, .aload_n 0, 1, 0), (74, .getfield 9, 3, 33), (77, .iload 6, 2, 0), (79, .iconst 0, 1, 0), (80, .iadd, 1, 0), (81, .iaload, 1, 0), (82, .aload_n 0, 1, 0), (83, .getfield 9, 3, 33), (86, .iload 6, 2, 0), (88, .iconst 1, 1, 0), (89, .iadd, 1, 0), (90, .iaload, 1, 0), (91, .iload 5, 2, 0), (93, .invokevirtual 208, 3, 245), (96, .ifCond .eq (8), 3, 0), (99, .iload 5, 2, 0), (101, .goto 4, 3, 0), (104, .iconst 5, 1, 0), (105, .ireturn, 1, 0)]
/-- M_hearersOf -/
def jb_I154 : List (Nat × Instr × Nat × Nat) := [(0, .iconst 0, 1, 0), (1, .istore_n 2, 1, 0), (2, .iconst 0, 1, 0), (3, .istore_n 3, 1, 0), (4, .iload_n 3, 1, 0), (5, .aload_n 0, 1, 0), (6, .getfield 9, 3, 33), (9, .iconst 1, 1, 0), (10, .iaload, 1, 0), (11, .if_icmp .ge (49), 3, 0), (14, .iload_n 3, 1, 0), (15, .invokestatic 156, 3, 152), (18, .istore 4, 2, 0), (20, .iload_n 2, 1, 0), (21, .aload_n 0, 1, 0), (22, .aload_n 0, 1, 0), (23, .getfield 9, 3, 33), (26, .iload 4, 2, 0), (28, .iconst 0, 1, 0), (29, .iadd, 1, 0), (30, .iaload, 1, 0), (31, .aload_n 0, 1, 0), (32, .getfield 9, 3, 33), (35, .iload 4, 2, 0), (37, .iconst 1, 1, 0), (38, .iadd, 1, 0), (39, .iaload, 1, 0), (40, .iload_n 1, 1, 0), (41, .invokevirtual 208, 3, 245), (44, .ifCond .eq (7), 3, 0), (47, .iconst 1, 1, 0), (48, .goto 4, 3, 0), (51, .iconst 0, 1, 0), (52, .iadd, 1, 0), (53, .istore_n 2, 1, 0), (54, .iinc 3 1, 3, 0), (57, .goto (-53), 3, 0), (60, .iload_n 2, 1, 0), (61, .ireturn, 1, 0)]
/-- M_wordsWith -/
def jb_I155 : List (Nat × Instr × Nat × Nat) := [(0, .iconst 0, 1, 0), (1, .istore_n 2, 1, 0), (2, .iconst 0, 1, 0), (3, .istore_n 3, 1, 0), (4, .iload_n 3, 1, 0), (5, .aload_n 0, 1, 0), (6, .getfield 9, 3, 33), (9, .iconst 0, 1, 0), (10, .iaload, 1, 0), (11, .if_icmp .ge (26), 3, 0), (14, .iload_n 2, 1, 0), (15, .aload_n 0, 1, 0), (16, .iload_n 3, 1, 0), (17, .iload_n 1, 1, 0), (18, .invokevirtual 218, 3, 246), (21, .ifCond .le (7), 3, 0), (24, .iconst 1, 1, 0), (25, .goto 4, 3, 0), (28, .iconst 0, 1, 0), (29, .iadd, 1, 0), (30, .istore_n 2, 1, 0), (31, .iinc 3 1, 3, 0), (34, .goto (-30), 3, 0), (37, .iload_n 2, 1, 0), (38, .ireturn, 1, 0)]
/-- M_wordOf -/
def jb_I156 : List (Nat × Instr × Nat × Nat) := [(0, .aload_n 0, 1, 0), (1, .iload_n 1, 1, 0), (2, .invokevirtual 150, 3, 247), (5, .ifCond .ne (5), 3, 0), (8, .iconst (-1), 1, 0), (9, .ireturn, 1, 0), (10, .iload_n 2, 1, 0), (11, .iconst 2, 1, 0), (12, .if_icmp .ne (12), 3, 0), (15, .aload_n 0, 1, 0), (16, .iload_n 1, 1, 0), (17, .iconst 5, 1, 0), (18, .invokevirtual 218, 3, 246), (21, .goto 28, 3, 0), (24, .iload_n 2, 1, 0), (25, .iconst 0, 1, 0), (26, .iconst 1, 1, 0), (27, .invokestatic 85, 3, 141), (30, .ifCond .eq (17), 3, 0), (33, .aload_n 0, 1, 0), (34, .getfield 9, 3, 33), (37, .iload_n 1, 1, 0), (38, .invokestatic 130, 3, 151), (41, .iload_n 2, 1, 0), (42, .iadd, 1, 0), (43, .iaload, 1, 0), (44, .goto 5, 3, 0), (47, .bipush (-2), 2, 0), (49, .ireturn, 1, 0)]
/-- M_bellsHeard -/
def jb_I157 : List (Nat × Instr × Nat × Nat) := [(0, .iconst 0, 1, 0), (1, .istore_n 2, 1, 0), (2, .iconst 0, 1, 0), (3, .istore_n 3, 1, 0), (4, .iload_n 3, 1, 0), (5, .iconst 5, 1, 0), (6, .if_icmp .ge (47), 3, 0), (9, .iload_n 2, 1, 0), (10, .aload_n 0, 1, 0), (11, .aload_n 0, 1, 0), (12, .getfield 9, 3, 33), (15, .iload_n 1, 1, 0), (16, .invokestatic 156, 3, 152), (19, .iconst 0, 1, 0), (20, .iadd, 1, 0), (21, .iaload, 1, 0), (22, .aload_n 0, 1, 0), (23, .getfield 9, 3, 33), (26, .iload_n 1, 1, 0), (27, .invokestatic 156, 3, 152), (30, .iconst 1, 1, 0), (31, .iadd, 1, 0), (32, .iaload, 1, 0), (33, .iload_n 3, 1, 0), (34, .invokevirtual 208, 3, 245), (37, .ifCond .eq (7), 3, 0), (40, .iconst 1, 1, 0), (41, .goto 4, 3, 0), (44, .iconst 0, 1, 0), (45, .iadd, 1, 0), (46, .istore_n 2, 1, 0), (47, .iinc 3 1, 3, 0), (50, .goto (-46), 3, 0), (53, .iload_n 2, 1, 0), (54, .ireturn, 1, 0)]
/-- M_listed -/
def jb_I158 : List (Nat × Instr × Nat × Nat) := [(0, .iconst (-1), 1, 0), (1, .istore_n 2, 1, 0), (2, .iconst 0, 1, 0), (3, .istore_n 3, 1, 0), (4, .iload_n 3, 1, 0), (5, .aload_n 0, 1, 0), (6, .getfield 9, 3, 33), (9, .iconst 0, 1, 0), (10, .iaload, 1, 0), (11, .if_icmp .ge (68), 3, 0), (14, .iconst 0, 1, 0), (15, .istore 4, 2, 0), (17, .iconst 0, 1, 0), (18, .istore 5, 2, 0), (20, .iload 5, 2, 0), (22, .aload_n 0, 1, 0), (23, .getfield 9, 3, 33), (26, .iconst 0, 1, 0), (27, .iaload, 1, 0), (28, .if_icmp .ge (33), 3, 0), (31, .iload 4, 2, 0), (33, .aload_n 0, 1, 0), (34, .iload 5, 2, 0), (36, .invokevirtual 233, 3, 248), (39, .aload_n 0, 1, 0), (40, .iload_n 3, 1, 0), (41, .invokevirtual 233, 3, 248), (44, .if_icmp .ge (7), 3, 0), (47, .iconst 1, 1, 0), (48, .goto 4, 3, 0), (51, .iconst 0, 1, 0), (52, .iadd, 1, 0), (53, .istore 4, 2, 0), (55, .iinc 5 1, 3, 0), (58, .goto (-38), 3, 0), (61, .iload 4, 2, 0), (63, .iload_n 1, 1, 0), (64, .if_icmp .ne (7), 3, 0), (67, .iload_n 3, 1, 0), (68, .goto 4, 3, 0), (71, .iload_n 2, 1, 0), (72, .istore_n 2, 1, 0), (73, .iinc 3 1, 3, 0), (76, .goto (-72), 3, 0), (79, .iload_n 2, 1, 0), (80, .ireturn, 1, 0)]
/-- M_meanWear -/
def jb_I159 : List (Nat × Instr × Nat × Nat) := [(0, .aload_n 0, 1, 0), (1, .invokevirtual 236, 3, 249), (4, .i2d, 1, 0), (5, .ldc2_w 239, 3, 250), (8, .ddiv, 1, 0), (9, .dreturn, 1, 0)]
/-- M_account -/
def jb_I160 : List (Nat × Instr × Nat × Nat) := [(0, .iload_n 1, 1, 0), (1, .tableswitch (82) (0) (9) #[(55), (55), (55), (55), (55), (55), (62), (67), (72), (77)], 55, 0), (56, .aload_n 0, 1, 0), (57, .getfield 9, 3, 33), (60, .iload_n 1, 1, 0), (61, .iaload, 1, 0), (62, .ireturn, 1, 0), (63, .aload_n 0, 1, 0), (64, .invokevirtual 236, 3, 249), (67, .ireturn, 1, 0), (68, .aload_n 0, 1, 0), (69, .getfield 121, 3, 49), (72, .ireturn, 1, 0), (73, .aload_n 0, 1, 0), (74, .getfield 241, 3, 158), (77, .ireturn, 1, 0), (78, .aload_n 0, 1, 0), (79, .getfield 63, 3, 146), (82, .ireturn, 1, 0), (83, .bipush (-2), 2, 0), (85, .ireturn, 1, 0)]
/-- M_writeBook -/
def jb_I161 : List (Nat × Instr × Nat × Nat) := [(0, .iconst 0, 1, 0), (1, .istore_n 1, 1, 0), (2, .iconst 0, 1, 0), (3, .istore_n 2, 1, 0), (4, .iload_n 2, 1, 0), (5, .aload_n 0, 1, 0), (6, .getfield 9, 3, 33), (9, .iconst 0, 1, 0), (10, .iaload, 1, 0), (11, .if_icmp .ge (80), 3, 0), (14, .aload_n 0, 1, 0), (15, .iload_n 2, 1, 0), (16, .ifCond .ne (7), 3, 0), (19, .iload_n 1, 1, 0), (20, .goto 10, 3, 0), (23, .aload_n 0, 1, 0), (24, .iload_n 1, 1, 0), (25, .bipush 32, 2, 0), (27, .invokevirtual 244, 3, 156), (30, .iload_n 2, 1, 0), (31, .invokevirtual 250, 3, 251), (34, .istore_n 1, 1, 0), (35, .aload_n 0, 1, 0), (36, .iload_n 1, 1, 0), (37, .bipush 58, 2, 0), (39, .invokevirtual 244, 3, 156), (42, .istore_n 1, 1, 0), (43, .iconst 0, 1, 0), (44, .istore_n 3, 1, 0), (45, .iload_n 3, 1, 0), (46, .aload_n 0, 1, 0), (47, .getfield 9, 3, 33), (50, .iload_n 2, 1, 0), (51, .invokestatic 130, 3, 151), (54, .iconst 1, 1, 0), (55, .iadd, 1, 0), (56, .iaload, 1, 0), (57, .if_icmp .ge (28), 3, 0), (60, .aload_n 0, 1, 0), (61, .iload_n 1, 1, 0), (62, .aload_n 0, 1, 0), (63, .getfield 9, 3, 33), (66, .iload_n 2, 1, 0), (67, .invokestatic 130, 3, 151), (70, .iconst 2, 1, 0), (71, .iadd, 1, 0), (72, .iload_n 3, 1, 0), (73, .iadd, 1, 0), (74, .iaload, 1, 0), (75, .invokevirtual 247, 3, 252), (78, .istore_n 1, 1, 0), (79, .iinc 3 1, 3, 0), (82, .goto (-37), 3, 0), (85, .iinc 2 1, 3, 0), (88, .goto (-84), 3, 0), (91, .aload_n 0, 1, 0), (92, .iload_n 1, 1, 0), (93, .putfield 253, 3, 157), (96, .iload_n 1, 1, 0), (97, .ireturn, 1, 0)]
/-- M_blank -/
def jb_I162 : List (Nat × Instr × Nat × Nat) := [(0, .aload_n 0, 1, 0), (1, .bipush 32, 2, 0), (3, .bipush 32, 2, 0), (5, .invokevirtual 268, 3, 253), (8, .istore_n 1, 1, 0), (9, .return_, 1, 0)]
/-- M_digit -/
def jb_I163 : List (Nat × Instr × Nat × Nat) := [(0, .aload_n 0, 1, 0), (1, .bipush 48, 2, 0), (3, .bipush 57, 2, 0), (5, .invokevirtual 268, 3, 253), (8, .ireturn, 1, 0)]
/-- M_readsKind -/
def jb_I164 : List (Nat × Instr × Nat × Nat) := [(0, .aload_n 0, 1, 0), (1, .invokevirtual 265, 3, 160), (4, .istore_n 1, 1, 0), (5, .iload_n 1, 1, 0), (6, .bipush 110, 2, 0), (8, .if_icmp .ne (7), 3, 0), (11, .iconst 0, 1, 0), (12, .goto 14, 3, 0), (15, .iload_n 1, 1, 0), (16, .bipush 100, 2, 0), (18, .if_icmp .ne (7), 3, 0), (21, .iconst 1, 1, 0), (22, .goto 4, 3, 0), (25, .iconst 2, 1, 0), (26, .istore_n 2, 1, 0), (27, .iload_n 1, 1, 0), (28, .bipush 110, 2, 0), (30, .if_icmp .eq (9), 3, 0), (33, .iload_n 1, 1, 0), (34, .bipush 100, 2, 0), (36, .if_icmp .ne (12), 3, 0), (39, .aload_n 0, 1, 0), (40, .iload_n 1, 1, 0), (41, .iload_n 1, 1, 0), (42, .invokevirtual 268, 3, 253), (45, .goto 11, 3, 0), (48, .aload_n 0, 1, 0), (49, .bipush 116, 2, 0), (51, .bipush 116, 2, 0), (53, .invokevirtual 268, 3, 253), (56, .istore_n 3, 1, 0), (57, .iload_n 2, 1, 0), (58, .ireturn, 1, 0)]
/-- M_readsSigns -/
def jb_I165 : List (Nat × Instr × Nat × Nat) := [(0, .aload_n 0, 1, 0), (1, .getfield 50, 3, 46), (4, .iload_n 1, 1, 0), (5, .iconst 2, 1, 0), (6, .iadd, 1, 0), (7, .aload_n 0, 1, 0), (8, .getfield 256, 3, 52), (11, .iastore, 1, 0), (12, .aload_n 0, 1, 0), (13, .invokevirtual 271, 3, 254), (16, .ifCond .ne (26), 3, 0), (19, .aload_n 0, 1, 0), (20, .aload_n 0, 1, 0), (21, .getfield 262, 3, 159), (24, .iconst (-1), 1, 0), (25, .if_icmp .ne (10), 3, 0), (28, .aload_n 0, 1, 0), (29, .getfield 256, 3, 52), (32, .goto 7, 3, 0), (35, .aload_n 0, 1, 0), (36, .getfield 262, 3, 159), (39, .putfield 262, 3, 159), (42, .aload_n 0, 1, 0), (43, .getfield 262, 3, 159), (46, .iconst (-1), 1, 0), (47, .if_icmp .ne (23), 3, 0), (50, .aload_n 0, 1, 0), (51, .invokevirtual 271, 3, 254), (54, .ifCond .eq (16), 3, 0), (57, .aload_n 0, 1, 0), (58, .dup, 1, 0), (59, .getfield 256, 3, 52), (62, .iconst 1, 1, 0), (63, .iadd, 1, 0), (64, .putfield 256, 3, 52), (67, .goto (-25), 3, 0), (70, .aload_n 0, 1, 0), (71, .getfield 50, 3, 46), (74, .iload_n 1, 1, 0), (75, .iconst 3, 1, 0), (76, .iadd, 1, 0), (77, .aload_n 0, 1, 0), (78, .getfield 256, 3, 52), (81, .iastore, 1, 0), (82, .return_, 1, 0)]
/-- M_isRight -/
def jb_I166 : List (Nat × Instr × Nat × Nat) := [(0, .aload_n 0, 1, 0), (1, .getfield 50, 3, 46), (4, .iload_n 1, 1, 0), (5, .iconst 1, 1, 0), (6, .iadd, 1, 0), (7, .iaload, 1, 0), (8, .istore_n 2, 1, 0), (9, .aload_n 0, 1, 0), (10, .getfield 50, 3, 46), (13, .iload_n 1, 1, 0), (14, .iconst 2, 1, 0), (15, .iadd, 1, 0), (16, .iaload, 1, 0), (17, .istore_n 3, 1, 0), (18, .aload_n 0, 1, 0), (19, .getfield 50, 3, 46), (22, .iload_n 1, 1, 0), (23, .iaload, 1, 0), (24, .tableswitch (87) (0) (6) #[(44), (87), (87), (49), (55), (60), (81)], 44, 0), (68, .iload_n 3, 1, 0), (69, .invokestatic 101, 3, 255), (72, .ireturn, 1, 0), (73, .aload_n 0, 1, 0), (74, .iload_n 2, 1, 0), (75, .invokevirtual 150, 3, 247), (78, .ireturn, 1, 0), (79, .iload_n 2, 1, 0), (80, .invokestatic 101, 3, 255), (83, .ireturn, 1, 0), (84, .aload_n 0, 1, 0), (85, .iload_n 2, 1, 0), (86, .invokevirtual 165, 3, 244), (89, .ifCond .eq (14), 3, 0), (92, .iload_n 3, 1, 0), (93, .invokestatic 101, 3, 255), (96, .ifCond .eq (7), 3, 0), (99, .iconst 1, 1, 0), (100, .goto 4, 3, 0), (103, .iconst 0, 1, 0), (104, .ireturn, 1, 0), (105, .aload_n 0, 1, 0), (106, .iload_n 2, 1, 0), (107, .invokevirtual 165, 3, 244), (110, .ireturn, 1, 0), (111, .iconst 1, 1, 0), (112, .ireturn, 1, 0)]
/-- Village_init -/
def jb_I167 : List (Nat × Instr × Nat × Nat) := [(0, .aload_n 0, 1, 0), (1, .invokespecial 3, 3, 256), (4, .aload_n 0, 1, 0), (5, .new 9, 3, 257), (8, .dup, 1, 0), (9, .invokespecial 11, 3, 258), (12, .putfield 12, 3, 169), (15, .aload_n 0, 1, 0), (16, .new 18, 3, 259), (19, .dup, 1, 0), (20, .invokespecial 20, 3, 260), (23, .putfield 21, 3, 171), (26, .aload_n 0, 1, 0), (27, .new 25, 3, 261), (30, .dup, 1, 0), (31, .invokespecial 27, 3, 262), (34, .putfield 28, 3, 173), (37, .aload_n 0, 1, 0), (38, .new 32, 3, 263), (41, .dup, 1, 0), (42, .invokespecial 34, 3, 264), (45, .putfield 35, 3, 175), (48, .aload_n 0, 1, 0), (49, .iconst 0, 1, 0), (50, .putfield 39, 3, 177), (53, .aload_n 0, 1, 0), (54, .iconst 0, 1, 0), (55, .putfield 43, 3, 178), (58, .aload_n 0, 1, 0), (59, .iconst 0, 1, 0), (60, .putfield 46, 3, 179), (63, .return_, 1, 0)]
/-- History_keep -/
def jb_I168 : List (Nat × Instr × Nat × Nat) := [(0, .aload_n 0, 1, 0), (1, .getfield 21, 3, 31), (4, .bipush 8, 2, 0), (6, .if_icmp .lt (22), 3, 0), (9, .aload_n 0, 1, 0), (10, .aload_n 0, 1, 0), (11, .getfield 17, 3, 10), (14, .iconst 1, 1, 0), (15, .iadd, 1, 0), (16, .bipush 8, 2, 0), (18, .irem, 1, 0), (19, .putfield 17, 3, 10), (22, .aload_n 0, 1, 0), (23, .bipush 7, 2, 0), (25, .putfield 21, 3, 31), (28, .aload_n 0, 1, 0), (29, .aload_n 0, 1, 0), (30, .getfield 21, 3, 31), (33, .invokevirtual 25, 3, 265), (36, .astore_n 2, 1, 0), (37, .aload_n 2, 1, 0), (38, .ifnonnull 4, 3, 0), (41, .return_, 1, 0), (42, .aload_n 2, 1, 0), (43, .aload_n 1, 1, 0), (44, .invokevirtual 29, 3, 266), (47, .aload_n 0, 1, 0), (48, .dup, 1, 0), (49, .getfield 21, 3, 31), (52, .iconst 1, 1, 0), (53, .iadd, 1, 0), (54, .putfield 21, 3, 31), (57, .return_, 1, 0)]
/-- Village_ringPeal -/
def jb_I169 : List (Nat × Instr × Nat × Nat) := [(0, .aload_n 1, 1, 0), (1, .invokevirtual 62, 3, 267), (4, .istore_n 3, 1, 0), (5, .iload_n 3, 1, 0), (6, .iconst 1, 1, 0), (7, .if_icmp .lt (9), 3, 0), (10, .iload_n 3, 1, 0), (11, .bipush 12, 2, 0), (13, .if_icmp .le (10), 3, 0), (16, .aload_n 2, 1, 0), (17, .iconst 4, 1, 0), (18, .iload_n 3, 1, 0), (19, .invokevirtual 68, 3, 268), (22, .ireturn, 1, 0), (23, .aload_n 0, 1, 0), (24, .getfield 12, 3, 169), (27, .aload_n 1, 1, 0), (28, .invokevirtual 74, 3, 269), (31, .ifCond .ne (11), 3, 0), (34, .aload_n 2, 1, 0), (35, .bipush 6, 2, 0), (37, .iload_n 3, 1, 0), (38, .invokevirtual 68, 3, 268), (41, .ireturn, 1, 0), (42, .aload_n 0, 1, 0), (43, .getfield 35, 3, 175), (46, .invokevirtual 78, 3, 270), (49, .aload_n 0, 1, 0), (50, .dup, 1, 0), (51, .getfield 39, 3, 177), (54, .iconst 1, 1, 0), (55, .iadd, 1, 0), (56, .putfield 39, 3, 177), (59, .iconst 0, 1, 0), (60, .istore 4, 2, 0), (62, .iconst 0, 1, 0), (63, .istore 5, 2, 0), (65, .iload 5, 2, 0), (67, .iload_n 3, 1, 0), (68, .if_icmp .ge (65), 3, 0), (71, .aload_n 0, 1, 0), (72, .getfield 12, 3, 169), (75, .aload_n 1, 1, 0), (76, .iload 5, 2, 0), (78, .invokevirtual 81, 3, 271), (81, .invokevirtual 85, 3, 272), (84, .istore 6, 2, 0), (86, .aload_n 0, 1, 0), (87, .getfield 35, 3, 175), (90, .iload 6, 2, 0), (92, .invokevirtual 88, 3, 273), (95, .iload 6, 2, 0), (97, .iconst 5, 1, 0), (98, .if_icmp .eq (9), 3, 0), (101, .iinc 4 1, 3, 0), (104, .goto 23, 3, 0), (107, .aload_n 1, 1, 0), (108, .iload 5, 2, 0), (110, .invokevirtual 81, 3, 271), (113, .iconst 5, 1, 0), (114, .if_icmp .eq (13), 3, 0), (117, .aload_n 0, 1, 0), (118, .dup, 1, 0), (119, .getfield 46, 3, 179), (122, .iconst 1, 1, 0), (123, .iadd, 1, 0), (124, .putfield 46, 3, 179), (127, .iinc 5 1, 3, 0), (130, .goto (-65), 3, 0), (133, .aload_n 0, 1, 0), (134, .dup, 1, 0), (135, .getfield 43, 3, 178), (138, .iload 4, 2, 0), (140, .iadd, 1, 0), (141, .putfield 43, 3, 178), (144, .iload 4, 2, 0), (146, .ireturn, 1, 0)]
/-- Book_wordsWith -/
def jb_I170 : List (Nat × Instr × Nat × Nat) := [(0, .iconst 0, 1, 0), (1, .istore_n 2, 1, 0), (2, .iconst 0, 1, 0), (3, .istore_n 3, 1, 0), (4, .iload_n 3, 1, 0), (5, .aload_n 0, 1, 0), (6, .getfield 14, 3, 58), (9, .invokevirtual 30, 3, 99), (12, .if_icmp .ge (21), 3, 0), (15, .aload_n 0, 1, 0), (16, .iload_n 3, 1, 0), (17, .iload_n 1, 1, 0), (18, .invokevirtual 71, 3, 274), (21, .ifCond .le (6), 3, 0), (24, .iinc 2 1, 3, 0), (27, .iinc 3 1, 3, 0), (30, .goto (-26), 3, 0), (33, .iload_n 2, 1, 0), (34, .ireturn, 1, 0)]
/-- D_wordOf -/
def jb_I171 : List (Nat × Instr × Nat × Nat) := [(0, .aload_n 0, 1, 0), (1, .getfield 10, 3, 191), (4, .getfield 124, 3, 213), (7, .getfield 179, 3, 214), (10, .iload_n 1, 1, 0), (11, .invokevirtual 160, 3, 127), (14, .ifCond .ne (5), 3, 0), (17, .iconst (-1), 1, 0), (18, .ireturn, 1, 0), (19, .iload_n 2, 1, 0), (20, .tableswitch (71) (0) (2) #[(28), (43), (58)], 28, 0), (48, .aload_n 0, 1, 0), (49, .getfield 10, 3, 191), (52, .getfield 124, 3, 213), (55, .getfield 179, 3, 214), (58, .iload_n 1, 1, 0), (59, .invokevirtual 164, 3, 124), (62, .ireturn, 1, 0), (63, .aload_n 0, 1, 0), (64, .getfield 10, 3, 191), (67, .getfield 124, 3, 213), (70, .getfield 182, 3, 225), (73, .iload_n 1, 1, 0), (74, .invokevirtual 164, 3, 124), (77, .ireturn, 1, 0), (78, .aload_n 0, 1, 0), (79, .getfield 10, 3, 191), (82, .getfield 124, 3, 213), (85, .iload_n 1, 1, 0), (86, .iconst 5, 1, 0), (87, .invokevirtual 185, 3, 275), (90, .ireturn, 1, 0), (91, .bipush (-2), 2, 0), (93, .ireturn, 1, 0)]
/-- Parser_isMeant -/
def jb_I172 : List (Nat × Instr × Nat × Nat) := [(0, .aload_n 3, 1, 0), (1, .invokevirtual 73, 3, 276), (4, .aload_n 0, 1, 0), (5, .iconst 0, 1, 0), (6, .putfield 20, 3, 70), (9, .aload_n 0, 1, 0), (10, .aload_n 1, 1, 0), (11, .aload_n 2, 1, 0), (12, .invokevirtual 76, 3, 277), (15, .iconst 1, 1, 0), (16, .if_icmp .eq (5), 3, 0), (19, .iconst 0, 1, 0), (20, .ireturn, 1, 0), (21, .iconst 0, 1, 0), (22, .istore 4, 2, 0), (24, .iconst 0, 1, 0), (25, .istore 5, 2, 0), (27, .iconst 0, 1, 0), (28, .istore 6, 2, 0), (30, .iload 6, 2, 0), (32, .aload_n 2, 1, 0), (33, .invokevirtual 24, 3, 116), (36, .if_icmp .ge (83), 3, 0), (39, .iload 4, 2, 0), (41, .aload_n 2, 1, 0), (42, .invokevirtual 24, 3, 116), (45, .if_icmp .ge (74), 3, 0), (48, .aload_n 2, 1, 0), (49, .iload 4, 2, 0), (51, .invokevirtual 43, 3, 117), (54, .iconst 5, 1, 0), (55, .if_icmp .ne (19), 3, 0), (58, .aload_n 0, 1, 0), (59, .dup, 1, 0), (60, .getfield 20, 3, 70), (63, .iconst 1, 1, 0), (64, .iadd, 1, 0), (65, .putfield 20, 3, 70), (68, .iinc 4 1, 3, 0), (71, .goto 42, 3, 0), (74, .aload_n 0, 1, 0), (75, .aload_n 1, 1, 0), (76, .aload_n 2, 1, 0), (77, .iload 4, 2, 0), (79, .iload 5, 2, 0), (81, .invokevirtual 80, 3, 278), (84, .istore 7, 2, 0), (86, .aload_n 3, 1, 0), (87, .iload 7, 2, 0), (89, .invokevirtual 84, 3, 279), (92, .iload 4, 2, 0), (94, .aload_n 1, 1, 0), (95, .getfield 59, 3, 120), (98, .iload 7, 2, 0), (100, .invokevirtual 43, 3, 117), (103, .iadd, 1, 0), (104, .istore 4, 2, 0), (106, .iload 5, 2, 0), (108, .invokestatic 62, 3, 122), (111, .istore 5, 2, 0), (113, .iinc 6 1, 3, 0), (116, .goto (-86), 3, 0), (119, .iconst 1, 1, 0), (120, .ireturn, 1, 0)]
/-- D_parses -/
def jb_I173 : List (Nat × Instr × Nat × Nat) := [(0, .aload_n 0, 1, 0), (1, .getfield 10, 3, 191), (4, .getfield 199, 3, 207), (7, .iload_n 1, 1, 0), (8, .invokevirtual 203, 3, 280), (11, .ifCond .ne (5), 3, 0), (14, .iconst (-1), 1, 0), (15, .ireturn, 1, 0), (16, .aload_n 0, 1, 0), (17, .getfield 10, 3, 191), (20, .getfield 199, 3, 207), (23, .iload_n 1, 1, 0), (24, .aload_n 0, 1, 0), (25, .getfield 65, 3, 123), (28, .invokevirtual 206, 3, 281), (31, .aload_n 0, 1, 0), (32, .getfield 39, 3, 282), (35, .aload_n 0, 1, 0), (36, .getfield 10, 3, 191), (39, .getfield 124, 3, 213), (42, .aload_n 0, 1, 0), (43, .getfield 65, 3, 123), (46, .invokevirtual 210, 3, 283), (49, .ireturn, 1, 0)]
/-- D_parsesAgain -/
def jb_I174 : List (Nat × Instr × Nat × Nat) := [(0, .aload_n 0, 1, 0), (1, .getfield 10, 3, 191), (4, .getfield 199, 3, 207), (7, .iload_n 1, 1, 0), (8, .invokevirtual 203, 3, 280), (11, .ifCond .ne (5), 3, 0), (14, .iconst (-1), 1, 0), (15, .ireturn, 1, 0), (16, .aload_n 0, 1, 0), (17, .getfield 10, 3, 191), (20, .getfield 199, 3, 207), (23, .iload_n 1, 1, 0), (24, .aload_n 0, 1, 0), (25, .getfield 65, 3, 123), (28, .invokevirtual 206, 3, 281), (31, .aload_n 0, 1, 0), (32, .getfield 39, 3, 282), (35, .aload_n 0, 1, 0), (36, .getfield 10, 3, 191), (39, .getfield 124, 3, 213), (42, .aload_n 0, 1, 0), (43, .getfield 65, 3, 123), (46, .invokevirtual 214, 3, 284), (49, .ireturn, 1, 0)]
/-- D_draftParses -/
def jb_I175 : List (Nat × Instr × Nat × Nat) := [(0, .aload_n 0, 1, 0), (1, .getfield 39, 3, 282), (4, .aload_n 0, 1, 0), (5, .getfield 10, 3, 191), (8, .getfield 124, 3, 213), (11, .aload_n 0, 1, 0), (12, .getfield 55, 3, 93), (15, .invokevirtual 210, 3, 283), (18, .ireturn, 1, 0)]
/-- D_echoes -/
def jb_I176 : List (Nat × Instr × Nat × Nat) := [(0, .aload_n 0, 1, 0), (1, .getfield 10, 3, 191), (4, .getfield 199, 3, 207), (7, .iload_n 1, 1, 0), (8, .invokevirtual 203, 3, 280), (11, .ifCond .ne (5), 3, 0), (14, .iconst (-1), 1, 0), (15, .ireturn, 1, 0), (16, .iload_n 2, 1, 0), (17, .iconst 1, 1, 0), (18, .if_icmp .lt (9), 3, 0), (21, .iload_n 2, 1, 0), (22, .bipush 12, 2, 0), (24, .if_icmp .le (6), 3, 0), (27, .bipush (-2), 2, 0), (29, .ireturn, 1, 0), (30, .aload_n 0, 1, 0), (31, .getfield 10, 3, 191), (34, .getfield 199, 3, 207), (37, .iload_n 1, 1, 0), (38, .aload_n 0, 1, 0), (39, .getfield 65, 3, 123), (42, .invokevirtual 206, 3, 281), (45, .aload_n 0, 1, 0), (46, .getfield 71, 3, 285), (49, .invokevirtual 233, 3, 209), (52, .iconst 0, 1, 0), (53, .istore_n 3, 1, 0), (54, .iload_n 3, 1, 0), (55, .aload_n 0, 1, 0), (56, .getfield 65, 3, 123), (59, .invokevirtual 120, 3, 96), (62, .if_icmp .ge (22), 3, 0), (65, .aload_n 0, 1, 0), (66, .getfield 71, 3, 285), (69, .aload_n 0, 1, 0), (70, .iload_n 3, 1, 0), (71, .iload_n 2, 1, 0), (72, .invokevirtual 236, 3, 286), (75, .invokevirtual 117, 3, 95), (78, .iinc 3 1, 3, 0), (81, .goto (-27), 3, 0), (84, .aload_n 0, 1, 0), (85, .getfield 39, 3, 282), (88, .aload_n 0, 1, 0), (89, .getfield 10, 3, 191), (92, .getfield 124, 3, 213), (95, .aload_n 0, 1, 0), (96, .getfield 71, 3, 285), (99, .invokevirtual 210, 3, 283), (102, .ireturn, 1, 0)]
/-- D_isCounted -/
def jb_I177 : List (Nat × Instr × Nat × Nat) := [(0, .iconst 0, 1, 0), (1, .istore_n 1, 1, 0), (2, .iload_n 1, 1, 0), (3, .aload_n 0, 1, 0), (4, .getfield 10, 3, 191), (7, .getfield 199, 3, 207), (10, .getfield 245, 3, 218), (13, .invokevirtual 120, 3, 96), (16, .if_icmp .ge (67), 3, 0), (19, .aload_n 0, 1, 0), (20, .getfield 10, 3, 191), (23, .getfield 199, 3, 207), (26, .iload_n 1, 1, 0), (27, .aload_n 0, 1, 0), (28, .getfield 65, 3, 123), (31, .invokevirtual 206, 3, 281), (34, .aload_n 0, 1, 0), (35, .getfield 39, 3, 282), (38, .aload_n 0, 1, 0), (39, .getfield 10, 3, 191), (42, .getfield 124, 3, 213), (45, .aload_n 0, 1, 0), (46, .getfield 65, 3, 123), (49, .invokevirtual 210, 3, 283), (52, .istore_n 2, 1, 0), (53, .iload_n 2, 1, 0), (54, .aload_n 0, 1, 0), (55, .getfield 39, 3, 282), (58, .aload_n 0, 1, 0), (59, .getfield 10, 3, 191), (62, .getfield 124, 3, 213), (65, .aload_n 0, 1, 0), (66, .getfield 65, 3, 123), (69, .invokevirtual 214, 3, 284), (72, .if_icmp .eq (5), 3, 0), (75, .iconst 0, 1, 0), (76, .ireturn, 1, 0), (77, .iinc 1 1, 3, 0), (80, .goto (-78), 3, 0), (83, .aload_n 0, 1, 0), (84, .getfield 10, 3, 191), (87, .getfield 124, 3, 213), (90, .invokevirtual 246, 3, 287), (93, .ifCond .eq (30), 3, 0), (96, .aload_n 0, 1, 0), (97, .getfield 10, 3, 191), (100, .getfield 92, 3, 195), (103, .getfield 170, 3, 288), (106, .invokevirtual 249, 3, 216), (109, .aload_n 0, 1, 0), (110, .getfield 10, 3, 191), (113, .getfield 252, 3, 220), (116, .if_icmp .ne (7), 3, 0), (119, .iconst 1, 1, 0), (120, .goto 4, 3, 0), (123, .iconst 0, 1, 0), (124, .ireturn, 1, 0)]
/-- Str_charAt -/
def jb_I178 : List (Nat × Instr × Nat × Nat) := [(0, .aload_n 0, 1, 0), (1, .invokevirtual 492, 3, 233), (4, .ifCond .eq (12), 3, 0), (7, .aload_n 0, 1, 0), (8, .getfield 9, 3, 130), (11, .iload_n 1, 1, 0), (12, .invokestatic 495, 3, 289), (15, .ireturn, 1, 0), (16, .aload_n 0, 1, 0), (17, .getfield 9, 3, 130), (20, .iload_n 1, 1, 0), (24, .ireturn, 1, 0)]
/-- Str_indexOf -/
def jb_I179 : List (Nat × Instr × Nat × Nat) := [(0, .aload_n 0, 1, 0), (1, .iload_n 1, 1, 0), (2, .iconst 0, 1, 0), (3, .invokevirtual 633, 3, 290), (6, .ireturn, 1, 0)]
/-- History_giveBack -/
def jb_I180 : List (Nat × Instr × Nat × Nat) := [(0, .aload_n 0, 1, 0), (1, .aload_n 0, 1, 0), (2, .getfield 21, 3, 31), (5, .iconst 1, 1, 0), (6, .isub, 1, 0), (7, .invokevirtual 25, 3, 265), (10, .astore_n 2, 1, 0), (11, .aload_n 2, 1, 0), (12, .ifnonnull 4, 3, 0), (15, .return_, 1, 0), (16, .aload_n 1, 1, 0), (17, .aload_n 2, 1, 0), (18, .invokevirtual 29, 3, 266), (21, .aload_n 0, 1, 0), (22, .dup, 1, 0), (23, .getfield 21, 3, 31), (26, .iconst 1, 1, 0), (27, .isub, 1, 0), (28, .putfield 21, 3, 31), (31, .return_, 1, 0)]
/-- D_save -/
def jb_I181 : List (Nat × Instr × Nat × Nat) := [(0, .aload_n 0, 1, 0), (1, .getfield 19, 3, 291), (4, .aload_n 0, 1, 0), (5, .getfield 10, 3, 191), (8, .invokevirtual 88, 3, 292), (11, .aload_n 0, 1, 0), (12, .iconst 1, 1, 0), (13, .putfield 80, 3, 293), (16, .aload_n 0, 1, 0), (17, .getfield 10, 3, 191), (20, .getfield 124, 3, 213), (23, .getfield 179, 3, 214), (26, .invokevirtual 120, 3, 96), (29, .ireturn, 1, 0)]
/-- D_restore -/
def jb_I182 : List (Nat × Instr × Nat × Nat) := [(0, .aload_n 0, 1, 0), (1, .getfield 80, 3, 293), (4, .ifCond .ne (6), 3, 0), (7, .bipush (-3), 2, 0), (9, .ireturn, 1, 0), (10, .aload_n 0, 1, 0), (11, .getfield 10, 3, 191), (14, .aload_n 0, 1, 0), (15, .getfield 19, 3, 291), (18, .invokevirtual 88, 3, 292), (21, .aload_n 0, 1, 0), (22, .getfield 25, 3, 222), (25, .invokevirtual 296, 3, 294), (28, .aload_n 0, 1, 0), (29, .getfield 10, 3, 191), (32, .getfield 124, 3, 213), (35, .getfield 179, 3, 214), (38, .invokevirtual 120, 3, 96), (41, .ireturn, 1, 0)]
/-- M_hang -/
def jb_I183 : List (Nat × Instr × Nat × Nat) := [(0, .iload_n 1, 1, 0), (1, .invokestatic 97, 3, 295), (4, .ifCond .eq (10), 3, 0), (7, .iload_n 2, 1, 0), (8, .invokestatic 101, 3, 255), (11, .ifCond .ne (17), 3, 0), (14, .iload_n 1, 1, 0), (15, .invokestatic 97, 3, 295), (18, .ifCond .eq (8), 3, 0), (21, .bipush (-2), 2, 0), (23, .goto 4, 3, 0), (26, .iconst (-1), 1, 0), (27, .ireturn, 1, 0), (28, .aload_n 0, 1, 0), (29, .invokevirtual 104, 3, 296), (32, .aload_n 0, 1, 0), (33, .aload_n 0, 1, 0), (34, .iload_n 1, 1, 0), (35, .invokestatic 107, 3, 150), (38, .iconst 0, 1, 0), (39, .iadd, 1, 0), (40, .iload_n 2, 1, 0), (41, .invokevirtual 111, 3, 297), (44, .invokevirtual 115, 3, 298), (47, .ireturn, 1, 0)]
/-- M_splice -/
def jb_I184 : List (Nat × Instr × Nat × Nat) := [(0, .iload_n 1, 1, 0), (1, .invokestatic 97, 3, 295), (4, .ifCond .ne (5), 3, 0), (7, .iconst (-1), 1, 0), (8, .ireturn, 1, 0), (9, .aload_n 0, 1, 0), (10, .invokevirtual 104, 3, 296), (13, .aload_n 0, 1, 0), (14, .aload_n 0, 1, 0), (15, .iload_n 1, 1, 0), (16, .invokevirtual 118, 3, 299), (19, .invokevirtual 115, 3, 298), (22, .ireturn, 1, 0)]
/-- M_adds -/
def jb_I185 : List (Nat × Instr × Nat × Nat) := [(0, .aload_n 0, 1, 0), (1, .aload_n 0, 1, 0), (2, .getfield 124, 3, 50), (5, .iconst 1, 1, 0), (6, .iconst 4, 1, 0), (7, .invokestatic 85, 3, 141), (10, .ifCond .ne (7), 3, 0), (13, .iconst 1, 1, 0), (14, .goto 4, 3, 0), (17, .iconst 0, 1, 0), (18, .iconst 4, 1, 0), (19, .aload_n 0, 1, 0), (20, .getfield 124, 3, 50), (23, .invokevirtual 93, 3, 149), (26, .aload_n 0, 1, 0), (27, .getfield 53, 3, 47), (30, .ifCond .ne (77), 3, 0), (33, .aload_n 0, 1, 0), (34, .aload_n 0, 1, 0), (35, .getfield 35, 3, 41), (38, .iconst 0, 1, 0), (39, .iaload, 1, 0), (40, .iconst 5, 1, 0), (41, .if_icmp .ne (7), 3, 0), (44, .iconst 1, 1, 0), (45, .goto 4, 3, 0), (48, .iconst 0, 1, 0), (49, .iconst 5, 1, 0), (50, .iconst 0, 1, 0), (51, .invokevirtual 93, 3, 149), (54, .aload_n 0, 1, 0), (55, .aload_n 0, 1, 0), (56, .getfield 35, 3, 41), (59, .aload_n 0, 1, 0), (60, .getfield 124, 3, 50), (63, .iconst 1, 1, 0), (64, .isub, 1, 0), (65, .iaload, 1, 0), (66, .iconst 5, 1, 0), (67, .if_icmp .ne (7), 3, 0), (70, .iconst 1, 1, 0), (71, .goto 4, 3, 0), (74, .iconst 0, 1, 0), (75, .iconst 5, 1, 0), (76, .aload_n 0, 1, 0), (77, .getfield 124, 3, 50), (80, .iconst 1, 1, 0), (81, .isub, 1, 0), (82, .invokevirtual 93, 3, 149), (85, .aload_n 0, 1, 0), (86, .aload_n 0, 1, 0), (87, .invokevirtual 137, 3, 300), (90, .iconst (-1), 1, 0), (91, .if_icmp .eq (7), 3, 0), (94, .iconst 1, 1, 0), (95, .goto 4, 3, 0), (98, .iconst 0, 1, 0), (99, .iconst 2, 1, 0), (100, .aload_n 0, 1, 0), (101, .invokevirtual 137, 3, 300), (104, .invokevirtual 93, 3, 149), (107, .aload_n 0, 1, 0), (108, .aload_n 0, 1, 0), (109, .getfield 9, 3, 33), (112, .iconst 0, 1, 0), (113, .iaload, 1, 0), (114, .bipush 8, 2, 0), (116, .if_icmp .ne (7), 3, 0), (119, .iconst 1, 1, 0), (120, .goto 4, 3, 0), (123, .iconst 0, 1, 0), (124, .iconst 1, 1, 0), (125, .bipush 8, 2, 0), (127, .invokevirtual 93, 3, 149), (130, .aload_n 0, 1, 0), (131, .getfield 53, 3, 47), (134, .ifCond .eq (5), 3, 0), (137, .iconst 0, 1, 0), (138, .ireturn, 1, 0), (139, .aload_n 0, 1, 0), (140, .getfield 9, 3, 33), (143, .iconst 0, 1, 0), (144, .iaload, 1, 0), (145, .invokestatic 130, 3, 151), (148, .istore_n 2, 1, 0), (149, .aload_n 0, 1, 0), (150, .getfield 9, 3, 33), (153, .iload_n 2, 1, 0), (154, .iconst 0, 1, 0), (155, .iadd, 1, 0), (156, .iload_n 1, 1, 0), (157, .iastore, 1, 0), (158, .aload_n 0, 1, 0), (159, .getfield 9, 3, 33), (162, .iload_n 2, 1, 0), (163, .iconst 1, 1, 0), (164, .iadd, 1, 0), (165, .aload_n 0, 1, 0), (166, .getfield 124, 3, 50), (169, .iastore, 1, 0), (170, .iconst 0, 1, 0), (171, .istore_n 3, 1, 0), (172, .iload_n 3, 1, 0), (173, .iconst 4, 1, 0), (174, .if_icmp .ge (37), 3, 0), (177, .aload_n 0, 1, 0), (178, .getfield 9, 3, 33), (181, .iload_n 2, 1, 0), (182, .iconst 2, 1, 0), (183, .iadd, 1, 0), (184, .iload_n 3, 1, 0), (185, .iadd, 1, 0), (186, .iload_n 3, 1, 0), (187, .aload_n 0, 1, 0), (188, .getfield 124, 3, 50), (191, .if_icmp .ge (12), 3, 0), (194, .aload_n 0, 1, 0), (195, .getfield 35, 3, 41), (198, .iload_n 3, 1, 0), (199, .iaload, 1, 0), (200, .goto 4, 3, 0), (203, .iconst 0, 1, 0), (204, .iastore, 1, 0), (205, .iinc 3 1, 3, 0), (208, .goto (-36), 3, 0), (211, .aload_n 0, 1, 0), (212, .getfield 9, 3, 33), (215, .iconst 0, 1, 0), (216, .dup2, 1, 0), (217, .iaload, 1, 0), (218, .iconst 1, 1, 0), (219, .iadd, 1, 0), (220, .iastore, 1, 0), (221, .aload_n 0, 1, 0), (222, .getfield 9, 3, 33), (225, .iconst 0, 1, 0), (226, .iaload, 1, 0), (227, .iconst 1, 1, 0), (228, .isub, 1, 0), (229, .ireturn, 1, 0)]
/-- M_strike -/
def jb_I186 : List (Nat × Instr × Nat × Nat) := [(0, .aload_n 0, 1, 0), (1, .iload_n 1, 1, 0), (2, .invokevirtual 150, 3, 247), (5, .ifCond .ne (5), 3, 0), (8, .iconst (-1), 1, 0), (9, .ireturn, 1, 0), (10, .aload_n 0, 1, 0), (11, .invokevirtual 104, 3, 296), (14, .aload_n 0, 1, 0), (15, .aload_n 0, 1, 0), (16, .iload_n 1, 1, 0), (17, .invokevirtual 153, 3, 301), (20, .invokevirtual 115, 3, 298), (23, .ireturn, 1, 0)]
/-- M_swim -/
def jb_I187 : List (Nat × Instr × Nat × Nat) := [(0, .iload_n 1, 1, 0), (1, .invokestatic 101, 3, 255), (4, .ifCond .eq (10), 3, 0), (7, .iload_n 2, 1, 0), (8, .invokestatic 159, 3, 302), (11, .ifCond .ne (6), 3, 0), (14, .bipush (-2), 2, 0), (16, .ireturn, 1, 0), (17, .aload_n 0, 1, 0), (18, .invokevirtual 104, 3, 296), (21, .aload_n 0, 1, 0), (22, .aload_n 0, 1, 0), (23, .iload_n 1, 1, 0), (24, .iload_n 2, 1, 0), (25, .invokevirtual 162, 3, 303), (28, .invokevirtual 115, 3, 298), (31, .ireturn, 1, 0)]
/-- M_dive -/
def jb_I188 : List (Nat × Instr × Nat × Nat) := [(0, .aload_n 0, 1, 0), (1, .iload_n 1, 1, 0), (2, .invokevirtual 165, 3, 244), (5, .ifCond .eq (10), 3, 0), (8, .iload_n 2, 1, 0), (9, .invokestatic 101, 3, 255), (12, .ifCond .ne (18), 3, 0), (15, .aload_n 0, 1, 0), (16, .iload_n 1, 1, 0), (17, .invokevirtual 165, 3, 244), (20, .ifCond .eq (8), 3, 0), (23, .bipush (-2), 2, 0), (25, .goto 4, 3, 0), (28, .iconst (-1), 1, 0), (29, .ireturn, 1, 0), (30, .aload_n 0, 1, 0), (31, .invokevirtual 104, 3, 296), (34, .aload_n 0, 1, 0), (35, .aload_n 0, 1, 0), (36, .iload_n 1, 1, 0), (37, .invokestatic 156, 3, 152), (40, .iconst 0, 1, 0), (41, .iadd, 1, 0), (42, .iload_n 2, 1, 0), (43, .invokevirtual 111, 3, 297), (46, .invokevirtual 115, 3, 298), (49, .ireturn, 1, 0)]
/-- M_go -/
def jb_I189 : List (Nat × Instr × Nat × Nat) := [(0, .aload_n 0, 1, 0), (1, .iload_n 1, 1, 0), (2, .invokevirtual 165, 3, 244), (5, .ifCond .ne (5), 3, 0), (8, .iconst (-1), 1, 0), (9, .ireturn, 1, 0), (10, .aload_n 0, 1, 0), (11, .invokevirtual 104, 3, 296), (14, .aload_n 0, 1, 0), (15, .aload_n 0, 1, 0), (16, .iload_n 1, 1, 0), (17, .invokevirtual 168, 3, 304), (20, .invokevirtual 115, 3, 298), (23, .ireturn, 1, 0)]
/-- M_ring -/
def jb_I190 : List (Nat × Instr × Nat × Nat) := [(0, .aload_n 0, 1, 0), (1, .invokevirtual 104, 3, 296), (4, .aload_n 0, 1, 0), (5, .invokevirtual 144, 3, 305), (8, .aload_n 0, 1, 0), (9, .aload_n 0, 1, 0), (10, .invokevirtual 179, 3, 306), (13, .invokevirtual 115, 3, 298), (16, .istore_n 1, 1, 0), (17, .aload_n 0, 1, 0), (18, .iload_n 1, 1, 0), (19, .bipush (-5), 2, 0), (21, .if_icmp .ne (10), 3, 0), (24, .aload_n 0, 1, 0), (25, .getfield 121, 3, 49), (28, .goto 4, 3, 0), (31, .iconst 0, 1, 0), (32, .putfield 121, 3, 49), (35, .iload_n 1, 1, 0), (36, .ireturn, 1, 0)]
/-- M_parses -/
def jb_I191 : List (Nat × Instr × Nat × Nat) := [(0, .aload_n 0, 1, 0), (1, .iload_n 1, 1, 0), (2, .invokevirtual 194, 3, 243), (5, .ifCond .ne (5), 3, 0), (8, .iconst (-1), 1, 0), (9, .ireturn, 1, 0), (10, .aload_n 0, 1, 0), (11, .iload_n 1, 1, 0), (12, .invokevirtual 197, 3, 307), (15, .aload_n 0, 1, 0), (16, .invokevirtual 191, 3, 308), (19, .ireturn, 1, 0)]
/-- M_parsesAgain -/
def jb_I192 : List (Nat × Instr × Nat × Nat) := [(0, .aload_n 0, 1, 0), (1, .iload_n 1, 1, 0), (2, .invokevirtual 194, 3, 243), (5, .ifCond .ne (5), 3, 0), (8, .iconst (-1), 1, 0), (9, .ireturn, 1, 0), (10, .aload_n 0, 1, 0), (11, .iload_n 1, 1, 0), (12, .invokevirtual 197, 3, 307), (15, .aload_n 0, 1, 0), (16, .invokevirtual 191, 3, 308), (19, .ireturn, 1, 0)]
/-- M_draftParses -/
def jb_I193 : List (Nat × Instr × Nat × Nat) := [(0, .aload_n 0, 1, 0), (1, .invokevirtual 144, 3, 305), (4, .aload_n 0, 1, 0), (5, .getfield 124, 3, 50), (8, .ifCond .ne (7), 3, 0), (11, .iconst 0, 1, 0), (12, .goto 7, 3, 0), (15, .aload_n 0, 1, 0), (16, .invokevirtual 191, 3, 308), (19, .ireturn, 1, 0)]
/-- M_means -/
def jb_I194 : List (Nat × Instr × Nat × Nat) := [(0, .aload_n 0, 1, 0), (1, .iconst 0, 1, 0), (2, .putfield 188, 3, 309), (5, .aload_n 0, 1, 0), (6, .invokevirtual 191, 3, 308), (9, .iconst 1, 1, 0), (10, .if_icmp .eq (5), 3, 0), (13, .iconst 0, 1, 0), (14, .ireturn, 1, 0), (15, .iconst 0, 1, 0), (16, .istore_n 1, 1, 0), (17, .iconst 0, 1, 0), (18, .istore_n 2, 1, 0), (19, .iload_n 1, 1, 0), (20, .aload_n 0, 1, 0), (21, .getfield 124, 3, 50), (24, .if_icmp .ge (156), 3, 0), (27, .aload_n 0, 1, 0), (28, .getfield 38, 3, 42), (31, .iconst 3, 1, 0), (32, .iload_n 1, 1, 0), (33, .imul, 1, 0), (34, .iload_n 2, 1, 0), (35, .iadd, 1, 0), (36, .iaload, 1, 0), (37, .ifCond .ne (9), 3, 0), (40, .iinc 1 1, 3, 0), (43, .goto (-16), 3, 0), (46, .iconst (-1), 1, 0), (47, .istore_n 3, 1, 0), (48, .iconst 0, 1, 0), (49, .istore 4, 2, 0), (51, .iload 4, 2, 0), (53, .aload_n 0, 1, 0), (54, .getfield 9, 3, 33), (57, .iconst 0, 1, 0), (58, .iaload, 1, 0), (59, .if_icmp .ge (79), 3, 0), (62, .aload_n 0, 1, 0), (63, .getfield 9, 3, 33), (66, .iload 4, 2, 0), (68, .invokestatic 130, 3, 151), (71, .iconst 0, 1, 0), (72, .iadd, 1, 0), (73, .iaload, 1, 0), (74, .iload_n 2, 1, 0), (75, .if_icmp .ne (17), 3, 0), (78, .aload_n 0, 1, 0), (79, .iload 4, 2, 0), (81, .iload_n 1, 1, 0), (82, .invokevirtual 133, 3, 240), (85, .ifCond .eq (7), 3, 0), (88, .iconst 1, 1, 0), (89, .goto 4, 3, 0), (92, .iconst 0, 1, 0), (93, .istore 5, 2, 0), (95, .iload 5, 2, 0), (97, .ifCond .eq (33), 3, 0), (100, .aload_n 0, 1, 0), (101, .iload_n 1, 1, 0), (102, .aload_n 0, 1, 0), (103, .getfield 9, 3, 33), (106, .iload 4, 2, 0), (108, .invokestatic 130, 3, 151), (111, .iconst 1, 1, 0), (112, .iadd, 1, 0), (113, .iaload, 1, 0), (114, .iadd, 1, 0), (115, .iload_n 2, 1, 0), (116, .invokestatic 182, 3, 241), (119, .invokevirtual 185, 3, 242), (122, .ifCond .le (8), 3, 0), (125, .iload 4, 2, 0), (127, .goto 4, 3, 0), (130, .iload_n 3, 1, 0), (131, .istore_n 3, 1, 0), (132, .iinc 4 1, 3, 0), (135, .goto (-84), 3, 0), (138, .aload_n 0, 1, 0), (139, .getfield 44, 3, 44), (142, .aload_n 0, 1, 0), (143, .getfield 188, 3, 309), (146, .iload_n 3, 1, 0), (147, .iastore, 1, 0), (148, .aload_n 0, 1, 0), (149, .dup, 1, 0), (150, .getfield 188, 3, 309), (153, .iconst 1, 1, 0), (154, .iadd, 1, 0), (155, .putfield 188, 3, 309), (158, .iload_n 1, 1, 0), (159, .aload_n 0, 1, 0), (160, .getfield 9, 3, 33), (163, .iload_n 3, 1, 0), (164, .invokestatic 130, 3, 151), (167, .iconst 1, 1, 0), (168, .iadd, 1, 0), (169, .iaload, 1, 0), (170, .iadd, 1, 0), (171, .istore_n 1, 1, 0), (172, .iload_n 2, 1, 0), (173, .invokestatic 182, 3, 241), (176, .istore_n 2, 1, 0), (177, .goto (-158), 3, 0), (180, .iconst 1, 1, 0), (181, .ireturn, 1, 0)]
/-- M_echoes -/
def jb_I195 : List (Nat × Instr × Nat × Nat) := [(0, .aload_n 0, 1, 0), (1, .iload_n 1, 1, 0), (2, .invokevirtual 194, 3, 243), (5, .ifCond .eq (13), 3, 0), (8, .iload_n 2, 1, 0), (9, .iconst 1, 1, 0), (10, .bipush 12, 2, 0), (12, .invokestatic 85, 3, 141), (15, .ifCond .ne (18), 3, 0), (18, .aload_n 0, 1, 0), (19, .iload_n 1, 1, 0), (20, .invokevirtual 194, 3, 243), (23, .ifCond .eq (8), 3, 0), (26, .bipush (-2), 2, 0), (28, .goto 4, 3, 0), (31, .iconst (-1), 1, 0), (32, .ireturn, 1, 0), (33, .aload_n 0, 1, 0), (34, .iload_n 1, 1, 0), (35, .invokevirtual 197, 3, 307), (38, .aload_n 0, 1, 0), (39, .getfield 124, 3, 50), (42, .iconst 1, 1, 0), (43, .isub, 1, 0), (44, .istore_n 3, 1, 0), (45, .iload_n 3, 1, 0), (46, .iload_n 2, 1, 0), (47, .if_icmp .lt (42), 3, 0), (50, .aload_n 0, 1, 0), (51, .getfield 35, 3, 41), (54, .iload_n 3, 1, 0), (55, .aload_n 0, 1, 0), (56, .getfield 35, 3, 41), (59, .iload_n 3, 1, 0), (60, .iaload, 1, 0), (61, .iconst 5, 1, 0), (62, .if_icmp .ne (14), 3, 0), (65, .aload_n 0, 1, 0), (66, .getfield 35, 3, 41), (69, .iload_n 3, 1, 0), (70, .iload_n 2, 1, 0), (71, .isub, 1, 0), (72, .iaload, 1, 0), (73, .goto 9, 3, 0), (76, .aload_n 0, 1, 0), (77, .getfield 35, 3, 41), (80, .iload_n 3, 1, 0), (81, .iaload, 1, 0), (82, .iastore, 1, 0), (83, .iinc 3 (-1), 3, 0), (86, .goto (-41), 3, 0), (89, .aload_n 0, 1, 0), (90, .invokevirtual 191, 3, 308), (93, .ireturn, 1, 0)]
/-- M_bellOf -/
def jb_I196 : List (Nat × Instr × Nat × Nat) := [(0, .iload_n 1, 1, 0), (1, .invokestatic 97, 3, 295), (4, .ifCond .ne (5), 3, 0), (7, .iconst (-1), 1, 0), (8, .ireturn, 1, 0), (9, .iload_n 2, 1, 0), (10, .tableswitch (58) (0) (4) #[(34), (34), (34), (46), (52)], 34, 0), (44, .aload_n 0, 1, 0), (45, .getfield 9, 3, 33), (48, .iload_n 1, 1, 0), (49, .invokestatic 107, 3, 150), (52, .iload_n 2, 1, 0), (53, .iadd, 1, 0), (54, .iaload, 1, 0), (55, .ireturn, 1, 0), (56, .aload_n 0, 1, 0), (57, .iload_n 1, 1, 0), (58, .invokevirtual 221, 3, 310), (61, .ireturn, 1, 0), (62, .aload_n 0, 1, 0), (63, .iload_n 1, 1, 0), (64, .invokevirtual 224, 3, 311), (67, .ireturn, 1, 0), (68, .bipush (-2), 2, 0), (70, .ireturn, 1, 0)]
/-- M_meantShare -/
def jb_I197 : List (Nat × Instr × Nat × Nat) := [(0, .iconst 0, 1, 0), (1, .istore_n 1, 1, 0), (2, .iconst 0, 1, 0), (3, .istore_n 2, 1, 0), (4, .iload_n 2, 1, 0), (5, .aload_n 0, 1, 0), (6, .getfield 9, 3, 33), (9, .iconst 2, 1, 0), (10, .iaload, 1, 0), (11, .if_icmp .ge (30), 3, 0), (14, .aload_n 0, 1, 0), (15, .iload_n 2, 1, 0), (16, .invokevirtual 197, 3, 307), (19, .iload_n 1, 1, 0), (20, .aload_n 0, 1, 0), (21, .invokevirtual 191, 3, 308), (24, .iconst 1, 1, 0), (25, .if_icmp .ne (7), 3, 0), (28, .iconst 1, 1, 0), (29, .goto 4, 3, 0), (32, .iconst 0, 1, 0), (33, .iadd, 1, 0), (34, .istore_n 1, 1, 0), (35, .iinc 2 1, 3, 0), (38, .goto (-34), 3, 0), (41, .aload_n 0, 1, 0), (42, .getfield 9, 3, 33), (45, .iconst 2, 1, 0), (46, .iaload, 1, 0), (47, .ifCond .ne (7), 3, 0), (50, .fconst 0, 1, 0), (51, .goto 13, 3, 0), (54, .iload_n 1, 1, 0), (55, .i2f, 1, 0), (56, .aload_n 0, 1, 0), (57, .getfield 9, 3, 33), (60, .iconst 2, 1, 0), (61, .iaload, 1, 0), (62, .i2f, 1, 0), (63, .fdiv, 1, 0), (64, .freturn, 1, 0)]
/-- M_readsRest -/
def jb_I198 : List (Nat × Instr × Nat × Nat) := [(0, .iload_n 2, 1, 0), (1, .tableswitch (164) (0) (7) #[(47), (82), (101), (164), (125), (125), (164), (156)], 47, 0), (48, .aload_n 0, 1, 0), (49, .getfield 50, 3, 46), (52, .iload_n 1, 1, 0), (53, .iconst 1, 1, 0), (54, .iadd, 1, 0), (55, .aload_n 0, 1, 0), (56, .bipush 97, 2, 0), (58, .bipush 101, 2, 0), (60, .invokevirtual 268, 3, 253), (63, .iastore, 1, 0), (64, .aload_n 0, 1, 0), (65, .invokevirtual 288, 3, 312), (68, .aload_n 0, 1, 0), (69, .getfield 50, 3, 46), (72, .iload_n 1, 1, 0), (73, .iconst 2, 1, 0), (74, .iadd, 1, 0), (75, .aload_n 0, 1, 0), (76, .invokevirtual 291, 3, 313), (79, .iastore, 1, 0), (80, .goto 97, 3, 0), (83, .aload_n 0, 1, 0), (84, .getfield 50, 3, 46), (87, .iload_n 1, 1, 0), (88, .iconst 1, 1, 0), (89, .iadd, 1, 0), (90, .aload_n 0, 1, 0), (91, .bipush 97, 2, 0), (93, .bipush 101, 2, 0), (95, .invokevirtual 268, 3, 253), (98, .iastore, 1, 0), (99, .goto 78, 3, 0), (102, .aload_n 0, 1, 0), (103, .getfield 50, 3, 46), (106, .iload_n 1, 1, 0), (107, .iconst 1, 1, 0), (108, .iadd, 1, 0), (109, .aload_n 0, 1, 0), (110, .invokevirtual 294, 3, 314), (113, .iastore, 1, 0), (114, .aload_n 0, 1, 0), (115, .invokevirtual 288, 3, 312), (118, .aload_n 0, 1, 0), (119, .iload_n 1, 1, 0), (120, .invokevirtual 297, 3, 315), (123, .goto 54, 3, 0), (126, .aload_n 0, 1, 0), (127, .getfield 50, 3, 46), (130, .iload_n 1, 1, 0), (131, .iconst 1, 1, 0), (132, .iadd, 1, 0), (133, .aload_n 0, 1, 0), (134, .invokevirtual 291, 3, 313), (137, .iastore, 1, 0), (138, .aload_n 0, 1, 0), (139, .invokevirtual 288, 3, 312), (142, .aload_n 0, 1, 0), (143, .getfield 50, 3, 46), (146, .iload_n 1, 1, 0), (147, .iconst 2, 1, 0), (148, .iadd, 1, 0), (149, .aload_n 0, 1, 0), (150, .invokevirtual 291, 3, 313), (153, .iastore, 1, 0), (154, .goto 23, 3, 0), (157, .aload_n 0, 1, 0), (158, .iload_n 1, 1, 0), (159, .invokevirtual 297, 3, 315), (162, .goto 15, 3, 0), (165, .aload_n 0, 1, 0), (166, .getfield 50, 3, 46), (169, .iload_n 1, 1, 0), (170, .iconst 1, 1, 0), (171, .iadd, 1, 0), (172, .aload_n 0, 1, 0), (173, .invokevirtual 291, 3, 313), (176, .iastore, 1, 0), (177, .return_, 1, 0)]
/-- History_init -/
def jb_I199 : List (Nat × Instr × Nat × Nat) := [(0, .aload_n 0, 1, 0), (1, .invokespecial 3, 3, 316), (4, .aload_n 0, 1, 0), (5, .bipush 8, 2, 0), (7, .anewarray 9, 3, 317), (10, .putfield 11, 3, 11), (13, .aload_n 0, 1, 0), (14, .iconst 0, 1, 0), (15, .putfield 17, 3, 10), (18, .aload_n 0, 1, 0), (19, .iconst 0, 1, 0), (20, .putfield 21, 3, 31), (23, .iconst 0, 1, 0), (24, .istore_n 1, 1, 0), (25, .iload_n 1, 1, 0), (26, .aload_n 0, 1, 0), (27, .getfield 11, 3, 11), (30, .arraylength, 1, 0), (31, .if_icmp .ge (22), 3, 0), (34, .aload_n 0, 1, 0), (35, .getfield 11, 3, 11), (38, .iload_n 1, 1, 0), (39, .new 9, 3, 318), (42, .dup, 1, 0), (43, .invokespecial 24, 3, 319), (46, .aastore, 1, 0), (47, .iinc 1 1, 3, 0), (50, .goto (-25), 3, 0), (53, .return_, 1, 0)]
/-- D_settled -/
def jb_I200 : List (Nat × Instr × Nat × Nat) := [(0, .iload_n 1, 1, 0), (1, .ifCond .lt (14), 3, 0), (4, .aload_n 0, 1, 0), (5, .getfield 25, 3, 222), (8, .aload_n 0, 1, 0), (9, .getfield 16, 3, 320), (12, .invokevirtual 297, 3, 321), (15, .iload_n 1, 1, 0), (16, .ireturn, 1, 0)]
/-- D_bellOf -/
def jb_I201 : List (Nat × Instr × Nat × Nat) := [(0, .aload_n 0, 1, 0), (1, .getfield 10, 3, 191), (4, .getfield 92, 3, 195), (7, .getfield 157, 3, 211), (10, .iload_n 1, 1, 0), (11, .invokevirtual 160, 3, 127), (14, .ifCond .ne (5), 3, 0), (17, .iconst (-1), 1, 0), (18, .ireturn, 1, 0), (19, .iload_n 2, 1, 0), (20, .tableswitch (99) (0) (4) #[(36), (51), (66), (81), (87)], 36, 0), (56, .aload_n 0, 1, 0), (57, .getfield 10, 3, 191), (60, .getfield 92, 3, 195), (63, .getfield 157, 3, 211), (66, .iload_n 1, 1, 0), (67, .invokevirtual 164, 3, 124), (70, .ireturn, 1, 0), (71, .aload_n 0, 1, 0), (72, .getfield 10, 3, 191), (75, .getfield 92, 3, 195), (78, .getfield 167, 3, 210), (81, .iload_n 1, 1, 0), (82, .invokevirtual 164, 3, 124), (85, .ireturn, 1, 0), (86, .aload_n 0, 1, 0), (87, .getfield 10, 3, 191), (90, .getfield 92, 3, 195), (93, .getfield 170, 3, 288), (96, .iload_n 1, 1, 0), (97, .invokevirtual 164, 3, 124), (100, .ireturn, 1, 0), (101, .aload_n 0, 1, 0), (102, .iload_n 1, 1, 0), (103, .invokevirtual 173, 3, 322), (106, .ireturn, 1, 0), (107, .aload_n 0, 1, 0), (108, .getfield 10, 3, 191), (111, .getfield 124, 3, 213), (114, .iload_n 1, 1, 0), (115, .invokevirtual 176, 3, 323), (118, .ireturn, 1, 0), (119, .bipush (-2), 2, 0), (121, .ireturn, 1, 0)]
/-- D_understanding -/
def jb_I202 : List (Nat × Instr × Nat × Nat) := [(0, .aload_n 0, 1, 0), (1, .getfield 10, 3, 191), (4, .getfield 199, 3, 207), (7, .iload_n 3, 1, 0), (8, .aload_n 0, 1, 0), (9, .getfield 65, 3, 123), (12, .invokevirtual 206, 3, 281), (15, .aload_n 0, 1, 0), (16, .getfield 71, 3, 285), (19, .invokevirtual 233, 3, 209), (22, .iconst 0, 1, 0), (23, .istore 4, 2, 0), (25, .iload 4, 2, 0), (27, .aload_n 0, 1, 0), (28, .getfield 65, 3, 123), (31, .invokevirtual 120, 3, 96), (34, .if_icmp .ge (37), 3, 0), (37, .aload_n 0, 1, 0), (38, .getfield 71, 3, 285), (41, .aload_n 0, 1, 0), (42, .getfield 10, 3, 191), (45, .getfield 92, 3, 195), (48, .aload_n 0, 1, 0), (49, .getfield 65, 3, 123), (52, .iload 4, 2, 0), (54, .invokevirtual 164, 3, 124), (57, .iload_n 1, 1, 0), (58, .iload_n 2, 1, 0), (59, .invokevirtual 226, 3, 196), (62, .invokevirtual 117, 3, 95), (65, .iinc 4 1, 3, 0), (68, .goto (-43), 3, 0), (71, .aload_n 0, 1, 0), (72, .getfield 39, 3, 282), (75, .aload_n 0, 1, 0), (76, .getfield 10, 3, 191), (79, .getfield 124, 3, 213), (82, .aload_n 0, 1, 0), (83, .getfield 71, 3, 285), (86, .aload_n 0, 1, 0), (87, .getfield 74, 3, 324), (90, .invokevirtual 316, 3, 325), (93, .ifCond .ne (5), 3, 0), (96, .iconst 0, 1, 0), (97, .ireturn, 1, 0), (98, .aload_n 0, 1, 0), (99, .getfield 39, 3, 282), (102, .aload_n 0, 1, 0), (103, .getfield 10, 3, 191), (106, .getfield 124, 3, 213), (109, .aload_n 0, 1, 0), (110, .getfield 65, 3, 123), (113, .aload_n 0, 1, 0), (114, .getfield 68, 3, 326), (117, .invokevirtual 316, 3, 325), (120, .istore 4, 2, 0), (122, .iload 4, 2, 0), (124, .ifCond .eq (21), 3, 0), (127, .aload_n 0, 1, 0), (128, .getfield 74, 3, 324), (131, .aload_n 0, 1, 0), (132, .getfield 68, 3, 326), (135, .invokevirtual 319, 3, 327), (138, .ifCond .eq (7), 3, 0), (141, .iconst 1, 1, 0), (142, .goto 4, 3, 0), (145, .iconst 2, 1, 0), (146, .ireturn, 1, 0)]
/-- D_isMeant -/
def jb_I203 : List (Nat × Instr × Nat × Nat) := [(0, .aload_n 0, 1, 0), (1, .getfield 10, 3, 191), (4, .getfield 199, 3, 207), (7, .iload_n 1, 1, 0), (8, .aload_n 0, 1, 0), (9, .getfield 65, 3, 123), (12, .invokevirtual 206, 3, 281), (15, .aload_n 0, 1, 0), (16, .getfield 39, 3, 282), (19, .aload_n 0, 1, 0), (20, .getfield 10, 3, 191), (23, .getfield 124, 3, 213), (26, .aload_n 0, 1, 0), (27, .getfield 65, 3, 123), (30, .aload_n 0, 1, 0), (31, .getfield 68, 3, 326), (34, .invokevirtual 316, 3, 325), (37, .ireturn, 1, 0)]
/-- Text_match -/
def jb_I204 : List (Nat × Instr × Nat × Nat) := [(0, .iload_n 1, 1, 0), (1, .invokestatic 53, 3, 229), (4, .astore_n 3, 1, 0), (5, .iconst 0, 1, 0), (6, .istore 4, 2, 0), (8, .iload 4, 2, 0), (10, .aload_n 3, 1, 0), (11, .invokevirtual 62, 3, 230), (14, .if_icmp .ge (35), 3, 0), (17, .aload_n 3, 1, 0), (18, .iload 4, 2, 0), (20, .invokevirtual 65, 3, 328), (23, .aload_n 0, 1, 0), (24, .getfield 14, 3, 74), (27, .iload_n 2, 1, 0), (28, .iload 4, 2, 0), (30, .iadd, 1, 0), (31, .invokevirtual 50, 3, 232), (34, .invokestatic 83, 3, 329), (37, .ifCond .ne (6), 3, 0), (40, .iload 4, 2, 0), (42, .ireturn, 1, 0), (43, .iinc 4 1, 3, 0), (46, .goto (-38), 3, 0), (49, .aload_n 3, 1, 0), (50, .invokevirtual 62, 3, 230), (53, .ireturn, 1, 0)]
/-- Text_numberOf -/
def jb_I205 : List (Nat × Instr × Nat × Nat) := [(0, .aload_n 0, 1, 0), (1, .getfield 20, 3, 75), (4, .iload_n 1, 1, 0), (5, .invokevirtual 50, 3, 232), (8, .invokestatic 53, 3, 229), (11, .astore_n 3, 1, 0), (12, .aload_n 3, 1, 0), (13, .bipush 32, 2, 0), (15, .invokevirtual 57, 3, 330), (18, .iconst 1, 1, 0), (19, .iadd, 1, 0), (20, .iconst 2, 1, 0), (21, .iload_n 2, 1, 0), (22, .imul, 1, 0), (23, .iadd, 1, 0), (24, .istore 4, 2, 0), (26, .iload 4, 2, 0), (28, .ifCond .lt (12), 3, 0), (31, .iload 4, 2, 0), (33, .aload_n 3, 1, 0), (34, .invokevirtual 62, 3, 230), (37, .if_icmp .lt (5), 3, 0), (40, .iconst (-1), 1, 0), (41, .ireturn, 1, 0), (42, .aload_n 0, 1, 0), (43, .getfield 14, 3, 74), (46, .aload_n 0, 1, 0), (47, .getfield 23, 3, 76), (50, .iload_n 1, 1, 0), (51, .invokevirtual 50, 3, 232), (54, .iload 4, 2, 0), (56, .iadd, 1, 0), (57, .invokevirtual 50, 3, 232), (60, .istore 5, 2, 0), (62, .aload_n 3, 1, 0), (63, .iload 4, 2, 0), (65, .invokevirtual 65, 3, 328), (68, .lookupswitch (54) #[((66), (36)), ((68), (48)), ((75), (42))], 36, 0), (104, .iload 5, 2, 0), (106, .invokestatic 69, 3, 134), (109, .ireturn, 1, 0), (110, .iload 5, 2, 0), (112, .invokestatic 72, 3, 135), (115, .ireturn, 1, 0), (116, .iload 5, 2, 0), (118, .bipush 48, 2, 0), (120, .isub, 1, 0), (121, .ireturn, 1, 0), (122, .iconst (-1), 1, 0), (123, .ireturn, 1, 0)]
/-- D_undo -/
def jb_I206 : List (Nat × Instr × Nat × Nat) := [(0, .aload_n 0, 1, 0), (1, .getfield 25, 3, 222), (4, .getfield 266, 3, 223), (7, .ifCond .ne (6), 3, 0), (10, .bipush (-3), 2, 0), (12, .ireturn, 1, 0), (13, .aload_n 0, 1, 0), (14, .getfield 25, 3, 222), (17, .aload_n 0, 1, 0), (18, .getfield 10, 3, 191), (21, .invokevirtual 293, 3, 331), (24, .aload_n 0, 1, 0), (25, .getfield 25, 3, 222), (28, .getfield 266, 3, 223), (31, .ireturn, 1, 0)]
/-- M_word -/
def jb_I207 : List (Nat × Instr × Nat × Nat) := [(0, .iload_n 1, 1, 0), (1, .invokestatic 141, 3, 332), (4, .ifCond .ne (6), 3, 0), (7, .bipush (-2), 2, 0), (9, .ireturn, 1, 0), (10, .aload_n 0, 1, 0), (11, .invokevirtual 104, 3, 296), (14, .aload_n 0, 1, 0), (15, .invokevirtual 144, 3, 305), (18, .aload_n 0, 1, 0), (19, .aload_n 0, 1, 0), (20, .iload_n 1, 1, 0), (21, .invokevirtual 147, 3, 333), (24, .invokevirtual 115, 3, 298), (27, .istore_n 2, 1, 0), (28, .aload_n 0, 1, 0), (29, .iload_n 2, 1, 0), (30, .bipush (-5), 2, 0), (32, .if_icmp .ne (10), 3, 0), (35, .aload_n 0, 1, 0), (36, .getfield 121, 3, 49), (39, .goto 4, 3, 0), (42, .iconst 0, 1, 0), (43, .putfield 121, 3, 49), (46, .iload_n 2, 1, 0), (47, .ireturn, 1, 0)]
/-- M_said -/
def jb_I208 : List (Nat × Instr × Nat × Nat) := [(0, .aload_n 0, 1, 0), (1, .iload_n 1, 1, 0), (2, .invokevirtual 194, 3, 243), (5, .ifCond .ne (5), 3, 0), (8, .iconst (-1), 1, 0), (9, .ireturn, 1, 0), (10, .aload_n 0, 1, 0), (11, .iload_n 1, 1, 0), (12, .invokevirtual 197, 3, 307), (15, .aload_n 0, 1, 0), (16, .invokevirtual 201, 3, 334), (19, .ifCond .ne (8), 3, 0), (22, .bipush (-6), 2, 0), (24, .goto 27, 3, 0), (27, .iload_n 2, 1, 0), (28, .iconst 0, 1, 0), (29, .aload_n 0, 1, 0), (30, .getfield 188, 3, 309), (33, .iconst 1, 1, 0), (34, .isub, 1, 0), (35, .invokestatic 85, 3, 141), (38, .ifCond .eq (12), 3, 0), (41, .aload_n 0, 1, 0), (42, .getfield 44, 3, 44), (45, .iload_n 2, 1, 0), (46, .iaload, 1, 0), (47, .goto 4, 3, 0), (50, .iconst (-1), 1, 0), (51, .ireturn, 1, 0)]
/-- M_silences -/
def jb_I209 : List (Nat × Instr × Nat × Nat) := [(0, .aload_n 0, 1, 0), (1, .iload_n 1, 1, 0), (2, .invokevirtual 194, 3, 243), (5, .ifCond .ne (5), 3, 0), (8, .iconst (-1), 1, 0), (9, .ireturn, 1, 0), (10, .aload_n 0, 1, 0), (11, .iload_n 1, 1, 0), (12, .invokevirtual 197, 3, 307), (15, .aload_n 0, 1, 0), (16, .invokevirtual 201, 3, 334), (19, .ifCond .ne (6), 3, 0), (22, .bipush (-6), 2, 0), (24, .ireturn, 1, 0), (25, .aload_n 0, 1, 0), (26, .getfield 124, 3, 50), (29, .istore_n 2, 1, 0), (30, .iconst 0, 1, 0), (31, .istore_n 3, 1, 0), (32, .iload_n 3, 1, 0), (33, .aload_n 0, 1, 0), (34, .getfield 188, 3, 309), (37, .if_icmp .ge (28), 3, 0), (40, .iload_n 2, 1, 0), (41, .aload_n 0, 1, 0), (42, .getfield 9, 3, 33), (45, .aload_n 0, 1, 0), (46, .getfield 44, 3, 44), (49, .iload_n 3, 1, 0), (50, .iaload, 1, 0), (51, .invokestatic 130, 3, 151), (54, .iconst 1, 1, 0), (55, .iadd, 1, 0), (56, .iaload, 1, 0), (57, .isub, 1, 0), (58, .istore_n 2, 1, 0), (59, .iinc 3 1, 3, 0), (62, .goto (-30), 3, 0), (65, .iload_n 2, 1, 0), (66, .ireturn, 1, 0)]
/-- M_clears -/
def jb_I210 : List (Nat × Instr × Nat × Nat) := [(0, .aload_n 0, 1, 0), (1, .iload_n 3, 1, 0), (2, .invokevirtual 197, 3, 307), (5, .aload_n 0, 1, 0), (6, .invokevirtual 201, 3, 334), (9, .istore 4, 2, 0), (11, .aload_n 0, 1, 0), (12, .getfield 188, 3, 309), (15, .istore 5, 2, 0), (17, .iconst 0, 1, 0), (18, .istore 6, 2, 0), (20, .iload 6, 2, 0), (22, .iload 5, 2, 0), (24, .if_icmp .ge (23), 3, 0), (27, .aload_n 0, 1, 0), (28, .getfield 47, 3, 45), (31, .iload 6, 2, 0), (33, .aload_n 0, 1, 0), (34, .getfield 44, 3, 44), (37, .iload 6, 2, 0), (39, .iaload, 1, 0), (40, .iastore, 1, 0), (41, .iinc 6 1, 3, 0), (44, .goto (-24), 3, 0), (47, .aload_n 0, 1, 0), (48, .iload_n 3, 1, 0), (49, .invokevirtual 197, 3, 307), (52, .iconst 0, 1, 0), (53, .istore 6, 2, 0), (55, .iload 6, 2, 0), (57, .aload_n 0, 1, 0), (58, .getfield 124, 3, 50), (61, .if_icmp .ge (43), 3, 0), (64, .aload_n 0, 1, 0), (65, .getfield 35, 3, 41), (68, .iload 6, 2, 0), (70, .aload_n 0, 1, 0), (71, .iload_n 1, 1, 0), (72, .iload_n 2, 1, 0), (73, .aload_n 0, 1, 0), (74, .getfield 35, 3, 41), (77, .iload 6, 2, 0), (79, .iaload, 1, 0), (80, .invokevirtual 208, 3, 245), (83, .ifCond .eq (13), 3, 0), (86, .aload_n 0, 1, 0), (87, .getfield 35, 3, 41), (90, .iload 6, 2, 0), (92, .iaload, 1, 0), (93, .goto 4, 3, 0), (96, .iconst 5, 1, 0), (97, .iastore, 1, 0), (98, .iinc 6 1, 3, 0), (101, .goto (-46), 3, 0), (104, .aload_n 0, 1, 0), (105, .invokevirtual 201, 3, 334), (108, .ifCond .ne (5), 3, 0), (111, .iconst 0, 1, 0), (112, .ireturn, 1, 0), (113, .iload 4, 2, 0), (115, .ifCond .eq (16), 3, 0), (118, .aload_n 0, 1, 0), (119, .getfield 188, 3, 309), (122, .iload 5, 2, 0), (124, .if_icmp .ne (7), 3, 0), (127, .iconst 1, 1, 0), (128, .goto 4, 3, 0), (131, .iconst 0, 1, 0), (132, .istore 4, 2, 0), (134, .iconst 0, 1, 0), (135, .istore 6, 2, 0), (137, .iload 6, 2, 0), (139, .iload 5, 2, 0), (141, .if_icmp .ge (38), 3, 0), (144, .iload 4, 2, 0), (146, .ifCond .eq (33), 3, 0), (149, .aload_n 0, 1, 0), (150, .getfield 47, 3, 45), (153, .iload 6, 2, 0), (155, .iaload, 1, 0), (156, .aload_n 0, 1, 0), (157, .getfield 44, 3, 44), (160, .iload 6, 2, 0), (162, .iaload, 1, 0), (163, .if_icmp .ne (7), 3, 0), (166, .iconst 1, 1, 0), (167, .goto 4, 3, 0), (170, .iconst 0, 1, 0), (171, .istore 4, 2, 0), (173, .iinc 6 1, 3, 0), (176, .goto (-39), 3, 0), (179, .iload 4, 2, 0), (181, .ifCond .eq (7), 3, 0), (184, .iconst 1, 1, 0), (185, .goto 4, 3, 0), (188, .iconst 2, 1, 0), (189, .ireturn, 1, 0)]
/-- M_write -/
def jb_I211 : List (Nat × Instr × Nat × Nat) := [(0, .aload_n 0, 1, 0), (1, .iload_n 1, 1, 0), (2, .invokevirtual 194, 3, 243), (5, .ifCond .ne (5), 3, 0), (8, .iconst (-1), 1, 0), (9, .ireturn, 1, 0), (10, .aload_n 0, 1, 0), (11, .iload_n 1, 1, 0), (12, .invokevirtual 197, 3, 307), (15, .iconst 0, 1, 0), (16, .istore_n 2, 1, 0), (17, .iconst 0, 1, 0), (18, .istore_n 3, 1, 0), (19, .iload_n 3, 1, 0), (20, .aload_n 0, 1, 0), (21, .getfield 124, 3, 50), (24, .if_icmp .ge (21), 3, 0), (27, .aload_n 0, 1, 0), (28, .iload_n 2, 1, 0), (29, .aload_n 0, 1, 0), (30, .getfield 35, 3, 41), (33, .iload_n 3, 1, 0), (34, .iaload, 1, 0), (35, .invokevirtual 247, 3, 252), (38, .istore_n 2, 1, 0), (39, .iinc 3 1, 3, 0), (42, .goto (-23), 3, 0), (45, .aload_n 0, 1, 0), (46, .invokevirtual 201, 3, 334), (49, .istore_n 3, 1, 0), (50, .iconst 0, 1, 0), (51, .istore 4, 2, 0), (53, .iload 4, 2, 0), (55, .aload_n 0, 1, 0), (56, .getfield 188, 3, 309), (59, .if_icmp .ge (58), 3, 0), (62, .iload_n 3, 1, 0), (63, .ifCond .eq (54), 3, 0), (66, .aload_n 0, 1, 0), (67, .aload_n 0, 1, 0), (68, .iload_n 2, 1, 0), (69, .iload 4, 2, 0), (71, .ifCond .ne (8), 3, 0), (74, .bipush 61, 2, 0), (76, .goto 5, 3, 0), (79, .bipush 32, 2, 0), (81, .invokevirtual 244, 3, 156), (84, .aload_n 0, 1, 0), (85, .getfield 44, 3, 44), (88, .iload 4, 2, 0), (90, .iaload, 1, 0), (91, .invokevirtual 250, 3, 251), (94, .istore_n 2, 1, 0), (95, .aload_n 0, 1, 0), (96, .iload_n 2, 1, 0), (97, .bipush 48, 2, 0), (99, .aload_n 0, 1, 0), (100, .getfield 44, 3, 44), (103, .iload 4, 2, 0), (105, .iaload, 1, 0), (106, .iadd, 1, 0), (107, .invokevirtual 244, 3, 156), (110, .istore_n 2, 1, 0), (111, .iinc 4 1, 3, 0), (114, .goto (-61), 3, 0), (117, .aload_n 0, 1, 0), (118, .iload_n 2, 1, 0), (119, .putfield 253, 3, 157), (122, .iload_n 2, 1, 0), (123, .ireturn, 1, 0)]
/-- M_kindHere -/
def jb_I212 : List (Nat × Instr × Nat × Nat) := [(0, .aload_n 0, 1, 0), (1, .getfield 256, 3, 52), (4, .istore_n 1, 1, 0), (5, .iconst (-1), 1, 0), (6, .istore_n 2, 1, 0), (7, .iconst 0, 1, 0), (8, .istore_n 3, 1, 0), (9, .iload_n 3, 1, 0), (10, .bipush 8, 2, 0), (12, .if_icmp .ge (110), 3, 0), (15, .iload_n 2, 1, 0), (16, .iconst (-1), 1, 0), (17, .if_icmp .ne (105), 3, 0), (20, .iload_n 3, 1, 0), (21, .iconst 1, 1, 0), (22, .iadd, 1, 0), (23, .invokestatic 274, 3, 335), (26, .iload_n 3, 1, 0), (27, .invokestatic 274, 3, 335), (30, .isub, 1, 0), (31, .istore 4, 2, 0), (33, .iconst 0, 1, 0), (34, .istore 5, 2, 0), (36, .iload 5, 2, 0), (38, .iload 4, 2, 0), (40, .if_icmp .ge (51), 3, 0), (43, .aload_n 0, 1, 0), (44, .getfield 256, 3, 52), (47, .iload 5, 2, 0), (49, .iadd, 1, 0), (50, .aload_n 0, 1, 0), (51, .getfield 259, 3, 53), (54, .if_icmp .ge (37), 3, 0), (57, .aload_n 0, 1, 0), (58, .getfield 29, 3, 39), (61, .aload_n 0, 1, 0), (62, .getfield 256, 3, 52), (65, .iload 5, 2, 0), (67, .iadd, 1, 0), (68, .iaload, 1, 0), (69, .ldc_w 277, 3, 336), (72, .iload_n 3, 1, 0), (73, .invokestatic 274, 3, 335), (76, .iload 5, 2, 0), (78, .iadd, 1, 0), (79, .invokevirtual 279, 3, 337), (82, .if_icmp .ne (9), 3, 0), (85, .iinc 5 1, 3, 0), (88, .goto (-52), 3, 0), (91, .iload_n 1, 1, 0), (92, .aload_n 0, 1, 0), (93, .getfield 256, 3, 52), (96, .iload 5, 2, 0), (98, .iadd, 1, 0), (99, .invokestatic 285, 3, 338), (102, .istore_n 1, 1, 0), (103, .iload 5, 2, 0), (105, .iload 4, 2, 0), (107, .if_icmp .ne (7), 3, 0), (110, .iload_n 3, 1, 0), (111, .goto 4, 3, 0), (114, .iload_n 2, 1, 0), (115, .istore_n 2, 1, 0), (116, .iinc 3 1, 3, 0), (119, .goto (-110), 3, 0), (122, .aload_n 0, 1, 0), (123, .iload_n 2, 1, 0), (124, .iconst (-1), 1, 0), (125, .if_icmp .ne (7), 3, 0), (128, .iload_n 1, 1, 0), (129, .goto 7, 3, 0), (132, .aload_n 0, 1, 0), (133, .getfield 262, 3, 159), (136, .putfield 262, 3, 159), (139, .aload_n 0, 1, 0), (140, .dup, 1, 0), (141, .getfield 256, 3, 52), (144, .iload_n 2, 1, 0), (145, .iconst (-1), 1, 0), (146, .if_icmp .ne (7), 3, 0), (149, .iconst 0, 1, 0), (150, .goto 14, 3, 0), (153, .iload_n 2, 1, 0), (154, .iconst 1, 1, 0), (155, .iadd, 1, 0), (156, .invokestatic 274, 3, 335), (159, .iload_n 2, 1, 0), (160, .invokestatic 274, 3, 335), (163, .isub, 1, 0), (164, .iadd, 1, 0), (165, .putfield 256, 3, 52), (168, .iload_n 2, 1, 0), (169, .ireturn, 1, 0)]
/-- M_does -/
def jb_I213 : List (Nat × Instr × Nat × Nat) := [(0, .aload_n 0, 1, 0), (1, .getfield 50, 3, 46), (4, .iload_n 1, 1, 0), (5, .iconst 1, 1, 0), (6, .iadd, 1, 0), (7, .iaload, 1, 0), (8, .istore_n 2, 1, 0), (9, .aload_n 0, 1, 0), (10, .getfield 50, 3, 46), (13, .iload_n 1, 1, 0), (14, .iconst 2, 1, 0), (15, .iadd, 1, 0), (16, .iaload, 1, 0), (17, .istore_n 3, 1, 0), (18, .aload_n 0, 1, 0), (19, .getfield 50, 3, 46), (22, .iload_n 1, 1, 0), (23, .iaload, 1, 0), (24, .tableswitch (104) (0) (6) #[(44), (56), (62), (73), (79), (86), (98)], 44, 0), (68, .aload_n 0, 1, 0), (69, .iload_n 2, 1, 0), (70, .invokestatic 107, 3, 150), (73, .iconst 0, 1, 0), (74, .iadd, 1, 0), (75, .iload_n 3, 1, 0), (76, .invokevirtual 111, 3, 297), (79, .ireturn, 1, 0), (80, .aload_n 0, 1, 0), (81, .iload_n 2, 1, 0), (82, .invokevirtual 118, 3, 299), (85, .ireturn, 1, 0), (86, .aload_n 0, 1, 0), (87, .iload_n 1, 1, 0), (88, .invokevirtual 313, 3, 339), (91, .aload_n 0, 1, 0), (92, .iload_n 2, 1, 0), (93, .invokevirtual 147, 3, 333), (96, .ireturn, 1, 0), (97, .aload_n 0, 1, 0), (98, .iload_n 2, 1, 0), (99, .invokevirtual 153, 3, 301), (102, .ireturn, 1, 0), (103, .aload_n 0, 1, 0), (104, .iload_n 2, 1, 0), (105, .iload_n 3, 1, 0), (106, .invokevirtual 162, 3, 303), (109, .ireturn, 1, 0), (110, .aload_n 0, 1, 0), (111, .iload_n 2, 1, 0), (112, .invokestatic 156, 3, 152), (115, .iconst 0, 1, 0), (116, .iadd, 1, 0), (117, .iload_n 3, 1, 0), (118, .invokevirtual 111, 3, 297), (121, .ireturn, 1, 0), (122, .aload_n 0, 1, 0), (123, .iload_n 2, 1, 0), (124, .invokevirtual 168, 3, 304), (127, .ireturn, 1, 0), (128, .aload_n 0, 1, 0), (129, .iload_n 1, 1, 0), (130, .invokevirtual 313, 3, 339), (133, .aload_n 0, 1, 0), (134, .invokevirtual 179, 3, 306), (137, .ireturn, 1, 0)]
/-- D_init -/
def jb_I214 : List (Nat × Instr × Nat × Nat) := [(0, .aload_n 0, 1, 0), (1, .invokespecial 1, 3, 340), (4, .aload_n 0, 1, 0), (5, .new 7, 3, 341), (8, .dup, 1, 0), (9, .invokespecial 9, 3, 342), (12, .putfield 10, 3, 191), (15, .aload_n 0, 1, 0), (16, .new 7, 3, 341), (19, .dup, 1, 0), (20, .invokespecial 9, 3, 342), (23, .putfield 16, 3, 320), (26, .aload_n 0, 1, 0), (27, .new 7, 3, 341), (30, .dup, 1, 0), (31, .invokespecial 9, 3, 342), (34, .putfield 19, 3, 291), (37, .aload_n 0, 1, 0), (38, .new 22, 3, 343), (41, .dup, 1, 0), (42, .invokespecial 24, 3, 344), (45, .putfield 25, 3, 222), (48, .aload_n 0, 1, 0), (49, .new 29, 3, 345), (52, .dup, 1, 0), (53, .invokespecial 31, 3, 346), (56, .putfield 32, 3, 26), (59, .aload_n 0, 1, 0), (60, .new 36, 3, 347), (63, .dup, 1, 0), (64, .invokespecial 38, 3, 348), (67, .putfield 39, 3, 282), (70, .aload_n 0, 1, 0), (71, .new 43, 3, 349), (74, .dup, 1, 0), (75, .invokespecial 45, 3, 350), (78, .putfield 46, 3, 128), (81, .aload_n 0, 1, 0), (82, .new 50, 3, 351), (85, .dup, 1, 0), (86, .bipush 20, 2, 0), (88, .invokespecial 52, 3, 352), (91, .putfield 55, 3, 93), (94, .aload_n 0, 1, 0), (95, .new 50, 3, 351), (98, .dup, 1, 0), (99, .bipush 64, 2, 0), (101, .invokespecial 52, 3, 352), (104, .putfield 59, 3, 126), (107, .aload_n 0, 1, 0), (108, .new 50, 3, 351), (111, .dup, 1, 0), (112, .bipush 60, 2, 0), (114, .invokespecial 52, 3, 352), (117, .putfield 62, 3, 353), (120, .aload_n 0, 1, 0), (121, .new 50, 3, 351), (124, .dup, 1, 0), (125, .bipush 12, 2, 0), (127, .invokespecial 52, 3, 352), (130, .putfield 65, 3, 123), (133, .aload_n 0, 1, 0), (134, .new 50, 3, 351), (137, .dup, 1, 0), (138, .bipush 12, 2, 0), (140, .invokespecial 52, 3, 352), (143, .putfield 68, 3, 326), (146, .aload_n 0, 1, 0), (147, .new 50, 3, 351), (150, .dup, 1, 0), (151, .bipush 12, 2, 0), (153, .invokespecial 52, 3, 352), (156, .putfield 71, 3, 285), (159, .aload_n 0, 1, 0), (160, .new 50, 3, 351), (163, .dup, 1, 0), (164, .bipush 12, 2, 0), (166, .invokespecial 52, 3, 352), (169, .putfield 74, 3, 324), (172, .aload_n 0, 1, 0), (173, .new 50, 3, 351), (176, .dup, 1, 0), (177, .bipush 8, 2, 0), (179, .invokespecial 52, 3, 352), (182, .putfield 77, 3, 125), (185, .aload_n 0, 1, 0), (186, .iconst 0, 1, 0), (187, .putfield 80, 3, 293), (190, .aload_n 0, 1, 0), (191, .iconst (-1), 1, 0), (192, .putfield 84, 3, 25), (195, .return_, 1, 0)]
/-- D_hang -/
def jb_I215 : List (Nat × Instr × Nat × Nat) := [(0, .aload_n 0, 1, 0), (1, .getfield 16, 3, 320), (4, .aload_n 0, 1, 0), (5, .getfield 10, 3, 191), (8, .invokevirtual 88, 3, 292), (11, .aload_n 0, 1, 0), (12, .aload_n 0, 1, 0), (13, .getfield 10, 3, 191), (16, .getfield 92, 3, 195), (19, .iload_n 1, 1, 0), (20, .iload_n 2, 1, 0), (21, .aload_n 0, 1, 0), (22, .getfield 32, 3, 26), (25, .invokevirtual 96, 3, 354), (28, .invokevirtual 102, 3, 355), (31, .ireturn, 1, 0)]
/-- D_splice -/
def jb_I216 : List (Nat × Instr × Nat × Nat) := [(0, .aload_n 0, 1, 0), (1, .getfield 16, 3, 320), (4, .aload_n 0, 1, 0), (5, .getfield 10, 3, 191), (8, .invokevirtual 88, 3, 292), (11, .aload_n 0, 1, 0), (12, .aload_n 0, 1, 0), (13, .getfield 10, 3, 191), (16, .getfield 92, 3, 195), (19, .iload_n 1, 1, 0), (20, .aload_n 0, 1, 0), (21, .getfield 32, 3, 26), (24, .invokevirtual 106, 3, 356), (27, .invokevirtual 102, 3, 355), (30, .ireturn, 1, 0)]
/-- D_settledDraft -/
def jb_I217 : List (Nat × Instr × Nat × Nat) := [(0, .iload_n 1, 1, 0), (1, .ifCond .lt (10), 3, 0), (4, .aload_n 0, 1, 0), (5, .getfield 55, 3, 93), (8, .invokevirtual 233, 3, 209), (11, .aload_n 0, 1, 0), (12, .iload_n 1, 1, 0), (13, .invokevirtual 102, 3, 355), (16, .ireturn, 1, 0)]
/-- D_strike -/
def jb_I218 : List (Nat × Instr × Nat × Nat) := [(0, .aload_n 0, 1, 0), (1, .getfield 16, 3, 320), (4, .aload_n 0, 1, 0), (5, .getfield 10, 3, 191), (8, .invokevirtual 88, 3, 292), (11, .aload_n 0, 1, 0), (12, .aload_n 0, 1, 0), (13, .getfield 10, 3, 191), (16, .getfield 124, 3, 213), (19, .iload_n 1, 1, 0), (20, .invokevirtual 137, 3, 357), (23, .invokevirtual 102, 3, 355), (26, .ireturn, 1, 0)]
/-- D_swim -/
def jb_I219 : List (Nat × Instr × Nat × Nat) := [(0, .aload_n 0, 1, 0), (1, .getfield 16, 3, 320), (4, .aload_n 0, 1, 0), (5, .getfield 10, 3, 191), (8, .invokevirtual 88, 3, 292), (11, .aload_n 0, 1, 0), (12, .aload_n 0, 1, 0), (13, .getfield 10, 3, 191), (16, .getfield 140, 3, 192), (19, .iload_n 1, 1, 0), (20, .iload_n 2, 1, 0), (21, .aload_n 0, 1, 0), (22, .getfield 32, 3, 26), (25, .invokevirtual 144, 3, 358), (28, .invokevirtual 102, 3, 355), (31, .ireturn, 1, 0)]
/-- D_dive -/
def jb_I220 : List (Nat × Instr × Nat × Nat) := [(0, .aload_n 0, 1, 0), (1, .getfield 16, 3, 320), (4, .aload_n 0, 1, 0), (5, .getfield 10, 3, 191), (8, .invokevirtual 88, 3, 292), (11, .aload_n 0, 1, 0), (12, .aload_n 0, 1, 0), (13, .getfield 10, 3, 191), (16, .getfield 140, 3, 192), (19, .iload_n 1, 1, 0), (20, .iload_n 2, 1, 0), (21, .aload_n 0, 1, 0), (22, .getfield 32, 3, 26), (25, .invokevirtual 149, 3, 359), (28, .invokevirtual 102, 3, 355), (31, .ireturn, 1, 0)]
/-- D_go -/
def jb_I221 : List (Nat × Instr × Nat × Nat) := [(0, .aload_n 0, 1, 0), (1, .getfield 16, 3, 320), (4, .aload_n 0, 1, 0), (5, .getfield 10, 3, 191), (8, .invokevirtual 88, 3, 292), (11, .aload_n 0, 1, 0), (12, .aload_n 0, 1, 0), (13, .getfield 10, 3, 191), (16, .getfield 140, 3, 192), (19, .iload_n 1, 1, 0), (20, .invokevirtual 150, 3, 360), (23, .invokevirtual 102, 3, 355), (26, .ireturn, 1, 0)]
/-- D_pealsUnderstoodBy -/
def jb_I222 : List (Nat × Instr × Nat × Nat) := [(0, .aload_n 0, 1, 0), (1, .getfield 10, 3, 191), (4, .getfield 140, 3, 192), (7, .getfield 189, 3, 193), (10, .iload_n 1, 1, 0), (11, .invokevirtual 164, 3, 124), (14, .istore_n 2, 1, 0), (15, .aload_n 0, 1, 0), (16, .getfield 10, 3, 191), (19, .getfield 140, 3, 192), (22, .getfield 190, 3, 194), (25, .iload_n 1, 1, 0), (26, .invokevirtual 164, 3, 124), (29, .istore_n 3, 1, 0), (30, .iconst 0, 1, 0), (31, .istore 4, 2, 0), (33, .iconst 0, 1, 0), (34, .istore 5, 2, 0), (36, .iload 5, 2, 0), (38, .aload_n 0, 1, 0), (39, .getfield 10, 3, 191), (42, .getfield 199, 3, 207), (45, .getfield 245, 3, 218), (48, .invokevirtual 120, 3, 96), (51, .if_icmp .ge (24), 3, 0), (54, .aload_n 0, 1, 0), (55, .iload_n 2, 1, 0), (56, .iload_n 3, 1, 0), (57, .iload 5, 2, 0), (59, .invokevirtual 230, 3, 361), (62, .iconst 1, 1, 0), (63, .if_icmp .ne (6), 3, 0), (66, .iinc 4 1, 3, 0), (69, .iinc 5 1, 3, 0), (72, .goto (-36), 3, 0), (75, .iload 4, 2, 0), (77, .ireturn, 1, 0)]
/-- D_said -/
def jb_I223 : List (Nat × Instr × Nat × Nat) := [(0, .aload_n 0, 1, 0), (1, .getfield 10, 3, 191), (4, .getfield 199, 3, 207), (7, .iload_n 1, 1, 0), (8, .invokevirtual 203, 3, 280), (11, .ifCond .ne (5), 3, 0), (14, .iconst (-1), 1, 0), (15, .ireturn, 1, 0), (16, .aload_n 0, 1, 0), (17, .iload_n 1, 1, 0), (18, .invokevirtual 217, 3, 362), (21, .ifCond .ne (6), 3, 0), (24, .bipush (-6), 2, 0), (26, .ireturn, 1, 0), (27, .aload_n 0, 1, 0), (28, .getfield 68, 3, 326), (31, .iload_n 2, 1, 0), (32, .invokevirtual 160, 3, 127), (35, .ifCond .eq (14), 3, 0), (38, .aload_n 0, 1, 0), (39, .getfield 68, 3, 326), (42, .iload_n 2, 1, 0), (43, .invokevirtual 164, 3, 124), (46, .goto 4, 3, 0), (49, .iconst (-1), 1, 0), (50, .ireturn, 1, 0)]
/-- D_silences -/
def jb_I224 : List (Nat × Instr × Nat × Nat) := [(0, .aload_n 0, 1, 0), (1, .getfield 10, 3, 191), (4, .getfield 199, 3, 207), (7, .iload_n 1, 1, 0), (8, .invokevirtual 203, 3, 280), (11, .ifCond .ne (5), 3, 0), (14, .iconst (-1), 1, 0), (15, .ireturn, 1, 0), (16, .aload_n 0, 1, 0), (17, .iload_n 1, 1, 0), (18, .invokevirtual 217, 3, 362), (21, .ifCond .eq (13), 3, 0), (24, .aload_n 0, 1, 0), (25, .getfield 39, 3, 282), (28, .getfield 220, 3, 363), (31, .goto 5, 3, 0), (34, .bipush (-6), 2, 0), (36, .ireturn, 1, 0)]
/-- D_understands -/
def jb_I225 : List (Nat × Instr × Nat × Nat) := [(0, .aload_n 0, 1, 0), (1, .getfield 10, 3, 191), (4, .getfield 140, 3, 192), (7, .getfield 189, 3, 193), (10, .iload_n 1, 1, 0), (11, .invokevirtual 160, 3, 127), (14, .ifCond .eq (17), 3, 0), (17, .aload_n 0, 1, 0), (18, .getfield 10, 3, 191), (21, .getfield 199, 3, 207), (24, .iload_n 2, 1, 0), (25, .invokevirtual 203, 3, 280), (28, .ifCond .ne (5), 3, 0), (31, .iconst (-1), 1, 0), (32, .ireturn, 1, 0), (33, .aload_n 0, 1, 0), (34, .getfield 10, 3, 191), (37, .getfield 140, 3, 192), (40, .getfield 189, 3, 193), (43, .iload_n 1, 1, 0), (44, .invokevirtual 164, 3, 124), (47, .istore_n 3, 1, 0), (48, .aload_n 0, 1, 0), (49, .iload_n 3, 1, 0), (50, .aload_n 0, 1, 0), (51, .getfield 10, 3, 191), (54, .getfield 140, 3, 192), (57, .getfield 190, 3, 194), (60, .iload_n 1, 1, 0), (61, .invokevirtual 164, 3, 124), (64, .iload_n 2, 1, 0), (65, .invokevirtual 230, 3, 361), (68, .ireturn, 1, 0)]
/-- D_needs -/
def jb_I226 : List (Nat × Instr × Nat × Nat) := [(0, .aload_n 0, 1, 0), (1, .getfield 10, 3, 191), (4, .getfield 140, 3, 192), (7, .getfield 189, 3, 193), (10, .iload_n 1, 1, 0), (11, .invokevirtual 160, 3, 127), (14, .ifCond .eq (17), 3, 0), (17, .aload_n 0, 1, 0), (18, .getfield 10, 3, 191), (21, .getfield 199, 3, 207), (24, .iload_n 2, 1, 0), (25, .invokevirtual 203, 3, 280), (28, .ifCond .ne (5), 3, 0), (31, .iconst (-1), 1, 0), (32, .ireturn, 1, 0), (33, .aload_n 0, 1, 0), (34, .getfield 10, 3, 191), (37, .getfield 140, 3, 192), (40, .getfield 189, 3, 193), (43, .iload_n 1, 1, 0), (44, .invokevirtual 164, 3, 124), (47, .istore_n 3, 1, 0), (48, .iconst 0, 1, 0), (49, .istore 4, 2, 0), (51, .iload 4, 2, 0), (53, .bipush 9, 2, 0), (55, .if_icmp .gt (24), 3, 0), (58, .aload_n 0, 1, 0), (59, .iload_n 3, 1, 0), (60, .iload 4, 2, 0), (62, .iload_n 2, 1, 0), (63, .invokevirtual 230, 3, 361), (66, .iconst 1, 1, 0), (67, .if_icmp .ne (6), 3, 0), (70, .iload 4, 2, 0), (72, .ireturn, 1, 0), (73, .iinc 4 1, 3, 0), (76, .goto (-25), 3, 0), (79, .bipush (-6), 2, 0), (81, .ireturn, 1, 0)]
/-- D_meantShare -/
def jb_I227 : List (Nat × Instr × Nat × Nat) := [(0, .aload_n 0, 1, 0), (1, .getfield 10, 3, 191), (4, .getfield 199, 3, 207), (7, .getfield 245, 3, 218), (10, .invokevirtual 120, 3, 96), (13, .istore_n 1, 1, 0), (14, .iload_n 1, 1, 0), (15, .ifCond .ne (5), 3, 0), (18, .fconst 0, 1, 0), (19, .freturn, 1, 0), (20, .iconst 0, 1, 0), (21, .istore_n 2, 1, 0), (22, .iconst 0, 1, 0), (23, .istore_n 3, 1, 0), (24, .iload_n 3, 1, 0), (25, .iload_n 1, 1, 0), (26, .if_icmp .ge (20), 3, 0), (29, .aload_n 0, 1, 0), (30, .iload_n 3, 1, 0), (31, .invokevirtual 217, 3, 362), (34, .ifCond .eq (6), 3, 0), (37, .iinc 2 1, 3, 0), (40, .iinc 3 1, 3, 0), (43, .goto (-19), 3, 0), (46, .iload_n 2, 1, 0), (47, .i2f, 1, 0), (48, .iload_n 1, 1, 0), (49, .i2f, 1, 0), (50, .fdiv, 1, 0), (51, .freturn, 1, 0)]
/-- D_write -/
def jb_I228 : List (Nat × Instr × Nat × Nat) := [(0, .aload_n 0, 1, 0), (1, .getfield 10, 3, 191), (4, .getfield 199, 3, 207), (7, .iload_n 1, 1, 0), (8, .invokevirtual 203, 3, 280), (11, .ifCond .ne (5), 3, 0), (14, .iconst (-1), 1, 0), (15, .ireturn, 1, 0), (16, .aload_n 0, 1, 0), (17, .iload_n 1, 1, 0), (18, .invokevirtual 217, 3, 362), (21, .istore_n 2, 1, 0), (22, .aload_n 0, 1, 0), (23, .getfield 59, 3, 126), (26, .invokevirtual 233, 3, 209), (29, .iconst 0, 1, 0), (30, .istore_n 3, 1, 0), (31, .iload_n 3, 1, 0), (32, .aload_n 0, 1, 0), (33, .getfield 65, 3, 123), (36, .invokevirtual 120, 3, 96), (39, .if_icmp .ge (27), 3, 0), (42, .aload_n 0, 1, 0), (43, .getfield 59, 3, 126), (46, .aload_n 0, 1, 0), (47, .getfield 65, 3, 123), (50, .iload_n 3, 1, 0), (51, .invokevirtual 164, 3, 124), (54, .invokestatic 268, 3, 227), (57, .invokevirtual 117, 3, 95), (60, .iinc 3 1, 3, 0), (63, .goto (-32), 3, 0), (66, .iconst 0, 1, 0), (67, .istore_n 3, 1, 0), (68, .iload_n 2, 1, 0), (69, .ifCond .eq (87), 3, 0), (72, .iload_n 3, 1, 0), (73, .aload_n 0, 1, 0), (74, .getfield 68, 3, 326), (77, .invokevirtual 120, 3, 96), (80, .if_icmp .ge (76), 3, 0), (83, .aload_n 0, 1, 0), (84, .getfield 59, 3, 126), (87, .iload_n 3, 1, 0), (88, .ifCond .ne (8), 3, 0), (91, .bipush 61, 2, 0), (93, .goto 5, 3, 0), (96, .bipush 32, 2, 0), (98, .invokevirtual 117, 3, 95), (101, .aload_n 0, 1, 0), (102, .getfield 59, 3, 126), (105, .aload_n 0, 1, 0), (106, .getfield 10, 3, 191), (109, .getfield 124, 3, 213), (112, .getfield 179, 3, 214), (115, .aload_n 0, 1, 0), (116, .getfield 68, 3, 326), (119, .iload_n 3, 1, 0), (120, .invokevirtual 164, 3, 124), (123, .invokevirtual 164, 3, 124), (126, .invokestatic 271, 3, 224), (129, .invokevirtual 117, 3, 95), (132, .aload_n 0, 1, 0), (133, .getfield 59, 3, 126), (136, .bipush 48, 2, 0), (138, .aload_n 0, 1, 0), (139, .getfield 68, 3, 326), (142, .iload_n 3, 1, 0), (143, .invokevirtual 164, 3, 124), (146, .iadd, 1, 0), (147, .invokevirtual 117, 3, 95), (150, .iinc 3 1, 3, 0), (153, .goto (-85), 3, 0), (156, .aload_n 0, 1, 0), (157, .getfield 59, 3, 126), (160, .invokevirtual 120, 3, 96), (163, .ireturn, 1, 0)]
/-- Text_commandFrom -/
def jb_I229 : List (Nat × Instr × Nat × Nat) := [(0, .iconst 0, 1, 0), (1, .istore_n 2, 1, 0), (2, .iload_n 2, 1, 0), (3, .bipush 8, 2, 0), (5, .if_icmp .ge (27), 3, 0), (8, .aload_n 0, 1, 0), (9, .iload_n 2, 1, 0), (10, .iload_n 1, 1, 0), (11, .invokevirtual 75, 3, 364), (14, .iload_n 2, 1, 0), (15, .invokestatic 53, 3, 229), (18, .invokevirtual 62, 3, 230), (21, .if_icmp .ne (5), 3, 0), (24, .iload_n 2, 1, 0), (25, .ireturn, 1, 0), (26, .iinc 2 1, 3, 0), (29, .goto (-27), 3, 0), (32, .iconst (-1), 1, 0), (33, .ireturn, 1, 0)]
/-- Text_longestMatch -/
def jb_I230 : List (Nat × Instr × Nat × Nat) := [(0, .iconst 0, 1, 0), (1, .istore_n 2, 1, 0), (2, .iconst 0, 1, 0), (3, .istore_n 3, 1, 0), (4, .iload_n 3, 1, 0), (5, .bipush 8, 2, 0), (7, .if_icmp .ge (20), 3, 0), (10, .iload_n 2, 1, 0), (11, .aload_n 0, 1, 0), (12, .iload_n 3, 1, 0), (13, .iload_n 1, 1, 0), (14, .invokevirtual 75, 3, 364), (17, .invokestatic 78, 3, 365), (20, .istore_n 2, 1, 0), (21, .iinc 3 1, 3, 0), (24, .goto (-20), 3, 0), (27, .iload_n 2, 1, 0), (28, .ireturn, 1, 0)]
/-- D_perform -/
def jb_I231 : List (Nat × Instr × Nat × Nat) := [(0, .aload_n 0, 1, 0), (1, .getfield 46, 3, 128), (4, .iload_n 1, 1, 0), (5, .iconst 0, 1, 0), (6, .invokevirtual 310, 3, 366), (9, .istore_n 2, 1, 0), (10, .aload_n 0, 1, 0), (11, .getfield 46, 3, 128), (14, .iload_n 1, 1, 0), (15, .iconst 1, 1, 0), (16, .invokevirtual 310, 3, 366), (19, .istore_n 3, 1, 0), (20, .aload_n 0, 1, 0), (21, .getfield 46, 3, 128), (24, .iload_n 1, 1, 0), (25, .aload_n 0, 1, 0), (26, .getfield 62, 3, 353), (29, .invokevirtual 313, 3, 367), (32, .aload_n 0, 1, 0), (33, .getfield 46, 3, 128), (36, .getfield 300, 3, 368), (39, .iload_n 1, 1, 0), (40, .invokevirtual 164, 3, 124), (43, .tableswitch (172) (0) (7) #[(45), (62), (78), (98), (110), (127), (144), (156)], 45, 0), (88, .aload_n 0, 1, 0), (89, .getfield 10, 3, 191), (92, .getfield 92, 3, 195), (95, .iload_n 2, 1, 0), (96, .iload_n 3, 1, 0), (97, .aload_n 0, 1, 0), (98, .getfield 32, 3, 26), (101, .invokevirtual 96, 3, 354), (104, .ireturn, 1, 0), (105, .aload_n 0, 1, 0), (106, .getfield 10, 3, 191), (109, .getfield 92, 3, 195), (112, .iload_n 2, 1, 0), (113, .aload_n 0, 1, 0), (114, .getfield 32, 3, 26), (117, .invokevirtual 106, 3, 356), (120, .ireturn, 1, 0), (121, .aload_n 0, 1, 0), (122, .getfield 10, 3, 191), (125, .getfield 124, 3, 213), (128, .iload_n 2, 1, 0), (129, .aload_n 0, 1, 0), (130, .getfield 62, 3, 353), (133, .aload_n 0, 1, 0), (134, .getfield 32, 3, 26), (137, .invokevirtual 128, 3, 369), (140, .ireturn, 1, 0), (141, .aload_n 0, 1, 0), (142, .getfield 10, 3, 191), (145, .getfield 124, 3, 213), (148, .iload_n 2, 1, 0), (149, .invokevirtual 137, 3, 357), (152, .ireturn, 1, 0), (153, .aload_n 0, 1, 0), (154, .getfield 10, 3, 191), (157, .getfield 140, 3, 192), (160, .iload_n 2, 1, 0), (161, .iload_n 3, 1, 0), (162, .aload_n 0, 1, 0), (163, .getfield 32, 3, 26), (166, .invokevirtual 144, 3, 358), (169, .ireturn, 1, 0), (170, .aload_n 0, 1, 0), (171, .getfield 10, 3, 191), (174, .getfield 140, 3, 192), (177, .iload_n 2, 1, 0), (178, .iload_n 3, 1, 0), (179, .aload_n 0, 1, 0), (180, .getfield 32, 3, 26), (183, .invokevirtual 149, 3, 359), (186, .ireturn, 1, 0), (187, .aload_n 0, 1, 0), (188, .getfield 10, 3, 191), (191, .getfield 140, 3, 192), (194, .iload_n 2, 1, 0), (195, .invokevirtual 150, 3, 360), (198, .ireturn, 1, 0), (199, .aload_n 0, 1, 0), (200, .getfield 10, 3, 191), (203, .aload_n 0, 1, 0), (204, .getfield 62, 3, 353), (207, .aload_n 0, 1, 0), (208, .getfield 32, 3, 26), (211, .invokevirtual 153, 3, 370), (214, .ireturn, 1, 0), (215, .iconst (-1), 1, 0), (216, .ireturn, 1, 0)]
/-- M_clearsTo -/
def jb_I232 : List (Nat × Instr × Nat × Nat) := [(0, .iload_n 1, 1, 0), (1, .invokestatic 156, 3, 152), (4, .istore_n 3, 1, 0), (5, .aload_n 0, 1, 0), (6, .aload_n 0, 1, 0), (7, .getfield 9, 3, 33), (10, .iload_n 3, 1, 0), (11, .iconst 0, 1, 0), (12, .iadd, 1, 0), (13, .iaload, 1, 0), (14, .aload_n 0, 1, 0), (15, .getfield 9, 3, 33), (18, .iload_n 3, 1, 0), (19, .iconst 1, 1, 0), (20, .iadd, 1, 0), (21, .iaload, 1, 0), (22, .iload_n 2, 1, 0), (23, .invokevirtual 211, 3, 371), (26, .ireturn, 1, 0)]
/-- M_needs -/
def jb_I233 : List (Nat × Instr × Nat × Nat) := [(0, .aload_n 0, 1, 0), (1, .iload_n 1, 1, 0), (2, .invokevirtual 165, 3, 244), (5, .ifCond .eq (11), 3, 0), (8, .aload_n 0, 1, 0), (9, .iload_n 2, 1, 0), (10, .invokevirtual 194, 3, 243), (13, .ifCond .ne (5), 3, 0), (16, .iconst (-1), 1, 0), (17, .ireturn, 1, 0), (18, .bipush (-6), 2, 0), (20, .istore_n 3, 1, 0), (21, .bipush 9, 2, 0), (23, .istore 4, 2, 0), (25, .iload 4, 2, 0), (27, .ifCond .lt (38), 3, 0), (30, .aload_n 0, 1, 0), (31, .aload_n 0, 1, 0), (32, .getfield 9, 3, 33), (35, .iload_n 1, 1, 0), (36, .invokestatic 156, 3, 152), (39, .iconst 0, 1, 0), (40, .iadd, 1, 0), (41, .iaload, 1, 0), (42, .iload 4, 2, 0), (44, .iload_n 2, 1, 0), (45, .invokevirtual 211, 3, 371), (48, .iconst 1, 1, 0), (49, .if_icmp .ne (8), 3, 0), (52, .iload 4, 2, 0), (54, .goto 4, 3, 0), (57, .iload_n 3, 1, 0), (58, .istore_n 3, 1, 0), (59, .iinc 4 (-1), 3, 0), (62, .goto (-37), 3, 0), (65, .iload_n 3, 1, 0), (66, .ireturn, 1, 0)]
/-- M_readsCommand -/
def jb_I234 : List (Nat × Instr × Nat × Nat) := [(0, .iconst 4, 1, 0), (1, .aload_n 0, 1, 0), (2, .getfield 300, 3, 372), (5, .imul, 1, 0), (6, .istore_n 1, 1, 0), (7, .aload_n 0, 1, 0), (8, .invokevirtual 303, 3, 373), (11, .istore_n 2, 1, 0), (12, .aload_n 0, 1, 0), (13, .getfield 50, 3, 46), (16, .iload_n 1, 1, 0), (17, .iload_n 2, 1, 0), (18, .iastore, 1, 0), (19, .aload_n 0, 1, 0), (20, .dup, 1, 0), (21, .getfield 300, 3, 372), (24, .iconst 1, 1, 0), (25, .iadd, 1, 0), (26, .putfield 300, 3, 372), (29, .aload_n 0, 1, 0), (30, .getfield 262, 3, 159), (33, .iconst (-1), 1, 0), (34, .if_icmp .ne (9), 3, 0), (37, .aload_n 0, 1, 0), (38, .iload_n 1, 1, 0), (39, .iload_n 2, 1, 0), (40, .invokevirtual 306, 3, 374), (43, .return_, 1, 0)]
/-- D_word -/
def jb_I235 : List (Nat × Instr × Nat × Nat) := [(0, .aload_n 0, 1, 0), (1, .getfield 16, 3, 320), (4, .aload_n 0, 1, 0), (5, .getfield 10, 3, 191), (8, .invokevirtual 88, 3, 292), (11, .aload_n 0, 1, 0), (12, .aload_n 0, 1, 0), (13, .getfield 10, 3, 191), (16, .getfield 124, 3, 213), (19, .iload_n 1, 1, 0), (20, .aload_n 0, 1, 0), (21, .getfield 55, 3, 93), (24, .aload_n 0, 1, 0), (25, .getfield 32, 3, 26), (28, .invokevirtual 128, 3, 369), (31, .invokevirtual 134, 3, 375), (34, .ireturn, 1, 0)]
/-- D_ring -/
def jb_I236 : List (Nat × Instr × Nat × Nat) := [(0, .aload_n 0, 1, 0), (1, .getfield 16, 3, 320), (4, .aload_n 0, 1, 0), (5, .getfield 10, 3, 191), (8, .invokevirtual 88, 3, 292), (11, .aload_n 0, 1, 0), (12, .aload_n 0, 1, 0), (13, .getfield 10, 3, 191), (16, .aload_n 0, 1, 0), (17, .getfield 55, 3, 93), (20, .aload_n 0, 1, 0), (21, .getfield 32, 3, 26), (24, .invokevirtual 153, 3, 370), (27, .invokevirtual 134, 3, 375), (30, .ireturn, 1, 0)]
/-- D_swimmerOf -/
def jb_I237 : List (Nat × Instr × Nat × Nat) := [(0, .aload_n 0, 1, 0), (1, .getfield 10, 3, 191), (4, .getfield 140, 3, 192), (7, .getfield 189, 3, 193), (10, .iload_n 1, 1, 0), (11, .invokevirtual 160, 3, 127), (14, .ifCond .ne (5), 3, 0), (17, .iconst (-1), 1, 0), (18, .ireturn, 1, 0), (19, .iload_n 2, 1, 0), (20, .tableswitch (74) (0) (3) #[(32), (47), (62), (68)], 32, 0), (52, .aload_n 0, 1, 0), (53, .getfield 10, 3, 191), (56, .getfield 140, 3, 192), (59, .getfield 189, 3, 193), (62, .iload_n 1, 1, 0), (63, .invokevirtual 164, 3, 124), (66, .ireturn, 1, 0), (67, .aload_n 0, 1, 0), (68, .getfield 10, 3, 191), (71, .getfield 140, 3, 192), (74, .getfield 190, 3, 194), (77, .iload_n 1, 1, 0), (78, .invokevirtual 164, 3, 124), (81, .ireturn, 1, 0), (82, .aload_n 0, 1, 0), (83, .iload_n 1, 1, 0), (84, .invokevirtual 193, 3, 376), (87, .ireturn, 1, 0), (88, .aload_n 0, 1, 0), (89, .iload_n 1, 1, 0), (90, .invokevirtual 196, 3, 377), (93, .ireturn, 1, 0), (94, .bipush (-2), 2, 0), (96, .ireturn, 1, 0)]
/-- D_ranked -/
def jb_I238 : List (Nat × Instr × Nat × Nat) := [(0, .aload_n 0, 1, 0), (1, .getfield 77, 3, 125), (4, .invokevirtual 233, 3, 209), (7, .iconst 0, 1, 0), (8, .istore_n 2, 1, 0), (9, .iload_n 2, 1, 0), (10, .aload_n 0, 1, 0), (11, .getfield 10, 3, 191), (14, .getfield 140, 3, 192), (17, .getfield 189, 3, 193), (20, .invokevirtual 120, 3, 96), (23, .if_icmp .ge (48), 3, 0), (26, .iconst 5, 1, 0), (27, .aload_n 0, 1, 0), (28, .iload_n 2, 1, 0), (29, .invokevirtual 196, 3, 377), (32, .isub, 1, 0), (33, .istore_n 3, 1, 0), (34, .aload_n 0, 1, 0), (35, .getfield 77, 3, 125), (38, .iload_n 3, 1, 0), (39, .bipush 10, 2, 0), (41, .imul, 1, 0), (42, .aload_n 0, 1, 0), (43, .getfield 10, 3, 191), (46, .getfield 140, 3, 192), (49, .getfield 190, 3, 194), (52, .iload_n 2, 1, 0), (53, .invokevirtual 164, 3, 124), (56, .iadd, 1, 0), (57, .bipush 10, 2, 0), (59, .imul, 1, 0), (60, .iload_n 2, 1, 0), (61, .iadd, 1, 0), (62, .invokevirtual 117, 3, 95), (65, .iinc 2 1, 3, 0), (68, .goto (-59), 3, 0), (71, .aload_n 0, 1, 0), (72, .iload_n 1, 1, 0), (73, .invokevirtual 239, 3, 212), (76, .ireturn, 1, 0)]
/-- Text_findFault -/
def jb_I239 : List (Nat × Instr × Nat × Nat) := [(0, .aload_n 0, 1, 0), (1, .getfield 20, 3, 75), (4, .invokevirtual 29, 3, 236), (7, .aload_n 0, 1, 0), (8, .getfield 23, 3, 76), (11, .invokevirtual 29, 3, 236), (14, .aload_n 0, 1, 0), (15, .getfield 26, 3, 77), (18, .invokevirtual 29, 3, 236), (21, .iconst 0, 1, 0), (22, .istore_n 1, 1, 0), (23, .iconst 0, 1, 0), (24, .istore_n 2, 1, 0), (25, .iload_n 2, 1, 0), (26, .bipush 60, 2, 0), (28, .if_icmp .ge (97), 3, 0), (31, .aload_n 0, 1, 0), (32, .iload_n 1, 1, 0), (33, .invokevirtual 32, 3, 378), (36, .istore_n 3, 1, 0), (37, .iload_n 3, 1, 0), (38, .iconst (-1), 1, 0), (39, .if_icmp .ne (11), 3, 0), (42, .iload_n 1, 1, 0), (43, .aload_n 0, 1, 0), (44, .iload_n 1, 1, 0), (45, .invokevirtual 36, 3, 379), (48, .iadd, 1, 0), (49, .ireturn, 1, 0), (50, .aload_n 0, 1, 0), (51, .iload_n 3, 1, 0), (52, .iload_n 1, 1, 0), (53, .invokevirtual 39, 3, 380), (56, .istore 4, 2, 0), (58, .aload_n 0, 1, 0), (59, .getfield 20, 3, 75), (62, .iload_n 3, 1, 0), (63, .invokevirtual 43, 3, 237), (66, .aload_n 0, 1, 0), (67, .getfield 23, 3, 76), (70, .iload_n 1, 1, 0), (71, .invokevirtual 43, 3, 237), (74, .aload_n 0, 1, 0), (75, .getfield 26, 3, 77), (78, .iload 4, 2, 0), (80, .invokevirtual 43, 3, 237), (83, .iload 4, 2, 0), (85, .aload_n 0, 1, 0), (86, .getfield 14, 3, 74), (89, .invokevirtual 46, 3, 231), (92, .if_icmp .lt (5), 3, 0), (95, .iconst (-1), 1, 0), (96, .ireturn, 1, 0), (97, .aload_n 0, 1, 0), (98, .getfield 14, 3, 74), (101, .iload 4, 2, 0), (103, .invokevirtual 50, 3, 232), (106, .bipush 59, 2, 0), (108, .if_icmp .eq (6), 3, 0), (111, .iload 4, 2, 0), (113, .ireturn, 1, 0), (114, .iload 4, 2, 0), (116, .iconst 1, 1, 0), (117, .iadd, 1, 0), (118, .istore_n 1, 1, 0), (119, .iinc 2 1, 3, 0), (122, .goto (-97), 3, 0), (125, .iload_n 1, 1, 0), (126, .ireturn, 1, 0)]
/-- D_performAll -/
def jb_I240 : List (Nat × Instr × Nat × Nat) := [(0, .iconst 0, 1, 0), (1, .istore_n 1, 1, 0), (2, .iload_n 1, 1, 0), (3, .aload_n 0, 1, 0), (4, .getfield 46, 3, 128), (7, .getfield 300, 3, 368), (10, .invokevirtual 120, 3, 96), (13, .if_icmp .ge (50), 3, 0), (16, .aload_n 0, 1, 0), (17, .iload_n 1, 1, 0), (18, .invokevirtual 303, 3, 381), (21, .istore_n 2, 1, 0), (22, .iload_n 2, 1, 0), (23, .ifCond .ge (34), 3, 0), (26, .aload_n 0, 1, 0), (27, .getfield 10, 3, 191), (30, .aload_n 0, 1, 0), (31, .getfield 16, 3, 320), (34, .invokevirtual 88, 3, 292), (37, .aload_n 0, 1, 0), (38, .getfield 32, 3, 26), (41, .iload_n 1, 1, 0), (42, .iload_n 2, 1, 0), (43, .bipush (-5), 2, 0), (45, .if_icmp .ne (7), 3, 0), (48, .iconst 1, 1, 0), (49, .goto 4, 3, 0), (52, .iconst 0, 1, 0), (53, .invokevirtual 306, 3, 382), (56, .ireturn, 1, 0), (57, .iinc 1 1, 3, 0), (60, .goto (-58), 3, 0), (63, .aload_n 0, 1, 0), (64, .getfield 46, 3, 128), (67, .getfield 300, 3, 368), (70, .invokevirtual 120, 3, 96), (73, .ireturn, 1, 0)]
/-- M_understands -/
def jb_I241 : List (Nat × Instr × Nat × Nat) := [(0, .aload_n 0, 1, 0), (1, .iload_n 1, 1, 0), (2, .invokevirtual 165, 3, 244), (5, .ifCond .eq (11), 3, 0), (8, .aload_n 0, 1, 0), (9, .iload_n 2, 1, 0), (10, .invokevirtual 194, 3, 243), (13, .ifCond .ne (5), 3, 0), (16, .iconst (-1), 1, 0), (17, .ireturn, 1, 0), (18, .aload_n 0, 1, 0), (19, .iload_n 1, 1, 0), (20, .iload_n 2, 1, 0), (21, .invokevirtual 215, 3, 383), (24, .ireturn, 1, 0)]
/-- M_understood -/
def jb_I242 : List (Nat × Instr × Nat × Nat) := [(0, .iconst 0, 1, 0), (1, .istore_n 2, 1, 0), (2, .iconst 0, 1, 0), (3, .istore_n 3, 1, 0), (4, .iload_n 3, 1, 0), (5, .aload_n 0, 1, 0), (6, .getfield 9, 3, 33), (9, .iconst 2, 1, 0), (10, .iaload, 1, 0), (11, .if_icmp .ge (27), 3, 0), (14, .iload_n 2, 1, 0), (15, .aload_n 0, 1, 0), (16, .iload_n 1, 1, 0), (17, .iload_n 3, 1, 0), (18, .invokevirtual 215, 3, 383), (21, .iconst 1, 1, 0), (22, .if_icmp .ne (7), 3, 0), (25, .iconst 1, 1, 0), (26, .goto 4, 3, 0), (29, .iconst 0, 1, 0), (30, .iadd, 1, 0), (31, .istore_n 2, 1, 0), (32, .iinc 3 1, 3, 0), (35, .goto (-31), 3, 0), (38, .iload_n 2, 1, 0), (39, .ireturn, 1, 0)]
/-- M_readsAll -/
def jb_I243 : List (Nat × Instr × Nat × Nat) := [(0, .aload_n 0, 1, 0), (1, .aload_n 0, 1, 0), (2, .getfield 241, 3, 158), (5, .putfield 259, 3, 53), (8, .aload_n 0, 1, 0), (9, .iconst 0, 1, 0), (10, .putfield 241, 3, 158), (13, .aload_n 0, 1, 0), (14, .iconst 0, 1, 0), (15, .putfield 256, 3, 52), (18, .aload_n 0, 1, 0), (19, .iconst (-1), 1, 0), (20, .putfield 262, 3, 159), (23, .aload_n 0, 1, 0), (24, .iconst 0, 1, 0), (25, .putfield 300, 3, 372), (28, .aload_n 0, 1, 0), (29, .invokevirtual 310, 3, 384), (32, .aload_n 0, 1, 0), (33, .getfield 262, 3, 159), (36, .iconst (-1), 1, 0), (37, .if_icmp .ne (38), 3, 0), (40, .aload_n 0, 1, 0), (41, .getfield 256, 3, 52), (44, .aload_n 0, 1, 0), (45, .getfield 259, 3, 53), (48, .if_icmp .ge (27), 3, 0), (51, .aload_n 0, 1, 0), (52, .bipush 59, 2, 0), (54, .bipush 59, 2, 0), (56, .invokevirtual 268, 3, 253), (59, .istore_n 1, 1, 0), (60, .aload_n 0, 1, 0), (61, .getfield 262, 3, 159), (64, .iconst (-1), 1, 0), (65, .if_icmp .ne (7), 3, 0), (68, .aload_n 0, 1, 0), (69, .invokevirtual 310, 3, 384), (72, .goto (-40), 3, 0), (75, .return_, 1, 0)]
/-- D_read -/
def jb_I244 : List (Nat × Instr × Nat × Nat) := [(0, .aload_n 0, 1, 0), (1, .getfield 46, 3, 128), (4, .invokevirtual 275, 3, 385), (7, .istore_n 1, 1, 0), (8, .iload_n 1, 1, 0), (9, .iconst (-1), 1, 0), (10, .if_icmp .eq (21), 3, 0), (13, .aload_n 0, 1, 0), (14, .iload_n 1, 1, 0), (15, .putfield 84, 3, 25), (18, .aload_n 0, 1, 0), (19, .getfield 46, 3, 128), (22, .getfield 263, 3, 129), (25, .invokevirtual 233, 3, 209), (28, .bipush (-2), 2, 0), (30, .ireturn, 1, 0), (31, .aload_n 0, 1, 0), (32, .getfield 16, 3, 320), (35, .aload_n 0, 1, 0), (36, .getfield 10, 3, 191), (39, .invokevirtual 88, 3, 292), (42, .aload_n 0, 1, 0), (43, .invokevirtual 278, 3, 386), (46, .istore_n 2, 1, 0), (47, .aload_n 0, 1, 0), (48, .getfield 46, 3, 128), (51, .getfield 263, 3, 129), (54, .invokevirtual 233, 3, 209), (57, .aload_n 0, 1, 0), (58, .iload_n 2, 1, 0), (59, .invokevirtual 102, 3, 355), (62, .ireturn, 1, 0)]
/-- M_swimmerOf -/
def jb_I245 : List (Nat × Instr × Nat × Nat) := [(0, .aload_n 0, 1, 0), (1, .iload_n 1, 1, 0), (2, .invokevirtual 165, 3, 244), (5, .ifCond .ne (5), 3, 0), (8, .iconst (-1), 1, 0), (9, .ireturn, 1, 0), (10, .iload_n 2, 1, 0), (11, .tableswitch (53) (0) (3) #[(29), (29), (41), (47)], 29, 0), (40, .aload_n 0, 1, 0), (41, .getfield 9, 3, 33), (44, .iload_n 1, 1, 0), (45, .invokestatic 156, 3, 152), (48, .iload_n 2, 1, 0), (49, .iadd, 1, 0), (50, .iaload, 1, 0), (51, .ireturn, 1, 0), (52, .aload_n 0, 1, 0), (53, .iload_n 1, 1, 0), (54, .invokevirtual 227, 3, 387), (57, .ireturn, 1, 0), (58, .aload_n 0, 1, 0), (59, .iload_n 1, 1, 0), (60, .invokevirtual 230, 3, 388), (63, .ireturn, 1, 0), (64, .bipush (-2), 2, 0), (66, .ireturn, 1, 0)]
/-- M_ranked -/
def jb_I246 : List (Nat × Instr × Nat × Nat) := [(0, .iconst (-1), 1, 0), (1, .istore_n 2, 1, 0), (2, .iconst 0, 1, 0), (3, .istore_n 3, 1, 0), (4, .iload_n 3, 1, 0), (5, .aload_n 0, 1, 0), (6, .getfield 9, 3, 33), (9, .iconst 1, 1, 0), (10, .iaload, 1, 0), (11, .if_icmp .ge (120), 3, 0), (14, .iconst 0, 1, 0), (15, .istore 4, 2, 0), (17, .iconst 0, 1, 0), (18, .istore 5, 2, 0), (20, .iload 5, 2, 0), (22, .aload_n 0, 1, 0), (23, .getfield 9, 3, 33), (26, .iconst 1, 1, 0), (27, .iaload, 1, 0), (28, .if_icmp .ge (85), 3, 0), (31, .aload_n 0, 1, 0), (32, .iload 5, 2, 0), (34, .invokevirtual 230, 3, 388), (37, .aload_n 0, 1, 0), (38, .iload_n 3, 1, 0), (39, .invokevirtual 230, 3, 388), (42, .isub, 1, 0), (43, .istore 6, 2, 0), (45, .aload_n 0, 1, 0), (46, .getfield 9, 3, 33), (49, .iload_n 3, 1, 0), (50, .invokestatic 156, 3, 152), (53, .iconst 1, 1, 0), (54, .iadd, 1, 0), (55, .iaload, 1, 0), (56, .aload_n 0, 1, 0), (57, .getfield 9, 3, 33), (60, .iload 5, 2, 0), (62, .invokestatic 156, 3, 152), (65, .iconst 1, 1, 0), (66, .iadd, 1, 0), (67, .iaload, 1, 0), (68, .isub, 1, 0), (69, .istore 7, 2, 0), (71, .iload 4, 2, 0), (73, .iload 6, 2, 0), (75, .ifCond .gt (24), 3, 0), (78, .iload 6, 2, 0), (80, .ifCond .ne (23), 3, 0), (83, .iload 7, 2, 0), (85, .ifCond .gt (14), 3, 0), (88, .iload 7, 2, 0), (90, .ifCond .ne (13), 3, 0), (93, .iload 5, 2, 0), (95, .iload_n 3, 1, 0), (96, .if_icmp .ge (7), 3, 0), (99, .iconst 1, 1, 0), (100, .goto 4, 3, 0), (103, .iconst 0, 1, 0), (104, .iadd, 1, 0), (105, .istore 4, 2, 0), (107, .iinc 5 1, 3, 0), (110, .goto (-90), 3, 0), (113, .iload 4, 2, 0), (115, .iload_n 1, 1, 0), (116, .if_icmp .ne (7), 3, 0), (119, .iload_n 3, 1, 0), (120, .goto 4, 3, 0), (123, .iload_n 2, 1, 0), (124, .istore_n 2, 1, 0), (125, .iinc 3 1, 3, 0), (128, .goto (-124), 3, 0), (131, .iload_n 2, 1, 0), (132, .ireturn, 1, 0)]
/-- M_read -/
def jb_I247 : List (Nat × Instr × Nat × Nat) := [(0, .aload_n 0, 1, 0), (1, .invokevirtual 316, 3, 389), (4, .aload_n 0, 1, 0), (5, .getfield 262, 3, 159), (8, .iconst (-1), 1, 0), (9, .if_icmp .eq (14), 3, 0), (12, .aload_n 0, 1, 0), (13, .aload_n 0, 1, 0), (14, .getfield 262, 3, 159), (17, .putfield 22, 3, 37), (20, .bipush (-2), 2, 0), (22, .ireturn, 1, 0), (23, .aload_n 0, 1, 0), (24, .invokevirtual 104, 3, 296), (27, .iconst 0, 1, 0), (28, .istore_n 1, 1, 0), (29, .iload_n 1, 1, 0), (30, .aload_n 0, 1, 0), (31, .getfield 300, 3, 372), (34, .if_icmp .ge (68), 3, 0), (37, .aload_n 0, 1, 0), (38, .iconst 4, 1, 0), (39, .iload_n 1, 1, 0), (40, .imul, 1, 0), (41, .invokevirtual 319, 3, 390), (44, .istore_n 2, 1, 0), (45, .iload_n 2, 1, 0), (46, .ifCond .eq (13), 3, 0), (49, .aload_n 0, 1, 0), (50, .iconst 4, 1, 0), (51, .iload_n 1, 1, 0), (52, .imul, 1, 0), (53, .invokevirtual 322, 3, 391), (56, .goto 4, 3, 0), (59, .iconst 0, 1, 0), (60, .istore_n 3, 1, 0), (61, .iload_n 2, 1, 0), (62, .ifCond .eq (10), 3, 0), (65, .aload_n 0, 1, 0), (66, .getfield 53, 3, 47), (69, .ifCond .eq (27), 3, 0), (72, .aload_n 0, 1, 0), (73, .bipush 7, 2, 0), (75, .iload_n 1, 1, 0), (76, .iload_n 2, 1, 0), (77, .ifCond .eq (10), 3, 0), (80, .aload_n 0, 1, 0), (81, .getfield 53, 3, 47), (84, .goto 4, 3, 0), (87, .iconst 0, 1, 0), (88, .aload_n 0, 1, 0), (89, .getfield 56, 3, 48), (92, .invokevirtual 78, 3, 238), (95, .ireturn, 1, 0), (96, .iinc 1 1, 3, 0), (99, .goto (-70), 3, 0), (102, .aload_n 0, 1, 0), (103, .aload_n 0, 1, 0), (104, .getfield 300, 3, 372), (107, .invokevirtual 115, 3, 298), (110, .ireturn, 1, 0)]
def jb_I : List (List (Nat × Instr × Nat × Nat)) := [jb_I0, jb_I1, jb_I2, jb_I3, jb_I4, jb_I5, jb_I6, jb_I7, jb_I8, jb_I9, jb_I10, jb_I11, jb_I12, jb_I13, jb_I14, jb_I15, jb_I16, jb_I17, jb_I18, jb_I19, jb_I20, jb_I21, jb_I22, jb_I23, jb_I24, jb_I25, jb_I26, jb_I27, jb_I28, jb_I29, jb_I30, jb_I31, jb_I32, jb_I33, jb_I34, jb_I35, jb_I36, jb_I37, jb_I38, jb_I39, jb_I40, jb_I41, jb_I42, jb_I43, jb_I44, jb_I45, jb_I46, jb_I47, jb_I48, jb_I49, jb_I50, jb_I51, jb_I52, jb_I53, jb_I54, jb_I55, jb_I56, jb_I57, jb_I58, jb_I59, jb_I60, jb_I61, jb_I62, jb_I63, jb_I64, jb_I65, jb_I66, jb_I67, jb_I68, jb_I69, jb_I70, jb_I71, jb_I72, jb_I73, jb_I74, jb_I75, jb_I76, jb_I77, jb_I78, jb_I79, jb_I80, jb_I81, jb_I82, jb_I83, jb_I84, jb_I85, jb_I86, jb_I87, jb_I88, jb_I89, jb_I90, jb_I91, jb_I92, jb_I93, jb_I94, jb_I95, jb_I96, jb_I97, jb_I98, jb_I99, jb_I100, jb_I101, jb_I102, jb_I103, jb_I104, jb_I105, jb_I106, jb_I107, jb_I108, jb_I109, jb_I110, jb_I111, jb_I112, jb_I113, jb_I114, jb_I115, jb_I116, jb_I117, jb_I118, jb_I119, jb_I120, jb_I121, jb_I122, jb_I123, jb_I124, jb_I125, jb_I126, jb_I127, jb_I128, jb_I129, jb_I130, jb_I131, jb_I132, jb_I133, jb_I134, jb_I135, jb_I136, jb_I137, jb_I138, jb_I139, jb_I140, jb_I141, jb_I142, jb_I143, jb_I144, jb_I145, jb_I146, jb_I147, jb_I148, jb_I149, jb_I150, jb_I151, jb_I152, jb_I153, jb_I154, jb_I155, jb_I156, jb_I157, jb_I158, jb_I159, jb_I160, jb_I161, jb_I162, jb_I163, jb_I164, jb_I165, jb_I166, jb_I167, jb_I168, jb_I169, jb_I170, jb_I171, jb_I172, jb_I173, jb_I174, jb_I175, jb_I176, jb_I177, jb_I178, jb_I179, jb_I180, jb_I181, jb_I182, jb_I183, jb_I184, jb_I185, jb_I186, jb_I187, jb_I188, jb_I189, jb_I190, jb_I191, jb_I192, jb_I193, jb_I194, jb_I195, jb_I196, jb_I197, jb_I198, jb_I199, jb_I200, jb_I201, jb_I202, jb_I203, jb_I204, jb_I205, jb_I206, jb_I207, jb_I208, jb_I209, jb_I210, jb_I211, jb_I212, jb_I213, jb_I214, jb_I215, jb_I216, jb_I217, jb_I218, jb_I219, jb_I220, jb_I221, jb_I222, jb_I223, jb_I224, jb_I225, jb_I226, jb_I227, jb_I228, jb_I229, jb_I230, jb_I231, jb_I232, jb_I233, jb_I234, jb_I235, jb_I236, jb_I237, jb_I238, jb_I239, jb_I240, jb_I241, jb_I242, jb_I243, jb_I244, jb_I245, jb_I246, jb_I247]
end
section
/-! ===== the lists are right: by the kernel, once ===== -/
def jb_me (i : Nat) : jb_Me := jb_M.getD i (⟨"", "", ""⟩, ⟨#[]⟩, 0, none, 0, 0, 0, 0, 0, 0)
abbrev jb_y (i : Nat) : MethodName := (jb_me i).1
abbrev jb_b (i : Nat) : ByteArray := (jb_me i).2.1
abbrev jb_ml (i : Nat) : Nat := (jb_me i).2.2.1
abbrev jb_ret (i : Nat) : Option FieldType := (jb_me i).2.2.2.1
abbrev jb_ow (i : Nat) : Nat := (jb_me i).2.2.2.2.1
abbrev jb_ht (i : Nat) : Nat := (jb_me i).2.2.2.2.2.1
abbrev jb_p1 (i : Nat) : Nat := (jb_me i).2.2.2.2.2.2.1
abbrev jb_p2 (i : Nat) : Nat := (jb_me i).2.2.2.2.2.2.2.1
abbrev jb_p3 (i : Nat) : Nat := (jb_me i).2.2.2.2.2.2.2.2.1
abbrev jb_p4 (i : Nat) : Nat := (jb_me i).2.2.2.2.2.2.2.2.2
def jb_W : List Cond := lw_tbl.filter goodWord
theorem jb_inW {p : Nat} {w : Cond} (h : lw_tbl[p]? = some w) (hg : goodWord w = true) : w ∈ jb_W := List.mem_filter.mpr ⟨List.mem_of_getElem? h, hg⟩
/-- a method's own words stand in the table -/
def jb_okM (i : Nat) : Bool := decide (lw_tbl[jb_p2 i]? = some (.initialized (jb_y i).cls)) && decide ((jb_y i).cls = jb_O (jb_ow i)) && plainName (jb_y i).cls && decide ((jb_y i).cls ≠ "java/lang/invoke/MethodHandle" ∧ (jb_y i).cls ≠ "java/lang/invoke/VarHandle") && decide (jb_ml i ≤ 8)
set_option maxRecDepth 100000 in
theorem jb_okM_all : (List.range 248).all jb_okM = true := by decide +kernel

/-- a link's words stand in the table -/
def jb_okL (q : Nat × Nat × Nat × Nat × Nat × Nat) : Bool := match q with
  | (o, x, k, a, b, p) => match k with
    | 0 => decide (a < 12) && decide (b < jb_N a) && decide (lw_tbl[p]? = some (.fieldLink (jb_O o) x (jb_T a b).1 (jb_T a b).2.1 (jb_T a b).2.2.1)) && decide ((jb_T a b).1 = jb_O a)
    | 1 => decide (a < 12) && decide (b < jb_N a) && decide (lw_tbl[p]? = some (.fieldLinkNest (jb_O o) x (jb_T a b).1 (jb_T a b).2.1 (jb_T a b).2.2.1 "DrownedBells")) && decide ((jb_T a b).1 = jb_O a)
    | 2 => decide (a < 248) && decide (lw_tbl[p]? = some (.methodLink (jb_O o) x (jb_y a))) && decide (lw_tbl[jb_p3 a]? = some (.instanceMethod (jb_y a))) && decide (lw_tbl[jb_p4 a]? = some (.selects (jb_y a).cls (jb_y a) (jb_y a))) && decide ((parseMethodDescriptor (jb_y a).desc).map (fun d => d.parameters.length) = some b)
    | 3 => decide (a < 248) && decide (lw_tbl[p]? = some (.methodLinkNest (jb_O o) x (jb_y a) "DrownedBells")) && decide (lw_tbl[jb_p3 a]? = some (.instanceMethod (jb_y a))) && decide (lw_tbl[jb_p4 a]? = some (.selects (jb_y a).cls (jb_y a) (jb_y a))) && decide ((parseMethodDescriptor (jb_y a).desc).map (fun d => d.parameters.length) = some b)
    | 4 => decide (a < 248) && decide (lw_tbl[p]? = some (.methodLink (jb_O o) x (jb_y a))) && decide (lw_tbl[jb_p3 a]? = some (.static (jb_y a))) && decide ((parseMethodDescriptor (jb_y a).desc).map (fun d => d.parameters.length) = some b)
    | 5 => decide (a < 248) && decide (lw_tbl[p]? = some (.methodLinkNest (jb_O o) x (jb_y a) "DrownedBells")) && decide (lw_tbl[jb_p3 a]? = some (.static (jb_y a))) && decide ((parseMethodDescriptor (jb_y a).desc).map (fun d => d.parameters.length) = some b)
    | 6 => decide (a < 248) && decide (lw_tbl[p]? = some (.methodLink (jb_O o) x (jb_y a))) && decide (lw_tbl[jb_p3 a]? = some (.instanceMethod (jb_y a))) && decide ((jb_y a).name = "<init>") && decide (jb_ret a = none) && decide ((parseMethodDescriptor (jb_y a).desc).map (fun d => d.parameters.length) = some b)
    | 7 => decide (a < 248) && decide (lw_tbl[p]? = some (.methodLinkNest (jb_O o) x (jb_y a) "DrownedBells")) && decide (lw_tbl[jb_p3 a]? = some (.instanceMethod (jb_y a))) && decide ((jb_y a).name = "<init>") && decide (jb_ret a = none) && decide ((parseMethodDescriptor (jb_y a).desc).map (fun d => d.parameters.length) = some b)
    | 8 => decide (lw_tbl[p]? = some (.methodLink (jb_O o) x Lib.objectInit))
    | 9 => decide (a < 12) && decide (lw_tbl[p]? = some (.classLink (jb_O o) x (jb_O a)))
    | 10 => decide (a = 9) && decide (lw_tbl[p]? = some (.classLink (jb_O o) x (jb_O a)))
    | 11 => decide (a < 10) && decide (lw_tbl[p]? = some (.stringRef (jb_O o) x (jb_S.getD a "")))
    | 12 => decide (a < 18446744073709551616) && decide (lw_tbl[p]? = some (.constantDouble (jb_O o) x (UInt64.ofNat a)))
    | 13 => if a = 0 then decide (lw_tbl[p]? = some (.fieldLink (jb_O o) x "java/lang/String" "COMPACT_STRINGS" "Z")) else decide (lw_tbl[p]? = some (.fieldLink (jb_O o) x "jdk/internal/util/Preconditions" "SIOOBE_FORMATTER" "Ljava/util/function/BiFunction;"))
    | 14 => if a = 0 then decide (lw_tbl[p]? = some (.fieldLink (jb_O o) x "java/lang/String" "value" "[B")) else decide (lw_tbl[p]? = some (.fieldLink (jb_O o) x "java/lang/String" "coder" "B"))
    | 15 => decide (a < 3) && decide (lw_tbl[p]? = some (.methodLink (jb_O o) x (if a = 0 then Lib.Math.max.name else if a = 1 then Lib.Math.min.name else Lib.Math.abs.name)))
    | _ => false
set_option maxRecDepth 100000 in
theorem jb_okL_all : jb_L.all jb_okL = true := by decide +kernel
/-- a link of the right kind for an instruction -/
def jb_lk (ins : Instr) (x k : Nat) : Bool := match ins with
  | .getfield y => decide (x = y ∧ (k = 0 ∨ k = 1 ∨ k = 14))
  | .putfield y => decide (x = y ∧ (k = 0 ∨ k = 1))
  | .invokevirtual y => decide (x = y ∧ (k = 2 ∨ k = 3))
  | .invokestatic y => decide (x = y ∧ (k = 4 ∨ k = 5 ∨ k = 15))
  | .invokespecial y => decide (x = y ∧ (k = 6 ∨ k = 7 ∨ k = 8))
  | .new y => decide (x = y ∧ k = 9)
  | .anewarray y => decide (x = y ∧ k = 10)
  | .ldc y => decide (x = y ∧ k = 11)
  | .ldc_w y => decide (x = y ∧ k = 11)
  | .ldc2_w y => decide (x = y ∧ k = 12)
  | .getstatic y => decide (x = y ∧ k = 13)
  | _ => false
/-- an instruction's bytes are what the list says; its link is of the method's own class -/
def jb_okI (i : Nat) (e : Nat × Instr × Nat × Nat) : Bool := decide (decode (jb_b i) e.1 = .ok (e.2.1, e.2.2.1)) && (e.2.2.2 == 0 || ((jb_L[e.2.2.2 - 1]?).map (fun q => decide (q.1 = jb_ow i) && jb_lk e.2.1 q.2.1 q.2.2.1)).getD false)
def jb_okIs (i : Nat) : Bool := (jb_I.getD i []).all (jb_okI i)
/-- the classes' words -/
def jb_okC (c : Nat) : Bool := (List.range (jb_N c)).all (fun k => decide (u_lay (jb_O c) (jb_T c) k ∈ jb_W) && decide (parseFieldDescriptor (jb_T c k).2.2.1 = some (jb_Ty c k)) && (List.range (jb_N c)).all (fun j => decide (j = k) || decide ((jb_T c j).2.1 ≠ (jb_T c k).2.1))) && decide (Cond.instantiable (jb_O c) (jb_N c) ∈ jb_W) && decide (Cond.initialized (jb_O c) ∈ jb_W)
set_option maxRecDepth 100000 in
theorem jb_okC_all : (List.range 12).all jb_okC = true := by decide +kernel
end
section
/-! ===== the methods' code words, by their places ===== -/
set_option maxRecDepth 100000 in
theorem jb_cw0 : lw_tbl[113]? = some (.code (jb_y 0) (jb_b 0) (jb_ml 0) (jb_ret 0)) := rfl
set_option maxRecDepth 100000 in
theorem jb_cw1 : lw_tbl[133]? = some (.code (jb_y 1) (jb_b 1) (jb_ml 1) (jb_ret 1)) := rfl
set_option maxRecDepth 100000 in
theorem jb_cw2 : lw_tbl[257]? = some (.code (jb_y 2) (jb_b 2) (jb_ml 2) (jb_ret 2)) := rfl
set_option maxRecDepth 100000 in
theorem jb_cw3 : lw_tbl[384]? = some (.code (jb_y 3) (jb_b 3) (jb_ml 3) (jb_ret 3)) := rfl
set_option maxRecDepth 100000 in
theorem jb_cw4 : lw_tbl[407]? = some (.code (jb_y 4) (jb_b 4) (jb_ml 4) (jb_ret 4)) := rfl
set_option maxRecDepth 100000 in
theorem jb_cw5 : lw_tbl[410]? = some (.code (jb_y 5) (jb_b 5) (jb_ml 5) (jb_ret 5)) := rfl
set_option maxRecDepth 100000 in
theorem jb_cw6 : lw_tbl[414]? = some (.code (jb_y 6) (jb_b 6) (jb_ml 6) (jb_ret 6)) := rfl
set_option maxRecDepth 100000 in
theorem jb_cw7 : lw_tbl[418]? = some (.code (jb_y 7) (jb_b 7) (jb_ml 7) (jb_ret 7)) := rfl
set_option maxRecDepth 100000 in
theorem jb_cw8 : lw_tbl[422]? = some (.code (jb_y 8) (jb_b 8) (jb_ml 8) (jb_ret 8)) := rfl
set_option maxRecDepth 100000 in
theorem jb_cw9 : lw_tbl[434]? = some (.code (jb_y 9) (jb_b 9) (jb_ml 9) (jb_ret 9)) := rfl
set_option maxRecDepth 100000 in
theorem jb_cw10 : lw_tbl[450]? = some (.code (jb_y 10) (jb_b 10) (jb_ml 10) (jb_ret 10)) := rfl
set_option maxRecDepth 100000 in
theorem jb_cw11 : lw_tbl[454]? = some (.code (jb_y 11) (jb_b 11) (jb_ml 11) (jb_ret 11)) := rfl
set_option maxRecDepth 100000 in
theorem jb_cw12 : lw_tbl[459]? = some (.code (jb_y 12) (jb_b 12) (jb_ml 12) (jb_ret 12)) := rfl
set_option maxRecDepth 100000 in
theorem jb_cw13 : lw_tbl[488]? = some (.code (jb_y 13) (jb_b 13) (jb_ml 13) (jb_ret 13)) := rfl
set_option maxRecDepth 100000 in
theorem jb_cw14 : lw_tbl[607]? = some (.code (jb_y 14) (jb_b 14) (jb_ml 14) (jb_ret 14)) := rfl
set_option maxRecDepth 100000 in
theorem jb_cw15 : lw_tbl[657]? = some (.code (jb_y 15) (jb_b 15) (jb_ml 15) (jb_ret 15)) := rfl
set_option maxRecDepth 100000 in
theorem jb_cw16 : lw_tbl[666]? = some (.code (jb_y 16) (jb_b 16) (jb_ml 16) (jb_ret 16)) := rfl
set_option maxRecDepth 100000 in
theorem jb_cw17 : lw_tbl[680]? = some (.code (jb_y 17) (jb_b 17) (jb_ml 17) (jb_ret 17)) := rfl
set_option maxRecDepth 100000 in
theorem jb_cw18 : lw_tbl[796]? = some (.code (jb_y 18) (jb_b 18) (jb_ml 18) (jb_ret 18)) := rfl
set_option maxRecDepth 100000 in
theorem jb_cw19 : lw_tbl[799]? = some (.code (jb_y 19) (jb_b 19) (jb_ml 19) (jb_ret 19)) := rfl
set_option maxRecDepth 100000 in
theorem jb_cw20 : lw_tbl[832]? = some (.code (jb_y 20) (jb_b 20) (jb_ml 20) (jb_ret 20)) := rfl
set_option maxRecDepth 100000 in
theorem jb_cw21 : lw_tbl[849]? = some (.code (jb_y 21) (jb_b 21) (jb_ml 21) (jb_ret 21)) := rfl
set_option maxRecDepth 100000 in
theorem jb_cw22 : lw_tbl[859]? = some (.code (jb_y 22) (jb_b 22) (jb_ml 22) (jb_ret 22)) := rfl
set_option maxRecDepth 100000 in
theorem jb_cw23 : lw_tbl[870]? = some (.code (jb_y 23) (jb_b 23) (jb_ml 23) (jb_ret 23)) := rfl
set_option maxRecDepth 100000 in
theorem jb_cw24 : lw_tbl[897]? = some (.code (jb_y 24) (jb_b 24) (jb_ml 24) (jb_ret 24)) := rfl
set_option maxRecDepth 100000 in
theorem jb_cw25 : lw_tbl[935]? = some (.code (jb_y 25) (jb_b 25) (jb_ml 25) (jb_ret 25)) := rfl
set_option maxRecDepth 100000 in
theorem jb_cw26 : lw_tbl[940]? = some (.code (jb_y 26) (jb_b 26) (jb_ml 26) (jb_ret 26)) := rfl
set_option maxRecDepth 100000 in
theorem jb_cw27 : lw_tbl[989]? = some (.code (jb_y 27) (jb_b 27) (jb_ml 27) (jb_ret 27)) := rfl
set_option maxRecDepth 100000 in
theorem jb_cw28 : lw_tbl[993]? = some (.code (jb_y 28) (jb_b 28) (jb_ml 28) (jb_ret 28)) := rfl
set_option maxRecDepth 100000 in
theorem jb_cw29 : lw_tbl[1013]? = some (.code (jb_y 29) (jb_b 29) (jb_ml 29) (jb_ret 29)) := rfl
set_option maxRecDepth 100000 in
theorem jb_cw30 : lw_tbl[1018]? = some (.code (jb_y 30) (jb_b 30) (jb_ml 30) (jb_ret 30)) := rfl
set_option maxRecDepth 100000 in
theorem jb_cw31 : lw_tbl[1120]? = some (.code (jb_y 31) (jb_b 31) (jb_ml 31) (jb_ret 31)) := rfl
set_option maxRecDepth 100000 in
theorem jb_cw32 : lw_tbl[1127]? = some (.code (jb_y 32) (jb_b 32) (jb_ml 32) (jb_ret 32)) := rfl
set_option maxRecDepth 100000 in
theorem jb_cw33 : lw_tbl[1152]? = some (.code (jb_y 33) (jb_b 33) (jb_ml 33) (jb_ret 33)) := rfl
set_option maxRecDepth 100000 in
theorem jb_cw34 : lw_tbl[1160]? = some (.code (jb_y 34) (jb_b 34) (jb_ml 34) (jb_ret 34)) := rfl
set_option maxRecDepth 100000 in
theorem jb_cw35 : lw_tbl[1195]? = some (.code (jb_y 35) (jb_b 35) (jb_ml 35) (jb_ret 35)) := rfl
set_option maxRecDepth 100000 in
theorem jb_cw36 : lw_tbl[1206]? = some (.code (jb_y 36) (jb_b 36) (jb_ml 36) (jb_ret 36)) := rfl
set_option maxRecDepth 100000 in
theorem jb_cw37 : lw_tbl[1236]? = some (.code (jb_y 37) (jb_b 37) (jb_ml 37) (jb_ret 37)) := rfl
set_option maxRecDepth 100000 in
theorem jb_cw38 : lw_tbl[1264]? = some (.code (jb_y 38) (jb_b 38) (jb_ml 38) (jb_ret 38)) := rfl
set_option maxRecDepth 100000 in
theorem jb_cw39 : lw_tbl[1280]? = some (.code (jb_y 39) (jb_b 39) (jb_ml 39) (jb_ret 39)) := rfl
set_option maxRecDepth 100000 in
theorem jb_cw40 : lw_tbl[1287]? = some (.code (jb_y 40) (jb_b 40) (jb_ml 40) (jb_ret 40)) := rfl
set_option maxRecDepth 100000 in
theorem jb_cw41 : lw_tbl[1291]? = some (.code (jb_y 41) (jb_b 41) (jb_ml 41) (jb_ret 41)) := rfl
set_option maxRecDepth 100000 in
theorem jb_cw42 : lw_tbl[1396]? = some (.code (jb_y 42) (jb_b 42) (jb_ml 42) (jb_ret 42)) := rfl
set_option maxRecDepth 100000 in
theorem jb_cw43 : lw_tbl[1425]? = some (.code (jb_y 43) (jb_b 43) (jb_ml 43) (jb_ret 43)) := rfl
set_option maxRecDepth 100000 in
theorem jb_cw44 : lw_tbl[1445]? = some (.code (jb_y 44) (jb_b 44) (jb_ml 44) (jb_ret 44)) := rfl
set_option maxRecDepth 100000 in
theorem jb_cw45 : lw_tbl[1464]? = some (.code (jb_y 45) (jb_b 45) (jb_ml 45) (jb_ret 45)) := rfl
set_option maxRecDepth 100000 in
theorem jb_cw46 : lw_tbl[1479]? = some (.code (jb_y 46) (jb_b 46) (jb_ml 46) (jb_ret 46)) := rfl
set_option maxRecDepth 100000 in
theorem jb_cw47 : lw_tbl[1511]? = some (.code (jb_y 47) (jb_b 47) (jb_ml 47) (jb_ret 47)) := rfl
set_option maxRecDepth 100000 in
theorem jb_cw48 : lw_tbl[129]? = some (.code (jb_y 48) (jb_b 48) (jb_ml 48) (jb_ret 48)) := rfl
set_option maxRecDepth 100000 in
theorem jb_cw49 : lw_tbl[151]? = some (.code (jb_y 49) (jb_b 49) (jb_ml 49) (jb_ret 49)) := rfl
set_option maxRecDepth 100000 in
theorem jb_cw50 : lw_tbl[174]? = some (.code (jb_y 50) (jb_b 50) (jb_ml 50) (jb_ret 50)) := rfl
set_option maxRecDepth 100000 in
theorem jb_cw51 : lw_tbl[280]? = some (.code (jb_y 51) (jb_b 51) (jb_ml 51) (jb_ret 51)) := rfl
set_option maxRecDepth 100000 in
theorem jb_cw52 : lw_tbl[296]? = some (.code (jb_y 52) (jb_b 52) (jb_ml 52) (jb_ret 52)) := rfl
set_option maxRecDepth 100000 in
theorem jb_cw53 : lw_tbl[380]? = some (.code (jb_y 53) (jb_b 53) (jb_ml 53) (jb_ret 53)) := rfl
set_option maxRecDepth 100000 in
theorem jb_cw54 : lw_tbl[388]? = some (.code (jb_y 54) (jb_b 54) (jb_ml 54) (jb_ret 54)) := rfl
set_option maxRecDepth 100000 in
theorem jb_cw55 : lw_tbl[393]? = some (.code (jb_y 55) (jb_b 55) (jb_ml 55) (jb_ret 55)) := rfl
set_option maxRecDepth 100000 in
theorem jb_cw56 : lw_tbl[398]? = some (.code (jb_y 56) (jb_b 56) (jb_ml 56) (jb_ret 56)) := rfl
set_option maxRecDepth 100000 in
theorem jb_cw57 : lw_tbl[403]? = some (.code (jb_y 57) (jb_b 57) (jb_ml 57) (jb_ret 57)) := rfl
set_option maxRecDepth 100000 in
theorem jb_cw58 : lw_tbl[443]? = some (.code (jb_y 58) (jb_b 58) (jb_ml 58) (jb_ret 58)) := rfl
set_option maxRecDepth 100000 in
theorem jb_cw59 : lw_tbl[447]? = some (.code (jb_y 59) (jb_b 59) (jb_ml 59) (jb_ret 59)) := rfl
set_option maxRecDepth 100000 in
theorem jb_cw60 : lw_tbl[473]? = some (.code (jb_y 60) (jb_b 60) (jb_ml 60) (jb_ret 60)) := rfl
set_option maxRecDepth 100000 in
theorem jb_cw61 : lw_tbl[478]? = some (.code (jb_y 61) (jb_b 61) (jb_ml 61) (jb_ret 61)) := rfl
set_option maxRecDepth 100000 in
theorem jb_cw62 : lw_tbl[500]? = some (.code (jb_y 62) (jb_b 62) (jb_ml 62) (jb_ret 62)) := rfl
set_option maxRecDepth 100000 in
theorem jb_cw63 : lw_tbl[511]? = some (.code (jb_y 63) (jb_b 63) (jb_ml 63) (jb_ret 63)) := rfl
set_option maxRecDepth 100000 in
theorem jb_cw64 : lw_tbl[524]? = some (.code (jb_y 64) (jb_b 64) (jb_ml 64) (jb_ret 64)) := rfl
set_option maxRecDepth 100000 in
theorem jb_cw65 : lw_tbl[555]? = some (.code (jb_y 65) (jb_b 65) (jb_ml 65) (jb_ret 65)) := rfl
set_option maxRecDepth 100000 in
theorem jb_cw66 : lw_tbl[563]? = some (.code (jb_y 66) (jb_b 66) (jb_ml 66) (jb_ret 66)) := rfl
set_option maxRecDepth 100000 in
theorem jb_cw67 : lw_tbl[575]? = some (.code (jb_y 67) (jb_b 67) (jb_ml 67) (jb_ret 67)) := rfl
set_option maxRecDepth 100000 in
theorem jb_cw68 : lw_tbl[589]? = some (.code (jb_y 68) (jb_b 68) (jb_ml 68) (jb_ret 68)) := rfl
set_option maxRecDepth 100000 in
theorem jb_cw69 : lw_tbl[604]? = some (.code (jb_y 69) (jb_b 69) (jb_ml 69) (jb_ret 69)) := rfl
set_option maxRecDepth 100000 in
theorem jb_cw70 : lw_tbl[637]? = some (.code (jb_y 70) (jb_b 70) (jb_ml 70) (jb_ret 70)) := rfl
set_option maxRecDepth 100000 in
theorem jb_cw71 : lw_tbl[652]? = some (.code (jb_y 71) (jb_b 71) (jb_ml 71) (jb_ret 71)) := rfl
set_option maxRecDepth 100000 in
theorem jb_cw72 : lw_tbl[662]? = some (.code (jb_y 72) (jb_b 72) (jb_ml 72) (jb_ret 72)) := rfl
set_option maxRecDepth 100000 in
theorem jb_cw73 : lw_tbl[673]? = some (.code (jb_y 73) (jb_b 73) (jb_ml 73) (jb_ret 73)) := rfl
set_option maxRecDepth 100000 in
theorem jb_cw74 : lw_tbl[677]? = some (.code (jb_y 74) (jb_b 74) (jb_ml 74) (jb_ret 74)) := rfl
set_option maxRecDepth 100000 in
theorem jb_cw75 : lw_tbl[690]? = some (.code (jb_y 75) (jb_b 75) (jb_ml 75) (jb_ret 75)) := rfl
set_option maxRecDepth 100000 in
theorem jb_cw76 : lw_tbl[698]? = some (.code (jb_y 76) (jb_b 76) (jb_ml 76) (jb_ret 76)) := rfl
set_option maxRecDepth 100000 in
theorem jb_cw77 : lw_tbl[748]? = some (.code (jb_y 77) (jb_b 77) (jb_ml 77) (jb_ret 77)) := rfl
set_option maxRecDepth 100000 in
theorem jb_cw78 : lw_tbl[756]? = some (.code (jb_y 78) (jb_b 78) (jb_ml 78) (jb_ret 78)) := rfl
set_option maxRecDepth 100000 in
theorem jb_cw79 : lw_tbl[776]? = some (.code (jb_y 79) (jb_b 79) (jb_ml 79) (jb_ret 79)) := rfl
set_option maxRecDepth 100000 in
theorem jb_cw80 : lw_tbl[808]? = some (.code (jb_y 80) (jb_b 80) (jb_ml 80) (jb_ret 80)) := rfl
set_option maxRecDepth 100000 in
theorem jb_cw81 : lw_tbl[812]? = some (.code (jb_y 81) (jb_b 81) (jb_ml 81) (jb_ret 81)) := rfl
set_option maxRecDepth 100000 in
theorem jb_cw82 : lw_tbl[845]? = some (.code (jb_y 82) (jb_b 82) (jb_ml 82) (jb_ret 82)) := rfl
set_option maxRecDepth 100000 in
theorem jb_cw83 : lw_tbl[865]? = some (.code (jb_y 83) (jb_b 83) (jb_ml 83) (jb_ret 83)) := rfl
set_option maxRecDepth 100000 in
theorem jb_cw84 : lw_tbl[893]? = some (.code (jb_y 84) (jb_b 84) (jb_ml 84) (jb_ret 84)) := rfl
set_option maxRecDepth 100000 in
theorem jb_cw85 : lw_tbl[932]? = some (.code (jb_y 85) (jb_b 85) (jb_ml 85) (jb_ret 85)) := rfl
set_option maxRecDepth 100000 in
theorem jb_cw86 : lw_tbl[983]? = some (.code (jb_y 86) (jb_b 86) (jb_ml 86) (jb_ret 86)) := rfl
set_option maxRecDepth 100000 in
theorem jb_cw87 : lw_tbl[1117]? = some (.code (jb_y 87) (jb_b 87) (jb_ml 87) (jb_ret 87)) := rfl
set_option maxRecDepth 100000 in
theorem jb_cw88 : lw_tbl[1124]? = some (.code (jb_y 88) (jb_b 88) (jb_ml 88) (jb_ret 88)) := rfl
set_option maxRecDepth 100000 in
theorem jb_cw89 : lw_tbl[1131]? = some (.code (jb_y 89) (jb_b 89) (jb_ml 89) (jb_ret 89)) := rfl
set_option maxRecDepth 100000 in
theorem jb_cw90 : lw_tbl[1135]? = some (.code (jb_y 90) (jb_b 90) (jb_ml 90) (jb_ret 90)) := rfl
set_option maxRecDepth 100000 in
theorem jb_cw91 : lw_tbl[1142]? = some (.code (jb_y 91) (jb_b 91) (jb_ml 91) (jb_ret 91)) := rfl
set_option maxRecDepth 100000 in
theorem jb_cw92 : lw_tbl[1145]? = some (.code (jb_y 92) (jb_b 92) (jb_ml 92) (jb_ret 92)) := rfl
set_option maxRecDepth 100000 in
theorem jb_cw93 : lw_tbl[1149]? = some (.code (jb_y 93) (jb_b 93) (jb_ml 93) (jb_ret 93)) := rfl
set_option maxRecDepth 100000 in
theorem jb_cw94 : lw_tbl[1156]? = some (.code (jb_y 94) (jb_b 94) (jb_ml 94) (jb_ret 94)) := rfl
set_option maxRecDepth 100000 in
theorem jb_cw95 : lw_tbl[1168]? = some (.code (jb_y 95) (jb_b 95) (jb_ml 95) (jb_ret 95)) := rfl
set_option maxRecDepth 100000 in
theorem jb_cw96 : lw_tbl[1172]? = some (.code (jb_y 96) (jb_b 96) (jb_ml 96) (jb_ret 96)) := rfl
set_option maxRecDepth 100000 in
theorem jb_cw97 : lw_tbl[1180]? = some (.code (jb_y 97) (jb_b 97) (jb_ml 97) (jb_ret 97)) := rfl
set_option maxRecDepth 100000 in
theorem jb_cw98 : lw_tbl[1184]? = some (.code (jb_y 98) (jb_b 98) (jb_ml 98) (jb_ret 98)) := rfl
set_option maxRecDepth 100000 in
theorem jb_cw99 : lw_tbl[1191]? = some (.code (jb_y 99) (jb_b 99) (jb_ml 99) (jb_ret 99)) := rfl
set_option maxRecDepth 100000 in
theorem jb_cw100 : lw_tbl[1210]? = some (.code (jb_y 100) (jb_b 100) (jb_ml 100) (jb_ret 100)) := rfl
set_option maxRecDepth 100000 in
theorem jb_cw101 : lw_tbl[1218]? = some (.code (jb_y 101) (jb_b 101) (jb_ml 101) (jb_ret 101)) := rfl
set_option maxRecDepth 100000 in
theorem jb_cw102 : lw_tbl[1222]? = some (.code (jb_y 102) (jb_b 102) (jb_ml 102) (jb_ret 102)) := rfl
set_option maxRecDepth 100000 in
theorem jb_cw103 : lw_tbl[1229]? = some (.code (jb_y 103) (jb_b 103) (jb_ml 103) (jb_ret 103)) := rfl
set_option maxRecDepth 100000 in
theorem jb_cw104 : lw_tbl[1233]? = some (.code (jb_y 104) (jb_b 104) (jb_ml 104) (jb_ret 104)) := rfl
set_option maxRecDepth 100000 in
theorem jb_cw105 : lw_tbl[1244]? = some (.code (jb_y 105) (jb_b 105) (jb_ml 105) (jb_ret 105)) := rfl
set_option maxRecDepth 100000 in
theorem jb_cw106 : lw_tbl[1252]? = some (.code (jb_y 106) (jb_b 106) (jb_ml 106) (jb_ret 106)) := rfl
set_option maxRecDepth 100000 in
theorem jb_cw107 : lw_tbl[1260]? = some (.code (jb_y 107) (jb_b 107) (jb_ml 107) (jb_ret 107)) := rfl
set_option maxRecDepth 100000 in
theorem jb_cw108 : lw_tbl[1273]? = some (.code (jb_y 108) (jb_b 108) (jb_ml 108) (jb_ret 108)) := rfl
set_option maxRecDepth 100000 in
theorem jb_cw109 : lw_tbl[1277]? = some (.code (jb_y 109) (jb_b 109) (jb_ml 109) (jb_ret 109)) := rfl
set_option maxRecDepth 100000 in
theorem jb_cw110 : lw_tbl[1323]? = some (.code (jb_y 110) (jb_b 110) (jb_ml 110) (jb_ret 110)) := rfl
set_option maxRecDepth 100000 in
theorem jb_cw111 : lw_tbl[1360]? = some (.code (jb_y 111) (jb_b 111) (jb_ml 111) (jb_ret 111)) := rfl
set_option maxRecDepth 100000 in
theorem jb_cw112 : lw_tbl[1384]? = some (.code (jb_y 112) (jb_b 112) (jb_ml 112) (jb_ret 112)) := rfl
set_option maxRecDepth 100000 in
theorem jb_cw113 : lw_tbl[1392]? = some (.code (jb_y 113) (jb_b 113) (jb_ml 113) (jb_ret 113)) := rfl
set_option maxRecDepth 100000 in
theorem jb_cw114 : lw_tbl[1404]? = some (.code (jb_y 114) (jb_b 114) (jb_ml 114) (jb_ret 114)) := rfl
set_option maxRecDepth 100000 in
theorem jb_cw115 : lw_tbl[1421]? = some (.code (jb_y 115) (jb_b 115) (jb_ml 115) (jb_ret 115)) := rfl
set_option maxRecDepth 100000 in
theorem jb_cw116 : lw_tbl[1429]? = some (.code (jb_y 116) (jb_b 116) (jb_ml 116) (jb_ret 116)) := rfl
set_option maxRecDepth 100000 in
theorem jb_cw117 : lw_tbl[1437]? = some (.code (jb_y 117) (jb_b 117) (jb_ml 117) (jb_ret 117)) := rfl
set_option maxRecDepth 100000 in
theorem jb_cw118 : lw_tbl[1441]? = some (.code (jb_y 118) (jb_b 118) (jb_ml 118) (jb_ret 118)) := rfl
set_option maxRecDepth 100000 in
theorem jb_cw119 : lw_tbl[1475]? = some (.code (jb_y 119) (jb_b 119) (jb_ml 119) (jb_ret 119)) := rfl
set_option maxRecDepth 100000 in
theorem jb_cw120 : lw_tbl[1499]? = some (.code (jb_y 120) (jb_b 120) (jb_ml 120) (jb_ret 120)) := rfl
set_option maxRecDepth 100000 in
theorem jb_cw121 : lw_tbl[107]? = some (.code (jb_y 121) (jb_b 121) (jb_ml 121) (jb_ret 121)) := rfl
set_option maxRecDepth 100000 in
theorem jb_cw122 : lw_tbl[191]? = some (.code (jb_y 122) (jb_b 122) (jb_ml 122) (jb_ret 122)) := rfl
set_option maxRecDepth 100000 in
theorem jb_cw123 : lw_tbl[376]? = some (.code (jb_y 123) (jb_b 123) (jb_ml 123) (jb_ret 123)) := rfl
set_option maxRecDepth 100000 in
theorem jb_cw124 : lw_tbl[467]? = some (.code (jb_y 124) (jb_b 124) (jb_ml 124) (jb_ret 124)) := rfl
set_option maxRecDepth 100000 in
theorem jb_cw125 : lw_tbl[496]? = some (.code (jb_y 125) (jb_b 125) (jb_ml 125) (jb_ret 125)) := rfl
set_option maxRecDepth 100000 in
theorem jb_cw126 : lw_tbl[535]? = some (.code (jb_y 126) (jb_b 126) (jb_ml 126) (jb_ret 126)) := rfl
set_option maxRecDepth 100000 in
theorem jb_cw127 : lw_tbl[550]? = some (.code (jb_y 127) (jb_b 127) (jb_ml 127) (jb_ret 127)) := rfl
set_option maxRecDepth 100000 in
theorem jb_cw128 : lw_tbl[559]? = some (.code (jb_y 128) (jb_b 128) (jb_ml 128) (jb_ret 128)) := rfl
set_option maxRecDepth 100000 in
theorem jb_cw129 : lw_tbl[571]? = some (.code (jb_y 129) (jb_b 129) (jb_ml 129) (jb_ret 129)) := rfl
set_option maxRecDepth 100000 in
theorem jb_cw130 : lw_tbl[585]? = some (.code (jb_y 130) (jb_b 130) (jb_ml 130) (jb_ret 130)) := rfl
set_option maxRecDepth 100000 in
theorem jb_cw131 : lw_tbl[600]? = some (.code (jb_y 131) (jb_b 131) (jb_ml 131) (jb_ret 131)) := rfl
set_option maxRecDepth 100000 in
theorem jb_cw132 : lw_tbl[620]? = some (.code (jb_y 132) (jb_b 132) (jb_ml 132) (jb_ret 132)) := rfl
set_option maxRecDepth 100000 in
theorem jb_cw133 : lw_tbl[632]? = some (.code (jb_y 133) (jb_b 133) (jb_ml 133) (jb_ret 133)) := rfl
set_option maxRecDepth 100000 in
theorem jb_cw134 : lw_tbl[648]? = some (.code (jb_y 134) (jb_b 134) (jb_ml 134) (jb_ret 134)) := rfl
set_option maxRecDepth 100000 in
theorem jb_cw135 : lw_tbl[685]? = some (.code (jb_y 135) (jb_b 135) (jb_ml 135) (jb_ret 135)) := rfl
set_option maxRecDepth 100000 in
theorem jb_cw136 : lw_tbl[702]? = some (.code (jb_y 136) (jb_b 136) (jb_ml 136) (jb_ret 136)) := rfl
set_option maxRecDepth 100000 in
theorem jb_cw137 : lw_tbl[727]? = some (.code (jb_y 137) (jb_b 137) (jb_ml 137) (jb_ret 137)) := rfl
set_option maxRecDepth 100000 in
theorem jb_cw138 : lw_tbl[732]? = some (.code (jb_y 138) (jb_b 138) (jb_ml 138) (jb_ret 138)) := rfl
set_option maxRecDepth 100000 in
theorem jb_cw139 : lw_tbl[760]? = some (.code (jb_y 139) (jb_b 139) (jb_ml 139) (jb_ret 139)) := rfl
set_option maxRecDepth 100000 in
theorem jb_cw140 : lw_tbl[764]? = some (.code (jb_y 140) (jb_b 140) (jb_ml 140) (jb_ret 140)) := rfl
set_option maxRecDepth 100000 in
theorem jb_cw141 : lw_tbl[772]? = some (.code (jb_y 141) (jb_b 141) (jb_ml 141) (jb_ret 141)) := rfl
set_option maxRecDepth 100000 in
theorem jb_cw142 : lw_tbl[780]? = some (.code (jb_y 142) (jb_b 142) (jb_ml 142) (jb_ret 142)) := rfl
set_option maxRecDepth 100000 in
theorem jb_cw143 : lw_tbl[789]? = some (.code (jb_y 143) (jb_b 143) (jb_ml 143) (jb_ret 143)) := rfl
set_option maxRecDepth 100000 in
theorem jb_cw144 : lw_tbl[803]? = some (.code (jb_y 144) (jb_b 144) (jb_ml 144) (jb_ret 144)) := rfl
set_option maxRecDepth 100000 in
theorem jb_cw145 : lw_tbl[862]? = some (.code (jb_y 145) (jb_b 145) (jb_ml 145) (jb_ret 145)) := rfl
set_option maxRecDepth 100000 in
theorem jb_cw146 : lw_tbl[906]? = some (.code (jb_y 146) (jb_b 146) (jb_ml 146) (jb_ret 146)) := rfl
set_option maxRecDepth 100000 in
theorem jb_cw147 : lw_tbl[928]? = some (.code (jb_y 147) (jb_b 147) (jb_ml 147) (jb_ret 147)) := rfl
set_option maxRecDepth 100000 in
theorem jb_cw148 : lw_tbl[979]? = some (.code (jb_y 148) (jb_b 148) (jb_ml 148) (jb_ret 148)) := rfl
set_option maxRecDepth 100000 in
theorem jb_cw149 : lw_tbl[1164]? = some (.code (jb_y 149) (jb_b 149) (jb_ml 149) (jb_ret 149)) := rfl
set_option maxRecDepth 100000 in
theorem jb_cw150 : lw_tbl[1203]? = some (.code (jb_y 150) (jb_b 150) (jb_ml 150) (jb_ret 150)) := rfl
set_option maxRecDepth 100000 in
theorem jb_cw151 : lw_tbl[1284]? = some (.code (jb_y 151) (jb_b 151) (jb_ml 151) (jb_ret 151)) := rfl
set_option maxRecDepth 100000 in
theorem jb_cw152 : lw_tbl[1315]? = some (.code (jb_y 152) (jb_b 152) (jb_ml 152) (jb_ret 152)) := rfl
set_option maxRecDepth 100000 in
theorem jb_cw153 : lw_tbl[1319]? = some (.code (jb_y 153) (jb_b 153) (jb_ml 153) (jb_ret 153)) := rfl
set_option maxRecDepth 100000 in
theorem jb_cw154 : lw_tbl[1352]? = some (.code (jb_y 154) (jb_b 154) (jb_ml 154) (jb_ret 154)) := rfl
set_option maxRecDepth 100000 in
theorem jb_cw155 : lw_tbl[1356]? = some (.code (jb_y 155) (jb_b 155) (jb_ml 155) (jb_ret 155)) := rfl
set_option maxRecDepth 100000 in
theorem jb_cw156 : lw_tbl[1364]? = some (.code (jb_y 156) (jb_b 156) (jb_ml 156) (jb_ret 156)) := rfl
set_option maxRecDepth 100000 in
theorem jb_cw157 : lw_tbl[1372]? = some (.code (jb_y 157) (jb_b 157) (jb_ml 157) (jb_ret 157)) := rfl
set_option maxRecDepth 100000 in
theorem jb_cw158 : lw_tbl[1388]? = some (.code (jb_y 158) (jb_b 158) (jb_ml 158) (jb_ret 158)) := rfl
set_option maxRecDepth 100000 in
theorem jb_cw159 : lw_tbl[1400]? = some (.code (jb_y 159) (jb_b 159) (jb_ml 159) (jb_ret 159)) := rfl
set_option maxRecDepth 100000 in
theorem jb_cw160 : lw_tbl[1413]? = some (.code (jb_y 160) (jb_b 160) (jb_ml 160) (jb_ret 160)) := rfl
set_option maxRecDepth 100000 in
theorem jb_cw161 : lw_tbl[1433]? = some (.code (jb_y 161) (jb_b 161) (jb_ml 161) (jb_ret 161)) := rfl
set_option maxRecDepth 100000 in
theorem jb_cw162 : lw_tbl[1483]? = some (.code (jb_y 162) (jb_b 162) (jb_ml 162) (jb_ret 162)) := rfl
set_option maxRecDepth 100000 in
theorem jb_cw163 : lw_tbl[1487]? = some (.code (jb_y 163) (jb_b 163) (jb_ml 163) (jb_ret 163)) := rfl
set_option maxRecDepth 100000 in
theorem jb_cw164 : lw_tbl[1491]? = some (.code (jb_y 164) (jb_b 164) (jb_ml 164) (jb_ret 164)) := rfl
set_option maxRecDepth 100000 in
theorem jb_cw165 : lw_tbl[1495]? = some (.code (jb_y 165) (jb_b 165) (jb_ml 165) (jb_ret 165)) := rfl
set_option maxRecDepth 100000 in
theorem jb_cw166 : lw_tbl[1503]? = some (.code (jb_y 166) (jb_b 166) (jb_ml 166) (jb_ret 166)) := rfl
set_option maxRecDepth 100000 in
theorem jb_cw167 : lw_tbl[101]? = some (.code (jb_y 167) (jb_b 167) (jb_ml 167) (jb_ret 167)) := rfl
set_option maxRecDepth 100000 in
theorem jb_cw168 : lw_tbl[430]? = some (.code (jb_y 168) (jb_b 168) (jb_ml 168) (jb_ret 168)) := rfl
set_option maxRecDepth 100000 in
theorem jb_cw169 : lw_tbl[544]? = some (.code (jb_y 169) (jb_b 169) (jb_ml 169) (jb_ret 169)) := rfl
set_option maxRecDepth 100000 in
theorem jb_cw170 : lw_tbl[596]? = some (.code (jb_y 170) (jb_b 170) (jb_ml 170) (jb_ret 170)) := rfl
set_option maxRecDepth 100000 in
theorem jb_cw171 : lw_tbl[611]? = some (.code (jb_y 171) (jb_b 171) (jb_ml 171) (jb_ret 171)) := rfl
set_option maxRecDepth 100000 in
theorem jb_cw172 : lw_tbl[643]? = some (.code (jb_y 172) (jb_b 172) (jb_ml 172) (jb_ret 172)) := rfl
set_option maxRecDepth 100000 in
theorem jb_cw173 : lw_tbl[694]? = some (.code (jb_y 173) (jb_b 173) (jb_ml 173) (jb_ret 173)) := rfl
set_option maxRecDepth 100000 in
theorem jb_cw174 : lw_tbl[706]? = some (.code (jb_y 174) (jb_b 174) (jb_ml 174) (jb_ret 174)) := rfl
set_option maxRecDepth 100000 in
theorem jb_cw175 : lw_tbl[711]? = some (.code (jb_y 175) (jb_b 175) (jb_ml 175) (jb_ret 175)) := rfl
set_option maxRecDepth 100000 in
theorem jb_cw176 : lw_tbl[744]? = some (.code (jb_y 176) (jb_b 176) (jb_ml 176) (jb_ret 176)) := rfl
set_option maxRecDepth 100000 in
theorem jb_cw177 : lw_tbl[768]? = some (.code (jb_y 177) (jb_b 177) (jb_ml 177) (jb_ret 177)) := rfl
set_option maxRecDepth 100000 in
theorem jb_cw178 : lw_tbl[855]? = some (.code (jb_y 178) (jb_b 178) (jb_ml 178) (jb_ret 178)) := rfl
set_option maxRecDepth 100000 in
theorem jb_cw179 : lw_tbl[924]? = some (.code (jb_y 179) (jb_b 179) (jb_ml 179) (jb_ret 179)) := rfl
set_option maxRecDepth 100000 in
theorem jb_cw180 : lw_tbl[1001]? = some (.code (jb_y 180) (jb_b 180) (jb_ml 180) (jb_ret 180)) := rfl
set_option maxRecDepth 100000 in
theorem jb_cw181 : lw_tbl[1005]? = some (.code (jb_y 181) (jb_b 181) (jb_ml 181) (jb_ret 181)) := rfl
set_option maxRecDepth 100000 in
theorem jb_cw182 : lw_tbl[1009]? = some (.code (jb_y 182) (jb_b 182) (jb_ml 182) (jb_ret 182)) := rfl
set_option maxRecDepth 100000 in
theorem jb_cw183 : lw_tbl[1139]? = some (.code (jb_y 183) (jb_b 183) (jb_ml 183) (jb_ret 183)) := rfl
set_option maxRecDepth 100000 in
theorem jb_cw184 : lw_tbl[1176]? = some (.code (jb_y 184) (jb_b 184) (jb_ml 184) (jb_ret 184)) := rfl
set_option maxRecDepth 100000 in
theorem jb_cw185 : lw_tbl[1199]? = some (.code (jb_y 185) (jb_b 185) (jb_ml 185) (jb_ret 185)) := rfl
set_option maxRecDepth 100000 in
theorem jb_cw186 : lw_tbl[1214]? = some (.code (jb_y 186) (jb_b 186) (jb_ml 186) (jb_ret 186)) := rfl
set_option maxRecDepth 100000 in
theorem jb_cw187 : lw_tbl[1226]? = some (.code (jb_y 187) (jb_b 187) (jb_ml 187) (jb_ret 187)) := rfl
set_option maxRecDepth 100000 in
theorem jb_cw188 : lw_tbl[1240]? = some (.code (jb_y 188) (jb_b 188) (jb_ml 188) (jb_ret 188)) := rfl
set_option maxRecDepth 100000 in
theorem jb_cw189 : lw_tbl[1248]? = some (.code (jb_y 189) (jb_b 189) (jb_ml 189) (jb_ret 189)) := rfl
set_option maxRecDepth 100000 in
theorem jb_cw190 : lw_tbl[1256]? = some (.code (jb_y 190) (jb_b 190) (jb_ml 190) (jb_ret 190)) := rfl
set_option maxRecDepth 100000 in
theorem jb_cw191 : lw_tbl[1269]? = some (.code (jb_y 191) (jb_b 191) (jb_ml 191) (jb_ret 191)) := rfl
set_option maxRecDepth 100000 in
theorem jb_cw192 : lw_tbl[1295]? = some (.code (jb_y 192) (jb_b 192) (jb_ml 192) (jb_ret 192)) := rfl
set_option maxRecDepth 100000 in
theorem jb_cw193 : lw_tbl[1299]? = some (.code (jb_y 193) (jb_b 193) (jb_ml 193) (jb_ret 193)) := rfl
set_option maxRecDepth 100000 in
theorem jb_cw194 : lw_tbl[1307]? = some (.code (jb_y 194) (jb_b 194) (jb_ml 194) (jb_ret 194)) := rfl
set_option maxRecDepth 100000 in
theorem jb_cw195 : lw_tbl[1344]? = some (.code (jb_y 195) (jb_b 195) (jb_ml 195) (jb_ret 195)) := rfl
set_option maxRecDepth 100000 in
theorem jb_cw196 : lw_tbl[1348]? = some (.code (jb_y 196) (jb_b 196) (jb_ml 196) (jb_ret 196)) := rfl
set_option maxRecDepth 100000 in
theorem jb_cw197 : lw_tbl[1409]? = some (.code (jb_y 197) (jb_b 197) (jb_ml 197) (jb_ret 197)) := rfl
set_option maxRecDepth 100000 in
theorem jb_cw198 : lw_tbl[1471]? = some (.code (jb_y 198) (jb_b 198) (jb_ml 198) (jb_ret 198)) := rfl
set_option maxRecDepth 100000 in
theorem jb_cw199 : lw_tbl[237]? = some (.code (jb_y 199) (jb_b 199) (jb_ml 199) (jb_ret 199)) := rfl
set_option maxRecDepth 100000 in
theorem jb_cw200 : lw_tbl[426]? = some (.code (jb_y 200) (jb_b 200) (jb_ml 200) (jb_ret 200)) := rfl
set_option maxRecDepth 100000 in
theorem jb_cw201 : lw_tbl[579]? = some (.code (jb_y 201) (jb_b 201) (jb_ml 201) (jb_ret 201)) := rfl
set_option maxRecDepth 100000 in
theorem jb_cw202 : lw_tbl[628]? = some (.code (jb_y 202) (jb_b 202) (jb_ml 202) (jb_ret 202)) := rfl
set_option maxRecDepth 100000 in
theorem jb_cw203 : lw_tbl[719]? = some (.code (jb_y 203) (jb_b 203) (jb_ml 203) (jb_ret 203)) := rfl
set_option maxRecDepth 100000 in
theorem jb_cw204 : lw_tbl[829]? = some (.code (jb_y 204) (jb_b 204) (jb_ml 204) (jb_ret 204)) := rfl
set_option maxRecDepth 100000 in
theorem jb_cw205 : lw_tbl[920]? = some (.code (jb_y 205) (jb_b 205) (jb_ml 205) (jb_ret 205)) := rfl
set_option maxRecDepth 100000 in
theorem jb_cw206 : lw_tbl[997]? = some (.code (jb_y 206) (jb_b 206) (jb_ml 206) (jb_ret 206)) := rfl
set_option maxRecDepth 100000 in
theorem jb_cw207 : lw_tbl[1188]? = some (.code (jb_y 207) (jb_b 207) (jb_ml 207) (jb_ret 207)) := rfl
set_option maxRecDepth 100000 in
theorem jb_cw208 : lw_tbl[1303]? = some (.code (jb_y 208) (jb_b 208) (jb_ml 208) (jb_ret 208)) := rfl
set_option maxRecDepth 100000 in
theorem jb_cw209 : lw_tbl[1311]? = some (.code (jb_y 209) (jb_b 209) (jb_ml 209) (jb_ret 209)) := rfl
set_option maxRecDepth 100000 in
theorem jb_cw210 : lw_tbl[1336]? = some (.code (jb_y 210) (jb_b 210) (jb_ml 210) (jb_ret 210)) := rfl
set_option maxRecDepth 100000 in
theorem jb_cw211 : lw_tbl[1417]? = some (.code (jb_y 211) (jb_b 211) (jb_ml 211) (jb_ret 211)) := rfl
set_option maxRecDepth 100000 in
theorem jb_cw212 : lw_tbl[1461]? = some (.code (jb_y 212) (jb_b 212) (jb_ml 212) (jb_ret 212)) := rfl
set_option maxRecDepth 100000 in
theorem jb_cw213 : lw_tbl[1507]? = some (.code (jb_y 213) (jb_b 213) (jb_ml 213) (jb_ret 213)) := rfl
set_option maxRecDepth 100000 in
theorem jb_cw214 : lw_tbl[93]? = some (.code (jb_y 214) (jb_b 214) (jb_ml 214) (jb_ret 214)) := rfl
set_option maxRecDepth 100000 in
theorem jb_cw215 : lw_tbl[372]? = some (.code (jb_y 215) (jb_b 215) (jb_ml 215) (jb_ret 215)) := rfl
set_option maxRecDepth 100000 in
theorem jb_cw216 : lw_tbl[439]? = some (.code (jb_y 216) (jb_b 216) (jb_ml 216) (jb_ret 216)) := rfl
set_option maxRecDepth 100000 in
theorem jb_cw217 : lw_tbl[484]? = some (.code (jb_y 217) (jb_b 217) (jb_ml 217) (jb_ret 217)) := rfl
set_option maxRecDepth 100000 in
theorem jb_cw218 : lw_tbl[492]? = some (.code (jb_y 218) (jb_b 218) (jb_ml 218) (jb_ret 218)) := rfl
set_option maxRecDepth 100000 in
theorem jb_cw219 : lw_tbl[507]? = some (.code (jb_y 219) (jb_b 219) (jb_ml 219) (jb_ret 219)) := rfl
set_option maxRecDepth 100000 in
theorem jb_cw220 : lw_tbl[520]? = some (.code (jb_y 220) (jb_b 220) (jb_ml 220) (jb_ret 220)) := rfl
set_option maxRecDepth 100000 in
theorem jb_cw221 : lw_tbl[531]? = some (.code (jb_y 221) (jb_b 221) (jb_ml 221) (jb_ret 221)) := rfl
set_option maxRecDepth 100000 in
theorem jb_cw222 : lw_tbl[624]? = some (.code (jb_y 222) (jb_b 222) (jb_ml 222) (jb_ret 222)) := rfl
set_option maxRecDepth 100000 in
theorem jb_cw223 : lw_tbl[715]? = some (.code (jb_y 223) (jb_b 223) (jb_ml 223) (jb_ret 223)) := rfl
set_option maxRecDepth 100000 in
theorem jb_cw224 : lw_tbl[723]? = some (.code (jb_y 224) (jb_b 224) (jb_ml 224) (jb_ret 224)) := rfl
set_option maxRecDepth 100000 in
theorem jb_cw225 : lw_tbl[736]? = some (.code (jb_y 225) (jb_b 225) (jb_ml 225) (jb_ret 225)) := rfl
set_option maxRecDepth 100000 in
theorem jb_cw226 : lw_tbl[740]? = some (.code (jb_y 226) (jb_b 226) (jb_ml 226) (jb_ret 226)) := rfl
set_option maxRecDepth 100000 in
theorem jb_cw227 : lw_tbl[785]? = some (.code (jb_y 227) (jb_b 227) (jb_ml 227) (jb_ret 227)) := rfl
set_option maxRecDepth 100000 in
theorem jb_cw228 : lw_tbl[793]? = some (.code (jb_y 228) (jb_b 228) (jb_ml 228) (jb_ret 228)) := rfl
set_option maxRecDepth 100000 in
theorem jb_cw229 : lw_tbl[825]? = some (.code (jb_y 229) (jb_b 229) (jb_ml 229) (jb_ret 229)) := rfl
set_option maxRecDepth 100000 in
theorem jb_cw230 : lw_tbl[901]? = some (.code (jb_y 230) (jb_b 230) (jb_ml 230) (jb_ret 230)) := rfl
set_option maxRecDepth 100000 in
theorem jb_cw231 : lw_tbl[916]? = some (.code (jb_y 231) (jb_b 231) (jb_ml 231) (jb_ret 231)) := rfl
set_option maxRecDepth 100000 in
theorem jb_cw232 : lw_tbl[1332]? = some (.code (jb_y 232) (jb_b 232) (jb_ml 232) (jb_ret 232)) := rfl
set_option maxRecDepth 100000 in
theorem jb_cw233 : lw_tbl[1340]? = some (.code (jb_y 233) (jb_b 233) (jb_ml 233) (jb_ret 233)) := rfl
set_option maxRecDepth 100000 in
theorem jb_cw234 : lw_tbl[1457]? = some (.code (jb_y 234) (jb_b 234) (jb_ml 234) (jb_ret 234)) := rfl
set_option maxRecDepth 100000 in
theorem jb_cw235 : lw_tbl[463]? = some (.code (jb_y 235) (jb_b 235) (jb_ml 235) (jb_ret 235)) := rfl
set_option maxRecDepth 100000 in
theorem jb_cw236 : lw_tbl[540]? = some (.code (jb_y 236) (jb_b 236) (jb_ml 236) (jb_ret 236)) := rfl
set_option maxRecDepth 100000 in
theorem jb_cw237 : lw_tbl[616]? = some (.code (jb_y 237) (jb_b 237) (jb_ml 237) (jb_ret 237)) := rfl
set_option maxRecDepth 100000 in
theorem jb_cw238 : lw_tbl[752]? = some (.code (jb_y 238) (jb_b 238) (jb_ml 238) (jb_ret 238)) := rfl
set_option maxRecDepth 100000 in
theorem jb_cw239 : lw_tbl[820]? = some (.code (jb_y 239) (jb_b 239) (jb_ml 239) (jb_ret 239)) := rfl
set_option maxRecDepth 100000 in
theorem jb_cw240 : lw_tbl[912]? = some (.code (jb_y 240) (jb_b 240) (jb_ml 240) (jb_ret 240)) := rfl
set_option maxRecDepth 100000 in
theorem jb_cw241 : lw_tbl[1328]? = some (.code (jb_y 241) (jb_b 241) (jb_ml 241) (jb_ret 241)) := rfl
set_option maxRecDepth 100000 in
theorem jb_cw242 : lw_tbl[1376]? = some (.code (jb_y 242) (jb_b 242) (jb_ml 242) (jb_ret 242)) := rfl
set_option maxRecDepth 100000 in
theorem jb_cw243 : lw_tbl[1453]? = some (.code (jb_y 243) (jb_b 243) (jb_ml 243) (jb_ret 243)) := rfl
set_option maxRecDepth 100000 in
theorem jb_cw244 : lw_tbl[816]? = some (.code (jb_y 244) (jb_b 244) (jb_ml 244) (jb_ret 244)) := rfl
set_option maxRecDepth 100000 in
theorem jb_cw245 : lw_tbl[1368]? = some (.code (jb_y 245) (jb_b 245) (jb_ml 245) (jb_ret 245)) := rfl
set_option maxRecDepth 100000 in
theorem jb_cw246 : lw_tbl[1380]? = some (.code (jb_y 246) (jb_b 246) (jb_ml 246) (jb_ret 246)) := rfl
set_option maxRecDepth 100000 in
theorem jb_cw247 : lw_tbl[1449]? = some (.code (jb_y 247) (jb_b 247) (jb_ml 247) (jb_ret 247)) := rfl
set_option maxRecDepth 100000 in
theorem jb_cw (i : Nat) (h : i < 248) : Cond.code (jb_y i) (jb_b i) (jb_ml i) (jb_ret i) ∈ jb_W := by
  match i, h with
  | 0, _ => exact jb_inW jb_cw0 rfl
  | 1, _ => exact jb_inW jb_cw1 rfl
  | 2, _ => exact jb_inW jb_cw2 rfl
  | 3, _ => exact jb_inW jb_cw3 rfl
  | 4, _ => exact jb_inW jb_cw4 rfl
  | 5, _ => exact jb_inW jb_cw5 rfl
  | 6, _ => exact jb_inW jb_cw6 rfl
  | 7, _ => exact jb_inW jb_cw7 rfl
  | 8, _ => exact jb_inW jb_cw8 rfl
  | 9, _ => exact jb_inW jb_cw9 rfl
  | 10, _ => exact jb_inW jb_cw10 rfl
  | 11, _ => exact jb_inW jb_cw11 rfl
  | 12, _ => exact jb_inW jb_cw12 rfl
  | 13, _ => exact jb_inW jb_cw13 rfl
  | 14, _ => exact jb_inW jb_cw14 rfl
  | 15, _ => exact jb_inW jb_cw15 rfl
  | 16, _ => exact jb_inW jb_cw16 rfl
  | 17, _ => exact jb_inW jb_cw17 rfl
  | 18, _ => exact jb_inW jb_cw18 rfl
  | 19, _ => exact jb_inW jb_cw19 rfl
  | 20, _ => exact jb_inW jb_cw20 rfl
  | 21, _ => exact jb_inW jb_cw21 rfl
  | 22, _ => exact jb_inW jb_cw22 rfl
  | 23, _ => exact jb_inW jb_cw23 rfl
  | 24, _ => exact jb_inW jb_cw24 rfl
  | 25, _ => exact jb_inW jb_cw25 rfl
  | 26, _ => exact jb_inW jb_cw26 rfl
  | 27, _ => exact jb_inW jb_cw27 rfl
  | 28, _ => exact jb_inW jb_cw28 rfl
  | 29, _ => exact jb_inW jb_cw29 rfl
  | 30, _ => exact jb_inW jb_cw30 rfl
  | 31, _ => exact jb_inW jb_cw31 rfl
  | 32, _ => exact jb_inW jb_cw32 rfl
  | 33, _ => exact jb_inW jb_cw33 rfl
  | 34, _ => exact jb_inW jb_cw34 rfl
  | 35, _ => exact jb_inW jb_cw35 rfl
  | 36, _ => exact jb_inW jb_cw36 rfl
  | 37, _ => exact jb_inW jb_cw37 rfl
  | 38, _ => exact jb_inW jb_cw38 rfl
  | 39, _ => exact jb_inW jb_cw39 rfl
  | 40, _ => exact jb_inW jb_cw40 rfl
  | 41, _ => exact jb_inW jb_cw41 rfl
  | 42, _ => exact jb_inW jb_cw42 rfl
  | 43, _ => exact jb_inW jb_cw43 rfl
  | 44, _ => exact jb_inW jb_cw44 rfl
  | 45, _ => exact jb_inW jb_cw45 rfl
  | 46, _ => exact jb_inW jb_cw46 rfl
  | 47, _ => exact jb_inW jb_cw47 rfl
  | 48, _ => exact jb_inW jb_cw48 rfl
  | 49, _ => exact jb_inW jb_cw49 rfl
  | 50, _ => exact jb_inW jb_cw50 rfl
  | 51, _ => exact jb_inW jb_cw51 rfl
  | 52, _ => exact jb_inW jb_cw52 rfl
  | 53, _ => exact jb_inW jb_cw53 rfl
  | 54, _ => exact jb_inW jb_cw54 rfl
  | 55, _ => exact jb_inW jb_cw55 rfl
  | 56, _ => exact jb_inW jb_cw56 rfl
  | 57, _ => exact jb_inW jb_cw57 rfl
  | 58, _ => exact jb_inW jb_cw58 rfl
  | 59, _ => exact jb_inW jb_cw59 rfl
  | 60, _ => exact jb_inW jb_cw60 rfl
  | 61, _ => exact jb_inW jb_cw61 rfl
  | 62, _ => exact jb_inW jb_cw62 rfl
  | 63, _ => exact jb_inW jb_cw63 rfl
  | 64, _ => exact jb_inW jb_cw64 rfl
  | 65, _ => exact jb_inW jb_cw65 rfl
  | 66, _ => exact jb_inW jb_cw66 rfl
  | 67, _ => exact jb_inW jb_cw67 rfl
  | 68, _ => exact jb_inW jb_cw68 rfl
  | 69, _ => exact jb_inW jb_cw69 rfl
  | 70, _ => exact jb_inW jb_cw70 rfl
  | 71, _ => exact jb_inW jb_cw71 rfl
  | 72, _ => exact jb_inW jb_cw72 rfl
  | 73, _ => exact jb_inW jb_cw73 rfl
  | 74, _ => exact jb_inW jb_cw74 rfl
  | 75, _ => exact jb_inW jb_cw75 rfl
  | 76, _ => exact jb_inW jb_cw76 rfl
  | 77, _ => exact jb_inW jb_cw77 rfl
  | 78, _ => exact jb_inW jb_cw78 rfl
  | 79, _ => exact jb_inW jb_cw79 rfl
  | 80, _ => exact jb_inW jb_cw80 rfl
  | 81, _ => exact jb_inW jb_cw81 rfl
  | 82, _ => exact jb_inW jb_cw82 rfl
  | 83, _ => exact jb_inW jb_cw83 rfl
  | 84, _ => exact jb_inW jb_cw84 rfl
  | 85, _ => exact jb_inW jb_cw85 rfl
  | 86, _ => exact jb_inW jb_cw86 rfl
  | 87, _ => exact jb_inW jb_cw87 rfl
  | 88, _ => exact jb_inW jb_cw88 rfl
  | 89, _ => exact jb_inW jb_cw89 rfl
  | 90, _ => exact jb_inW jb_cw90 rfl
  | 91, _ => exact jb_inW jb_cw91 rfl
  | 92, _ => exact jb_inW jb_cw92 rfl
  | 93, _ => exact jb_inW jb_cw93 rfl
  | 94, _ => exact jb_inW jb_cw94 rfl
  | 95, _ => exact jb_inW jb_cw95 rfl
  | 96, _ => exact jb_inW jb_cw96 rfl
  | 97, _ => exact jb_inW jb_cw97 rfl
  | 98, _ => exact jb_inW jb_cw98 rfl
  | 99, _ => exact jb_inW jb_cw99 rfl
  | 100, _ => exact jb_inW jb_cw100 rfl
  | 101, _ => exact jb_inW jb_cw101 rfl
  | 102, _ => exact jb_inW jb_cw102 rfl
  | 103, _ => exact jb_inW jb_cw103 rfl
  | 104, _ => exact jb_inW jb_cw104 rfl
  | 105, _ => exact jb_inW jb_cw105 rfl
  | 106, _ => exact jb_inW jb_cw106 rfl
  | 107, _ => exact jb_inW jb_cw107 rfl
  | 108, _ => exact jb_inW jb_cw108 rfl
  | 109, _ => exact jb_inW jb_cw109 rfl
  | 110, _ => exact jb_inW jb_cw110 rfl
  | 111, _ => exact jb_inW jb_cw111 rfl
  | 112, _ => exact jb_inW jb_cw112 rfl
  | 113, _ => exact jb_inW jb_cw113 rfl
  | 114, _ => exact jb_inW jb_cw114 rfl
  | 115, _ => exact jb_inW jb_cw115 rfl
  | 116, _ => exact jb_inW jb_cw116 rfl
  | 117, _ => exact jb_inW jb_cw117 rfl
  | 118, _ => exact jb_inW jb_cw118 rfl
  | 119, _ => exact jb_inW jb_cw119 rfl
  | 120, _ => exact jb_inW jb_cw120 rfl
  | 121, _ => exact jb_inW jb_cw121 rfl
  | 122, _ => exact jb_inW jb_cw122 rfl
  | 123, _ => exact jb_inW jb_cw123 rfl
  | 124, _ => exact jb_inW jb_cw124 rfl
  | 125, _ => exact jb_inW jb_cw125 rfl
  | 126, _ => exact jb_inW jb_cw126 rfl
  | 127, _ => exact jb_inW jb_cw127 rfl
  | 128, _ => exact jb_inW jb_cw128 rfl
  | 129, _ => exact jb_inW jb_cw129 rfl
  | 130, _ => exact jb_inW jb_cw130 rfl
  | 131, _ => exact jb_inW jb_cw131 rfl
  | 132, _ => exact jb_inW jb_cw132 rfl
  | 133, _ => exact jb_inW jb_cw133 rfl
  | 134, _ => exact jb_inW jb_cw134 rfl
  | 135, _ => exact jb_inW jb_cw135 rfl
  | 136, _ => exact jb_inW jb_cw136 rfl
  | 137, _ => exact jb_inW jb_cw137 rfl
  | 138, _ => exact jb_inW jb_cw138 rfl
  | 139, _ => exact jb_inW jb_cw139 rfl
  | 140, _ => exact jb_inW jb_cw140 rfl
  | 141, _ => exact jb_inW jb_cw141 rfl
  | 142, _ => exact jb_inW jb_cw142 rfl
  | 143, _ => exact jb_inW jb_cw143 rfl
  | 144, _ => exact jb_inW jb_cw144 rfl
  | 145, _ => exact jb_inW jb_cw145 rfl
  | 146, _ => exact jb_inW jb_cw146 rfl
  | 147, _ => exact jb_inW jb_cw147 rfl
  | 148, _ => exact jb_inW jb_cw148 rfl
  | 149, _ => exact jb_inW jb_cw149 rfl
  | 150, _ => exact jb_inW jb_cw150 rfl
  | 151, _ => exact jb_inW jb_cw151 rfl
  | 152, _ => exact jb_inW jb_cw152 rfl
  | 153, _ => exact jb_inW jb_cw153 rfl
  | 154, _ => exact jb_inW jb_cw154 rfl
  | 155, _ => exact jb_inW jb_cw155 rfl
  | 156, _ => exact jb_inW jb_cw156 rfl
  | 157, _ => exact jb_inW jb_cw157 rfl
  | 158, _ => exact jb_inW jb_cw158 rfl
  | 159, _ => exact jb_inW jb_cw159 rfl
  | 160, _ => exact jb_inW jb_cw160 rfl
  | 161, _ => exact jb_inW jb_cw161 rfl
  | 162, _ => exact jb_inW jb_cw162 rfl
  | 163, _ => exact jb_inW jb_cw163 rfl
  | 164, _ => exact jb_inW jb_cw164 rfl
  | 165, _ => exact jb_inW jb_cw165 rfl
  | 166, _ => exact jb_inW jb_cw166 rfl
  | 167, _ => exact jb_inW jb_cw167 rfl
  | 168, _ => exact jb_inW jb_cw168 rfl
  | 169, _ => exact jb_inW jb_cw169 rfl
  | 170, _ => exact jb_inW jb_cw170 rfl
  | 171, _ => exact jb_inW jb_cw171 rfl
  | 172, _ => exact jb_inW jb_cw172 rfl
  | 173, _ => exact jb_inW jb_cw173 rfl
  | 174, _ => exact jb_inW jb_cw174 rfl
  | 175, _ => exact jb_inW jb_cw175 rfl
  | 176, _ => exact jb_inW jb_cw176 rfl
  | 177, _ => exact jb_inW jb_cw177 rfl
  | 178, _ => exact jb_inW jb_cw178 rfl
  | 179, _ => exact jb_inW jb_cw179 rfl
  | 180, _ => exact jb_inW jb_cw180 rfl
  | 181, _ => exact jb_inW jb_cw181 rfl
  | 182, _ => exact jb_inW jb_cw182 rfl
  | 183, _ => exact jb_inW jb_cw183 rfl
  | 184, _ => exact jb_inW jb_cw184 rfl
  | 185, _ => exact jb_inW jb_cw185 rfl
  | 186, _ => exact jb_inW jb_cw186 rfl
  | 187, _ => exact jb_inW jb_cw187 rfl
  | 188, _ => exact jb_inW jb_cw188 rfl
  | 189, _ => exact jb_inW jb_cw189 rfl
  | 190, _ => exact jb_inW jb_cw190 rfl
  | 191, _ => exact jb_inW jb_cw191 rfl
  | 192, _ => exact jb_inW jb_cw192 rfl
  | 193, _ => exact jb_inW jb_cw193 rfl
  | 194, _ => exact jb_inW jb_cw194 rfl
  | 195, _ => exact jb_inW jb_cw195 rfl
  | 196, _ => exact jb_inW jb_cw196 rfl
  | 197, _ => exact jb_inW jb_cw197 rfl
  | 198, _ => exact jb_inW jb_cw198 rfl
  | 199, _ => exact jb_inW jb_cw199 rfl
  | 200, _ => exact jb_inW jb_cw200 rfl
  | 201, _ => exact jb_inW jb_cw201 rfl
  | 202, _ => exact jb_inW jb_cw202 rfl
  | 203, _ => exact jb_inW jb_cw203 rfl
  | 204, _ => exact jb_inW jb_cw204 rfl
  | 205, _ => exact jb_inW jb_cw205 rfl
  | 206, _ => exact jb_inW jb_cw206 rfl
  | 207, _ => exact jb_inW jb_cw207 rfl
  | 208, _ => exact jb_inW jb_cw208 rfl
  | 209, _ => exact jb_inW jb_cw209 rfl
  | 210, _ => exact jb_inW jb_cw210 rfl
  | 211, _ => exact jb_inW jb_cw211 rfl
  | 212, _ => exact jb_inW jb_cw212 rfl
  | 213, _ => exact jb_inW jb_cw213 rfl
  | 214, _ => exact jb_inW jb_cw214 rfl
  | 215, _ => exact jb_inW jb_cw215 rfl
  | 216, _ => exact jb_inW jb_cw216 rfl
  | 217, _ => exact jb_inW jb_cw217 rfl
  | 218, _ => exact jb_inW jb_cw218 rfl
  | 219, _ => exact jb_inW jb_cw219 rfl
  | 220, _ => exact jb_inW jb_cw220 rfl
  | 221, _ => exact jb_inW jb_cw221 rfl
  | 222, _ => exact jb_inW jb_cw222 rfl
  | 223, _ => exact jb_inW jb_cw223 rfl
  | 224, _ => exact jb_inW jb_cw224 rfl
  | 225, _ => exact jb_inW jb_cw225 rfl
  | 226, _ => exact jb_inW jb_cw226 rfl
  | 227, _ => exact jb_inW jb_cw227 rfl
  | 228, _ => exact jb_inW jb_cw228 rfl
  | 229, _ => exact jb_inW jb_cw229 rfl
  | 230, _ => exact jb_inW jb_cw230 rfl
  | 231, _ => exact jb_inW jb_cw231 rfl
  | 232, _ => exact jb_inW jb_cw232 rfl
  | 233, _ => exact jb_inW jb_cw233 rfl
  | 234, _ => exact jb_inW jb_cw234 rfl
  | 235, _ => exact jb_inW jb_cw235 rfl
  | 236, _ => exact jb_inW jb_cw236 rfl
  | 237, _ => exact jb_inW jb_cw237 rfl
  | 238, _ => exact jb_inW jb_cw238 rfl
  | 239, _ => exact jb_inW jb_cw239 rfl
  | 240, _ => exact jb_inW jb_cw240 rfl
  | 241, _ => exact jb_inW jb_cw241 rfl
  | 242, _ => exact jb_inW jb_cw242 rfl
  | 243, _ => exact jb_inW jb_cw243 rfl
  | 244, _ => exact jb_inW jb_cw244 rfl
  | 245, _ => exact jb_inW jb_cw245 rfl
  | 246, _ => exact jb_inW jb_cw246 rfl
  | 247, _ => exact jb_inW jb_cw247 rfl
  | n + 248, h => exact absurd h (by omega)
end
section
/-! ===== the instructions are those of the bytes ===== -/
set_option maxRecDepth 100000 in
theorem jb_okI_0 : (List.range' 0 31).all jb_okIs = true := by decide +kernel
set_option maxRecDepth 100000 in
theorem jb_okI_1 : (List.range' 31 31).all jb_okIs = true := by decide +kernel
set_option maxRecDepth 100000 in
theorem jb_okI_2 : (List.range' 62 31).all jb_okIs = true := by decide +kernel
set_option maxRecDepth 100000 in
theorem jb_okI_3 : (List.range' 93 31).all jb_okIs = true := by decide +kernel
set_option maxRecDepth 100000 in
theorem jb_okI_4 : (List.range' 124 31).all jb_okIs = true := by decide +kernel
set_option maxRecDepth 100000 in
theorem jb_okI_5 : (List.range' 155 31).all jb_okIs = true := by decide +kernel
set_option maxRecDepth 100000 in
theorem jb_okI_6 : (List.range' 186 31).all jb_okIs = true := by decide +kernel
set_option maxRecDepth 100000 in
theorem jb_okI_7 : (List.range' 217 31).all jb_okIs = true := by decide +kernel
end
section
/-! ===== a small machine of our own: the methods run over a list of objects; what it comes to, the machine comes to (part 07) ===== -/
/-- objects: kind (0 to 11 a class, 12 an int array, 13 an array of villages) and contents; a reference is a place in this list, or from 1000000 on a text, from 1000100 on its bytes, 1000200 the formatter -/
abbrev jb_H : Type := List (Nat × List Value)
abbrev jb_Res : Type := Option Value × jb_H
abbrev jb_Cfg : Type := Nat × List Value × List Value × jb_H
def jb_SB : List (List Int32) := [[104, 97, 110, 103, 32, 66, 32, 68], [115, 112, 108, 105, 99, 101, 32, 66], [119, 111, 114, 100, 32, 75, 32, 83], [115, 116, 114, 105, 107, 101, 32, 68], [115, 119, 105, 109, 32, 68, 32, 68], [100, 105, 118, 101, 32, 68, 32, 68], [103, 111, 32, 68], [114, 105, 110, 103, 32, 83], [], [104, 97, 110, 103, 32, 115, 112, 108, 105, 99, 101, 32, 119, 111, 114, 100, 32, 115, 116, 114, 105, 107, 101, 32, 115, 119, 105, 109, 32, 100, 105, 118, 101, 32, 103, 111, 32, 114, 105, 110, 103, 32]]
def jb_ln : Instr → Nat
  | .iconst _ => 1 | .bipush _ => 2 | .sipush _ => 3 | .iload _ => 2 | .iload_n _ => 1 | .aload_n _ => 1 | .istore _ => 2 | .istore_n _ => 1 | .astore_n _ => 1
  | .iinc _ _ => 3 | .iadd => 1 | .isub => 1 | .imul => 1 | .irem => 1 | .ineg => 1 | .iand => 1 | .ishr => 1 | .i2b => 1 | .i2c => 1 | .dup => 1 | .dup2 => 1 | .pop => 1
  | .goto _ => 3 | .if_icmp _ _ => 3 | .ifCond _ _ => 3 | .ifnonnull _ => 3 | .aconst_null => 1 | .getfield _ => 3 | .putfield _ => 3 | .iaload => 1 | .iastore => 1 | .baload => 1
  | .aaload => 1 | .aastore => 1 | .arraylength => 1 | .new _ => 3 | .newarray _ => 2 | .anewarray _ => 3 | .invokevirtual _ => 3 | .invokestatic _ => 3 | .invokespecial _ => 3
  | .ldc _ => 2 | .ldc_w _ => 3 | .ldc2_w _ => 3 | .getstatic _ => 3 | .i2d => 1 | .i2f => 1 | .ddiv => 1 | .fdiv => 1 | .fconst _ => 1
  | .ireturn => 1 | .dreturn => 1 | .freturn => 1 | .areturn => 1 | .return_ => 1
  | _ => 0
/-- the instruction at a place: itself, its link's kind and two numbers -/
def jb_op (i pc : Nat) : Option (Instr × Nat × Nat × Nat) :=
  match (jb_I.getD i []).lookup pc with
  | none => none
  | some q => if jb_ln q.1 = q.2.1 ∨ jb_ln q.1 = 0 then
      if q.2.2 = 0 then some (q.1, 99, 0, 0) else match jb_L[q.2.2 - 1]? with
        | some l => some (q.1, l.2.2.1, l.2.2.2.1, l.2.2.2.2.1)
        | none => none
    else none
def jb_tg (pc : Nat) (off : Int) : Option Nat := if 0 ≤ (pc : Int) + off then some ((pc : Int) + off).toNat else none
abbrev jb_St : Type := Option (jb_Res ⊕ jb_Cfg)
def jb_go (pc : Nat) (ls st : List Value) (h : jb_H) : jb_St := some (.inr (pc, ls, st, h))
def jb_def (c : Nat) : List Value := (jb_Tys.getD c []).map defaultValue
def jb_sum (st : List Value) : Nat := (st.map fun v => v.category).sum
/-- the receiver is of the method's class -/
def jb_recv (h : jb_H) (r : Nat) (o : Nat) : Bool := if o = 13 then decide (1000000 ≤ r ∧ r < 1000010) else decide (o < 12) && ((h[r]?).map (·.1) == some o) && decide (r < 1000000)
def jb_invV (F : Nat → List Value → jb_H → Option jb_Res) (pc : Nat) (a b : Nat) (ls st : List Value) (h : jb_H) : jb_St :=
  if b ≤ st.length then match st.drop b with
    | .ref r :: rest => if jb_recv h r (jb_ow a) = true ∧ jb_sum rest ≤ 8 then match F a (.ref r :: (st.take b).reverse) h with
        | some (v, h') => jb_go (pc + 3) ls (v.toList ++ rest) h'
        | none => none
      else none
    | _ => none
  else none
def jb_invS (F : Nat → List Value → jb_H → Option jb_Res) (pc : Nat) (a b : Nat) (ls st : List Value) (h : jb_H) : jb_St :=
  if b ≤ st.length ∧ jb_sum (st.drop b) ≤ 8 then match F a (st.take b).reverse h with
    | some (v, h') => jb_go (pc + 3) ls (v.toList ++ st.drop b) h'
    | none => none
  else none
def jb_ex (F : Nat → List Value → jb_H → Option jb_Res) (i : Nat) (ins : Instr) (k a b pc : Nat) (ls st : List Value) (h : jb_H) : jb_St :=
  match ins with
  | .iconst n => jb_go (pc + 1) ls (.int (Int32.ofInt n) :: st) h
  | .bipush n => jb_go (pc + 2) ls (.int (Int8.ofInt n).toInt32 :: st) h
  | .sipush n => jb_go (pc + 3) ls (.int (Int16.ofInt n).toInt32 :: st) h
  | .iload n => match ls[n]? with
    | some (.int x) => jb_go (pc + 2) ls (.int x :: st) h
    | _ => none
  | .iload_n n => match ls[(n : Nat)]? with
    | some (.int x) => jb_go (pc + 1) ls (.int x :: st) h
    | _ => none
  | .aload_n n => match ls[(n : Nat)]? with
    | some (.ref x) => jb_go (pc + 1) ls (.ref x :: st) h
    | some .null => jb_go (pc + 1) ls (.null :: st) h
    | _ => none
  | .istore n => match st with
    | .int x :: r => if n < ls.length then jb_go (pc + 2) (ls.set n (.int x)) r h else none
    | _ => none
  | .istore_n n => match st with
    | .int x :: r => if (n : Nat) < ls.length then jb_go (pc + 1) (ls.set (n : Nat) (.int x)) r h else none
    | _ => none
  | .astore_n n => match st with
    | .ref x :: r => if (n : Nat) < ls.length then jb_go (pc + 1) (ls.set (n : Nat) (.ref x)) r h else none
    | .null :: r => if (n : Nat) < ls.length then jb_go (pc + 1) (ls.set (n : Nat) .null) r h else none
    | _ => none
  | .iinc n d => match ls[n]? with
    | some (.int x) => jb_go (pc + 3) (ls.set n (.int (x + Int32.ofInt d))) st h
    | _ => none
  | .iadd => match st with
    | .int y :: .int x :: r => jb_go (pc + 1) ls (.int (x + y) :: r) h
    | _ => none
  | .isub => match st with
    | .int y :: .int x :: r => jb_go (pc + 1) ls (.int (x - y) :: r) h
    | _ => none
  | .imul => match st with
    | .int y :: .int x :: r => jb_go (pc + 1) ls (.int (x * y) :: r) h
    | _ => none
  | .irem => match st with
    | .int y :: .int x :: r => if y = 0 then none else jb_go (pc + 1) ls (.int (x - x / y * y) :: r) h
    | _ => none
  | .ineg => match st with
    | .int x :: r => jb_go (pc + 1) ls (.int (-x) :: r) h
    | _ => none
  | .iand => match st with
    | .int y :: .int x :: r => jb_go (pc + 1) ls (.int (x &&& y) :: r) h
    | _ => none
  | .ishr => match st with
    | .int y :: .int x :: r => jb_go (pc + 1) ls (.int (x >>> (y &&& 31)) :: r) h
    | _ => none
  | .i2b => match st with
    | .int x :: r => jb_go (pc + 1) ls (.int x.toInt8.toInt32 :: r) h
    | _ => none
  | .i2c => match st with
    | .int x :: r => jb_go (pc + 1) ls (.int (x.toUInt32 % 65536).toInt32 :: r) h
    | _ => none
  | .dup => match st with
    | v :: r => if v.category = 1 then jb_go (pc + 1) ls (v :: v :: r) h else none
    | _ => none
  | .dup2 => match st with
    | v :: w :: r => if v.category = 1 ∧ w.category = 1 then jb_go (pc + 1) ls (v :: w :: v :: w :: r) h else none
    | _ => none
  | .pop => match st with
    | v :: r => if v.category = 1 then jb_go (pc + 1) ls r h else none
    | _ => none
  | .goto o => match jb_tg pc o with
    | some t => jb_go t ls st h
    | none => none
  | .if_icmp c o => match jb_tg pc o with
    | some t => match st with
      | .int y :: .int x :: r => match c with
        | .eq => jb_go (if x = y then t else pc + 3) ls r h
        | .ne => jb_go (if x = y then pc + 3 else t) ls r h
        | .lt => jb_go (if x < y then t else pc + 3) ls r h
        | .ge => jb_go (if y ≤ x then t else pc + 3) ls r h
        | .gt => jb_go (if y < x then t else pc + 3) ls r h
        | .le => jb_go (if x ≤ y then t else pc + 3) ls r h
      | _ => none
    | none => none
  | .ifCond c o => match jb_tg pc o with
    | some t => match st with
      | .int x :: r => match c with
        | .eq => jb_go (if x = 0 then t else pc + 3) ls r h
        | .ne => jb_go (if x = 0 then pc + 3 else t) ls r h
        | .lt => jb_go (if x < 0 then t else pc + 3) ls r h
        | .ge => jb_go (if 0 ≤ x then t else pc + 3) ls r h
        | .gt => jb_go (if 0 < x then t else pc + 3) ls r h
        | .le => jb_go (if x ≤ 0 then t else pc + 3) ls r h
      | _ => none
    | none => none
  | .ifnonnull o => match jb_tg pc o with
    | some t => match st with
      | .ref x :: r => if x < 1000000 then jb_go t ls r h else none
      | .null :: r => jb_go (pc + 3) ls r h
      | _ => none
    | none => none
  | .aconst_null => jb_go (pc + 1) ls (.null :: st) h
  | .tableswitch d lo hi offs => match st with
    | .int x :: r => if x.toInt < lo ∨ hi < x.toInt then (match jb_tg pc d with
        | some t => jb_go t ls r h
        | none => none)
      else match offs[(x.toInt - lo).toNat]? with
        | some o => (match jb_tg pc o with
          | some t => jb_go t ls r h
          | none => none)
        | none => none
    | _ => none
  | .lookupswitch d ps => match st with
    | .int x :: r => if (ps.toList.zip (ps.toList.drop 1)).all (fun q => q.1.1 < q.2.1) = true then (match jb_tg pc (Op.lookupswitch.offset ps.toList d x.toInt) with
        | some t => jb_go t ls r h
        | none => none)
      else none
    | _ => none
  | .getfield _ => match st with
    | .ref r :: st' => if k = 0 ∨ k = 1 then (if r < 1000000 then (match h[r]? with
          | some (c, fs) => if c = a then (match fs[b]? with
              | some v => jb_go (pc + 3) ls (v :: st') h
              | none => none) else none
          | none => none) else none)
        else if k = 14 then (if 1000000 ≤ r ∧ r < 1000010 then jb_go (pc + 3) ls ((if a = 0 then .ref (r + 100) else .int 0) :: st') h else none)
        else none
    | _ => none
  | .putfield _ => match st with
    | v :: .ref r :: st' => if (k = 0 ∨ k = 1) ∧ r < 1000000 then (match h[r]? with
          | some (c, fs) => if c = a ∧ b < fs.length ∧ narrow (jb_Ty a b) v = v ∧ fits (jb_Ty a b) v = true ∧ ((jb_T a b).2.2.2 = false ∨ ((jb_y i).name = "<init>" ∧ a = jb_ow i ∧ k = 0)) then jb_go (pc + 3) ls st' (h.set r (c, fs.set b v)) else none
          | none => none)
        else none
    | _ => none
  | .iaload => match st with
    | .int j :: .ref r :: st' => if r < 1000000 then (match h[r]? with
        | some (c, fs) => if c = 12 ∧ ¬ (j < 0 ∨ fs.length ≤ j.toNatClampNeg) then (match fs[j.toNatClampNeg]? with
            | some (.int x) => jb_go (pc + 1) ls (.int x :: st') h
            | _ => none) else none
        | none => none) else none
    | _ => none
  | .iastore => match st with
    | .int x :: .int j :: .ref r :: st' => if r < 1000000 then (match h[r]? with
        | some (c, fs) => if c = 12 ∧ ¬ (j < 0 ∨ fs.length ≤ j.toNatClampNeg) then jb_go (pc + 1) ls st' (h.set r (c, fs.set j.toNatClampNeg (.int x))) else none
        | none => none) else none
    | _ => none
  | .baload => match st with
    | .int j :: .ref r :: st' => if 1000100 ≤ r ∧ r < 1000110 ∧ ¬ (j < 0 ∨ (jb_SB.getD (r - 1000100) []).length ≤ j.toNatClampNeg) then jb_go (pc + 1) ls (.int ((jb_SB.getD (r - 1000100) []).getD j.toNatClampNeg 0) :: st') h else none
    | _ => none
  | .aaload => match st with
    | .int j :: .ref r :: st' => if r < 1000000 then (match h[r]? with
        | some (c, fs) => if c = 13 ∧ ¬ (j < 0 ∨ fs.length ≤ j.toNatClampNeg) then (match fs[j.toNatClampNeg]? with
            | some (.ref x) => if x < 1000000 then jb_go (pc + 1) ls (.ref x :: st') h else none
            | some .null => jb_go (pc + 1) ls (.null :: st') h
            | _ => none) else none
        | none => none) else none
    | _ => none
  | .aastore => match st with
    | .ref v :: .int j :: .ref r :: st' => if r < 1000000 ∧ v < 1000000 ∧ (h[v]?).map (·.1) = some 9 then (match h[r]? with
        | some (c, fs) => if c = 13 ∧ ¬ (j < 0 ∨ fs.length ≤ j.toNatClampNeg) then jb_go (pc + 1) ls st' (h.set r (c, fs.set j.toNatClampNeg (.ref v))) else none
        | none => none) else none
    | _ => none
  | .arraylength => match st with
    | .ref r :: st' => if r < 1000000 then (match h[r]? with
        | some (c, fs) => if c = 12 ∨ c = 13 then jb_go (pc + 1) ls (.int (Int32.ofNat fs.length) :: st') h else none
        | none => none)
      else if 1000100 ≤ r ∧ r < 1000110 then jb_go (pc + 1) ls (.int (Int32.ofNat (jb_SB.getD (r - 1000100) []).length) :: st') h else none
    | _ => none
  | .new _ => if k = 9 ∧ h.length < 999999 then jb_go (pc + 3) ls (.ref h.length :: st) (h ++ [(a, jb_def a)]) else none
  | .newarray t => match st with
    | .int n :: st' => if t = .int ∧ ¬ n < 0 ∧ n.toNatClampNeg ≤ 100000 ∧ h.length < 999999 then jb_go (pc + 2) ls (.ref h.length :: st') (h ++ [(12, List.replicate n.toNatClampNeg (.int 0))]) else none
    | _ => none
  | .anewarray _ => match st with
    | .int n :: st' => if k = 10 ∧ ¬ n < 0 ∧ n.toNatClampNeg ≤ 100000 ∧ h.length < 999999 then jb_go (pc + 3) ls (.ref h.length :: st') (h ++ [(13, List.replicate n.toNatClampNeg .null)]) else none
    | _ => none
  | .invokevirtual _ => if k = 2 ∨ k = 3 then jb_invV F pc a b ls st h else none
  | .invokestatic _ => if k = 4 ∨ k = 5 then jb_invS F pc a b ls st h else if k = 15 then (match st with
      | .int y :: r => if a = 2 then (if jb_sum r ≤ 8 then jb_go (pc + 3) ls (.int (if 0 ≤ y then y else 0 - y) :: r) h else none) else (match r with
        | .int x :: r' => if jb_sum r' ≤ 8 then jb_go (pc + 3) ls (.int (if a = 0 then (if x < y then y else x) else (if y < x then y else x)) :: r') h else none
        | _ => none)
      | _ => none) else none
  | .invokespecial _ => if k = 6 ∨ k = 7 then jb_invV F pc a b ls st h else if k = 8 then (match st with
      | .ref r :: st' => if jb_sum st' ≤ 8 ∧ r < 1000000 then jb_go (pc + 3) ls st' h else none
      | _ => none) else none
  | .ldc _ => if k = 11 then jb_go (pc + 2) ls (.ref (1000000 + a) :: st) h else none
  | .ldc_w _ => if k = 11 then jb_go (pc + 3) ls (.ref (1000000 + a) :: st) h else none
  | .ldc2_w _ => if k = 12 then jb_go (pc + 3) ls (.double (UInt64.ofNat a) :: st) h else none
  | .getstatic _ => if k = 13 then jb_go (pc + 3) ls ((if a = 0 then .int 1 else .ref 1000200) :: st) h else none
  | .i2d => match st with
    | .int x :: r => jb_go (pc + 1) ls (.double (FP.i2d x) :: r) h
    | _ => none
  | .i2f => match st with
    | .int x :: r => jb_go (pc + 1) ls (.float (FP.i2f x) :: r) h
    | _ => none
  | .ddiv => match st with
    | .double y :: .double x :: r => if FP.ddiv x y &&& 0x7fffffffffffffff ≤ 0x7ff0000000000000 then jb_go (pc + 1) ls (.double (FP.ddiv x y) :: r) h else none
    | _ => none
  | .fdiv => match st with
    | .float y :: .float x :: r => if FP.fdiv x y &&& 0x7fffffff ≤ 0x7f800000 then jb_go (pc + 1) ls (.float (FP.fdiv x y) :: r) h else none
    | _ => none
  | .fconst n => if (n : Nat) = 0 then jb_go (pc + 1) ls (.float FP.fconst0 :: st) h else none
  | .ireturn => match st with
    | [.int x] => match jb_ret i with
      | some t => if (t = .int ∨ t = .boolean ∨ t = .char ∨ t = .byte) ∧ narrow t (.int x) = .int x then some (.inl (some (.int x), h)) else none
      | none => none
    | _ => none
  | .dreturn => match st with
    | [.double x] => if jb_ret i = some .double then some (.inl (some (.double x), h)) else none
    | _ => none
  | .freturn => match st with
    | [.float x] => if jb_ret i = some .float then some (.inl (some (.float x), h)) else none
    | _ => none
  | .areturn => match st with
    | [.ref x] => match jb_ret i with
      | some (.object _) => some (.inl (some (.ref x), h))
      | _ => none
    | [.null] => match jb_ret i with
      | some (.object _) => some (.inl (some .null, h))
      | _ => none
    | _ => none
  | .return_ => match st with
    | [] => if jb_ret i = none then some (.inl (none, h)) else none
    | _ => none
  | _ => none
def jb_stp (F : Nat → List Value → jb_H → Option jb_Res) (i : Nat) (c : jb_Cfg) : jb_St := match jb_op i c.1 with
  | none => none
  | some q => jb_ex F i q.1 q.2.1 q.2.2.1 q.2.2.2 c.1 c.2.1 c.2.2.1 c.2.2.2
def jb_run (F : Nat → List Value → jb_H → Option jb_Res) (i : Nat) : Nat → jb_Cfg → Option jb_Res
  | 0, _ => none
  | n + 1, c => match jb_stp F i c with
    | none => none
    | some (.inl r) => some r
    | some (.inr c') => jb_run F i n c'
theorem jb_run_succ {F : Nat → List Value → jb_H → Option jb_Res} {i : Nat} {r : jb_Res} : ∀ {n : Nat} {c : jb_Cfg}, jb_run F i n c = some r → jb_run F i (n + 1) c = some r
  | 0, _, h => by cases h
  | n + 1, c, h => by
    rw [jb_run] at h ⊢
    cases hs : jb_stp F i c with
    | none => rw [hs] at h; cases h
    | some q =>
      rw [hs] at h
      cases q with
      | inl r' => exact h
      | inr c' => exact jb_run_succ (n := n) h
theorem jb_run_mono {F : Nat → List Value → jb_H → Option jb_Res} {i : Nat} {r : jb_Res} {n : Nat} {c : jb_Cfg} (h : jb_run F i n c = some r) : ∀ k, jb_run F i (n + k) c = some r
  | 0 => h
  | k + 1 => jb_run_succ (jb_run_mono h k)
theorem jb_run_det {F : Nat → List Value → jb_H → Option jb_Res} {i : Nat} {r r' : jb_Res} {n n' : Nat} {c : jb_Cfg} (h : jb_run F i n c = some r) (h' : jb_run F i n' c = some r') : r = r' := by
  have h1 := jb_run_mono h n'
  have h2 := jb_run_mono h' n
  rw [Nat.add_comm] at h2
  exact Option.some.inj (h1.symm.trans h2)
/-- what a run comes to, if it ends -/
noncomputable def jb_to (F : Nat → List Value → jb_H → Option jb_Res) (i : Nat) (c : jb_Cfg) : Option jb_Res :=
  @dite _ (∃ n r, jb_run F i n c = some r) (Classical.propDecidable _) (fun h => some (Classical.choose (Classical.choose_spec h))) (fun _ => none)
theorem jb_to_iff {F : Nat → List Value → jb_H → Option jb_Res} {i : Nat} {c : jb_Cfg} {r : jb_Res} : jb_to F i c = some r ↔ ∃ n, jb_run F i n c = some r := by
  unfold jb_to
  by_cases h : ∃ n r, jb_run F i n c = some r
  · rw [dif_pos h]
    have h1 := Classical.choose_spec (Classical.choose_spec h)
    constructor
    · intro e
      exact ⟨_, by rw [h1]; exact e⟩
    · rintro ⟨n, e⟩
      rw [jb_run_det h1 e]
  · rw [dif_neg h]
    constructor
    · intro e; cases e
    · rintro ⟨n, e⟩; exact absurd ⟨n, r, e⟩ h
theorem jb_to_ext {F : Nat → List Value → jb_H → Option jb_Res} {i : Nat} {c c' : jb_Cfg} (h : ∀ r, (∃ n, jb_run F i n c = some r) ↔ ∃ n, jb_run F i n c' = some r) : jb_to F i c = jb_to F i c' := by
  apply Option.ext
  intro r
  rw [jb_to_iff, jb_to_iff]
  exact h r
theorem jb_to_next {F : Nat → List Value → jb_H → Option jb_Res} {i : Nat} {c c' : jb_Cfg} (h : jb_stp F i c = some (.inr c')) : jb_to F i c = jb_to F i c' := by
  apply jb_to_ext
  intro r
  constructor
  · rintro ⟨n, e⟩
    cases n with
    | zero => cases e
    | succ n =>
      rw [jb_run, h] at e
      exact ⟨n, e⟩
  · rintro ⟨n, e⟩
    exact ⟨n + 1, by rw [jb_run, h]; exact e⟩
theorem jb_to_ret {F : Nat → List Value → jb_H → Option jb_Res} {i : Nat} {c : jb_Cfg} {r : jb_Res} (h : jb_stp F i c = some (.inl r)) : jb_to F i c = some r :=
  jb_to_iff.mpr ⟨1, by rw [jb_run, h]⟩
theorem jb_to_none {F : Nat → List Value → jb_H → Option jb_Res} {i : Nat} {c : jb_Cfg} (h : jb_stp F i c = none) : jb_to F i c = none := by
  cases e : jb_to F i c with
  | none => rfl
  | some r =>
    obtain ⟨n, e⟩ := jb_to_iff.mp e
    cases n with
    | zero => cases e
    | succ n => rw [jb_run, h] at e; cases e
def jb_entry (i : Nat) (args : List Value) : List Value := args ++ List.replicate (jb_ml i - args.length) (.retAddr 0)
/-- the methods of less height than d -/
noncomputable def jb_G : Nat → Nat → List Value → jb_H → Option jb_Res
  | 0 => fun _ _ _ => none
  | d + 1 => fun i args h => if jb_ht i = d then (if args.length ≤ jb_ml i ∧ args.all (fun v => v.category == 1) = true then jb_to (jb_G d) i (0, jb_entry i args, [], h) else none) else jb_G d i args h
/-- a method's run -/
noncomputable def jb_Ev (i : Nat) (args : List Value) (h : jb_H) : Option jb_Res := jb_G (jb_ht i + 1) i args h
noncomputable def jb_Ex (i : Nat) (c : jb_Cfg) : Option jb_Res := jb_to (jb_G (jb_ht i)) i c
theorem jb_G_succ (d i : Nat) (args : List Value) (h : jb_H) : jb_G (d + 1) i args h = if jb_ht i = d then (if args.length ≤ jb_ml i ∧ args.all (fun v => v.category == 1) = true then jb_to (jb_G d) i (0, jb_entry i args, [], h) else none) else jb_G d i args h := rfl
theorem jb_G_low {i : Nat} : ∀ {d : Nat}, jb_ht i < d → jb_G d i = jb_Ev i
  | 0, h => absurd h (Nat.not_lt_zero _)
  | d + 1, h => by
    by_cases e : jb_ht i = d
    · funext args hh
      rw [jb_Ev, e]
    · funext args hh
      rw [jb_G_succ, if_neg e, jb_G_low (d := d) (by omega)]
theorem jb_Ev_eq {i : Nat} {args : List Value} {h : jb_H} (ha : args.length ≤ jb_ml i ∧ args.all (fun v => v.category == 1) = true) : jb_Ev i args h = jb_Ex i (0, jb_entry i args, [], h) := by
  rw [jb_Ev, jb_G_succ, if_pos rfl, if_pos ha, jb_Ex]
end
section
/-! ===== the small machine's objects, values and locals, and the machine's ===== -/
/-- base, the texts' addresses, their bytes', the formatter, the ids of the two array classes -/
abbrev ja_E : Type := Nat × (Nat → Nat) × (Nat → Nat) × Value × ClassId × ClassId
def ja_ad (E : ja_E) (r : Nat) : Nat := if r < 1000000 then E.1 + r else if r < 1000100 then E.2.1 (r - 1000000) else E.2.2.1 (r - 1000100)
def ja_v (E : ja_E) (v : Value) : Value := match v with
  | .ref r => if r = 1000200 then E.2.2.2.1 else .ref (ja_ad E r)
  | v => v
def ja_fok (E : ja_E) : Prop := E.2.2.2.1 = .null ∨ ∃ q, E.2.2.2.1 = .ref q
theorem ja_v_int (E : ja_E) (x : Int32) : ja_v E (.int x) = .int x := rfl
theorem ja_v_null (E : ja_E) : ja_v E .null = .null := rfl
theorem ja_v_ref (E : ja_E) {r : Nat} (h : r ≠ 1000200) : ja_v E (.ref r) = .ref (ja_ad E r) := by
  show (if r = 1000200 then _ else _) = _
  rw [if_neg h]
theorem ja_v_low (E : ja_E) {r : Nat} (h : r < 1000000) : ja_v E (.ref r) = .ref (E.1 + r) := by
  rw [ja_v_ref E (by omega), ja_ad, if_pos h]
theorem ja_v_refs {E : ja_E} (hf : ja_fok E) (r : Nat) : ja_v E (.ref r) = .null ∨ ∃ q, ja_v E (.ref r) = .ref q := by
  by_cases h : r = 1000200
  · subst h
    exact hf
  · exact Or.inr ⟨_, ja_v_ref E h⟩
theorem ja_v_cat {E : ja_E} (hf : ja_fok E) (v : Value) : (ja_v E v).category = v.category := by
  cases v with
  | ref r => rcases ja_v_refs hf r with h | ⟨q, h⟩ <;> rw [h] <;> rfl
  | _ => rfl
theorem ja_sum {E : ja_E} (hf : ja_fok E) (st : List Value) : ((st.map (ja_v E)).map fun v => v.category).sum = jb_sum st := by
  rw [List.map_map, jb_sum]
  congr 1
  apply List.map_congr_left
  intro v _
  exact ja_v_cat hf v
/-! locals -/
def ja_L (E : ja_E) (ls : List Value) (lm : Array Slot) : Prop := lm.size = ls.length ∧ lv_wf lm ∧ (∀ (k : Nat) (v : Value), ls[k]? = some v → v.category = 1 ∧ (v ≠ .retAddr 0 → lm[k]? = some (.val (ja_v E v))))
theorem ja_L.at {E : ja_E} {ls : List Value} {lm : Array Slot} (h : ja_L E ls lm) {k : Nat} {v : Value} (hk : ls[k]? = some v) (hv : v ≠ .retAddr 0) : lm[k]? = some (.val (ja_v E v)) := (h.2.2 k v hk).2 hv
def ja_prs (E : ja_E) (ls : List Value) : List (Nat × Value) := (List.range ls.length).filterMap (fun k => match ls[k]? with
  | some v => if v = .retAddr 0 then none else some (k, ja_v E v)
  | none => none)
theorem ja_prs_mem {E : ja_E} {ls : List Value} {q : Nat × Value} : q ∈ ja_prs E ls ↔ ∃ v, ls[q.1]? = some v ∧ v ≠ .retAddr 0 ∧ q.2 = ja_v E v := by
  unfold ja_prs
  rw [List.mem_filterMap]
  constructor
  · rintro ⟨k, -, hk⟩
    cases hv : ls[k]? with
    | none => rw [hv] at hk; cases hk
    | some v =>
      rw [hv] at hk
      by_cases h0 : v = .retAddr 0
      · simp [h0] at hk
      · simp only [h0, if_false] at hk
        cases hk
        exact ⟨v, hv, h0, rfl⟩
  · rintro ⟨v, hv, h0, h1⟩
    refine ⟨q.1, List.mem_range.mpr (List.getElem?_eq_some_iff.mp hv).1, ?_⟩
    rw [hv]
    simp only [h0, if_false]
    rw [← h1]
theorem ja_L.has {E : ja_E} {ls : List Value} {lm : Array Slot} (h : ja_L E ls lm) : lv_has lm ls.length (ja_prs E ls) := by
  refine ⟨h.1, h.2.1, fun q hq => ?_⟩
  obtain ⟨v, hv, h0, h1⟩ := ja_prs_mem.mp hq
  rw [h1]
  exact h.at hv h0
theorem ja_L.set {E : ja_E} (hf : ja_fok E) {ls : List Value} {lm lm' : Array Slot} {n : Nat} {x : Value} (h : ja_L E ls lm) (hx : x.category = 1) (hn : n < ls.length) (h' : lv_has lm' ls.length ((n, ja_v E x) :: (ja_prs E ls).filter (fun q => !(q.1 == n) && !(q.1 + 1 == n && q.2.category == 2)))) : ja_L E (ls.set n x) lm' := by
  refine ⟨by rw [List.length_set]; exact h'.1, h'.2.1, fun k v hk => ?_⟩
  rw [List.getElem?_set] at hk
  by_cases e : n = k
  · subst e
    rw [if_pos rfl, if_pos hn] at hk
    cases hk
    exact ⟨hx, fun _ => h'.2.2 (n, ja_v E x) List.mem_cons_self⟩
  · rw [if_neg e] at hk
    refine ⟨(h.2.2 k v hk).1, fun h0 => h'.2.2 (k, ja_v E v) (List.mem_cons_of_mem _ (List.mem_filter.mpr ⟨ja_prs_mem.mpr ⟨v, hk, h0, rfl⟩, ?_⟩))⟩
    have hc : (ja_v E v).category = 1 := by rw [ja_v_cat hf]; exact (h.2.2 k v hk).1
    simp [hc, Ne.symm e]
/-! objects -/
def ja_ent (E : ja_E) (q : Nat × List Value) : va_E :=
  if q.1 = 12 then .inl (E.2.2.2.2.1, q.2.length, .inl (fun j => match q.2[j]? with
    | some (.int x) => x
    | _ => 0))
  else if q.1 = 13 then .inl (E.2.2.2.2.2, q.2.length, .inr (.inr (.inr (.inr (fun j => match q.2[j]? with
    | some (.ref r) => some (E.1 + r)
    | _ => none)))))
  else .inr (q.1, q.2.map (ja_v E))
def ja_w (E : ja_E) (h : jb_H) : va_W := h.mapIdx (fun k q => (E.1 + k, ja_ent E q))
theorem ja_w_get {E : ja_E} {h : jb_H} (k : Nat) : (ja_w E h)[k]? = (h[k]?).map (fun q => (E.1 + k, ja_ent E q)) := by
  rw [ja_w, List.getElem?_mapIdx]
theorem ja_w_len {E : ja_E} {h : jb_H} : (ja_w E h).length = h.length := by rw [ja_w, List.length_mapIdx]
theorem ja_w_set {E : ja_E} {h : jb_H} {k : Nat} {q : Nat × List Value} : ja_w E (h.set k q) = (ja_w E h).set k (E.1 + k, ja_ent E q) := by
  apply List.ext_getElem?
  intro j
  rw [ja_w_get, List.getElem?_set, List.getElem?_set, ja_w_get, ja_w_len]
  by_cases e : k = j
  · subst e
    rw [if_pos rfl, if_pos rfl]
    by_cases hl : k < h.length
    · rw [if_pos hl, if_pos hl]; rfl
    · rw [if_neg hl, if_neg hl]; rfl
  · rw [if_neg e, if_neg e]
theorem ja_w_app {E : ja_E} {h : jb_H} {q : Nat × List Value} : ja_w E (h ++ [q]) = ja_w E h ++ [(E.1 + h.length, ja_ent E q)] := by
  simp [ja_w, List.mapIdx_append]
def ja_A (E : ja_E) : Nat → Prop := fun q => E.1 ≤ q
theorem ja_w_D {E : ja_E} {h : jb_H} : va_D (ja_A E) (ja_w E h) := by
  refine ⟨fun i j p q hp hq e => ?_, fun k q hq => ?_⟩
  · rw [ja_w_get] at hp hq
    cases h1 : h[i]? with
    | none => rw [h1] at hp; cases hp
    | some a =>
      cases h2 : h[j]? with
      | none => rw [h2] at hq; cases hq
      | some b =>
        rw [h1] at hp
        rw [h2] at hq
        cases hp
        cases hq
        have e : E.1 + i = E.1 + j := e
        omega
  · rw [ja_w_get] at hq
    cases h1 : h[k]? with
    | none => rw [h1] at hq; cases hq
    | some a =>
      rw [h1] at hq
      cases hq
      exact Nat.le_add_right _ _
/-- the world of the small machine's objects -/
def ja_J (E : ja_E) (D : va_G) (h : jb_H) (H : Heap) : Prop := va_P D jb_cl (ja_w E h) H ∧ H.size = E.1 + h.length
def ja_tys (E : ja_E) : List (ClassId × FieldType) := [(E.2.2.2.2.1, .int), (E.2.2.2.2.2, .object "DrownedBells$Village")]
def ja_len : List Nat := jb_SB.map List.length
def ja_nest (w : Cond) : Bool := match w with
  | .fieldLinkNest .. => true
  | .methodLinkNest .. => true
  | _ => false
/-- what is only read: texts, two statics, the words that a nest mate's members want -/
def ja_R (E : ja_E) (U : State) (H : Heap) : Prop :=
  vk_S 10 ja_len jb_SB E.2.1 E.2.2.1 (ja_A E) U H ∧ (∀ o x n, n < 10 → Cond.stringRef (jb_O o) x (jb_S.getD n "") ∈ lw_tbl → vk_R (jb_O o) x (jb_S.getD n "") (E.2.1 n) U) ∧
  va_Z "java/lang/String" "COMPACT_STRINGS" "Z" (.int 1) (ja_A E) U H ∧ va_Z "jdk/internal/util/Preconditions" "SIOOBE_FORMATTER" "Ljava/util/function/BiFunction;" E.2.2.2.1 (ja_A E) U H ∧
  (∀ w ∈ lw_tbl, ja_nest w = true → va_Nw w U) ∧ va_AO "DrownedBells$Village" U ∧ ja_fok E
/-- how many slots -/
def ja_tot (h : jb_H) : Nat := (h.map (fun q => q.2.length)).sum
theorem ja_tot_app (h : jb_H) (q : Nat × List Value) : ja_tot (h ++ [q]) = ja_tot h + q.2.length := by simp [ja_tot]
theorem ja_tot_set {h : jb_H} {k c c' : Nat} {fs fs' : List Value} (hk : h[k]? = some (c, fs)) (hl : fs'.length = fs.length) : ja_tot (h.set k (c', fs')) = ja_tot h := by
  have e : (h.set k (c', fs')).map (fun q => q.2.length) = h.map (fun q => q.2.length) := by
    apply List.ext_getElem?
    intro j
    rw [List.getElem?_map, List.getElem?_map, List.getElem?_set]
    by_cases e : k = j
    · subst e
      rw [if_pos rfl, if_pos (List.getElem?_eq_some_iff.mp hk).1, hk]
      simp [hl]
    · rw [if_neg e]
  rw [ja_tot, e, ja_tot]
/-! the table's facts, of one instruction -/
theorem ja_lookup {α : Type} {pc : Nat} {b : α} : ∀ {l : List (Nat × α)}, l.lookup pc = some b → (pc, b) ∈ l
  | [], h => by cases h
  | (a, c) :: l, h => by
    rw [List.lookup_cons] at h
    by_cases e : pc = a
    · subst e
      simp at h
      subst h
      exact List.mem_cons_self
    · have e' : (pc == a) = false := by simp [e]
      rw [e'] at h
      exact List.mem_cons_of_mem _ (ja_lookup h)
theorem jb_okI_at {i : Nat} (hi : i < 248) : jb_okIs i = true := by
  have key : ∀ (a : Nat), (List.range' a 31).all jb_okIs = true → a ≤ i → i < a + 31 → jb_okIs i = true := by
    intro a h h1 h2
    exact List.all_eq_true.mp h i (List.mem_range'_1.mpr ⟨h1, h2⟩)
  rcases (show i < 31 ∨ (31 ≤ i ∧ i < 62) ∨ (62 ≤ i ∧ i < 93) ∨ (93 ≤ i ∧ i < 124) ∨ (124 ≤ i ∧ i < 155) ∨ (155 ≤ i ∧ i < 186) ∨ (186 ≤ i ∧ i < 217) ∨ (217 ≤ i ∧ i < 248) by omega) with h | h | h | h | h | h | h | h
  · exact key 0 jb_okI_0 (by omega) (by omega)
  · exact key 31 jb_okI_1 h.1 h.2
  · exact key 62 jb_okI_2 h.1 h.2
  · exact key 93 jb_okI_3 h.1 h.2
  · exact key 124 jb_okI_4 h.1 h.2
  · exact key 155 jb_okI_5 h.1 h.2
  · exact key 186 jb_okI_6 h.1 h.2
  · exact key 217 jb_okI_7 h.1 h.2
theorem jb_op_ok {i pc : Nat} {ins : Instr} {k a b : Nat} (hi : i < 248) (h : jb_op i pc = some (ins, k, a, b)) : (jb_ln ins = 0 ∨ decode (jb_b i) pc = .ok (ins, jb_ln ins)) ∧ (∃ n, decode (jb_b i) pc = .ok (ins, n)) ∧ (k = 99 ∨ ∃ x p, (jb_ow i, x, k, a, b, p) ∈ jb_L ∧ jb_lk ins x k = true) := by
  unfold jb_op at h
  cases hl : (jb_I.getD i []).lookup pc with
  | none => rw [hl] at h; cases h
  | some q =>
    rw [hl] at h
    have hm := ja_lookup hl
    have h0 := List.all_eq_true.mp (jb_okI_at hi) _ hm
    unfold jb_okI at h0
    simp only [Bool.and_eq_true, decide_eq_true_eq, Bool.or_eq_true, beq_iff_eq] at h0
    obtain ⟨hd, hk⟩ := h0
    dsimp only at h
    by_cases c1 : jb_ln q.1 = q.2.1 ∨ jb_ln q.1 = 0
    · rw [if_pos c1] at h
      by_cases c2 : q.2.2 = 0
      · rw [if_pos c2] at h
        cases h
        refine ⟨?_, ⟨_, hd⟩, Or.inl rfl⟩
        rcases c1 with c1 | c1
        · right
          rw [c1]
          exact hd
        · exact Or.inl c1
      · rw [if_neg c2] at h
        rcases hk with hk | hk
        · exact absurd hk c2
        · cases hL : jb_L[q.2.2 - 1]? with
          | none => rw [hL] at h; cases h
          | some w =>
            rw [hL] at h hk
            simp only [Option.map_some, Option.getD_some, Bool.and_eq_true, decide_eq_true_eq] at hk
            cases h
            refine ⟨?_, ⟨_, hd⟩, Or.inr ⟨w.2.1, w.2.2.2.2.2, ?_, hk.2⟩⟩
            · rcases c1 with c1 | c1
              · right
                rw [c1]
                exact hd
              · exact Or.inl c1
            · have := List.mem_of_getElem? hL
              rw [← hk.1]
              exact this
    · rw [if_neg c1] at h
      cases h
end
section
/-! ===== one instruction of the small machine is one of the machine's: locals, numbers, branches ===== -/
def ja_C (p : Program) (m : MethodId) (meth : Method) (c : Code) (s : State) (args : Array Value) (i : Nat) (D : va_G) (E : ja_E) : Prop :=
  p.tables.exec = Jvm.exec ∧ c.code = jb_b i ∧ meth.sig.returnType = jb_ret i ∧ c.maxLocals = jb_ml i ∧ s.vm.findClass (jb_O (jb_ow i)) = some m.cls ∧ (∀ w ∈ jb_W, w.before args s = true) ∧ meth.locks = false ∧ meth.name = (jb_y i).name ∧ va_K D jb_cl (ja_tys E) s ∧ ja_R E s s.heap ∧ (∀ q, s.heap.size ≤ q → ja_A E q) ∧ i < 248
/-- from this configuration on the machine comes to its end -/
def ja_Wd (p : Program) (l : Launch) (e : Env) (R : Room) (s : State) (m : MethodId) (args : Array Value) (below : List Frame) (meth : Method) (c : Code) (D : va_G) (E : ja_E) (Q : State → Prop) (n0 t0 : Nat) (g : jb_Cfg) : Prop :=
  ∀ (H : Heap) (locs : List Loc) (lm : Array Slot), ja_J E D g.2.2.2 H → va_S (ja_A E) s.heap H locs → ja_L E g.2.1 lm → t0 ≤ ja_tot g.2.2.2 → W p l e R s m args below meth c H locs (g.2.2.2.length - n0) (ja_tot g.2.2.2 - t0) Q (F0 m g.1 lm (g.2.2.1.map (ja_v E)))
section JS
variable {p : Program} {l : Launch} {e : Env} {R : Room} {s : State} {m : MethodId} {args : Array Value} {below : List Frame} {meth : Method} {c : Code} {D : va_G} {E : ja_E} {Q : State → Prop} {n0 t0 i : Nat} {F : Nat → List Value → jb_H → Option jb_Res} {k a b pc : Nat} {ls st : List Value} {h : jb_H} {g : jb_Cfg}
theorem ja_C.fok (C : ja_C p m meth c s args i D E) : ja_fok E := C.2.2.2.2.2.2.2.2.2.1.2.2.2.2.2.2
theorem jb_go_inj {pc : Nat} {ls st : List Value} {h : jb_H} {g : jb_Cfg} (hs : jb_go pc ls st h = some (.inr g)) : g = (pc, ls, st, h) := by
  cases hs; rfl
theorem jb_tg_ok {pc : Nat} {o : Int} {t : Nat} (h : jb_tg pc o = some t) : (pc : Int) + o = (t : Int) := by
  unfold jb_tg at h
  split at h
  · cases h
    rw [Int.toNat_of_nonneg (by assumption)]
  · cases h
theorem js_iconst (C : ja_C p m meth c s args i D E) {n : Int} (hd : decode (jb_b i) pc = .ok (.iconst n, 1)) (hs : jb_ex F i (.iconst n) k a b pc ls st h = some (.inr g)) (kk : ja_Wd p l e R s m args below meth c D E Q n0 t0 g) : ja_Wd p l e R s m args below meth c D E Q n0 t0 (pc, ls, st, h) := by
  unfold jb_ex at hs
  dsimp only at hs
  have e := jb_go_inj hs
  subst e
  intro H locs lm hJ hS hL hT0
  exact lv_iconst C.1 C.2.1 hd rfl (kk H locs lm hJ hS hL hT0)
theorem js_bipush (C : ja_C p m meth c s args i D E) {n : Int} (hd : decode (jb_b i) pc = .ok (.bipush n, 2)) (hs : jb_ex F i (.bipush n) k a b pc ls st h = some (.inr g)) (kk : ja_Wd p l e R s m args below meth c D E Q n0 t0 g) : ja_Wd p l e R s m args below meth c D E Q n0 t0 (pc, ls, st, h) := by
  unfold jb_ex at hs
  dsimp only at hs
  have e := jb_go_inj hs
  subst e
  intro H locs lm hJ hS hL hT0
  exact lv_bipush C.1 C.2.1 hd rfl (kk H locs lm hJ hS hL hT0)
theorem js_sipush (C : ja_C p m meth c s args i D E) {n : Int} (hd : decode (jb_b i) pc = .ok (.sipush n, 3)) (hs : jb_ex F i (.sipush n) k a b pc ls st h = some (.inr g)) (kk : ja_Wd p l e R s m args below meth c D E Q n0 t0 g) : ja_Wd p l e R s m args below meth c D E Q n0 t0 (pc, ls, st, h) := by
  unfold jb_ex at hs
  dsimp only at hs
  have e := jb_go_inj hs
  subst e
  intro H locs lm hJ hS hL hT0
  exact lv_sipush C.1 C.2.1 hd rfl (kk H locs lm hJ hS hL hT0)
theorem js_null (C : ja_C p m meth c s args i D E) (hd : decode (jb_b i) pc = .ok (.aconst_null, 1)) (hs : jb_ex F i (.aconst_null) k a b pc ls st h = some (.inr g)) (kk : ja_Wd p l e R s m args below meth c D E Q n0 t0 g) : ja_Wd p l e R s m args below meth c D E Q n0 t0 (pc, ls, st, h) := by
  unfold jb_ex at hs
  dsimp only at hs
  have e := jb_go_inj hs
  subst e
  intro H locs lm hJ hS hL hT0
  exact lv_null C.1 C.2.1 hd (kk H locs lm hJ hS hL hT0)
theorem js_iload (C : ja_C p m meth c s args i D E) {n : Nat} (hd : decode (jb_b i) pc = .ok (.iload n, 2)) (hs : jb_ex F i (.iload n) k a b pc ls st h = some (.inr g)) (kk : ja_Wd p l e R s m args below meth c D E Q n0 t0 g) : ja_Wd p l e R s m args below meth c D E Q n0 t0 (pc, ls, st, h) := by
  unfold jb_ex at hs
  dsimp only at hs
  split at hs
  · rename_i x hx
    have e := jb_go_inj hs
    subst e
    intro H locs lm hJ hS hL hT0
    exact lv_iload C.1 C.2.1 hd (hL.at hx (by intro q; cases q)) (kk H locs lm hJ hS hL hT0)
  · cases hs
theorem js_iload_n (C : ja_C p m meth c s args i D E) {n : Fin 4} (hd : decode (jb_b i) pc = .ok (.iload_n n, 1)) (hs : jb_ex F i (.iload_n n) k a b pc ls st h = some (.inr g)) (kk : ja_Wd p l e R s m args below meth c D E Q n0 t0 g) : ja_Wd p l e R s m args below meth c D E Q n0 t0 (pc, ls, st, h) := by
  unfold jb_ex at hs
  dsimp only at hs
  split at hs
  · rename_i x hx
    have e := jb_go_inj hs
    subst e
    intro H locs lm hJ hS hL hT0
    exact lv_iload_n C.1 C.2.1 hd rfl (hL.at hx (by intro q; cases q)) (kk H locs lm hJ hS hL hT0)
  · cases hs
theorem js_aload_n (C : ja_C p m meth c s args i D E) {n : Fin 4} (hd : decode (jb_b i) pc = .ok (.aload_n n, 1)) (hs : jb_ex F i (.aload_n n) k a b pc ls st h = some (.inr g)) (kk : ja_Wd p l e R s m args below meth c D E Q n0 t0 g) : ja_Wd p l e R s m args below meth c D E Q n0 t0 (pc, ls, st, h) := by
  unfold jb_ex at hs
  dsimp only at hs
  split at hs
  · rename_i x hx
    have e := jb_go_inj hs
    subst e
    intro H locs lm hJ hS hL hT0
    have h1 := hL.at hx (by intro q; cases q)
    have h2 := kk H locs lm hJ hS hL hT0
    dsimp only at h2 ⊢
    rw [List.map_cons] at h2
    rcases ja_v_refs C.fok x with q | ⟨y, q⟩
    · rw [q] at h1 h2
      exact lv_aload_nN C.1 C.2.1 hd rfl h1 h2
    · rw [q] at h1 h2
      exact lv_aload_n C.1 C.2.1 hd rfl h1 h2
  · rename_i hx
    have e := jb_go_inj hs
    subst e
    intro H locs lm hJ hS hL hT0
    exact lv_aload_nN C.1 C.2.1 hd rfl (hL.at hx (by intro q; cases q)) (kk H locs lm hJ hS hL hT0)
  · cases hs
theorem js_istore (C : ja_C p m meth c s args i D E) {n : Nat} (hd : decode (jb_b i) pc = .ok (.istore n, 2)) (hs : jb_ex F i (.istore n) k a b pc ls st h = some (.inr g)) (kk : ja_Wd p l e R s m args below meth c D E Q n0 t0 g) : ja_Wd p l e R s m args below meth c D E Q n0 t0 (pc, ls, st, h) := by
  unfold jb_ex at hs
  dsimp only at hs
  split at hs
  · split at hs
    · rename_i hn
      have e := jb_go_inj hs
      subst e
      intro H locs lm hJ hS hL hT0
      exact lv_istore C.1 C.2.1 hd hL.has hn rfl (fun lm' h' => kk H locs lm' hJ hS (hL.set C.fok rfl hn h') hT0)
    · cases hs
  · cases hs
theorem js_istore_n (C : ja_C p m meth c s args i D E) {n : Fin 4} (hd : decode (jb_b i) pc = .ok (.istore_n n, 1)) (hs : jb_ex F i (.istore_n n) k a b pc ls st h = some (.inr g)) (kk : ja_Wd p l e R s m args below meth c D E Q n0 t0 g) : ja_Wd p l e R s m args below meth c D E Q n0 t0 (pc, ls, st, h) := by
  unfold jb_ex at hs
  dsimp only at hs
  split at hs
  · split at hs
    · rename_i hn
      have e := jb_go_inj hs
      subst e
      intro H locs lm hJ hS hL hT0
      exact lv_istore_n C.1 C.2.1 hd rfl hL.has hn rfl (fun lm' h' => kk H locs lm' hJ hS (hL.set C.fok rfl hn h') hT0)
    · cases hs
  · cases hs
theorem js_astore_n (C : ja_C p m meth c s args i D E) {n : Fin 4} (hd : decode (jb_b i) pc = .ok (.astore_n n, 1)) (hs : jb_ex F i (.astore_n n) k a b pc ls st h = some (.inr g)) (kk : ja_Wd p l e R s m args below meth c D E Q n0 t0 g) : ja_Wd p l e R s m args below meth c D E Q n0 t0 (pc, ls, st, h) := by
  unfold jb_ex at hs
  dsimp only at hs
  split at hs
  · rename_i x r
    split at hs
    · rename_i hn
      have e := jb_go_inj hs
      subst e
      intro H locs lm hJ hS hL hT0
      have key := fun lm' (h' : lv_has lm' ls.length (((n : Nat), ja_v E (.ref x)) :: (ja_prs E ls).filter (fun q => !(q.1 == (n : Nat)) && !(q.1 + 1 == (n : Nat) && q.2.category == 2)))) => kk H locs lm' hJ hS (hL.set C.fok rfl hn h') hT0
      dsimp only at key ⊢
      rw [List.map_cons]
      rcases ja_v_refs C.fok x with q | ⟨y, q⟩
      · rw [q] at key ⊢
        exact lv_astore_nN C.1 C.2.1 hd rfl hL.has hn rfl key
      · rw [q] at key ⊢
        exact lv_astore_n C.1 C.2.1 hd rfl hL.has hn rfl key
    · cases hs
  · split at hs
    · rename_i hn
      have e := jb_go_inj hs
      subst e
      intro H locs lm hJ hS hL hT0
      exact lv_astore_nN C.1 C.2.1 hd rfl hL.has hn rfl (fun lm' h' => kk H locs lm' hJ hS (hL.set (x := .null) C.fok rfl hn h') hT0)
    · cases hs
  · cases hs
theorem js_iinc (C : ja_C p m meth c s args i D E) {n : Nat} {d : Int} (hd : decode (jb_b i) pc = .ok (.iinc n d, 3)) (hs : jb_ex F i (.iinc n d) k a b pc ls st h = some (.inr g)) (kk : ja_Wd p l e R s m args below meth c D E Q n0 t0 g) : ja_Wd p l e R s m args below meth c D E Q n0 t0 (pc, ls, st, h) := by
  unfold jb_ex at hs
  dsimp only at hs
  split at hs
  · rename_i x hx
    have e := jb_go_inj hs
    subst e
    intro H locs lm hJ hS hL hT0
    have hm : (n, Value.int x) ∈ ja_prs E ls := ja_prs_mem.mpr ⟨.int x, hx, (by intro q; cases q), rfl⟩
    obtain ⟨j, hj⟩ := List.getElem?_of_mem hm
    have hn : n < ls.length := (List.getElem?_eq_some_iff.mp hx).1
    exact lv_iinc C.1 C.2.1 hd hL.has hj rfl hn rfl (fun lm' h' => kk H locs lm' hJ hS (hL.set (x := .int (x + Int32.ofInt d)) C.fok rfl hn h') hT0)
  · cases hs
theorem js_iadd (C : ja_C p m meth c s args i D E) (hd : decode (jb_b i) pc = .ok (.iadd, 1)) (hs : jb_ex F i (.iadd) k a b pc ls st h = some (.inr g)) (kk : ja_Wd p l e R s m args below meth c D E Q n0 t0 g) : ja_Wd p l e R s m args below meth c D E Q n0 t0 (pc, ls, st, h) := by
  unfold jb_ex at hs
  dsimp only at hs
  split at hs
  · have e := jb_go_inj hs
    subst e
    intro H locs lm hJ hS hL hT0
    exact lv_iadd C.1 C.2.1 hd (kk H locs lm hJ hS hL hT0)
  · cases hs
theorem js_isub (C : ja_C p m meth c s args i D E) (hd : decode (jb_b i) pc = .ok (.isub, 1)) (hs : jb_ex F i (.isub) k a b pc ls st h = some (.inr g)) (kk : ja_Wd p l e R s m args below meth c D E Q n0 t0 g) : ja_Wd p l e R s m args below meth c D E Q n0 t0 (pc, ls, st, h) := by
  unfold jb_ex at hs
  dsimp only at hs
  split at hs
  · have e := jb_go_inj hs
    subst e
    intro H locs lm hJ hS hL hT0
    exact lv_isub C.1 C.2.1 hd (kk H locs lm hJ hS hL hT0)
  · cases hs
theorem js_imul (C : ja_C p m meth c s args i D E) (hd : decode (jb_b i) pc = .ok (.imul, 1)) (hs : jb_ex F i (.imul) k a b pc ls st h = some (.inr g)) (kk : ja_Wd p l e R s m args below meth c D E Q n0 t0 g) : ja_Wd p l e R s m args below meth c D E Q n0 t0 (pc, ls, st, h) := by
  unfold jb_ex at hs
  dsimp only at hs
  split at hs
  · have e := jb_go_inj hs
    subst e
    intro H locs lm hJ hS hL hT0
    exact lv_imul C.1 C.2.1 hd (kk H locs lm hJ hS hL hT0)
  · cases hs
theorem js_iand (C : ja_C p m meth c s args i D E) (hd : decode (jb_b i) pc = .ok (.iand, 1)) (hs : jb_ex F i (.iand) k a b pc ls st h = some (.inr g)) (kk : ja_Wd p l e R s m args below meth c D E Q n0 t0 g) : ja_Wd p l e R s m args below meth c D E Q n0 t0 (pc, ls, st, h) := by
  unfold jb_ex at hs
  dsimp only at hs
  split at hs
  · have e := jb_go_inj hs
    subst e
    intro H locs lm hJ hS hL hT0
    exact lv_iand C.1 C.2.1 hd (kk H locs lm hJ hS hL hT0)
  · cases hs
theorem js_ishr (C : ja_C p m meth c s args i D E) (hd : decode (jb_b i) pc = .ok (.ishr, 1)) (hs : jb_ex F i (.ishr) k a b pc ls st h = some (.inr g)) (kk : ja_Wd p l e R s m args below meth c D E Q n0 t0 g) : ja_Wd p l e R s m args below meth c D E Q n0 t0 (pc, ls, st, h) := by
  unfold jb_ex at hs
  dsimp only at hs
  split at hs
  · have e := jb_go_inj hs
    subst e
    intro H locs lm hJ hS hL hT0
    exact lv_ishr C.1 C.2.1 hd (kk H locs lm hJ hS hL hT0)
  · cases hs
theorem js_ineg (C : ja_C p m meth c s args i D E) (hd : decode (jb_b i) pc = .ok (.ineg, 1)) (hs : jb_ex F i (.ineg) k a b pc ls st h = some (.inr g)) (kk : ja_Wd p l e R s m args below meth c D E Q n0 t0 g) : ja_Wd p l e R s m args below meth c D E Q n0 t0 (pc, ls, st, h) := by
  unfold jb_ex at hs
  dsimp only at hs
  split at hs
  · have e := jb_go_inj hs
    subst e
    intro H locs lm hJ hS hL hT0
    exact lv_ineg C.1 C.2.1 hd (kk H locs lm hJ hS hL hT0)
  · cases hs
theorem js_i2b (C : ja_C p m meth c s args i D E) (hd : decode (jb_b i) pc = .ok (.i2b, 1)) (hs : jb_ex F i (.i2b) k a b pc ls st h = some (.inr g)) (kk : ja_Wd p l e R s m args below meth c D E Q n0 t0 g) : ja_Wd p l e R s m args below meth c D E Q n0 t0 (pc, ls, st, h) := by
  unfold jb_ex at hs
  dsimp only at hs
  split at hs
  · have e := jb_go_inj hs
    subst e
    intro H locs lm hJ hS hL hT0
    exact lv_i2b C.1 C.2.1 hd rfl (kk H locs lm hJ hS hL hT0)
  · cases hs
theorem js_i2c (C : ja_C p m meth c s args i D E) (hd : decode (jb_b i) pc = .ok (.i2c, 1)) (hs : jb_ex F i (.i2c) k a b pc ls st h = some (.inr g)) (kk : ja_Wd p l e R s m args below meth c D E Q n0 t0 g) : ja_Wd p l e R s m args below meth c D E Q n0 t0 (pc, ls, st, h) := by
  unfold jb_ex at hs
  dsimp only at hs
  split at hs
  · have e := jb_go_inj hs
    subst e
    intro H locs lm hJ hS hL hT0
    exact lv_i2c C.1 C.2.1 hd rfl (kk H locs lm hJ hS hL hT0)
  · cases hs
theorem js_i2d (C : ja_C p m meth c s args i D E) (hd : decode (jb_b i) pc = .ok (.i2d, 1)) (hs : jb_ex F i (.i2d) k a b pc ls st h = some (.inr g)) (kk : ja_Wd p l e R s m args below meth c D E Q n0 t0 g) : ja_Wd p l e R s m args below meth c D E Q n0 t0 (pc, ls, st, h) := by
  unfold jb_ex at hs
  dsimp only at hs
  split at hs
  · have e := jb_go_inj hs
    subst e
    intro H locs lm hJ hS hL hT0
    exact lv_i2d C.1 C.2.1 hd (kk H locs lm hJ hS hL hT0)
  · cases hs
theorem js_i2f (C : ja_C p m meth c s args i D E) (hd : decode (jb_b i) pc = .ok (.i2f, 1)) (hs : jb_ex F i (.i2f) k a b pc ls st h = some (.inr g)) (kk : ja_Wd p l e R s m args below meth c D E Q n0 t0 g) : ja_Wd p l e R s m args below meth c D E Q n0 t0 (pc, ls, st, h) := by
  unfold jb_ex at hs
  dsimp only at hs
  split at hs
  · have e := jb_go_inj hs
    subst e
    intro H locs lm hJ hS hL hT0
    exact lv_i2f C.1 C.2.1 hd (kk H locs lm hJ hS hL hT0)
  · cases hs
theorem js_irem (C : ja_C p m meth c s args i D E) (hd : decode (jb_b i) pc = .ok (.irem, 1)) (hs : jb_ex F i (.irem) k a b pc ls st h = some (.inr g)) (kk : ja_Wd p l e R s m args below meth c D E Q n0 t0 g) : ja_Wd p l e R s m args below meth c D E Q n0 t0 (pc, ls, st, h) := by
  unfold jb_ex at hs
  dsimp only at hs
  split at hs
  · split at hs
    · cases hs
    · rename_i hy
      have e := jb_go_inj hs
      subst e
      intro H locs lm hJ hS hL hT0
      exact lv_irem C.1 C.2.1 hd hy (kk H locs lm hJ hS hL hT0)
  · cases hs
theorem js_ddiv (C : ja_C p m meth c s args i D E) (hd : decode (jb_b i) pc = .ok (.ddiv, 1)) (hs : jb_ex F i (.ddiv) k a b pc ls st h = some (.inr g)) (kk : ja_Wd p l e R s m args below meth c D E Q n0 t0 g) : ja_Wd p l e R s m args below meth c D E Q n0 t0 (pc, ls, st, h) := by
  unfold jb_ex at hs
  dsimp only at hs
  split at hs
  · split at hs
    · rename_i hc
      have e := jb_go_inj hs
      subst e
      intro H locs lm hJ hS hL hT0
      exact lv_ddiv C.1 C.2.1 hd hc (kk H locs lm hJ hS hL hT0)
    · cases hs
  · cases hs
theorem js_fdiv (C : ja_C p m meth c s args i D E) (hd : decode (jb_b i) pc = .ok (.fdiv, 1)) (hs : jb_ex F i (.fdiv) k a b pc ls st h = some (.inr g)) (kk : ja_Wd p l e R s m args below meth c D E Q n0 t0 g) : ja_Wd p l e R s m args below meth c D E Q n0 t0 (pc, ls, st, h) := by
  unfold jb_ex at hs
  dsimp only at hs
  split at hs
  · split at hs
    · rename_i hc
      have e := jb_go_inj hs
      subst e
      intro H locs lm hJ hS hL hT0
      exact lv_fdiv C.1 C.2.1 hd hc (kk H locs lm hJ hS hL hT0)
    · cases hs
  · cases hs
theorem js_dup (C : ja_C p m meth c s args i D E) (hd : decode (jb_b i) pc = .ok (.dup, 1)) (hs : jb_ex F i (.dup) k a b pc ls st h = some (.inr g)) (kk : ja_Wd p l e R s m args below meth c D E Q n0 t0 g) : ja_Wd p l e R s m args below meth c D E Q n0 t0 (pc, ls, st, h) := by
  unfold jb_ex at hs
  dsimp only at hs
  split at hs
  · split at hs
    · rename_i hc
      have e := jb_go_inj hs
      subst e
      intro H locs lm hJ hS hL hT0
      exact lv_dup C.1 C.2.1 hd ((ja_v_cat C.fok _).trans hc) (kk H locs lm hJ hS hL hT0)
    · cases hs
  · cases hs
theorem js_dup2 (C : ja_C p m meth c s args i D E) (hd : decode (jb_b i) pc = .ok (.dup2, 1)) (hs : jb_ex F i (.dup2) k a b pc ls st h = some (.inr g)) (kk : ja_Wd p l e R s m args below meth c D E Q n0 t0 g) : ja_Wd p l e R s m args below meth c D E Q n0 t0 (pc, ls, st, h) := by
  unfold jb_ex at hs
  dsimp only at hs
  split at hs
  · split at hs
    · rename_i hc
      have e := jb_go_inj hs
      subst e
      intro H locs lm hJ hS hL hT0
      exact lv_dup2_11 C.1 C.2.1 hd ((ja_v_cat C.fok _).trans hc.1) ((ja_v_cat C.fok _).trans hc.2) (kk H locs lm hJ hS hL hT0)
    · cases hs
  · cases hs
theorem js_pop (C : ja_C p m meth c s args i D E) (hd : decode (jb_b i) pc = .ok (.pop, 1)) (hs : jb_ex F i (.pop) k a b pc ls st h = some (.inr g)) (kk : ja_Wd p l e R s m args below meth c D E Q n0 t0 g) : ja_Wd p l e R s m args below meth c D E Q n0 t0 (pc, ls, st, h) := by
  unfold jb_ex at hs
  dsimp only at hs
  split at hs
  · split at hs
    · rename_i hc
      have e := jb_go_inj hs
      subst e
      intro H locs lm hJ hS hL hT0
      exact lv_pop C.1 C.2.1 hd ((ja_v_cat C.fok _).trans hc) (kk H locs lm hJ hS hL hT0)
    · cases hs
  · cases hs
theorem js_goto (C : ja_C p m meth c s args i D E) {o : Int} (hd : decode (jb_b i) pc = .ok (.goto o, 3)) (hs : jb_ex F i (.goto o) k a b pc ls st h = some (.inr g)) (kk : ja_Wd p l e R s m args below meth c D E Q n0 t0 g) : ja_Wd p l e R s m args below meth c D E Q n0 t0 (pc, ls, st, h) := by
  unfold jb_ex at hs
  dsimp only at hs
  split at hs
  · rename_i t ht
    have e := jb_go_inj hs
    subst e
    intro H locs lm hJ hS hL hT0
    exact lv_goto C.1 C.2.1 hd (jb_tg_ok ht) (kk H locs lm hJ hS hL hT0)
  · cases hs
theorem js_icmp_eq (C : ja_C p m meth c s args i D E) {o : Int} (hd : decode (jb_b i) pc = .ok (.if_icmp .eq o, 3)) (hs : jb_ex F i (.if_icmp .eq o) k a b pc ls st h = some (.inr g)) (kk : ja_Wd p l e R s m args below meth c D E Q n0 t0 g) : ja_Wd p l e R s m args below meth c D E Q n0 t0 (pc, ls, st, h) := by
  unfold jb_ex at hs
  dsimp only at hs
  split at hs
  · rename_i t ht
    split at hs
    · have e := jb_go_inj hs
      subst e
      intro H locs lm hJ hS hL hT0
      have h2 := kk H locs lm hJ hS hL hT0
      refine lv_icmp_eq C.1 C.2.1 hd (jb_tg_ok ht) (fun q => ?_) (fun q => ?_)
      · dsimp only at h2
        rw [if_pos q] at h2
        exact h2
      · dsimp only at h2
        rw [if_neg q] at h2
        exact h2
    · cases hs
  · cases hs
theorem js_icmp_ne (C : ja_C p m meth c s args i D E) {o : Int} (hd : decode (jb_b i) pc = .ok (.if_icmp .ne o, 3)) (hs : jb_ex F i (.if_icmp .ne o) k a b pc ls st h = some (.inr g)) (kk : ja_Wd p l e R s m args below meth c D E Q n0 t0 g) : ja_Wd p l e R s m args below meth c D E Q n0 t0 (pc, ls, st, h) := by
  unfold jb_ex at hs
  dsimp only at hs
  split at hs
  · rename_i t ht
    split at hs
    · have e := jb_go_inj hs
      subst e
      intro H locs lm hJ hS hL hT0
      have h2 := kk H locs lm hJ hS hL hT0
      refine lv_icmp_ne C.1 C.2.1 hd (jb_tg_ok ht) (fun q => ?_) (fun q => ?_)
      · dsimp only at h2
        rw [if_neg q] at h2
        exact h2
      · dsimp only at h2
        rw [if_pos q] at h2
        exact h2
    · cases hs
  · cases hs
theorem js_icmp_lt (C : ja_C p m meth c s args i D E) {o : Int} (hd : decode (jb_b i) pc = .ok (.if_icmp .lt o, 3)) (hs : jb_ex F i (.if_icmp .lt o) k a b pc ls st h = some (.inr g)) (kk : ja_Wd p l e R s m args below meth c D E Q n0 t0 g) : ja_Wd p l e R s m args below meth c D E Q n0 t0 (pc, ls, st, h) := by
  unfold jb_ex at hs
  dsimp only at hs
  split at hs
  · rename_i t ht
    split at hs
    · have e := jb_go_inj hs
      subst e
      intro H locs lm hJ hS hL hT0
      have h2 := kk H locs lm hJ hS hL hT0
      refine lv_icmp_lt C.1 C.2.1 hd (jb_tg_ok ht) (fun q => ?_) (fun q => ?_)
      · dsimp only at h2
        rw [if_pos q] at h2
        exact h2
      · dsimp only at h2
        rw [if_neg q] at h2
        exact h2
    · cases hs
  · cases hs
theorem js_icmp_ge (C : ja_C p m meth c s args i D E) {o : Int} (hd : decode (jb_b i) pc = .ok (.if_icmp .ge o, 3)) (hs : jb_ex F i (.if_icmp .ge o) k a b pc ls st h = some (.inr g)) (kk : ja_Wd p l e R s m args below meth c D E Q n0 t0 g) : ja_Wd p l e R s m args below meth c D E Q n0 t0 (pc, ls, st, h) := by
  unfold jb_ex at hs
  dsimp only at hs
  split at hs
  · rename_i t ht
    split at hs
    · have e := jb_go_inj hs
      subst e
      intro H locs lm hJ hS hL hT0
      have h2 := kk H locs lm hJ hS hL hT0
      refine lv_icmp_ge C.1 C.2.1 hd (jb_tg_ok ht) (fun q => ?_) (fun q => ?_)
      · dsimp only at h2
        rw [if_pos q] at h2
        exact h2
      · dsimp only at h2
        rw [if_neg q] at h2
        exact h2
    · cases hs
  · cases hs
theorem js_icmp_gt (C : ja_C p m meth c s args i D E) {o : Int} (hd : decode (jb_b i) pc = .ok (.if_icmp .gt o, 3)) (hs : jb_ex F i (.if_icmp .gt o) k a b pc ls st h = some (.inr g)) (kk : ja_Wd p l e R s m args below meth c D E Q n0 t0 g) : ja_Wd p l e R s m args below meth c D E Q n0 t0 (pc, ls, st, h) := by
  unfold jb_ex at hs
  dsimp only at hs
  split at hs
  · rename_i t ht
    split at hs
    · have e := jb_go_inj hs
      subst e
      intro H locs lm hJ hS hL hT0
      have h2 := kk H locs lm hJ hS hL hT0
      refine lv_icmp_gt C.1 C.2.1 hd (jb_tg_ok ht) (fun q => ?_) (fun q => ?_)
      · dsimp only at h2
        rw [if_pos q] at h2
        exact h2
      · dsimp only at h2
        rw [if_neg q] at h2
        exact h2
    · cases hs
  · cases hs
theorem js_icmp_le (C : ja_C p m meth c s args i D E) {o : Int} (hd : decode (jb_b i) pc = .ok (.if_icmp .le o, 3)) (hs : jb_ex F i (.if_icmp .le o) k a b pc ls st h = some (.inr g)) (kk : ja_Wd p l e R s m args below meth c D E Q n0 t0 g) : ja_Wd p l e R s m args below meth c D E Q n0 t0 (pc, ls, st, h) := by
  unfold jb_ex at hs
  dsimp only at hs
  split at hs
  · rename_i t ht
    split at hs
    · have e := jb_go_inj hs
      subst e
      intro H locs lm hJ hS hL hT0
      have h2 := kk H locs lm hJ hS hL hT0
      refine lv_icmp_le C.1 C.2.1 hd (jb_tg_ok ht) (fun q => ?_) (fun q => ?_)
      · dsimp only at h2
        rw [if_pos q] at h2
        exact h2
      · dsimp only at h2
        rw [if_neg q] at h2
        exact h2
    · cases hs
  · cases hs
theorem js_if_eq (C : ja_C p m meth c s args i D E) {o : Int} (hd : decode (jb_b i) pc = .ok (.ifCond .eq o, 3)) (hs : jb_ex F i (.ifCond .eq o) k a b pc ls st h = some (.inr g)) (kk : ja_Wd p l e R s m args below meth c D E Q n0 t0 g) : ja_Wd p l e R s m args below meth c D E Q n0 t0 (pc, ls, st, h) := by
  unfold jb_ex at hs
  dsimp only at hs
  split at hs
  · rename_i t ht
    split at hs
    · have e := jb_go_inj hs
      subst e
      intro H locs lm hJ hS hL hT0
      have h2 := kk H locs lm hJ hS hL hT0
      refine lv_if_eq C.1 C.2.1 hd (jb_tg_ok ht) (fun q => ?_) (fun q => ?_)
      · dsimp only at h2
        rw [if_pos q] at h2
        exact h2
      · dsimp only at h2
        rw [if_neg q] at h2
        exact h2
    · cases hs
  · cases hs
theorem js_if_ne (C : ja_C p m meth c s args i D E) {o : Int} (hd : decode (jb_b i) pc = .ok (.ifCond .ne o, 3)) (hs : jb_ex F i (.ifCond .ne o) k a b pc ls st h = some (.inr g)) (kk : ja_Wd p l e R s m args below meth c D E Q n0 t0 g) : ja_Wd p l e R s m args below meth c D E Q n0 t0 (pc, ls, st, h) := by
  unfold jb_ex at hs
  dsimp only at hs
  split at hs
  · rename_i t ht
    split at hs
    · have e := jb_go_inj hs
      subst e
      intro H locs lm hJ hS hL hT0
      have h2 := kk H locs lm hJ hS hL hT0
      refine lv_if_ne C.1 C.2.1 hd (jb_tg_ok ht) (fun q => ?_) (fun q => ?_)
      · dsimp only at h2
        rw [if_neg q] at h2
        exact h2
      · dsimp only at h2
        rw [if_pos q] at h2
        exact h2
    · cases hs
  · cases hs
theorem js_if_lt (C : ja_C p m meth c s args i D E) {o : Int} (hd : decode (jb_b i) pc = .ok (.ifCond .lt o, 3)) (hs : jb_ex F i (.ifCond .lt o) k a b pc ls st h = some (.inr g)) (kk : ja_Wd p l e R s m args below meth c D E Q n0 t0 g) : ja_Wd p l e R s m args below meth c D E Q n0 t0 (pc, ls, st, h) := by
  unfold jb_ex at hs
  dsimp only at hs
  split at hs
  · rename_i t ht
    split at hs
    · have e := jb_go_inj hs
      subst e
      intro H locs lm hJ hS hL hT0
      have h2 := kk H locs lm hJ hS hL hT0
      refine lv_if_lt C.1 C.2.1 hd (jb_tg_ok ht) (fun q => ?_) (fun q => ?_)
      · dsimp only at h2
        rw [if_pos q] at h2
        exact h2
      · dsimp only at h2
        rw [if_neg q] at h2
        exact h2
    · cases hs
  · cases hs
theorem js_if_ge (C : ja_C p m meth c s args i D E) {o : Int} (hd : decode (jb_b i) pc = .ok (.ifCond .ge o, 3)) (hs : jb_ex F i (.ifCond .ge o) k a b pc ls st h = some (.inr g)) (kk : ja_Wd p l e R s m args below meth c D E Q n0 t0 g) : ja_Wd p l e R s m args below meth c D E Q n0 t0 (pc, ls, st, h) := by
  unfold jb_ex at hs
  dsimp only at hs
  split at hs
  · rename_i t ht
    split at hs
    · have e := jb_go_inj hs
      subst e
      intro H locs lm hJ hS hL hT0
      have h2 := kk H locs lm hJ hS hL hT0
      refine lv_if_ge C.1 C.2.1 hd (jb_tg_ok ht) (fun q => ?_) (fun q => ?_)
      · dsimp only at h2
        rw [if_pos q] at h2
        exact h2
      · dsimp only at h2
        rw [if_neg q] at h2
        exact h2
    · cases hs
  · cases hs
theorem js_if_gt (C : ja_C p m meth c s args i D E) {o : Int} (hd : decode (jb_b i) pc = .ok (.ifCond .gt o, 3)) (hs : jb_ex F i (.ifCond .gt o) k a b pc ls st h = some (.inr g)) (kk : ja_Wd p l e R s m args below meth c D E Q n0 t0 g) : ja_Wd p l e R s m args below meth c D E Q n0 t0 (pc, ls, st, h) := by
  unfold jb_ex at hs
  dsimp only at hs
  split at hs
  · rename_i t ht
    split at hs
    · have e := jb_go_inj hs
      subst e
      intro H locs lm hJ hS hL hT0
      have h2 := kk H locs lm hJ hS hL hT0
      refine lv_if_gt C.1 C.2.1 hd (jb_tg_ok ht) (fun q => ?_) (fun q => ?_)
      · dsimp only at h2
        rw [if_pos q] at h2
        exact h2
      · dsimp only at h2
        rw [if_neg q] at h2
        exact h2
    · cases hs
  · cases hs
theorem js_if_le (C : ja_C p m meth c s args i D E) {o : Int} (hd : decode (jb_b i) pc = .ok (.ifCond .le o, 3)) (hs : jb_ex F i (.ifCond .le o) k a b pc ls st h = some (.inr g)) (kk : ja_Wd p l e R s m args below meth c D E Q n0 t0 g) : ja_Wd p l e R s m args below meth c D E Q n0 t0 (pc, ls, st, h) := by
  unfold jb_ex at hs
  dsimp only at hs
  split at hs
  · rename_i t ht
    split at hs
    · have e := jb_go_inj hs
      subst e
      intro H locs lm hJ hS hL hT0
      have h2 := kk H locs lm hJ hS hL hT0
      refine lv_if_le C.1 C.2.1 hd (jb_tg_ok ht) (fun q => ?_) (fun q => ?_)
      · dsimp only at h2
        rw [if_pos q] at h2
        exact h2
      · dsimp only at h2
        rw [if_neg q] at h2
        exact h2
    · cases hs
  · cases hs
theorem js_ifnonnull (C : ja_C p m meth c s args i D E) {o : Int} (hd : decode (jb_b i) pc = .ok (.ifnonnull o, 3)) (hs : jb_ex F i (.ifnonnull o) k a b pc ls st h = some (.inr g)) (kk : ja_Wd p l e R s m args below meth c D E Q n0 t0 g) : ja_Wd p l e R s m args below meth c D E Q n0 t0 (pc, ls, st, h) := by
  unfold jb_ex at hs
  dsimp only at hs
  split at hs
  · rename_i t ht
    split at hs
    · rename_i x r
      split at hs
      · rename_i hx
        have e := jb_go_inj hs
        subst e
        intro H locs lm hJ hS hL hT0
        have h2 := kk H locs lm hJ hS hL hT0
        dsimp only at h2 ⊢
        rw [List.map_cons, ja_v_low E hx]
        exact lv_ifnonnull C.1 C.2.1 hd (jb_tg_ok ht) h2
      · cases hs
    · have e := jb_go_inj hs
      subst e
      intro H locs lm hJ hS hL hT0
      exact lv_ifnonnullN C.1 C.2.1 hd (kk H locs lm hJ hS hL hT0)
    · cases hs
  · cases hs
theorem js_table (C : ja_C p m meth c s args i D E) {d lo hi : Int} {offs : Array Int} {len : Nat} (hd : decode (jb_b i) pc = .ok (.tableswitch d lo hi offs, len)) (hs : jb_ex F i (.tableswitch d lo hi offs) k a b pc ls st h = some (.inr g)) (kk : ja_Wd p l e R s m args below meth c D E Q n0 t0 g) : ja_Wd p l e R s m args below meth c D E Q n0 t0 (pc, ls, st, h) := by
  unfold jb_ex at hs
  dsimp only at hs
  split at hs
  · split at hs
    · rename_i hc
      split at hs
      · rename_i t ht
        have e := jb_go_inj hs
        subst e
        intro H locs lm hJ hS hL hT0
        exact lv_tableOut C.1 C.2.1 hd hc (jb_tg_ok ht) (kk H locs lm hJ hS hL hT0)
      · cases hs
    · rename_i hc
      split at hs
      · rename_i o ho
        split at hs
        · rename_i t ht
          have e := jb_go_inj hs
          subst e
          intro H locs lm hJ hS hL hT0
          exact lv_tableIn C.1 C.2.1 hd (fun q => hc (Or.inl q)) (fun q => hc (Or.inr q)) ho (jb_tg_ok ht) (kk H locs lm hJ hS hL hT0)
        · cases hs
      · cases hs
  · cases hs
theorem js_lookup (C : ja_C p m meth c s args i D E) {d : Int} {ps : Array (Int × Int)} {len : Nat} (hd : decode (jb_b i) pc = .ok (.lookupswitch d ps, len)) (hs : jb_ex F i (.lookupswitch d ps) k a b pc ls st h = some (.inr g)) (kk : ja_Wd p l e R s m args below meth c D E Q n0 t0 g) : ja_Wd p l e R s m args below meth c D E Q n0 t0 (pc, ls, st, h) := by
  unfold jb_ex at hs
  dsimp only at hs
  split at hs
  · split at hs
    · rename_i hc
      split at hs
      · rename_i t ht
        have e := jb_go_inj hs
        subst e
        intro H locs lm hJ hS hL hT0
        exact lv_lookup C.1 C.2.1 hd hc rfl (jb_tg_ok ht) (kk H locs lm hJ hS hL hT0)
      · cases hs
    · cases hs
  · cases hs
theorem js_fconst (C : ja_C p m meth c s args i D E) {n : Fin 3} (hd : decode (jb_b i) pc = .ok (.fconst n, 1)) (hs : jb_ex F i (.fconst n) k a b pc ls st h = some (.inr g)) (kk : ja_Wd p l e R s m args below meth c D E Q n0 t0 g) : ja_Wd p l e R s m args below meth c D E Q n0 t0 (pc, ls, st, h) := by
  unfold jb_ex at hs
  dsimp only at hs
  split at hs
  · rename_i hn
    have e := jb_go_inj hs
    subst e
    intro H locs lm hJ hS hL hT0
    have e0 : n = 0 := Fin.ext hn
    subst e0
    exact lv_fconst0 C.1 C.2.1 hd (kk H locs lm hJ hS hL hT0)
  · cases hs
end JS
end
section
/-! ===== one instruction of the small machine is one of the machine's: objects and arrays ===== -/
theorem jb_C_at {a : Nat} (ha : a < 12) : jb_okC a = true := List.all_eq_true.mp jb_okC_all a (List.mem_range.mpr ha)
theorem jb_cl_at {a : Nat} (ha : a < 12) : jb_cl[a]? = some (jb_O a, jb_T a, jb_N a) := by
  rw [jb_cl, List.getElem?_map, List.getElem?_range ha]
  rfl
theorem jb_C_facts {a : Nat} (ha : a < 12) : (∀ w ∈ u_ws (jb_O a) (jb_T a) (jb_N a), w ∈ jb_W) ∧ (∀ k, k < jb_N a → parseFieldDescriptor (jb_T a k).2.2.1 = some (jb_Ty a k)) ∧ (∀ x, x < jb_N a → ∀ y, y < jb_N a → x ≠ y → (jb_T a x).2.1 ≠ (jb_T a y).2.1) ∧ Cond.instantiable (jb_O a) (jb_N a) ∈ jb_W ∧ Cond.initialized (jb_O a) ∈ jb_W := by
  have h := jb_C_at ha
  unfold jb_okC at h
  simp only [Bool.and_eq_true, decide_eq_true_eq, List.all_eq_true, List.mem_range, Bool.or_eq_true] at h
  obtain ⟨⟨h1, h2⟩, h3⟩ := h
  refine ⟨fun w hw => ?_, fun k hk => (h1 k hk).1.2, fun x hx y hy hne => ?_, h2, h3⟩
  · obtain ⟨k, hk, rfl⟩ := List.mem_map.mp hw
    exact (h1 k (List.mem_range.mp hk)).1.1
  · rcases (h1 y hy).2 x hx with q | q
    · exact absurd q hne
    · exact q
theorem jb_L_at {q : Nat × Nat × Nat × Nat × Nat × Nat} (h : q ∈ jb_L) : jb_okL q = true := List.all_eq_true.mp jb_okL_all q h
theorem jb_inW_of {w : Cond} (h : w ∈ lw_tbl) (hg : goodWord w = true) : w ∈ jb_W := List.mem_filter.mpr ⟨h, hg⟩
theorem jb_L0 {o x a b p : Nat} (h : (o, x, 0, a, b, p) ∈ jb_L) : a < 12 ∧ b < jb_N a ∧ Cond.fieldLink (jb_O o) x (jb_T a b).1 (jb_T a b).2.1 (jb_T a b).2.2.1 ∈ jb_W ∧ (jb_T a b).1 = jb_O a := by
  have h := jb_L_at h
  simp only [jb_okL, Bool.and_eq_true, decide_eq_true_eq] at h
  exact ⟨h.1.1.1, h.1.1.2, jb_inW h.1.2 rfl, h.2⟩
theorem jb_L1 {o x a b p : Nat} (h : (o, x, 1, a, b, p) ∈ jb_L) : a < 12 ∧ b < jb_N a ∧ Cond.fieldLinkNest (jb_O o) x (jb_T a b).1 (jb_T a b).2.1 (jb_T a b).2.2.1 "DrownedBells" ∈ lw_tbl ∧ (jb_T a b).1 = jb_O a := by
  have h := jb_L_at h
  simp only [jb_okL, Bool.and_eq_true, decide_eq_true_eq] at h
  exact ⟨h.1.1.1, h.1.1.2, List.mem_of_getElem? h.1.2, h.2⟩
theorem jb_L9 {o x a b p : Nat} (h : (o, x, 9, a, b, p) ∈ jb_L) : a < 12 ∧ Cond.classLink (jb_O o) x (jb_O a) ∈ jb_W := by
  have h := jb_L_at h
  simp only [jb_okL, Bool.and_eq_true, decide_eq_true_eq] at h
  exact ⟨h.1, jb_inW h.2 rfl⟩
theorem jb_L10 {o x a b p : Nat} (h : (o, x, 10, a, b, p) ∈ jb_L) : a = 9 ∧ Cond.classLink (jb_O o) x (jb_O a) ∈ jb_W := by
  have h := jb_L_at h
  simp only [jb_okL, Bool.and_eq_true, decide_eq_true_eq] at h
  exact ⟨h.1, jb_inW h.2 rfl⟩
theorem jb_L11 {o x a b p : Nat} (h : (o, x, 11, a, b, p) ∈ jb_L) : a < 10 ∧ Cond.stringRef (jb_O o) x (jb_S.getD a "") ∈ lw_tbl := by
  have h := jb_L_at h
  simp only [jb_okL, Bool.and_eq_true, decide_eq_true_eq] at h
  exact ⟨h.1, List.mem_of_getElem? h.2⟩
theorem jb_L12 {o x a b p : Nat} (h : (o, x, 12, a, b, p) ∈ jb_L) : Cond.constantDouble (jb_O o) x (UInt64.ofNat a) ∈ jb_W := by
  have h := jb_L_at h
  simp only [jb_okL, Bool.and_eq_true, decide_eq_true_eq] at h
  exact jb_inW h.2 rfl
theorem jb_L13 {o x a b p : Nat} (h : (o, x, 13, a, b, p) ∈ jb_L) : (a = 0 ∧ Cond.fieldLink (jb_O o) x "java/lang/String" "COMPACT_STRINGS" "Z" ∈ jb_W) ∨ (a ≠ 0 ∧ Cond.fieldLink (jb_O o) x "jdk/internal/util/Preconditions" "SIOOBE_FORMATTER" "Ljava/util/function/BiFunction;" ∈ jb_W) := by
  have h := jb_L_at h
  simp only [jb_okL] at h
  by_cases e : a = 0
  · rw [if_pos e] at h
    exact Or.inl ⟨e, jb_inW (of_decide_eq_true h) rfl⟩
  · rw [if_neg e] at h
    exact Or.inr ⟨e, jb_inW (of_decide_eq_true h) rfl⟩
theorem jb_L14 {o x a b p : Nat} (h : (o, x, 14, a, b, p) ∈ jb_L) : (a = 0 ∧ Cond.fieldLink (jb_O o) x "java/lang/String" "value" "[B" ∈ jb_W) ∨ (a ≠ 0 ∧ Cond.fieldLink (jb_O o) x "java/lang/String" "coder" "B" ∈ jb_W) := by
  have h := jb_L_at h
  simp only [jb_okL] at h
  by_cases e : a = 0
  · rw [if_pos e] at h
    exact Or.inl ⟨e, jb_inW (of_decide_eq_true h) rfl⟩
  · rw [if_neg e] at h
    exact Or.inr ⟨e, jb_inW (of_decide_eq_true h) rfl⟩
theorem ja_ent_o (E : ja_E) {a : Nat} (ha : a < 12) (fs : List Value) : ja_ent E (a, fs) = .inr (a, fs.map (ja_v E)) := by
  unfold ja_ent
  rw [if_neg (by show ¬ a = 12; omega), if_neg (by show ¬ a = 13; omega)]
theorem ja_ent_i (E : ja_E) (fs : List Value) : ja_ent E (12, fs) = .inl (E.2.2.2.2.1, fs.length, .inl (fun j => match fs[j]? with
    | some (.int x) => x
    | _ => 0)) := rfl
theorem ja_ent_q (E : ja_E) (fs : List Value) : ja_ent E (13, fs) = .inl (E.2.2.2.2.2, fs.length, .inr (.inr (.inr (.inr (fun j => match fs[j]? with
    | some (.ref r) => some (E.1 + r)
    | _ => none))))) := rfl
theorem ja_w_at {E : ja_E} {h : jb_H} {r : Nat} {q : Nat × List Value} (hr : h[r]? = some q) : (ja_w E h)[r]? = some (E.1 + r, ja_ent E q) := by
  rw [ja_w_get, hr]; rfl
theorem ja_nar {E : ja_E} (hf : ja_fok E) {ty : FieldType} {v : Value} (h : narrow ty v = v) (h2 : fits ty v = true) : narrow ty (ja_v E v) = ja_v E v ∧ fits ty (ja_v E v) = true := by
  cases v with
  | ref r =>
    have hn : ∀ q, narrow ty (.ref q) = .ref q := fun q => by cases ty <;> rfl
    have hn0 : narrow ty .null = .null := by cases ty <;> rfl
    have hf' : (∀ q, fits ty (.ref q) = true) ∧ fits ty .null = true := by
      cases ty <;> first | exact ⟨fun _ => rfl, rfl⟩ | cases h2
    rcases ja_v_refs hf r with q | ⟨y, q⟩
    · rw [q]; exact ⟨hn0, hf'.2⟩
    · rw [q]; exact ⟨hn y, hf'.1 y⟩
  | _ => exact ⟨h, h2⟩
theorem va_S.tr {A : Nat → Prop} {H0 H H1 : Heap} {locs locs1 : List Loc} (h : va_S A H0 H locs) (h1 : va_S A H H1 locs1) : va_S A H0 H1 locs1 :=
  ⟨Nat.le_trans h.1 h1.1, fun q a b => (h1.2.1 q (Nat.lt_of_lt_of_le a h.1) b).trans (h.2.1 q a b), h1.2.2⟩
theorem va_S.here {A : Nat → Prop} {H0 H : Heap} {locs : List Loc} (h : va_S A H0 H locs) : va_S A H H locs := ⟨Nat.le_refl _, fun _ _ _ => rfl, h.2.2⟩
section JH
variable {p : Program} {l : Launch} {e : Env} {R : Room} {s : State} {m : MethodId} {args : Array Value} {below : List Frame} {meth : Method} {c : Code} {D : va_G} {E : ja_E} {Q : State → Prop} {n0 t0 i : Nat} {F : Nat → List Value → jb_H → Option jb_Res} {k a b pc x w : Nat} {ls st : List Value} {h : jb_H} {g : jb_Cfg}
/-- behind a store: as many objects as before -/
theorem ja_stored (hn : s.heap.size = E.1 + n0) (kk : ja_Wd p l e R s m args below meth c D E Q n0 t0 g) {H H1 : Heap} {locs locs1 : List Loc} {lm : Array Slot} (hz : H.size = E.1 + g.2.2.2.length) (hS : va_S (ja_A E) s.heap H locs) (hS1 : va_S (ja_A E) H H1 locs1) (hP1 : va_P D jb_cl (ja_w E g.2.2.2) H1) (hL : ja_L E g.2.1 lm) (hT0 : t0 ≤ ja_tot g.2.2.2) : W p l e R s m args below meth c H1 locs1 (g.2.2.2.length - n0) (ja_tot g.2.2.2 - t0) Q (F0 m g.1 lm (g.2.2.1.map (ja_v E))) := by
  intro T hT X
  have h1 := X.heapSize
  rw [hT] at h1
  have h2 := hS1.1
  have h3 := hS.1
  exact kk H1 locs1 lm ⟨hP1, by omega⟩ (hS.tr hS1) hL hT0 T hT X
/-- behind a making: one more -/
theorem ja_made (hn : s.heap.size = E.1 + n0) {pc' : Nat} {ls' st' : List Value} {q0 : Nat × List Value} {en : va_E} (hen : ja_ent E q0 = en) (kk : ja_Wd p l e R s m args below meth c D E Q n0 t0 (pc', ls', .ref h.length :: st', h ++ [q0])) {H H1 : Heap} {locs : List Loc} {lm : Array Slot} {q : Nat} (hlen : h.length < 1000000) (hz : H.size = E.1 + h.length) (hS : va_S (ja_A E) s.heap H locs) (hS1 : va_S (ja_A E) H H1 locs) (hP1 : va_P D jb_cl (ja_w E h ++ [(q, en)]) H1) (hD1 : va_D (ja_A E) (ja_w E h ++ [(q, en)])) (hL : ja_L E ls' lm) (hT0 : t0 ≤ ja_tot h) : W p l e R s m args below meth c H1 locs (h.length - n0 + 1) (ja_tot h - t0 + q0.2.length) Q (F0 m pc' lm (.ref q :: st'.map (ja_v E))) := by
  intro T hT X
  have h1 := X.heapSize
  rw [hT] at h1
  have h2 := hS1.1
  have h3 := hS.1
  have hl : (ja_w E h ++ [(q, en)])[h.length]? = some (q, en) := by
    rw [List.getElem?_append_right (by rw [ja_w_len]; exact Nat.le_refl _), ja_w_len, Nat.sub_self]; rfl
  have h4 : q < H1.size := (hP1 _ _ hl).lt
  have h5 : E.1 ≤ q := hD1.2 _ _ hl
  have h6 : q = E.1 + h.length := by
    rcases Nat.lt_or_ge (q - E.1) h.length with z | z
    · exfalso
      have hk : (ja_w E h ++ [(q, en)])[q - E.1]? = some (E.1 + (q - E.1), ja_ent E (h[q - E.1]'z)) := by
        rw [List.getElem?_append_left (by rw [ja_w_len]; exact z)]
        exact ja_w_at (List.getElem?_eq_getElem z)
      have := hD1.1 _ _ _ _ hk hl (by show E.1 + (q - E.1) = q; omega)
      omega
    · omega
  have hlt : h.length ≤ (h ++ [q0]).length := by simp
  have ee : F0 m pc' lm (.ref q :: st'.map (ja_v E)) = F0 m pc' lm ((Value.ref h.length :: st').map (ja_v E)) := by
    rw [List.map_cons, ja_v_low E hlen, h6]
  have hc1 : h.length - n0 + 1 = (h ++ [q0]).length - n0 := by simp; omega
  have hc2 : ja_tot h - t0 + q0.2.length = ja_tot (h ++ [q0]) - t0 := by rw [ja_tot_app]; omega
  rw [ee]
  rw [hc1, hc2] at X
  refine kk H1 locs lm ⟨?_, ?_⟩ (hS.tr hS1) hL (by show t0 ≤ ja_tot (h ++ [q0]); rw [ja_tot_app]; omega) T hT X
  · show va_P D jb_cl (ja_w E (h ++ [q0])) H1
    rw [ja_w_app, hen, ← h6]
    exact hP1
  · show H1.size = E.1 + (h ++ [q0]).length
    simp
    omega
theorem js_getfield (C : ja_C p m meth c s args i D E) (hn : s.heap.size = E.1 + n0) (hd : decode (jb_b i) pc = .ok (.getfield x, 3)) (hlk : (jb_ow i, x, k, a, b, w) ∈ jb_L) (hs : jb_ex F i (.getfield x) k a b pc ls st h = some (.inr g)) (kk : ja_Wd p l e R s m args below meth c D E Q n0 t0 g) : ja_Wd p l e R s m args below meth c D E Q n0 t0 (pc, ls, st, h) := by
  unfold jb_ex at hs
  dsimp only at hs
  split at hs
  · rename_i r1 st'
    obtain ⟨r, hqr⟩ : ∃ z : Nat, z = r1 := ⟨r1, rfl⟩
    subst hqr
    split at hs
    · rename_i hk
      split at hs
      · rename_i hr
        split at hs
        · rename_i c0 fs hc0
          split at hs
          · rename_i hca
            split at hs
            · rename_i v hv
              have e := jb_go_inj hs
              subst e
              subst hca
              intro H locs lm hJ hS hL hT0
              have h2 := kk H locs lm hJ hS hL hT0
              dsimp only at h2 ⊢
              rw [List.map_cons] at h2 ⊢
              rw [ja_v_low E hr]
              have hv' : (fs.map (ja_v E))[b]? = some (ja_v E v) := by rw [List.getElem?_map, hv]; rfl
              rcases hk with hk | hk
              · subst hk
                obtain ⟨l1, l2, l3, l4⟩ := jb_L0 hlk
                obtain ⟨f1, f2, f3, f4, f5⟩ := jb_C_facts l1
                exact va_get C.1 C.2.1 C.2.2.2.2.2.1 f1 C.2.2.2.2.1 C.2.2.2.2.2.2.2.2.1 hJ.1 r ((ja_w_at hc0).trans (by rw [ja_ent_o E l1])) (jb_cl_at l1) b l2 (C.2.2.2.2.2.1 _ l3) (fun _ z => z) hv' hd h2
              · subst hk
                obtain ⟨l1, l2, l3, l4⟩ := jb_L1 hlk
                obtain ⟨f1, f2, f3, f4, f5⟩ := jb_C_facts l1
                exact va_getN C.1 C.2.1 C.2.2.2.2.2.1 f1 C.2.2.2.2.1 C.2.2.2.2.2.2.2.2.1 hJ.1 r ((ja_w_at hc0).trans (by rw [ja_ent_o E l1])) (jb_cl_at l1) b l2 (va_Nw.use rfl (C.2.2.2.2.2.2.2.2.2.1.2.2.2.2.1 _ l3 rfl)) (fun _ z => z) hv' hd h2
            · cases hs
          · cases hs
        · cases hs
      · cases hs
    · split at hs
      · rename_i hk
        split at hs
        · rename_i hr
          have hr : (1000000 : Nat) ≤ (r : Nat) ∧ (r : Nat) < 1000010 := hr
          have e := jb_go_inj hs
          subst e
          subst hk
          intro H locs lm hJ hS hL hT0
          have h2 := kk H locs lm hJ hS hL hT0
          dsimp only at h2 ⊢
          rw [List.map_cons] at h2 ⊢
          have hq := (C.2.2.2.2.2.2.2.2.2.1.1.1 (r - 1000000) (by omega))
          have e1 : ja_v E (.ref r) = .ref (E.2.1 (r - 1000000)) := by
            rw [ja_v_ref E (by omega), ja_ad, if_neg (by omega), if_pos (by omega)]
          rw [e1]
          rcases jb_L14 hlk with ⟨z, hl⟩ | ⟨z, hl⟩
          · rw [if_pos z] at h2
            have e2 : ja_v E (.ref (r + 100)) = .ref (E.2.2.1 (r - 1000000)) := by
              rw [ja_v_ref E (by omega), ja_ad, if_neg (by omega), if_neg (by omega), show r + 100 - 1000100 = r - 1000000 by omega]
            rw [e2] at h2
            exact vk_getf C.1 C.2.1 hq.2.2.1 hS C.2.2.2.2.1 (C.2.2.2.2.2.1 _ hl) (fun _ z => z) hd h2
          · rw [if_neg z] at h2
            exact vk_getf C.1 C.2.1 hq.2.1 hS C.2.2.2.2.1 (C.2.2.2.2.2.1 _ hl) (fun _ z => z) hd h2
        · cases hs
      · cases hs
  · cases hs
theorem js_putfield (C : ja_C p m meth c s args i D E) (hn : s.heap.size = E.1 + n0) (hd : decode (jb_b i) pc = .ok (.putfield x, 3)) (hlk : (jb_ow i, x, k, a, b, w) ∈ jb_L) (hs : jb_ex F i (.putfield x) k a b pc ls st h = some (.inr g)) (kk : ja_Wd p l e R s m args below meth c D E Q n0 t0 g) : ja_Wd p l e R s m args below meth c D E Q n0 t0 (pc, ls, st, h) := by
  unfold jb_ex at hs
  dsimp only at hs
  split at hs
  · rename_i v r1 st'
    obtain ⟨r, hqr⟩ : ∃ z : Nat, z = r1 := ⟨r1, rfl⟩
    subst hqr
    split at hs
    · rename_i hk
      obtain ⟨hk, hr⟩ := hk
      split at hs
      · rename_i c0 fs hc0
        split at hs
        · rename_i hc
          obtain ⟨rfl, hbl, hnar, hfit, hfin⟩ := hc
          have e := jb_go_inj hs
          subst e
          intro H locs lm hJ hS hL hT0
          obtain ⟨hN, hF⟩ := ja_nar C.fok hnar hfit
          have ht : ja_tot (h.set r (c0, fs.set b v)) = ja_tot h := ja_tot_set hc0 (by simp)
          have hlen : (h.set r (c0, fs.set b v)).length = h.length := List.length_set
          have hbl' : b < (fs.map (ja_v E)).length := by rw [List.length_map]; exact hbl
          dsimp only
          rw [List.map_cons, List.map_cons, ja_v_low E hr]
          have fin : c0 < 12 → ∀ (H1 : Heap) (locs1 : List Loc), va_P D jb_cl ((ja_w E h).set r (E.1 + r, .inr (c0, (fs.map (ja_v E)).set b (ja_v E v)))) H1 → va_D (ja_A E) ((ja_w E h).set r (E.1 + r, .inr (c0, (fs.map (ja_v E)).set b (ja_v E v)))) → va_S (ja_A E) H H1 locs1 → W p l e R s m args below meth c H1 locs1 (h.length - n0) (ja_tot h - t0) Q (F0 m (pc + 3) lm (st'.map (ja_v E))) := by
            intro hc12 H1 locs1 hP1 hD1 hS1
            have h9 := ja_stored hn kk (H := H) (H1 := H1) (lm := lm) (by rw [hJ.2]; show E.1 + h.length = E.1 + (h.set r (c0, fs.set b v)).length; rw [hlen]) hS hS1 (by
              show va_P D jb_cl (ja_w E (h.set r (c0, fs.set b v))) H1
              rw [ja_w_set, ja_ent_o E hc12, List.map_set]
              exact hP1) hL (by show t0 ≤ ja_tot (h.set r (c0, fs.set b v)); rw [ht]; exact hT0)
            dsimp only at h9
            rw [hlen, ht] at h9
            exact h9
          rcases hk with hk | hk
          · subst hk
            obtain ⟨l1, l2, l3, l4⟩ := jb_L0 hlk
            obtain ⟨f1, f2, f3, f4, f5⟩ := jb_C_facts l1
            have he : (ja_w E h)[r]? = some (E.1 + r, .inr (c0, fs.map (ja_v E))) := (ja_w_at hc0).trans (by rw [ja_ent_o E l1])
            by_cases hff : (jb_T c0 b).2.2.2 = false
            · exact va_put C.1 C.2.1 C.2.2.2.2.2.1 f1 (jb_Ty c0) f2 f3 C.2.2.2.2.1 C.2.2.2.2.2.2.2.2.1 hJ.1 ja_w_D hS.here r he (jb_cl_at l1) b l2 (C.2.2.2.2.2.1 _ l3) (fun _ z => z) hff (f2 b l2) hN hF hbl' hd (fin l1)
            · have hft : (jb_T c0 b).2.2.2 = true := by simpa using hff
              obtain ⟨hin, how, -⟩ := hfin.resolve_left hff
              exact va_putF C.1 C.2.1 C.2.2.2.2.2.1 f1 (jb_Ty c0) f2 f3 C.2.2.2.2.1 C.2.2.2.2.2.2.2.2.1 hJ.1 ja_w_D hS.here r he (jb_cl_at l1) b l2 (C.2.2.2.2.2.1 _ l3) (fun _ z => z) hft (C.2.2.2.2.2.2.2.1.trans hin) (l4.trans (by rw [how])) (f2 b l2) hN hF hbl' hd (fin l1)
          · subst hk
            obtain ⟨l1, l2, l3, l4⟩ := jb_L1 hlk
            obtain ⟨f1, f2, f3, f4, f5⟩ := jb_C_facts l1
            have he : (ja_w E h)[r]? = some (E.1 + r, .inr (c0, fs.map (ja_v E))) := (ja_w_at hc0).trans (by rw [ja_ent_o E l1])
            have hff : (jb_T c0 b).2.2.2 = false := hfin.elim id (fun z => absurd z.2.2 (by decide))
            exact va_putN C.1 C.2.1 C.2.2.2.2.2.1 f1 (jb_Ty c0) f2 f3 C.2.2.2.2.1 C.2.2.2.2.2.2.2.2.1 hJ.1 ja_w_D hS.here r he (jb_cl_at l1) b l2 (va_Nw.use rfl (C.2.2.2.2.2.2.2.2.2.1.2.2.2.2.1 _ l3 rfl)) (fun _ z => z) hff (f2 b l2) hN hF hbl' hd (fin l1)
        · cases hs
      · cases hs
    · cases hs
  · cases hs
theorem js_iaload (C : ja_C p m meth c s args i D E) (hd : decode (jb_b i) pc = .ok (.iaload, 1)) (hs : jb_ex F i .iaload k a b pc ls st h = some (.inr g)) (kk : ja_Wd p l e R s m args below meth c D E Q n0 t0 g) : ja_Wd p l e R s m args below meth c D E Q n0 t0 (pc, ls, st, h) := by
  unfold jb_ex at hs
  dsimp only at hs
  split at hs
  · rename_i j r1 st'
    obtain ⟨r, hqr⟩ : ∃ z : Nat, z = r1 := ⟨r1, rfl⟩
    subst hqr
    split at hs
    · rename_i hr
      split at hs
      · rename_i c0 fs hc0
        split at hs
        · rename_i hc
          obtain ⟨rfl, hin⟩ := hc
          split at hs
          · rename_i y hy
            have e := jb_go_inj hs
            subst e
            intro H locs lm hJ hS hL hT0
            have h2 := kk H locs lm hJ hS hL hT0
            dsimp only at h2 ⊢
            rw [List.map_cons, List.map_cons, ja_v_low E hr]
            rw [List.map_cons] at h2
            have h3 := va_iald (e := e) (l := l) (p := p) (R := R) (m := m) (args := args) (below := below) (meth := meth) (cells := h.length - n0) (slots := ja_tot h - t0) (Q := Q) (pc := pc) (ls := lm) (rest := st'.map (ja_v E)) (locs := locs) C.1 C.2.1 C.2.2.2.2.2.2.2.2.1 hJ.1 r 0 ((ja_w_at hc0).trans (by rw [ja_ent_i])) rfl (i := j) hin hd
            rw [hy] at h3
            exact h3 h2
          · cases hs
        · cases hs
      · cases hs
    · cases hs
  · cases hs
theorem js_iastore (C : ja_C p m meth c s args i D E) (hn : s.heap.size = E.1 + n0) (hd : decode (jb_b i) pc = .ok (.iastore, 1)) (hs : jb_ex F i .iastore k a b pc ls st h = some (.inr g)) (kk : ja_Wd p l e R s m args below meth c D E Q n0 t0 g) : ja_Wd p l e R s m args below meth c D E Q n0 t0 (pc, ls, st, h) := by
  unfold jb_ex at hs
  dsimp only at hs
  split at hs
  · rename_i y j r1 st'
    obtain ⟨r, hqr⟩ : ∃ z : Nat, z = r1 := ⟨r1, rfl⟩
    subst hqr
    split at hs
    · rename_i hr
      split at hs
      · rename_i c0 fs hc0
        split at hs
        · rename_i hc
          obtain ⟨rfl, hin⟩ := hc
          have e := jb_go_inj hs
          subst e
          intro H locs lm hJ hS hL hT0
          have ht : ja_tot (h.set r (12, fs.set j.toNatClampNeg (.int y))) = ja_tot h := ja_tot_set hc0 (by simp)
          have hlen : (h.set r (12, fs.set j.toNatClampNeg (.int y))).length = h.length := List.length_set
          dsimp only
          rw [List.map_cons, List.map_cons, List.map_cons, ja_v_low E hr]
          refine va_iast C.1 C.2.1 C.2.2.2.2.2.2.2.2.1 hJ.1 ja_w_D hS.here r 0 ((ja_w_at hc0).trans (by rw [ja_ent_i])) rfl (i := j) (x := y) hin hd (fun H1 locs1 hP1 hD1 hS1 => ?_)
          have h9 := ja_stored hn kk (H := H) (H1 := H1) (lm := lm) (by rw [hJ.2]; show E.1 + h.length = E.1 + (h.set r (12, fs.set j.toNatClampNeg (.int y))).length; rw [hlen]) hS hS1 (by
            show va_P D jb_cl (ja_w E (h.set r (12, fs.set j.toNatClampNeg (.int y)))) H1
            rw [ja_w_set, ja_ent_i, List.length_set]
            have ef : (fun z : Nat => match (fs.set j.toNatClampNeg (.int y))[z]? with
                | some (.int x) => x
                | _ => (0 : Int32)) = upd (fun z => match fs[z]? with
                | some (.int x) => x
                | _ => 0) j.toNatClampNeg y := by
              funext z
              rw [List.getElem?_set]
              unfold upd
              by_cases hz : j.toNatClampNeg = z
              · subst hz
                rw [if_pos rfl, if_pos rfl, if_pos (by
                  rcases Nat.lt_or_ge j.toNatClampNeg fs.length with q | q
                  · exact q
                  · exact absurd (Or.inr q) hin)]
              · rw [if_neg hz, if_neg (Ne.symm hz)]
            rw [ef]
            exact hP1) hL (by show t0 ≤ ja_tot (h.set r (12, fs.set j.toNatClampNeg (.int y))); rw [ht]; exact hT0)
          dsimp only at h9
          rw [hlen, ht] at h9
          exact h9
        · cases hs
      · cases hs
    · cases hs
  · cases hs
theorem js_aaload (C : ja_C p m meth c s args i D E) (hd : decode (jb_b i) pc = .ok (.aaload, 1)) (hs : jb_ex F i .aaload k a b pc ls st h = some (.inr g)) (kk : ja_Wd p l e R s m args below meth c D E Q n0 t0 g) : ja_Wd p l e R s m args below meth c D E Q n0 t0 (pc, ls, st, h) := by
  unfold jb_ex at hs
  dsimp only at hs
  split at hs
  · rename_i j r1 st'
    obtain ⟨r, hqr⟩ : ∃ z : Nat, z = r1 := ⟨r1, rfl⟩
    subst hqr
    split at hs
    · rename_i hr
      split at hs
      · rename_i c0 fs hc0
        split at hs
        · rename_i hc
          obtain ⟨rfl, hin⟩ := hc
          have row := fun (H : Heap) (locs : List Loc) (lm : Array Slot) (hJ : ja_J E D h H) => va_aldq (e := e) (l := l) (p := p) (R := R) (m := m) (args := args) (below := below) (meth := meth) (cells := h.length - n0) (slots := ja_tot h - t0) (Q := Q) (pc := pc) (ls := lm) (rest := st'.map (ja_v E)) (locs := locs) C.1 C.2.1 C.2.2.2.2.2.2.2.2.1 hJ.1 r 1 ((ja_w_at hc0).trans (by rw [ja_ent_q])) rfl (i := j) hin hd
          split at hs
          · rename_i y hy
            split at hs
            · rename_i hy2
              have e := jb_go_inj hs
              subst e
              intro H locs lm hJ hS hL hT0
              have h2 := kk H locs lm hJ hS hL hT0
              dsimp only at h2 ⊢
              rw [List.map_cons, List.map_cons, ja_v_low E hr]
              rw [List.map_cons, ja_v_low E hy2] at h2
              have h3 := row H locs lm hJ
              rw [hy] at h3
              exact h3 h2
            · cases hs
          · rename_i hy
            have e := jb_go_inj hs
            subst e
            intro H locs lm hJ hS hL hT0
            have h2 := kk H locs lm hJ hS hL hT0
            dsimp only at h2 ⊢
            rw [List.map_cons, List.map_cons, ja_v_low E hr]
            rw [List.map_cons] at h2
            have h3 := row H locs lm hJ
            rw [hy] at h3
            exact h3 h2
          · cases hs
        · cases hs
      · cases hs
    · cases hs
  · cases hs
theorem js_aastore (C : ja_C p m meth c s args i D E) (hn : s.heap.size = E.1 + n0) (hd : decode (jb_b i) pc = .ok (.aastore, 1)) (hs : jb_ex F i .aastore k a b pc ls st h = some (.inr g)) (kk : ja_Wd p l e R s m args below meth c D E Q n0 t0 g) : ja_Wd p l e R s m args below meth c D E Q n0 t0 (pc, ls, st, h) := by
  unfold jb_ex at hs
  dsimp only at hs
  split at hs
  · rename_i v1 j r1 st'
    obtain ⟨v, hqv⟩ : ∃ z : Nat, z = v1 := ⟨v1, rfl⟩
    subst hqv
    obtain ⟨r, hqr⟩ : ∃ z : Nat, z = r1 := ⟨r1, rfl⟩
    subst hqr
    split at hs
    · rename_i hr
      obtain ⟨hr, hv, h9v⟩ := hr
      split at hs
      · rename_i c0 fs hc0
        split at hs
        · rename_i hc
          obtain ⟨rfl, hin⟩ := hc
          have e := jb_go_inj hs
          subst e
          obtain ⟨⟨cv, fv⟩, hcv, hcv9⟩ := Option.map_eq_some_iff.mp h9v
          have hcv9 : cv = 9 := hcv9
          subst hcv9
          intro H locs lm hJ hS hL hT0
          have ht : ja_tot (h.set r (13, fs.set j.toNatClampNeg (.ref v))) = ja_tot h := ja_tot_set hc0 (by simp)
          have hlen : (h.set r (13, fs.set j.toNatClampNeg (.ref v))).length = h.length := List.length_set
          dsimp only
          rw [List.map_cons, List.map_cons, List.map_cons, ja_v_low E hr, ja_v_low E hv]
          refine va_astq (r := (jb_O 9, jb_T 9, jb_N 9)) (vs := fv.map (ja_v E)) C.1 C.2.1 C.2.2.2.2.2.2.2.2.1 hJ.1 ja_w_D hS.here r 1 v 9 ((ja_w_at hc0).trans (by rw [ja_ent_q])) rfl ((ja_w_at hcv).trans (by rw [ja_ent_o E (by omega)])) (jb_cl_at (by omega)) (i := j) hin hd (fun H1 locs1 hP1 hD1 hS1 => ?_)
          have h9 := ja_stored hn kk (H := H) (H1 := H1) (lm := lm) (by rw [hJ.2]; show E.1 + h.length = E.1 + (h.set r (13, fs.set j.toNatClampNeg (.ref v))).length; rw [hlen]) hS hS1 (by
            show va_P D jb_cl (ja_w E (h.set r (13, fs.set j.toNatClampNeg (.ref v)))) H1
            rw [ja_w_set, ja_ent_q, List.length_set]
            have ef : (fun z : Nat => match (fs.set j.toNatClampNeg (.ref v))[z]? with
                | some (.ref x) => some (E.1 + x)
                | _ => (none : Option Nat)) = va_up (fun z => match fs[z]? with
                | some (.ref x) => some (E.1 + x)
                | _ => none) j.toNatClampNeg (some (E.1 + v)) := by
              funext z
              rw [List.getElem?_set]
              unfold va_up
              by_cases hz : j.toNatClampNeg = z
              · subst hz
                rw [if_pos rfl, if_pos rfl, if_pos (by
                  rcases Nat.lt_or_ge j.toNatClampNeg fs.length with q | q
                  · exact q
                  · exact absurd (Or.inr q) hin)]
              · rw [if_neg hz, if_neg (Ne.symm hz)]
            rw [ef]
            exact hP1) hL (by show t0 ≤ ja_tot (h.set r (13, fs.set j.toNatClampNeg (.ref v))); rw [ht]; exact hT0)
          dsimp only at h9
          rw [hlen, ht] at h9
          exact h9
        · cases hs
      · cases hs
    · cases hs
  · cases hs
theorem ja_len_at {n : Nat} (hn : n < 10) : ja_len.getD n 0 = (jb_SB.getD n []).length := by
  have key : ∀ n, n < 10 → ja_len.getD n 0 = (jb_SB.getD n []).length := by decide
  exact key n hn
theorem js_baload (C : ja_C p m meth c s args i D E) (hd : decode (jb_b i) pc = .ok (.baload, 1)) (hs : jb_ex F i .baload k a b pc ls st h = some (.inr g)) (kk : ja_Wd p l e R s m args below meth c D E Q n0 t0 g) : ja_Wd p l e R s m args below meth c D E Q n0 t0 (pc, ls, st, h) := by
  unfold jb_ex at hs
  dsimp only at hs
  split at hs
  · rename_i j r1 st'
    obtain ⟨r, hqr⟩ : ∃ z : Nat, z = r1 := ⟨r1, rfl⟩
    subst hqr
    split at hs
    · rename_i hr
      obtain ⟨hr1, hr2, hin⟩ := hr
      have hr1 : (1000100 : Nat) ≤ (r : Nat) := hr1
      have hr2 : (r : Nat) < 1000110 := hr2
      have e := jb_go_inj hs
      obtain ⟨n, hnr⟩ : ∃ n : Nat, n = r - 1000100 := ⟨_, rfl⟩
      have hr3 : r = 1000100 + n := by omega
      rw [hr3, Nat.add_sub_cancel_left] at hin e
      clear hnr
      generalize hX : (jb_SB.getD n []).getD j.toNatClampNeg 0 = X at e
      subst e
      intro H locs lm hJ hS hL hT0
      have h2 := kk H locs lm hJ hS hL hT0
      dsimp only at h2 ⊢
      rw [List.map_cons, List.map_cons]
      rw [List.map_cons] at h2
      have e1 : ja_v E (.ref r) = .ref (E.2.2.1 n) := by
        rw [ja_v_ref E (by omega), ja_ad, if_neg (by omega), if_neg (by omega), show r - 1000100 = n by omega]
      rw [e1]
      have hq := (C.2.2.2.2.2.2.2.2.2.1.1.1 n (by omega))
      rw [ja_len_at (by omega)] at hq
      exact va_tb (v := .int X) C.1 C.2.1 hq.2.2.2 hS (i := j) hin (by rw [hX]) hd h2
    · cases hs
  · cases hs
theorem js_arraylength (C : ja_C p m meth c s args i D E) (hd : decode (jb_b i) pc = .ok (.arraylength, 1)) (hs : jb_ex F i .arraylength k a b pc ls st h = some (.inr g)) (kk : ja_Wd p l e R s m args below meth c D E Q n0 t0 g) : ja_Wd p l e R s m args below meth c D E Q n0 t0 (pc, ls, st, h) := by
  unfold jb_ex at hs
  dsimp only at hs
  split at hs
  · rename_i r1 st'
    obtain ⟨r, hqr⟩ : ∃ z : Nat, z = r1 := ⟨r1, rfl⟩
    subst hqr
    split at hs
    · rename_i hr
      split at hs
      · rename_i c0 fs hc0
        split at hs
        · rename_i hc
          have e := jb_go_inj hs
          subst e
          intro H locs lm hJ hS hL hT0
          have h2 := kk H locs lm hJ hS hL hT0
          dsimp only at h2 ⊢
          rw [List.map_cons, ja_v_low E hr]
          rw [List.map_cons] at h2
          rw [ja_v_int] at h2
          rcases hc with rfl | rfl
          · exact va_alen (v := Int32.ofNat fs.length) C.1 C.2.1 C.2.2.2.2.2.2.2.2.1 hJ.1 r 0 ((ja_w_at hc0).trans (by rw [ja_ent_i])) rfl rfl hd h2
          · exact va_alen (v := Int32.ofNat fs.length) C.1 C.2.1 C.2.2.2.2.2.2.2.2.1 hJ.1 r 1 ((ja_w_at hc0).trans (by rw [ja_ent_q])) rfl rfl hd h2
        · cases hs
      · cases hs
    · split at hs
      · rename_i hr
        have hr : (1000100 : Nat) ≤ (r : Nat) ∧ (r : Nat) < 1000110 := hr
        have e := jb_go_inj hs
        subst e
        intro H locs lm hJ hS hL hT0
        have h2 := kk H locs lm hJ hS hL hT0
        dsimp only at h2 ⊢
        rw [List.map_cons]
        rw [List.map_cons] at h2
        have e1 : ja_v E (.ref r) = .ref (E.2.2.1 (r - 1000100)) := by
          rw [ja_v_ref E (by omega), ja_ad, if_neg (by omega), if_neg (by omega)]
        rw [e1]
        obtain ⟨n, hnr⟩ : ∃ n : Nat, n = r - 1000100 := ⟨_, rfl⟩
        have hq := (C.2.2.2.2.2.2.2.2.2.1.1.1 n (by omega))
        rw [ja_len_at (by omega)] at hq
        rw [← hnr] at h2 ⊢
        exact va_tlen C.1 C.2.1 hq.2.2.2 hS rfl hd h2
      · cases hs
  · cases hs
theorem jb_def_len : ∀ a, a < 12 → (jb_Tys.getD a []).length = jb_N a := by decide +kernel
theorem ja_v_def (E : ja_E) (ty : FieldType) : ja_v E (defaultValue ty) = defaultValue ty := by cases ty <;> rfl
theorem jb_def_map (E : ja_E) (a : Nat) : (jb_def a).map (ja_v E) = jb_def a := by
  unfold jb_def
  rw [List.map_map]
  apply List.map_congr_left
  intro ty _
  exact ja_v_def E ty
theorem js_new (C : ja_C p m meth c s args i D E) (hn : s.heap.size = E.1 + n0) (hd : decode (jb_b i) pc = .ok (.new x, 3)) (hlk : (jb_ow i, x, k, a, b, w) ∈ jb_L) (hs : jb_ex F i (.new x) k a b pc ls st h = some (.inr g)) (hRc : g.2.2.2.length - n0 ≤ R.cells) (hRs : ja_tot g.2.2.2 - t0 ≤ R.slots) (kk : ja_Wd p l e R s m args below meth c D E Q n0 t0 g) : ja_Wd p l e R s m args below meth c D E Q n0 t0 (pc, ls, st, h) := by
  unfold jb_ex at hs
  dsimp only at hs
  split at hs
  · rename_i hk
    obtain ⟨rfl, hlen⟩ := hk
    have e := jb_go_inj hs
    subst e
    obtain ⟨l1, l3⟩ := jb_L9 hlk
    obtain ⟨f1, f2, f3, f4, f5⟩ := jb_C_facts l1
    have hdl : (jb_def a).length = jb_N a := by unfold jb_def; rw [List.length_map]; exact jb_def_len a l1
    have hz0 : n0 ≤ h.length ∨ True := Or.inr trivial
    intro H locs lm hJ hS hL hT0
    have h3 := hS.1
    have h4 := hJ.2
    dsimp only at h4
    have hln : (h ++ [(a, jb_def a)]).length = h.length + 1 := by simp
    have htt : ja_tot (h ++ [(a, jb_def a)]) = ja_tot h + jb_N a := by rw [ja_tot_app]; show ja_tot h + (jb_def a).length = _; rw [hdl]
    dsimp only at hRc hRs hT0 ⊢
    rw [hln] at hRc
    rw [htt] at hRs
    refine va_new C.1 C.2.1 C.2.2.2.2.2.1 f1 (jb_Ty a) f2 C.2.2.2.2.1 (C.2.2.2.2.2.1 _ l3) (C.2.2.2.2.2.1 _ f4) (C.2.2.2.2.2.1 _ f5) C.2.2.2.2.2.2.2.2.1 hJ.1 ja_w_D hS.here (fun q hq => C.2.2.2.2.2.2.2.2.2.2.1 q (Nat.le_trans h3 hq)) (jb_cl_at l1) (fs := jb_def a) (fun j hj => ?_) (by omega) (by omega) hd (fun q H1 hP1 hD1 hS1 => ?_)
    · unfold vp_V jb_def jb_Ty
      have hjl : j < (jb_Tys.getD a []).length := by rw [jb_def_len a l1]; exact hj
      generalize jb_Tys.getD a [] = tys at hjl ⊢
      simp only [List.getD_eq_getElem?_getD, List.getElem?_map]
      rw [List.getElem?_eq_getElem hjl]
      rfl
    · have h9 := ja_made hn (q0 := (a, jb_def a)) (en := .inr (a, jb_def a)) (by rw [ja_ent_o E l1, jb_def_map]) kk (by omega) hJ.2 hS hS1 hP1 hD1 hL hT0
      dsimp only at h9
      rw [hdl] at h9
      exact h9
  · cases hs
theorem jb_arrW : Cond.arrayClass .int ∈ jb_W := jb_inW_of (by decide +kernel) rfl
theorem js_newarray (C : ja_C p m meth c s args i D E) (hn : s.heap.size = E.1 + n0) {t : ArrayType} (hd : decode (jb_b i) pc = .ok (.newarray t, 2)) (hs : jb_ex F i (.newarray t) k a b pc ls st h = some (.inr g)) (hRc : g.2.2.2.length - n0 ≤ R.cells) (hRs : ja_tot g.2.2.2 - t0 ≤ R.slots) (kk : ja_Wd p l e R s m args below meth c D E Q n0 t0 g) : ja_Wd p l e R s m args below meth c D E Q n0 t0 (pc, ls, st, h) := by
  unfold jb_ex at hs
  dsimp only at hs
  split at hs
  · rename_i y st'
    split at hs
    · rename_i hk
      obtain ⟨rfl, hy, hy2, hlen⟩ := hk
      have e := jb_go_inj hs
      subst e
      intro H locs lm hJ hS hL hT0
      have h3 := hS.1
      have h4 := hJ.2
      dsimp only at h4
      have hln : (h ++ [(12, List.replicate y.toNatClampNeg (Value.int 0))]).length = h.length + 1 := by simp
      have htt : ja_tot (h ++ [(12, List.replicate y.toNatClampNeg (Value.int 0))]) = ja_tot h + y.toNatClampNeg := by rw [ja_tot_app]; simp
      dsimp only at hRc hRs hT0 ⊢
      rw [hln] at hRc
      rw [htt] at hRs
      rw [List.map_cons]
      refine va_newa (atype := .int) (ty := .int) (a0 := (y.toNatClampNeg, .inl (fun _ => 0))) C.1 C.2.1 (C.2.2.2.2.2.1 _ jb_arrW) rfl C.2.2.2.2.2.2.2.2.1 hJ.1 ja_w_D hS.here (fun q hq => C.2.2.2.2.2.2.2.2.2.2.1 q (Nat.le_trans h3 hq)) (fun _ => rfl) hy rfl (by show y.toNatClampNeg * 4 ≤ _; omega) (by omega) (by omega) hd (fun q cA H1 hK1 hP1 hD1 hS1 => ?_)
      have hc1 := (hK1.2 2 (cA, .int) rfl).2
      have hc2 := (hK1.2 0 (E.2.2.2.2.1, .int) rfl).2
      have hcc : cA = E.2.2.2.2.1 := Option.some.inj (hc1.symm.trans hc2)
      subst hcc
      have h9 := ja_made hn (q0 := (12, List.replicate y.toNatClampNeg (.int 0))) (en := .inl (E.2.2.2.2.1, y.toNatClampNeg, .inl (fun _ => 0))) (by
        rw [ja_ent_i, List.length_replicate]
        congr 3
        congr 1
        funext j
        rw [List.getElem?_replicate]
        by_cases hj : j < y.toNatClampNeg
        · rw [if_pos hj]
        · rw [if_neg hj]) kk (by omega) hJ.2 hS hS1 hP1 hD1 hL hT0
      dsimp only at h9
      rw [List.length_replicate] at h9
      exact h9
    · cases hs
  · cases hs
theorem js_anewarray (C : ja_C p m meth c s args i D E) (hn : s.heap.size = E.1 + n0) (hd : decode (jb_b i) pc = .ok (.anewarray x, 3)) (hlk : (jb_ow i, x, k, a, b, w) ∈ jb_L) (hs : jb_ex F i (.anewarray x) k a b pc ls st h = some (.inr g)) (hRc : g.2.2.2.length - n0 ≤ R.cells) (hRs : ja_tot g.2.2.2 - t0 ≤ R.slots) (kk : ja_Wd p l e R s m args below meth c D E Q n0 t0 g) : ja_Wd p l e R s m args below meth c D E Q n0 t0 (pc, ls, st, h) := by
  unfold jb_ex at hs
  dsimp only at hs
  split at hs
  · rename_i y st'
    split at hs
    · rename_i hk
      obtain ⟨rfl, hy, hy2, hlen⟩ := hk
      have e := jb_go_inj hs
      subst e
      obtain ⟨rfl, l3⟩ := jb_L10 hlk
      intro H locs lm hJ hS hL hT0
      have h3 := hS.1
      have h4 := hJ.2
      dsimp only at h4
      have hln : (h ++ [(13, List.replicate y.toNatClampNeg Value.null)]).length = h.length + 1 := by simp
      have htt : ja_tot (h ++ [(13, List.replicate y.toNatClampNeg Value.null)]) = ja_tot h + y.toNatClampNeg := by rw [ja_tot_app]; simp
      dsimp only at hRc hRs hT0 ⊢
      rw [hln] at hRc
      rw [htt] at hRs
      rw [List.map_cons]
      refine va_newq (C := "DrownedBells$Village") C.1 C.2.1 C.2.2.2.2.1 (C.2.2.2.2.2.1 _ l3) C.2.2.2.2.2.2.2.2.2.1.2.2.2.2.2.1 C.2.2.2.2.2.2.2.2.1 hJ.1 ja_w_D hS.here (fun q hq => C.2.2.2.2.2.2.2.2.2.2.1 q (Nat.le_trans h3 hq)) hy rfl (by omega) (by omega) (by omega) hd (fun q cA H1 hK1 hP1 hD1 hS1 => ?_)
      obtain ⟨_, _, _, _, _, hc1⟩ := (hK1.2 2 (cA, .object "DrownedBells$Village") rfl).2
      obtain ⟨_, _, _, _, _, hc2⟩ := (hK1.2 1 (E.2.2.2.2.2, .object "DrownedBells$Village") rfl).2
      have hcc : cA = E.2.2.2.2.2 := Option.some.inj (hc1.symm.trans hc2)
      subst hcc
      have h9 := ja_made hn (q0 := (13, List.replicate y.toNatClampNeg .null)) (en := .inl (E.2.2.2.2.2, y.toNatClampNeg, .inr (.inr (.inr (.inr (fun _ => none)))))) (by
        rw [ja_ent_q, List.length_replicate]
        congr 6
        congr 1
        funext j
        rw [List.getElem?_replicate]
        by_cases hj : j < y.toNatClampNeg
        · rw [if_pos hj]
        · rw [if_neg hj]) kk (by omega) hJ.2 hS hS1 hP1 hD1 hL hT0
      dsimp only at h9
      rw [List.length_replicate] at h9
      exact h9
    · cases hs
  · cases hs
theorem js_ldc (C : ja_C p m meth c s args i D E) (hd : decode (jb_b i) pc = .ok (.ldc x, 2)) (hlk : (jb_ow i, x, k, a, b, w) ∈ jb_L) (hs : jb_ex F i (.ldc x) k a b pc ls st h = some (.inr g)) (kk : ja_Wd p l e R s m args below meth c D E Q n0 t0 g) : ja_Wd p l e R s m args below meth c D E Q n0 t0 (pc, ls, st, h) := by
  unfold jb_ex at hs
  dsimp only at hs
  split at hs
  · rename_i hk
    subst hk
    have e := jb_go_inj hs
    subst e
    obtain ⟨l1, l3⟩ := jb_L11 hlk
    intro H locs lm hJ hS hL hT0
    have h2 := kk H locs lm hJ hS hL hT0
    dsimp only at h2 ⊢
    rw [List.map_cons] at h2
    have e1 : ja_v E (.ref (1000000 + a)) = .ref (E.2.1 a) := by
      rw [ja_v_ref E (by omega), ja_ad, if_neg (by omega), if_pos (by omega), show 1000000 + a - 1000000 = a by omega]
    rw [e1] at h2
    exact va_ldcS C.1 C.2.1 C.2.2.2.2.1 (C.2.2.2.2.2.2.2.2.2.1.2.1 _ _ _ l1 l3) hd h2
  · cases hs
theorem ja_ldcwS {H : Heap} {locs : List Loc} {cells slots : Nat} {cc : ByteArray} {lm : Array Slot} {rest : List Value} (hexec : p.tables.exec = Jvm.exec) (hb : c.code = cc) {own tx : String} {index q : Nat} (hown : s.vm.findClass own = some m.cls) (hZ : vk_R own index tx q s) (hdg : decode cc pc = .ok (.ldc_w index, 3))
    (kk : W p l e R s m args below meth c H locs cells slots Q (F0 m (pc + 3) lm (.ref q :: rest))) : W p l e R s m args below meth c H locs cells slots Q (F0 m pc lm rest) := by
  intro T hT X
  obtain ⟨t, a1, b1⟩ := kk T hT X
  refine ⟨t, ?_, b1⟩
  obtain ⟨k, cf, i, a', hk, hcf, hcp, -, hr, hev'⟩ := Cond.stringRef_spec hown hZ.1
  cases hZ.2.symm.trans hev'
  obtain ⟨k', hk', he⟩ := X.warmed.alike.2.2 _ _ hk
  have hr' : k'.resolved[index]? = some (some (.string q)) := by
    rcases X.warmed.entry hk hk' index with h | ⟨h, -⟩
    · rw [h]; exact hr
    · rw [hr] at h; cases h
  subst hb
  jvm_step X.here [hexec, hdg, ldc_w.wp_string (e := e) (s := T) (f := F0 m pc lm rest) X.here.top hk' (by rw [he]; exact hcf) hcp hr']
  exact a1
theorem js_ldc_w (C : ja_C p m meth c s args i D E) (hd : decode (jb_b i) pc = .ok (.ldc_w x, 3)) (hlk : (jb_ow i, x, k, a, b, w) ∈ jb_L) (hs : jb_ex F i (.ldc_w x) k a b pc ls st h = some (.inr g)) (kk : ja_Wd p l e R s m args below meth c D E Q n0 t0 g) : ja_Wd p l e R s m args below meth c D E Q n0 t0 (pc, ls, st, h) := by
  unfold jb_ex at hs
  dsimp only at hs
  split at hs
  · rename_i hk
    subst hk
    have e := jb_go_inj hs
    subst e
    obtain ⟨l1, l3⟩ := jb_L11 hlk
    intro H locs lm hJ hS hL hT0
    have h2 := kk H locs lm hJ hS hL hT0
    dsimp only at h2 ⊢
    rw [List.map_cons] at h2
    have e1 : ja_v E (.ref (1000000 + a)) = .ref (E.2.1 a) := by
      rw [ja_v_ref E (by omega), ja_ad, if_neg (by omega), if_pos (by omega), show 1000000 + a - 1000000 = a by omega]
    rw [e1] at h2
    exact ja_ldcwS C.1 C.2.1 C.2.2.2.2.1 (C.2.2.2.2.2.2.2.2.2.1.2.1 _ _ _ l1 l3) hd h2
  · cases hs
theorem js_ldc2_w (C : ja_C p m meth c s args i D E) (hd : decode (jb_b i) pc = .ok (.ldc2_w x, 3)) (hlk : (jb_ow i, x, k, a, b, w) ∈ jb_L) (hs : jb_ex F i (.ldc2_w x) k a b pc ls st h = some (.inr g)) (kk : ja_Wd p l e R s m args below meth c D E Q n0 t0 g) : ja_Wd p l e R s m args below meth c D E Q n0 t0 (pc, ls, st, h) := by
  unfold jb_ex at hs
  dsimp only at hs
  split at hs
  · rename_i hk
    subst hk
    have e := jb_go_inj hs
    subst e
    intro H locs lm hJ hS hL hT0
    exact lv_ldc2d C.1 C.2.1 C.2.2.2.2.1 (C.2.2.2.2.2.1 _ (jb_L12 hlk)) hd (kk H locs lm hJ hS hL hT0)
  · cases hs
theorem js_getstatic (C : ja_C p m meth c s args i D E) (hd : decode (jb_b i) pc = .ok (.getstatic x, 3)) (hlk : (jb_ow i, x, k, a, b, w) ∈ jb_L) (hs : jb_ex F i (.getstatic x) k a b pc ls st h = some (.inr g)) (kk : ja_Wd p l e R s m args below meth c D E Q n0 t0 g) : ja_Wd p l e R s m args below meth c D E Q n0 t0 (pc, ls, st, h) := by
  unfold jb_ex at hs
  dsimp only at hs
  split at hs
  · rename_i hk
    subst hk
    have e := jb_go_inj hs
    subst e
    intro H locs lm hJ hS hL hT0
    have h2 := kk H locs lm hJ hS hL hT0
    dsimp only at h2 ⊢
    rw [List.map_cons] at h2
    rcases jb_L13 hlk with ⟨z, hl⟩ | ⟨z, hl⟩
    · rw [if_pos z] at h2
      exact va_gets C.1 C.2.1 C.2.2.2.2.2.2.2.2.2.1.2.2.1 hS C.2.2.2.2.1 (C.2.2.2.2.2.1 _ hl) (fun _ z => z) hd h2
    · rw [if_neg z] at h2
      exact va_gets C.1 C.2.1 C.2.2.2.2.2.2.2.2.2.1.2.2.2.1 hS C.2.2.2.2.1 (C.2.2.2.2.2.1 _ hl) (fun _ z => z) hd h2
  · cases hs
end JH
end
section
/-! ===== one instruction of the small machine is one of the machine's: calls ===== -/
def ja_ws (i : Nat) : List Cond := Cond.code (jb_y i) (jb_b i) (jb_ml i) (jb_ret i) :: jb_W
def ja_rm (i mc ms : Nat) : Room := { frames := jb_ht i + 1, cells := mc, slots := ms, locals := 30 * jb_ht i + 24 }
/-- a method's start and end -/
def ja_Pc (D : va_G) (E : ja_E) (args : List Value) (h : jb_H) : Array Value → State → Prop := fun v U => v = (args.map (ja_v E)).toArray ∧ ja_J E D h U.heap ∧ va_K D jb_cl (ja_tys E) U ∧ ja_R E U U.heap
def ja_Qc (D : va_G) (E : ja_E) (r : jb_Res) : Array Value → State → Outcome → State → Prop := fun _ st oc t => oc = .returned (r.1.map (ja_v E)) ∧ ja_J E D r.2 t.heap ∧ va_F (ja_A E) st t
def ja_Met (l : Launch) (D : va_G) (E : ja_E) (i : Nat) (args : List Value) (h : jb_H) (r : jb_Res) : Prop := h.length ≤ r.2.length ∧ ja_tot h ≤ ja_tot r.2 ∧ Met l (jb_y i) (ja_ws i) (ja_rm i (r.2.length - h.length) (ja_tot r.2 - ja_tot h)) (ja_Pc D E args h) (ja_Qc D E r) (r.2.length - h.length) (ja_tot r.2 - ja_tot h) (ja_A E)
def ja_FF (l : Launch) (D : va_G) (E : ja_E) (d : Nat) (F : Nat → List Value → jb_H → Option jb_Res) : Prop := ∀ i args h r, F i args h = some r → i < 248 ∧ jb_ht i < d ∧ ja_Met l D E i args h r
theorem ja_R.to {E : ja_E} {u U : State} {H H1 : Heap} (hW : u.WarmedH U.vm) (hq : ∀ a : Nat, a < H.size → ¬ ja_A E a → H1[a]? = H[a]?) (h : ja_R E u H) : ja_R E U H1 := by
  obtain ⟨h1, h2, h3, h4, h5, h6, h7⟩ := h
  refine ⟨(h1.moved hW.alike).kept hq, fun o x n hn hw => (h2 o x n hn hw).warm hW, (h3.moved hW.alike).kept hq, (h4.moved hW.alike).kept hq, fun w hw hN => ?_, h6.moved hW.alike, h7⟩
  have h8 := h5 w hw hN
  cases w <;> first | exact absurd hN Bool.false_ne_true | exact va_Nw.warmF hW h8 | exact va_Nw.warmM hW h8
theorem ja_blind {D : va_G} {E : ja_E} {args : List Value} {h : jb_H} : FrameBlind (ja_Pc D E args h) := by
  intro a U g mk hp
  obtain ⟨h1, h2, h3, h4⟩ := hp
  exact ⟨h1, h2, va_K.moved (u := U) (U := U.calling g mk a) (Vm.Alike.refl U.vm) h3, ja_R.to (u := U) (U := U.calling g mk a) (State.WarmedH.refl U) (fun _ _ _ => rfl) h4⟩
theorem ja_good {ws : List Cond} (h : ∀ w ∈ ws, w ∈ jb_W) : GoodIn jb_W ws := fun w hw => ⟨h w hw, good_of_word (List.mem_filter.mp (h w hw)).2⟩
theorem jb_M_at {a : Nat} (ha : a < 248) : Cond.initialized (jb_y a).cls ∈ jb_W ∧ (jb_y a).cls = jb_O (jb_ow a) ∧ plainName (jb_y a).cls = true ∧ ((jb_y a).cls ≠ "java/lang/invoke/MethodHandle" ∧ (jb_y a).cls ≠ "java/lang/invoke/VarHandle") ∧ jb_ml a ≤ 8 ∧ Cond.code (jb_y a) (jb_b a) (jb_ml a) (jb_ret a) ∈ jb_W := by
  have h := List.all_eq_true.mp jb_okM_all a (List.mem_range.mpr ha)
  unfold jb_okM at h
  simp only [Bool.and_eq_true, decide_eq_true_eq] at h
  obtain ⟨⟨⟨⟨h1, h2⟩, h3⟩, h4⟩, h5⟩ := h
  exact ⟨jb_inW h1 rfl, h2, h3, h4, h5, jb_cw a ha⟩
theorem ja_wsW {a : Nat} (ha : a < 248) : GoodIn jb_W (ja_ws a) := ja_good (fun w hw => by
  rcases List.mem_cons.mp hw with h | h
  · rw [h]; exact (jb_M_at ha).2.2.2.2.2
  · exact h)
theorem jb_L2 {o x a b p : Nat} (h : (o, x, 2, a, b, p) ∈ jb_L) : a < 248 ∧ Cond.methodLink (jb_O o) x (jb_y a) ∈ jb_W ∧ Cond.instanceMethod (jb_y a) ∈ jb_W ∧ Cond.selects (jb_y a).cls (jb_y a) (jb_y a) ∈ jb_W ∧ (parseMethodDescriptor (jb_y a).desc).map (fun d => d.parameters.length) = some b := by
  have h := jb_L_at h
  simp only [jb_okL, Bool.and_eq_true, decide_eq_true_eq] at h
  exact ⟨h.1.1.1.1, jb_inW h.1.1.1.2 rfl, jb_inW h.1.1.2 rfl, jb_inW h.1.2 rfl, h.2⟩
theorem jb_L3 {o x a b p : Nat} (h : (o, x, 3, a, b, p) ∈ jb_L) : a < 248 ∧ Cond.methodLinkNest (jb_O o) x (jb_y a) "DrownedBells" ∈ lw_tbl ∧ Cond.instanceMethod (jb_y a) ∈ jb_W ∧ Cond.selects (jb_y a).cls (jb_y a) (jb_y a) ∈ jb_W ∧ (parseMethodDescriptor (jb_y a).desc).map (fun d => d.parameters.length) = some b := by
  have h := jb_L_at h
  simp only [jb_okL, Bool.and_eq_true, decide_eq_true_eq] at h
  exact ⟨h.1.1.1.1, List.mem_of_getElem? h.1.1.1.2, jb_inW h.1.1.2 rfl, jb_inW h.1.2 rfl, h.2⟩
theorem jb_L4 {o x a b p : Nat} (h : (o, x, 4, a, b, p) ∈ jb_L) : a < 248 ∧ Cond.methodLink (jb_O o) x (jb_y a) ∈ jb_W ∧ Cond.static (jb_y a) ∈ jb_W ∧ (parseMethodDescriptor (jb_y a).desc).map (fun d => d.parameters.length) = some b := by
  have h := jb_L_at h
  simp only [jb_okL, Bool.and_eq_true, decide_eq_true_eq] at h
  exact ⟨h.1.1.1, jb_inW h.1.1.2 rfl, jb_inW h.1.2 rfl, h.2⟩
theorem jb_L5 {o x a b p : Nat} (h : (o, x, 5, a, b, p) ∈ jb_L) : a < 248 ∧ Cond.methodLinkNest (jb_O o) x (jb_y a) "DrownedBells" ∈ lw_tbl ∧ Cond.static (jb_y a) ∈ jb_W ∧ (parseMethodDescriptor (jb_y a).desc).map (fun d => d.parameters.length) = some b := by
  have h := jb_L_at h
  simp only [jb_okL, Bool.and_eq_true, decide_eq_true_eq] at h
  exact ⟨h.1.1.1, List.mem_of_getElem? h.1.1.2, jb_inW h.1.2 rfl, h.2⟩
theorem jb_L6 {o x a b p : Nat} (h : (o, x, 6, a, b, p) ∈ jb_L) : a < 248 ∧ Cond.methodLink (jb_O o) x (jb_y a) ∈ jb_W ∧ Cond.instanceMethod (jb_y a) ∈ jb_W ∧ (jb_y a).name = "<init>" ∧ jb_ret a = none ∧ (parseMethodDescriptor (jb_y a).desc).map (fun d => d.parameters.length) = some b := by
  have h := jb_L_at h
  simp only [jb_okL, Bool.and_eq_true, decide_eq_true_eq] at h
  exact ⟨h.1.1.1.1.1, jb_inW h.1.1.1.1.2 rfl, jb_inW h.1.1.1.2 rfl, h.1.1.2, h.1.2, h.2⟩
theorem jb_L7 {o x a b p : Nat} (h : (o, x, 7, a, b, p) ∈ jb_L) : a < 248 ∧ Cond.methodLinkNest (jb_O o) x (jb_y a) "DrownedBells" ∈ lw_tbl ∧ Cond.instanceMethod (jb_y a) ∈ jb_W ∧ (jb_y a).name = "<init>" ∧ jb_ret a = none ∧ (parseMethodDescriptor (jb_y a).desc).map (fun d => d.parameters.length) = some b := by
  have h := jb_L_at h
  simp only [jb_okL, Bool.and_eq_true, decide_eq_true_eq] at h
  exact ⟨h.1.1.1.1.1, List.mem_of_getElem? h.1.1.1.1.2, jb_inW h.1.1.1.2 rfl, h.1.1.2, h.1.2, h.2⟩
theorem jb_L8 {o x a b p : Nat} (h : (o, x, 8, a, b, p) ∈ jb_L) : Cond.methodLink (jb_O o) x Lib.objectInit ∈ jb_W := by
  have h := jb_L_at h
  simp only [jb_okL, decide_eq_true_eq] at h
  exact jb_inW h rfl
theorem jb_L15 {o x a b p : Nat} (h : (o, x, 15, a, b, p) ∈ jb_L) : (a = 0 ∧ Cond.methodLink (jb_O o) x Lib.Math.max.name ∈ jb_W) ∨ (a = 1 ∧ Cond.methodLink (jb_O o) x Lib.Math.min.name ∈ jb_W) ∨ (a = 2 ∧ Cond.methodLink (jb_O o) x Lib.Math.abs.name ∈ jb_W) := by
  have h := jb_L_at h
  simp only [jb_okL, Bool.and_eq_true, decide_eq_true_eq] at h
  obtain ⟨h1, h2⟩ := h
  rcases (show a = 0 ∨ a = 1 ∨ a = 2 by omega) with e | e | e
  · rw [e] at h2; exact Or.inl ⟨e, jb_inW h2 rfl⟩
  · rw [e] at h2; exact Or.inr (Or.inl ⟨e, jb_inW h2 rfl⟩)
  · rw [e] at h2; exact Or.inr (Or.inr ⟨e, jb_inW h2 rfl⟩)
section JI
variable {p : Program} {l : Launch} {e : Env} {R : Room} {s : State} {m : MethodId} {args : Array Value} {below : List Frame} {meth : Method} {c : Code} {D : va_G} {E : ja_E} {Q : State → Prop} {n0 t0 i : Nat} {F : Nat → List Value → jb_H → Option jb_Res} {k a b pc x w : Nat} {ls st : List Value} {h : jb_H} {g : jb_Cfg}
theorem jb_invV_inv (hs : jb_invV F pc a b ls st h = some (.inr g)) : ∃ (r : Nat) (rest : List Value) (res : jb_Res), st.drop b = .ref r :: rest ∧ b ≤ st.length ∧ jb_recv h r (jb_ow a) = true ∧ jb_sum rest ≤ 8 ∧ F a (.ref r :: (st.take b).reverse) h = some res ∧ g = (pc + 3, ls, res.1.toList ++ rest, res.2) := by
  unfold jb_invV at hs
  split at hs
  · rename_i h1
    split at hs
    · rename_i r rest hst
      split at hs
      · rename_i h2
        split at hs
        · rename_i v h' hF
          exact ⟨r, rest, (v, h'), hst, h1, h2.1, h2.2, hF, jb_go_inj hs⟩
        · cases hs
      · cases hs
    · cases hs
  · cases hs
theorem jb_invS_inv (hs : jb_invS F pc a b ls st h = some (.inr g)) : ∃ (res : jb_Res), b ≤ st.length ∧ jb_sum (st.drop b) ≤ 8 ∧ F a (st.take b).reverse h = some res ∧ g = (pc + 3, ls, res.1.toList ++ st.drop b, res.2) := by
  unfold jb_invS at hs
  split at hs
  · rename_i h1
    split at hs
    · rename_i v h' hF
      exact ⟨(v, h'), h1.1, h1.2, hF, jb_go_inj hs⟩
    · cases hs
  · cases hs
theorem ja_recv (C : ja_C p m meth c s args i D E) {H : Heap} {locs : List Loc} {r o : Nat} (hJ : ja_J E D h H) (hS : va_S (ja_A E) s.heap H locs) (hr : jb_recv h r o = true) : ∃ q : Nat, ja_v E (.ref r) = .ref q ∧ ∃ cell : Cell, H[q]? = some cell ∧ cell.vm.isStatics = false ∧ s.vm.findClass (jb_O o) = some cell.cls := by
  unfold jb_recv at hr
  split at hr
  · rename_i ho
    have hr := of_decide_eq_true hr
    subst ho
    obtain ⟨cell, h1, h2, h3, -⟩ := (C.2.2.2.2.2.2.2.2.2.1.1.1 (r - 1000000) (by omega)).1.kept hS.2.1
    exact ⟨_, by rw [ja_v_ref E (by omega), ja_ad, if_neg (by omega), if_pos (by omega)], cell, h1, h2, h3⟩
  · simp only [Bool.and_eq_true, decide_eq_true_eq, beq_iff_eq] at hr
    obtain ⟨⟨h1, h2⟩, h3⟩ := hr
    obtain ⟨⟨c0, fs⟩, h4, h5⟩ := Option.map_eq_some_iff.mp h2
    have h5 : c0 = o := h5
    subst h5
    exact ⟨_, ja_v_low E h3, va_recv C.2.2.2.2.2.2.2.2.1 hJ.1 (jb_cl_at h1) ((ja_w_at h4).trans (by rw [ja_ent_o E h1]))⟩
theorem ja_ge (hn : s.heap.size = E.1 + n0) {H : Heap} {locs : List Loc} (hJ : ja_J E D h H) (hS : va_S (ja_A E) s.heap H locs) : n0 ≤ h.length := by
  have h1 := hS.1
  have h2 := hJ.2
  omega
/-- behind a call -/
theorem ja_back (hn : s.heap.size = E.1 + n0) {H : Heap} {locs : List Loc} {lm : Array Slot} {st0 rest : List Value} {r : jb_Res} {av : Array Value} (hr : va_Run p l e R s m args below meth c H locs (h.length - n0) (ja_tot h - t0) (r.2.length - h.length) (ja_tot r.2 - ja_tot h) (F0 m pc lm st0) (rest.map (ja_v E)) (ja_Qc D E r av) (ja_A E)) (hJ : ja_J E D h H) (hS : va_S (ja_A E) s.heap H locs) (hL : ja_L E ls lm) (hT0 : t0 ≤ ja_tot h) (hle : h.length ≤ r.2.length) (hte : ja_tot h ≤ ja_tot r.2) (kk : ja_Wd p l e R s m args below meth c D E Q n0 t0 (pc + 3, ls, r.1.toList ++ rest, r.2)) : W p l e R s m args below meth c H locs (h.length - n0) (ja_tot h - t0) Q (F0 m pc lm st0) := by
  intro T hT X
  obtain ⟨v, st₀, t, T', L, h0, X', hL', e1, e2, ⟨hv, hJ', hF⟩, st⟩ := hr T hT X
  have hv : v = r.1.map (ja_v E) := by cases hv; rfl
  subst hv
  have h3 : n0 ≤ h.length := ja_ge hn hJ hS
  have hS1 : va_S (ja_A E) H T'.heap (locs ++ L) := by
    refine ⟨by rw [e1, ← h0]; exact hF.1, fun q h1 h2 => ?_, fun q hq => ?_⟩
    · rw [e1, ← h0]
      rw [← h0] at h1
      exact hF.2 q h1 h2
    · rcases List.mem_append.mp hq with z | z
      · exact hS.2.2 q z
      · exact hL' q z
  have hc1 : h.length - n0 + (r.2.length - h.length) = r.2.length - n0 := by omega
  have hc2 : ja_tot h - t0 + (ja_tot r.2 - ja_tot h) = ja_tot r.2 - t0 := by omega
  rw [hc1, hc2] at X'
  have hJ1 : ja_J E D r.2 T'.heap := by rw [e1]; exact hJ'
  obtain ⟨t2, a1, b1⟩ := kk T'.heap (locs ++ L) lm hJ1 (hS.tr hS1) hL (Nat.le_trans hT0 hte) T' rfl X'
  refine ⟨t2, st t2 ?_, b1⟩
  have ee : (r.1.map (ja_v E)).toList ++ rest.map (ja_v E) = (r.1.toList ++ rest).map (ja_v E) := by
    cases r.1 <;> simp
  rw [ee]
  exact a1
theorem ja_pre (C : ja_C p m meth c s args i D E) {H : Heap} {locs : List Loc} {as : List Value} {av : Array Value} (hJ : ja_J E D h H) (hS : va_S (ja_A E) s.heap H locs) (hav : av = (as.map (ja_v E)).toArray) : ∀ U : State, U.heap = H → s.WarmedH U.vm → ja_Pc D E as h av U := by
  intro U hU hW
  exact ⟨hav, by rw [hU]; exact hJ, va_K.moved hW.alike C.2.2.2.2.2.2.2.2.1, by rw [hU]; exact ja_R.to hW hS.2.1 C.2.2.2.2.2.2.2.2.2.1⟩
theorem ja_stk {E : ja_E} {st rest : List Value} {v : Value} {b : Nat} (hd : st.drop b = v :: rest) : st.map (ja_v E) = ((st.take b).reverse.map (ja_v E)).reverse ++ ja_v E v :: rest.map (ja_v E) := by
  have h1 : st = st.take b ++ v :: rest := by rw [← hd, List.take_append_drop]
  rw [← List.map_reverse, List.reverse_reverse, ← List.map_cons, ← List.map_append, ← h1]
theorem ja_stkS {E : ja_E} {st : List Value} {b : Nat} : st.map (ja_v E) = ((st.take b).reverse.map (ja_v E)).reverse ++ (st.drop b).map (ja_v E) := by
  rw [← List.map_reverse, List.reverse_reverse, ← List.map_append, List.take_append_drop]
theorem ja_alen {E : ja_E} {st : List Value} {b : Nat} (h : b ≤ st.length) : ((st.take b).reverse.map (ja_v E)).length = b := by
  rw [List.length_map, List.length_reverse, List.length_take]
  omega
theorem ja_rest (C : ja_C p m meth c s args i D E) {rest : List Value} (h : jb_sum rest ≤ 8) {pc : Nat} {lm : Array Slot} {st0 : List Value} : 2 * (F0 m pc lm st0).monitorRoom + ((rest.map (ja_v E)).map fun v => v.category).sum ≤ 8 := by
  rw [ja_sum C.fok]
  show 2 * 0 + _ ≤ 8
  omega
theorem ja_roomC {d1 d2 ml : Nat} (h : d1 < d2) (hml : ml ≤ 8) : d1 + 1 + 1 ≤ d2 + 1 ∧ 8 + (ml + 11) + (30 * d1 + 24) ≤ 30 * d2 + 24 := by omega
theorem ja_S (C : ja_C p m meth c s args i D E) : CallFix p m c (jb_b i) (jb_ml i) s args jb_W (jb_O (jb_ow i)) := ⟨C.1, C.2.1, C.2.2.2.1, C.2.2.2.2.1, C.2.2.2.2.2.1⟩
theorem js_invV (C : ja_C p m meth c s args i D E) (hn : s.heap.size = E.1 + n0) (hFF : ja_FF l D E (jb_ht i) F) (hRf : R.frames = jb_ht i + 1) (hRl : R.locals = 30 * jb_ht i + 24) (hlen : ls.length = jb_ml i) (hd : decode (jb_b i) pc = .ok (.invokevirtual x, 3)) (hk : k = 2 ∨ k = 3) (hlk : (jb_ow i, x, k, a, b, w) ∈ jb_L) (hs : jb_invV F pc a b ls st h = some (.inr g)) (hRc : g.2.2.2.length - n0 ≤ R.cells) (hRs : ja_tot g.2.2.2 - t0 ≤ R.slots) (kk : ja_Wd p l e R s m args below meth c D E Q n0 t0 g) : ja_Wd p l e R s m args below meth c D E Q n0 t0 (pc, ls, st, h) := by
  obtain ⟨r, rest, res, hst, hb, hrec, hsum, hF, e⟩ := jb_invV_inv hs
  subst e
  obtain ⟨ha, hht, hle, hte, hM⟩ := hFF _ _ _ _ hF
  obtain ⟨w1, w2, w3, w4, w5, w6⟩ := jb_M_at ha
  intro H locs lm hJ hS hL hT0
  have h3 : n0 ≤ h.length := ja_ge hn hJ hS
  obtain ⟨q, hq, cell, hc1, hc2, hc3⟩ := ja_recv C hJ hS hrec
  dsimp only at hRc hRs hT0 ⊢
  rw [ja_stk hst, hq]
  have hcl : s.vm.findClass (jb_y a).cls = some cell.cls := by rw [w2]; exact hc3
  have hrm : (ja_rm a (res.2.length - h.length) (ja_tot res.2 - ja_tot h)).frames + 1 ≤ R.frames ∧ 8 + (jb_ml a + 11) + (ja_rm a (res.2.length - h.length) (ja_tot res.2 - ja_tot h)).locals ≤ R.locals := by
    rw [hRf, hRl]
    exact ja_roomC hht w5
  have hP : PreV s H (jb_y a).cls q (ja_Pc D E (.ref r :: (st.take b).reverse) h) ((st.take b).reverse.map (ja_v E)) := ⟨ja_blind, ⟨cell, hc1, hc2, hcl⟩, ja_pre C hJ hS (by rw [List.map_cons, hq])⟩
  have hls : (F0 m pc lm (((st.take b).reverse.map (ja_v E)).reverse ++ Value.ref q :: rest.map (ja_v E))).locals.size = jb_ml i := hL.1.trans hlen
  rcases hk with hk | hk
  · subst hk
    obtain ⟨l1, l2, l3, l4, l5⟩ := jb_L2 hlk
    exact ja_back hn (va_runV (ja_S C) hM ⟨callB_of b C.2.2.2.2.2.1 (ja_wsW ha) rfl rfl rfl (C.2.2.2.2.2.1 _ w1) (C.2.2.2.2.2.1 _ l2) ⟨w4.1, w4.2, l5⟩ hrm, C.2.2.2.2.2.1 _ l3, C.2.2.2.2.2.1 _ l4⟩ hP rfl (ja_alen hb) hls rfl (ja_rest C hsum) hd ⟨by omega, by omega⟩) hJ hS hL hT0 hle hte kk
  · subst hk
    obtain ⟨l1, l2, l3, l4, l5⟩ := jb_L3 hlk
    exact ja_back hn (va_runVN (ja_S C) hM ⟨va_cnB b C.2.2.2.2.2.1 (ja_wsW ha) rfl rfl rfl (C.2.2.2.2.2.2.2.2.2.1.2.2.2.2.1 _ l2 rfl) (C.2.2.2.2.2.1 _ w1) ⟨w4.1, w4.2, l5⟩ hrm, C.2.2.2.2.2.1 _ l3, C.2.2.2.2.2.1 _ l4⟩ hP rfl (ja_alen hb) hls rfl (ja_rest C hsum) hd ⟨by omega, by omega⟩) hJ hS hL hT0 hle hte kk
theorem js_invS (C : ja_C p m meth c s args i D E) (hn : s.heap.size = E.1 + n0) (hFF : ja_FF l D E (jb_ht i) F) (hRf : R.frames = jb_ht i + 1) (hRl : R.locals = 30 * jb_ht i + 24) (hlen : ls.length = jb_ml i) (hd : decode (jb_b i) pc = .ok (.invokestatic x, 3)) (hk : k = 4 ∨ k = 5) (hlk : (jb_ow i, x, k, a, b, w) ∈ jb_L) (hs : jb_invS F pc a b ls st h = some (.inr g)) (hRc : g.2.2.2.length - n0 ≤ R.cells) (hRs : ja_tot g.2.2.2 - t0 ≤ R.slots) (kk : ja_Wd p l e R s m args below meth c D E Q n0 t0 g) : ja_Wd p l e R s m args below meth c D E Q n0 t0 (pc, ls, st, h) := by
  obtain ⟨res, hb, hsum, hF, e⟩ := jb_invS_inv hs
  subst e
  obtain ⟨ha, hht, hle, hte, hM⟩ := hFF _ _ _ _ hF
  obtain ⟨w1, w2, w3, w4, w5, w6⟩ := jb_M_at ha
  intro H locs lm hJ hS hL hT0
  have h3 : n0 ≤ h.length := ja_ge hn hJ hS
  dsimp only at hRc hRs hT0 ⊢
  rw [ja_stkS (st := st) (b := b)]
  have hrm : (ja_rm a (res.2.length - h.length) (ja_tot res.2 - ja_tot h)).frames + 1 ≤ R.frames ∧ 8 + (jb_ml a + 11) + (ja_rm a (res.2.length - h.length) (ja_tot res.2 - ja_tot h)).locals ≤ R.locals := by
    rw [hRf, hRl]
    exact ja_roomC hht w5
  have hP : PreS s H (ja_Pc D E (st.take b).reverse h) ((st.take b).reverse.map (ja_v E)) := ⟨ja_blind, ja_pre C hJ hS rfl⟩
  have hls : (F0 m pc lm (((st.take b).reverse.map (ja_v E)).reverse ++ (st.drop b).map (ja_v E))).locals.size = jb_ml i := hL.1.trans hlen
  rcases hk with hk | hk
  · subst hk
    obtain ⟨l1, l2, l3, l5⟩ := jb_L4 hlk
    exact ja_back hn (va_runS (ja_S C) hM ⟨callB_of b C.2.2.2.2.2.1 (ja_wsW ha) rfl rfl rfl (C.2.2.2.2.2.1 _ w1) (C.2.2.2.2.2.1 _ l2) ⟨w4.1, w4.2, l5⟩ hrm, C.2.2.2.2.2.1 _ l3⟩ hP rfl (ja_alen hb) hls rfl (ja_rest C hsum) hd ⟨by omega, by omega⟩) hJ hS hL hT0 hle hte kk
  · subst hk
    obtain ⟨l1, l2, l3, l5⟩ := jb_L5 hlk
    exact ja_back hn (va_runSN (ja_S C) hM ⟨va_cnB b C.2.2.2.2.2.1 (ja_wsW ha) rfl rfl rfl (C.2.2.2.2.2.2.2.2.2.1.2.2.2.2.1 _ l2 rfl) (C.2.2.2.2.2.1 _ w1) ⟨w4.1, w4.2, l5⟩ hrm, C.2.2.2.2.2.1 _ l3, trivial⟩ hP rfl (ja_alen hb) hls rfl (ja_rest C hsum) hd ⟨by omega, by omega⟩) hJ hS hL hT0 hle hte kk
theorem ja_wsN {a : Nat} (h : jb_ret a = none) : ja_ws a = Cond.code (jb_y a) (jb_b a) (jb_ml a) none :: jb_W := by
  rw [ja_ws, h]
theorem js_invI (C : ja_C p m meth c s args i D E) (hn : s.heap.size = E.1 + n0) (hFF : ja_FF l D E (jb_ht i) F) (hRf : R.frames = jb_ht i + 1) (hRl : R.locals = 30 * jb_ht i + 24) (hlen : ls.length = jb_ml i) (hd : decode (jb_b i) pc = .ok (.invokespecial x, 3)) (hk : k = 6 ∨ k = 7) (hlk : (jb_ow i, x, k, a, b, w) ∈ jb_L) (hs : jb_invV F pc a b ls st h = some (.inr g)) (hRc : g.2.2.2.length - n0 ≤ R.cells) (hRs : ja_tot g.2.2.2 - t0 ≤ R.slots) (kk : ja_Wd p l e R s m args below meth c D E Q n0 t0 g) : ja_Wd p l e R s m args below meth c D E Q n0 t0 (pc, ls, st, h) := by
  obtain ⟨r, rest, res, hst, hb, hrec, hsum, hF, e⟩ := jb_invV_inv hs
  subst e
  obtain ⟨ha, hht, hle, hte, hM⟩ := hFF _ _ _ _ hF
  obtain ⟨w1, w2, w3, w4, w5, w6⟩ := jb_M_at ha
  intro H locs lm hJ hS hL hT0
  have h3 : n0 ≤ h.length := ja_ge hn hJ hS
  obtain ⟨q, hq, cell, hc1, hc2, hc3⟩ := ja_recv C hJ hS hrec
  dsimp only at hRc hRs hT0 ⊢
  rw [ja_stk hst, hq]
  have hrm : (ja_rm a (res.2.length - h.length) (ja_tot res.2 - ja_tot h)).frames + 1 ≤ R.frames ∧ 8 + (jb_ml a + 11) + (ja_rm a (res.2.length - h.length) (ja_tot res.2 - ja_tot h)).locals ≤ R.locals := by
    rw [hRf, hRl]
    exact ja_roomC hht w5
  have hP : PreS s H (ja_Pc D E (.ref r :: (st.take b).reverse) h) (.ref q :: (st.take b).reverse.map (ja_v E)) := ⟨ja_blind, ja_pre C hJ hS (by rw [List.map_cons, hq])⟩
  have hls : (F0 m pc lm (((st.take b).reverse.map (ja_v E)).reverse ++ Value.ref q :: rest.map (ja_v E))).locals.size = jb_ml i := hL.1.trans hlen
  rcases hk with hk | hk
  · subst hk
    obtain ⟨l1, l2, l3, l4, l5, l6⟩ := jb_L6 hlk
    exact ja_back hn (va_runI (ja_S C) hM (cwI b C.2.2.2.2.2.1 (ja_wsW ha) (ja_wsN l5) rfl rfl (C.2.2.2.2.2.1 _ w1) (C.2.2.2.2.2.1 _ l2) (C.2.2.2.2.2.1 _ l3) l4 ⟨w4.1, w4.2, l6⟩ hrm) hP rfl (ja_alen hb) hls rfl (ja_rest C hsum) hd ⟨by omega, by omega⟩) hJ hS hL hT0 hle hte kk
  · subst hk
    obtain ⟨l1, l2, l3, l4, l5, l6⟩ := jb_L7 hlk
    exact ja_back hn (va_runIN (ja_S C) hM ⟨va_cnB b C.2.2.2.2.2.1 (ja_wsW ha) (ja_wsN l5) rfl rfl (C.2.2.2.2.2.2.2.2.2.1.2.2.2.2.1 _ l2 rfl) (C.2.2.2.2.2.1 _ w1) ⟨w4.1, w4.2, l6⟩ hrm, l4, C.2.2.2.2.2.1 _ l3⟩ hP rfl (ja_alen hb) hls rfl (ja_rest C hsum) hd ⟨by omega, by omega⟩) hJ hS hL hT0 hle hte kk
theorem jb_objW : Cond.instanceMethod Lib.objectInit ∈ jb_W ∧ Cond.code Lib.objectInit ⟨#[0xb1]⟩ 1 none ∈ jb_W := ⟨jb_inW_of (by decide +kernel) rfl, jb_inW_of (by decide +kernel) rfl⟩
theorem js_invO (C : ja_C p m meth c s args i D E) (hRf : R.frames = jb_ht i + 1) (hRl : R.locals = 30 * jb_ht i + 24) (hlen : ls.length = jb_ml i) (hd : decode (jb_b i) pc = .ok (.invokespecial x, 3)) (hlk : (jb_ow i, x, 8, a, b, w) ∈ jb_L) {r : Nat} {st' : List Value} (hsum : jb_sum st' ≤ 8) (hr : r < 1000000) (kk : ja_Wd p l e R s m args below meth c D E Q n0 t0 (pc + 3, ls, st', h)) : ja_Wd p l e R s m args below meth c D E Q n0 t0 (pc, ls, .ref r :: st', h) := by
  intro H locs lm hJ hS hL hT0
  have h2 := kk H locs lm hJ hS hL hT0
  dsimp only at h2 ⊢
  rw [List.map_cons, ja_v_low E hr]
  refine W.objInit C.1 C.2.1 C.2.2.2.2.1 (C.2.2.2.2.2.1 _ (jb_L8 hlk)) (C.2.2.2.2.2.1 _ jb_objW.1) (C.2.2.2.2.2.1 _ jb_objW.2) rfl ?_ rfl hd (by omega) ?_ h2
  · show lm.size = _
    rw [hL.1, hlen]
    exact C.2.2.2.1.symm
  · have := ja_rest C hsum (pc := pc) (lm := lm) (st0 := .ref (E.1 + r) :: st'.map (ja_v E)) (m := m)
    omega
theorem jb_mathW : (Cond.static Lib.Math.max.name ∈ jb_W ∧ Cond.code Lib.Math.max.name Lib.Math.max.code 2 (some .int) ∈ jb_W) ∧ (Cond.static Lib.Math.min.name ∈ jb_W ∧ Cond.code Lib.Math.min.name Lib.Math.min.code 2 (some .int) ∈ jb_W) ∧ (Cond.static Lib.Math.abs.name ∈ jb_W ∧ Cond.code Lib.Math.abs.name Lib.Math.abs.code 1 (some .int) ∈ jb_W) ∧ Cond.initialized "java/lang/Math" ∈ jb_W :=
  ⟨⟨jb_inW_of (by decide +kernel) rfl, jb_inW_of (by decide +kernel) rfl⟩, ⟨jb_inW_of (by decide +kernel) rfl, jb_inW_of (by decide +kernel) rfl⟩, ⟨jb_inW_of (by decide +kernel) rfl, jb_inW_of (by decide +kernel) rfl⟩, jb_inW_of (by decide +kernel) rfl⟩
theorem ja_restM (C : ja_C p m meth c s args i D E) (hRl : R.locals = 30 * jb_ht i + 24) {rest : List Value} (h : jb_sum rest ≤ 8) : ((rest.map (ja_v E)).map fun v => v.category).sum + 13 ≤ R.locals := by
  rw [ja_sum C.fok]
  omega
theorem js_invM (C : ja_C p m meth c s args i D E) (hRf : R.frames = jb_ht i + 1) (hRl : R.locals = 30 * jb_ht i + 24) (hlen : ls.length = jb_ml i) (hd : decode (jb_b i) pc = .ok (.invokestatic x, 3)) (hlk : (jb_ow i, x, 15, a, b, w) ∈ jb_L) (hs : jb_ex F i (.invokestatic x) 15 a b pc ls st h = some (.inr g)) (hRc : g.2.2.2.length - n0 ≤ R.cells) (hRs : ja_tot g.2.2.2 - t0 ≤ R.slots) (kk : ja_Wd p l e R s m args below meth c D E Q n0 t0 g) : ja_Wd p l e R s m args below meth c D E Q n0 t0 (pc, ls, st, h) := by
  unfold jb_ex at hs
  dsimp only at hs
  rw [if_neg (by omega), if_pos rfl] at hs
  obtain ⟨⟨m1, m2⟩, ⟨m3, m4⟩, ⟨m5, m6⟩, m7⟩ := jb_mathW
  split at hs
  · rename_i y r
    split at hs
    · rename_i ha
      split at hs
      · rename_i hsum
        have e := jb_go_inj hs
        subst e
        intro H locs lm hJ hS hL hT0
        have h2 := kk H locs lm hJ hS hL hT0
        dsimp only at h2 hRc hRs ⊢
        rw [List.map_cons] at h2 ⊢
        have hml : c.maxLocals = lm.size := by rw [hL.1, hlen]; exact C.2.2.2.1
        have hl : Cond.methodLink (jb_O (jb_ow i)) x Lib.Math.abs.name ∈ jb_W := by
          rcases jb_L15 hlk with z | z | z
          · omega
          · omega
          · exact z.2
        exact va_mabs C.1 C.2.1 hml C.2.2.2.2.1 (C.2.2.2.2.2.1 _ hl) (C.2.2.2.2.2.1 _ m5) (C.2.2.2.2.2.1 _ m7) (C.2.2.2.2.2.1 _ m6) (by omega) (ja_restM C hRl hsum) hRc hRs hd h2
      · cases hs
    · rename_i ha
      split at hs
      · rename_i x0 r'
        split at hs
        · rename_i hsum
          have e := jb_go_inj hs
          subst e
          intro H locs lm hJ hS hL hT0
          have h2 := kk H locs lm hJ hS hL hT0
          dsimp only at h2 hRc hRs ⊢
          rw [List.map_cons] at h2
          rw [List.map_cons, List.map_cons]
          have hml : c.maxLocals = lm.size := by rw [hL.1, hlen]; exact C.2.2.2.1
          rcases jb_L15 hlk with z | z | z
          · rw [if_pos z.1] at h2
            exact va_mmax C.1 C.2.1 hml C.2.2.2.2.1 (C.2.2.2.2.2.1 _ z.2) (C.2.2.2.2.2.1 _ m1) (C.2.2.2.2.2.1 _ m7) (C.2.2.2.2.2.1 _ m2) (by omega) (ja_restM C hRl hsum) hRc hRs hd h2
          · rw [if_neg (by omega)] at h2
            exact va_mmin C.1 C.2.1 hml C.2.2.2.2.1 (C.2.2.2.2.2.1 _ z.2) (C.2.2.2.2.2.1 _ m3) (C.2.2.2.2.2.1 _ m7) (C.2.2.2.2.2.1 _ m4) (by omega) (ja_restM C hRl hsum) hRc hRs hd h2
          · omega
        · cases hs
      · cases hs
  · cases hs
end JI
end
section
/-! ===== a method's run: the machine comes to what the small machine comes to ===== -/
section JM
variable {F : Nat → List Value → jb_H → Option jb_Res} {i k a b pc : Nat} {ls st : List Value} {h : jb_H}
def jb_mono (F : Nat → List Value → jb_H → Option jb_Res) : Prop := ∀ i args h r, F i args h = some r → h.length ≤ r.2.length ∧ ja_tot h ≤ ja_tot r.2
def jb_mno (ls : List Value) (h : jb_H) (g : jb_Cfg) : Prop := g.2.1.length = ls.length ∧ h.length ≤ g.2.2.2.length ∧ ja_tot h ≤ ja_tot g.2.2.2
theorem jb_mno_go {g : jb_Cfg} {pc' : Nat} {st' : List Value} (hs : jb_go pc' ls st' h = some (.inr g)) : jb_mno ls h g := by
  have e := jb_go_inj hs
  subst e
  exact ⟨rfl, Nat.le_refl _, Nat.le_refl _⟩
theorem jb_mno_set {g : jb_Cfg} {pc' n : Nat} {v : Value} {st' : List Value} (hs : jb_go pc' (ls.set n v) st' h = some (.inr g)) : jb_mno ls h g := by
  have e := jb_go_inj hs
  subst e
  exact ⟨List.length_set, Nat.le_refl _, Nat.le_refl _⟩
theorem jb_mno_put {g : jb_Cfg} {pc' r n c c' : Nat} {v : Value} {fs st' : List Value} (hr : h[r]? = some (c, fs)) (hs : jb_go pc' ls st' (h.set r (c', fs.set n v)) = some (.inr g)) : jb_mno ls h g := by
  have e := jb_go_inj hs
  subst e
  exact ⟨rfl, by show h.length ≤ (h.set r (c', fs.set n v)).length; rw [List.length_set]; exact Nat.le_refl _, by show ja_tot h ≤ ja_tot (h.set r (c', fs.set n v)); rw [ja_tot_set hr (by simp)]; exact Nat.le_refl _⟩
theorem jb_mno_app {g : jb_Cfg} {pc' : Nat} {q : Nat × List Value} {st' : List Value} (hs : jb_go pc' ls st' (h ++ [q]) = some (.inr g)) : jb_mno ls h g := by
  have e := jb_go_inj hs
  subst e
  exact ⟨rfl, by show h.length ≤ (h ++ [q]).length; simp, by show ja_tot h ≤ ja_tot (h ++ [q]); rw [ja_tot_app]; omega⟩
theorem jb_mno_V (hF : jb_mono F) {g : jb_Cfg} (hs : jb_invV F pc a b ls st h = some (.inr g)) : jb_mno ls h g := by
  obtain ⟨r, rest, res, hst, hb, hrec, hsum, hf, e⟩ := jb_invV_inv hs
  subst e
  exact ⟨rfl, (hF _ _ _ _ hf).1, (hF _ _ _ _ hf).2⟩
theorem jb_mno_S (hF : jb_mono F) {g : jb_Cfg} (hs : jb_invS F pc a b ls st h = some (.inr g)) : jb_mno ls h g := by
  obtain ⟨res, hb, hsum, hf, e⟩ := jb_invS_inv hs
  subst e
  exact ⟨rfl, (hF _ _ _ _ hf).1, (hF _ _ _ _ hf).2⟩
set_option maxHeartbeats 4000000 in
theorem jb_ex_mono (hF : jb_mono F) {ins : Instr} {g : jb_Cfg} (hs : jb_ex F i ins k a b pc ls st h = some (.inr g)) : jb_mno ls h g := by
  cases ins <;> unfold jb_ex at hs <;> dsimp only at hs <;> (first | (cases hs; done) | skip) <;> (repeat' (split at hs)) <;> first
    | exact jb_mno_go hs
    | exact jb_mno_set hs
    | exact jb_mno_app hs
    | exact jb_mno_V hF hs
    | exact jb_mno_S hF hs
    | exact jb_mno_put (by assumption) hs
    | (cases hs; done)
end JM
section JR
variable {p : Program} {l : Launch} {e : Env} {R : Room} {s : State} {m : MethodId} {args : Array Value} {below : List Frame} {meth : Method} {c : Code} {D : va_G} {E : ja_E} {Q : State → Prop} {n0 t0 i : Nat} {F : Nat → List Value → jb_H → Option jb_Res} {k a b pc : Nat} {ls st : List Value} {h : jb_H} {g : jb_Cfg}
set_option maxHeartbeats 4000000 in
theorem ja_step (C : ja_C p m meth c s args i D E) (hn : s.heap.size = E.1 + n0) (hFF : ja_FF l D E (jb_ht i) F) (hRf : R.frames = jb_ht i + 1) (hRl : R.locals = 30 * jb_ht i + 24) (hlen : ls.length = jb_ml i) (hs : jb_stp F i (pc, ls, st, h) = some (.inr g)) (hRc : g.2.2.2.length - n0 ≤ R.cells) (hRs : ja_tot g.2.2.2 - t0 ≤ R.slots) (kk : ja_Wd p l e R s m args below meth c D E Q n0 t0 g) : ja_Wd p l e R s m args below meth c D E Q n0 t0 (pc, ls, st, h) := by
  unfold jb_stp at hs
  dsimp only at hs
  split at hs
  · cases hs
  · rename_i q hq
    obtain ⟨ins, k, a, b⟩ := q
    dsimp only at hs
    obtain ⟨hd, ⟨n1, hd1⟩, hl⟩ := jb_op_ok C.2.2.2.2.2.2.2.2.2.2.2 hq
    cases ins with
    | iconst n => exact js_iconst C (hd.resolve_left (by simp [jb_ln])) hs kk
    | bipush n => exact js_bipush C (hd.resolve_left (by simp [jb_ln])) hs kk
    | sipush n => exact js_sipush C (hd.resolve_left (by simp [jb_ln])) hs kk
    | aconst_null => exact js_null C (hd.resolve_left (by simp [jb_ln])) hs kk
    | iload n => exact js_iload C (hd.resolve_left (by simp [jb_ln])) hs kk
    | iload_n n => exact js_iload_n C (hd.resolve_left (by simp [jb_ln])) hs kk
    | aload_n n => exact js_aload_n C (hd.resolve_left (by simp [jb_ln])) hs kk
    | istore n => exact js_istore C (hd.resolve_left (by simp [jb_ln])) hs kk
    | istore_n n => exact js_istore_n C (hd.resolve_left (by simp [jb_ln])) hs kk
    | astore_n n => exact js_astore_n C (hd.resolve_left (by simp [jb_ln])) hs kk
    | iinc n d => exact js_iinc C (hd.resolve_left (by simp [jb_ln])) hs kk
    | iadd => exact js_iadd C (hd.resolve_left (by simp [jb_ln])) hs kk
    | isub => exact js_isub C (hd.resolve_left (by simp [jb_ln])) hs kk
    | imul => exact js_imul C (hd.resolve_left (by simp [jb_ln])) hs kk
    | iand => exact js_iand C (hd.resolve_left (by simp [jb_ln])) hs kk
    | ishr => exact js_ishr C (hd.resolve_left (by simp [jb_ln])) hs kk
    | ineg => exact js_ineg C (hd.resolve_left (by simp [jb_ln])) hs kk
    | i2b => exact js_i2b C (hd.resolve_left (by simp [jb_ln])) hs kk
    | i2c => exact js_i2c C (hd.resolve_left (by simp [jb_ln])) hs kk
    | i2d => exact js_i2d C (hd.resolve_left (by simp [jb_ln])) hs kk
    | i2f => exact js_i2f C (hd.resolve_left (by simp [jb_ln])) hs kk
    | irem => exact js_irem C (hd.resolve_left (by simp [jb_ln])) hs kk
    | ddiv => exact js_ddiv C (hd.resolve_left (by simp [jb_ln])) hs kk
    | fdiv => exact js_fdiv C (hd.resolve_left (by simp [jb_ln])) hs kk
    | dup => exact js_dup C (hd.resolve_left (by simp [jb_ln])) hs kk
    | dup2 => exact js_dup2 C (hd.resolve_left (by simp [jb_ln])) hs kk
    | pop => exact js_pop C (hd.resolve_left (by simp [jb_ln])) hs kk
    | goto o => exact js_goto C (hd.resolve_left (by simp [jb_ln])) hs kk
    | ifnonnull o => exact js_ifnonnull C (hd.resolve_left (by simp [jb_ln])) hs kk
    | fconst n => exact js_fconst C (hd.resolve_left (by simp [jb_ln])) hs kk
    | iaload => exact js_iaload C (hd.resolve_left (by simp [jb_ln])) hs kk
    | aaload => exact js_aaload C (hd.resolve_left (by simp [jb_ln])) hs kk
    | baload => exact js_baload C (hd.resolve_left (by simp [jb_ln])) hs kk
    | arraylength => exact js_arraylength C (hd.resolve_left (by simp [jb_ln])) hs kk
    | iastore => exact js_iastore C hn (hd.resolve_left (by simp [jb_ln])) hs kk
    | aastore => exact js_aastore C hn (hd.resolve_left (by simp [jb_ln])) hs kk
    | if_icmp cc o => 
      cases cc with
      | eq => exact js_icmp_eq C (hd.resolve_left (by simp [jb_ln])) hs kk
      | ne => exact js_icmp_ne C (hd.resolve_left (by simp [jb_ln])) hs kk
      | lt => exact js_icmp_lt C (hd.resolve_left (by simp [jb_ln])) hs kk
      | ge => exact js_icmp_ge C (hd.resolve_left (by simp [jb_ln])) hs kk
      | gt => exact js_icmp_gt C (hd.resolve_left (by simp [jb_ln])) hs kk
      | le => exact js_icmp_le C (hd.resolve_left (by simp [jb_ln])) hs kk
    | ifCond cc o => 
      cases cc with
      | eq => exact js_if_eq C (hd.resolve_left (by simp [jb_ln])) hs kk
      | ne => exact js_if_ne C (hd.resolve_left (by simp [jb_ln])) hs kk
      | lt => exact js_if_lt C (hd.resolve_left (by simp [jb_ln])) hs kk
      | ge => exact js_if_ge C (hd.resolve_left (by simp [jb_ln])) hs kk
      | gt => exact js_if_gt C (hd.resolve_left (by simp [jb_ln])) hs kk
      | le => exact js_if_le C (hd.resolve_left (by simp [jb_ln])) hs kk
    | tableswitch d lo hi offs => exact js_table C hd1 hs kk
    | lookupswitch d ps => exact js_lookup C hd1 hs kk
    | getfield x =>
      rcases hl with hl | ⟨x', p', hl, hk⟩
      · subst hl; unfold jb_ex at hs; dsimp only at hs; (repeat' (split at hs)) <;> first | (cases hs; done) | omega
      · obtain ⟨rfl, hk2⟩ := of_decide_eq_true hk
        exact js_getfield C hn (hd.resolve_left (by simp [jb_ln])) hl hs kk
    | putfield x =>
      rcases hl with hl | ⟨x', p', hl, hk⟩
      · subst hl; unfold jb_ex at hs; dsimp only at hs; (repeat' (split at hs)) <;> first | (cases hs; done) | omega
      · obtain ⟨rfl, hk2⟩ := of_decide_eq_true hk
        exact js_putfield C hn (hd.resolve_left (by simp [jb_ln])) hl hs kk
    | new x =>
      rcases hl with hl | ⟨x', p', hl, hk⟩
      · subst hl; unfold jb_ex at hs; dsimp only at hs; (repeat' (split at hs)) <;> first | (cases hs; done) | omega
      · obtain ⟨rfl, hk2⟩ := of_decide_eq_true hk
        exact js_new C hn (hd.resolve_left (by simp [jb_ln])) hl hs hRc hRs kk
    | newarray x => exact js_newarray C hn (hd.resolve_left (by simp [jb_ln])) hs hRc hRs kk
    | anewarray x =>
      rcases hl with hl | ⟨x', p', hl, hk⟩
      · subst hl; unfold jb_ex at hs; dsimp only at hs; (repeat' (split at hs)) <;> first | (cases hs; done) | omega
      · obtain ⟨rfl, hk2⟩ := of_decide_eq_true hk
        exact js_anewarray C hn (hd.resolve_left (by simp [jb_ln])) hl hs hRc hRs kk
    | ldc x =>
      rcases hl with hl | ⟨x', p', hl, hk⟩
      · subst hl; unfold jb_ex at hs; dsimp only at hs; (repeat' (split at hs)) <;> first | (cases hs; done) | omega
      · obtain ⟨rfl, hk2⟩ := of_decide_eq_true hk
        exact js_ldc C (hd.resolve_left (by simp [jb_ln])) hl hs kk
    | ldc_w x =>
      rcases hl with hl | ⟨x', p', hl, hk⟩
      · subst hl; unfold jb_ex at hs; dsimp only at hs; (repeat' (split at hs)) <;> first | (cases hs; done) | omega
      · obtain ⟨rfl, hk2⟩ := of_decide_eq_true hk
        exact js_ldc_w C (hd.resolve_left (by simp [jb_ln])) hl hs kk
    | ldc2_w x =>
      rcases hl with hl | ⟨x', p', hl, hk⟩
      · subst hl; unfold jb_ex at hs; dsimp only at hs; (repeat' (split at hs)) <;> first | (cases hs; done) | omega
      · obtain ⟨rfl, hk2⟩ := of_decide_eq_true hk
        exact js_ldc2_w C (hd.resolve_left (by simp [jb_ln])) hl hs kk
    | getstatic x =>
      rcases hl with hl | ⟨x', p', hl, hk⟩
      · subst hl; unfold jb_ex at hs; dsimp only at hs; (repeat' (split at hs)) <;> first | (cases hs; done) | omega
      · obtain ⟨rfl, hk2⟩ := of_decide_eq_true hk
        exact js_getstatic C (hd.resolve_left (by simp [jb_ln])) hl hs kk
    | invokevirtual x =>
      rcases hl with hl | ⟨x', p', hl, hk⟩
      · subst hl; unfold jb_ex at hs; dsimp only at hs; (repeat' (split at hs)) <;> first | (cases hs; done) | omega
      · obtain ⟨rfl, hk2⟩ := of_decide_eq_true hk
        unfold jb_ex at hs
        dsimp only at hs
        rw [if_pos hk2] at hs
        exact js_invV C hn hFF hRf hRl hlen (hd.resolve_left (by simp [jb_ln])) hk2 hl hs hRc hRs kk
    | invokestatic x =>
      rcases hl with hl | ⟨x', p', hl, hk⟩
      · subst hl; unfold jb_ex at hs; dsimp only at hs; (repeat' (split at hs)) <;> first | (cases hs; done) | omega
      · obtain ⟨rfl, hk2⟩ := of_decide_eq_true hk
        by_cases h45 : k = 4 ∨ k = 5
        · unfold jb_ex at hs
          dsimp only at hs
          rw [if_pos h45] at hs
          exact js_invS C hn hFF hRf hRl hlen (hd.resolve_left (by simp [jb_ln])) h45 hl hs hRc hRs kk
        · obtain rfl : k = 15 := by omega
          exact js_invM C hRf hRl hlen (hd.resolve_left (by simp [jb_ln])) hl hs hRc hRs kk
    | invokespecial x =>
      rcases hl with hl | ⟨x', p', hl, hk⟩
      · subst hl; unfold jb_ex at hs; dsimp only at hs; (repeat' (split at hs)) <;> first | (cases hs; done) | omega
      · obtain ⟨rfl, hk2⟩ := of_decide_eq_true hk
        unfold jb_ex at hs
        dsimp only at hs
        by_cases h67 : k = 6 ∨ k = 7
        · rw [if_pos h67] at hs
          exact js_invI C hn hFF hRf hRl hlen (hd.resolve_left (by simp [jb_ln])) h67 hl hs hRc hRs kk
        · obtain rfl : k = 8 := by omega
          rw [if_neg h67, if_pos rfl] at hs
          split at hs
          · split at hs
            · rename_i hsum
              have e := jb_go_inj hs
              subst e
              exact js_invO C hRf hRl hlen (hd.resolve_left (by simp [jb_ln])) hl hsum.1 hsum.2 kk
            · cases hs
          · cases hs
    | _ => unfold jb_ex at hs; dsimp only at hs; (repeat' (split at hs)) <;> (cases hs; done)
end JR
end
section
/-! ===== THE SIMULATION: a method's contract out of the small machine's run ===== -/
theorem jb_ex_ret {F : Nat → List Value → jb_H → Option jb_Res} {i k a b pc : Nat} {ls st : List Value} {h : jb_H} {ins : Instr} {r : jb_Res} (hs : jb_ex F i ins k a b pc ls st h = some (.inl r)) : r.2 = h := by
  cases ins <;> unfold jb_ex at hs <;> dsimp only at hs <;> (first | (cases hs; done) | skip) <;> (repeat' (split at hs)) <;> first
    | (cases hs; done)
    | (unfold jb_go at hs; cases hs; done)
    | (cases hs; rfl)
    | (unfold jb_invV at hs; (repeat' (split at hs)) <;> (first | (cases hs; done) | (unfold jb_go at hs; cases hs; done)))
    | (unfold jb_invS at hs; (repeat' (split at hs)) <;> (first | (cases hs; done) | (unfold jb_go at hs; cases hs; done)))
section JU
variable {p : Program} {l : Launch} {e : Env} {R : Room} {s : State} {m : MethodId} {args : Array Value} {below : List Frame} {meth : Method} {c : Code} {D : va_G} {E : ja_E} {Q : State → Prop} {n0 t0 i : Nat} {F : Nat → List Value → jb_H → Option jb_Res} {k a b pc : Nat} {ls st : List Value} {h : jb_H} {g : jb_Cfg}
theorem ja_q (v : Option Value) (r : jb_Res) {H : Heap} {locs : List Loc} (hv : r.1.map (ja_v E) = v) (hJ : ja_J E D r.2 H) (hS : va_S (ja_A E) s.heap H locs) : ∀ t : State, t.heap = H → s.WarmedH t.vm → ja_Qc D E r args s (.returned v) t := by
  intro t ht _
  subst hv
  exact ⟨rfl, by rw [ht]; exact hJ, hS.F ht⟩
theorem ja_ret (C : ja_C p m meth c s args i D E) {r : jb_Res} (hs : jb_stp F i (pc, ls, st, h) = some (.inl r)) : r.2 = h ∧ ja_Wd p l e R s m args below meth c D E (MQ below (ja_Qc D E r) args s (r.2.length - n0) (ja_tot r.2 - t0) (ja_A E)) n0 t0 (pc, ls, st, h) := by
  unfold jb_stp at hs
  dsimp only at hs
  split at hs
  · cases hs
  · rename_i q hq
    obtain ⟨ins, k, a, b⟩ := q
    dsimp only at hs
    obtain ⟨hd, ⟨n1, hd1⟩, hl⟩ := jb_op_ok C.2.2.2.2.2.2.2.2.2.2.2 hq
    have hlocks := C.2.2.2.2.2.2.1
    cases ins with
    | ireturn =>
      unfold jb_ex at hs
      dsimp only at hs
      split at hs
      · rename_i x
        split at hs
        · rename_i t ht
          split at hs
          · rename_i hc
            cases hs
            refine ⟨rfl, fun H locs lm hJ hS hL hT0 => ?_⟩
            exact W.zret C.1 C.2.1 (C.2.2.1.trans ht) hc.2 (ja_q _ _ rfl hJ hS) hS.2.2 (hd.resolve_left (by simp [jb_ln])) hlocks
          · cases hs
        · cases hs
      · cases hs
    | dreturn =>
      unfold jb_ex at hs
      dsimp only at hs
      split at hs
      · split at hs
        · rename_i hc
          cases hs
          refine ⟨rfl, fun H locs lm hJ hS hL hT0 => ?_⟩
          exact W.dret C.1 C.2.1 (C.2.2.1.trans hc) (ja_q _ _ rfl hJ hS) hS.2.2 (hd.resolve_left (by simp [jb_ln])) hlocks
        · cases hs
      · cases hs
    | freturn =>
      unfold jb_ex at hs
      dsimp only at hs
      split at hs
      · split at hs
        · rename_i hc
          cases hs
          refine ⟨rfl, fun H locs lm hJ hS hL hT0 => ?_⟩
          exact W.fret C.1 C.2.1 (C.2.2.1.trans hc) (ja_q _ _ rfl hJ hS) hS.2.2 (hd.resolve_left (by simp [jb_ln])) hlocks
        · cases hs
      · cases hs
    | areturn =>
      unfold jb_ex at hs
      dsimp only at hs
      split at hs
      · rename_i x
        split at hs
        · rename_i nm ht
          cases hs
          refine ⟨rfl, fun H locs lm hJ hS hL hT0 => ?_⟩
          exact W.aret (v := ja_v E (.ref x)) C.1 C.2.1 (C.2.2.1.trans ht) (Or.inl ⟨_, rfl⟩) (ja_v_refs C.fok x) (ja_q _ _ rfl hJ hS) hS.2.2 (hd.resolve_left (by simp [jb_ln])) hlocks
        · cases hs
      · split at hs
        · rename_i nm ht
          cases hs
          refine ⟨rfl, fun H locs lm hJ hS hL hT0 => ?_⟩
          exact W.aret (v := .null) C.1 C.2.1 (C.2.2.1.trans ht) (Or.inl ⟨_, rfl⟩) (Or.inl rfl) (ja_q _ _ rfl hJ hS) hS.2.2 (hd.resolve_left (by simp [jb_ln])) hlocks
        · cases hs
      · cases hs
    | return_ =>
      unfold jb_ex at hs
      dsimp only at hs
      split at hs
      · split at hs
        · rename_i hc
          cases hs
          refine ⟨rfl, fun H locs lm hJ hS hL hT0 => ?_⟩
          exact W.vret C.1 C.2.1 (C.2.2.1.trans hc) (ja_q _ _ rfl hJ hS) hS.2.2 (hd.resolve_left (by simp [jb_ln])) hlocks
        · cases hs
      · cases hs
    | _ => 
      exfalso
      unfold jb_ex at hs
      dsimp only at hs
      (repeat' (split at hs)) <;> first
        | (cases hs; done)
        | (unfold jb_go at hs; cases hs; done)
        | (unfold jb_invV at hs; (repeat' (split at hs)) <;> (first | (cases hs; done) | (unfold jb_go at hs; cases hs; done)))
        | (unfold jb_invS at hs; (repeat' (split at hs)) <;> (first | (cases hs; done) | (unfold jb_go at hs; cases hs; done)))
theorem jb_stp_mono (hF : jb_mono F) (hs : jb_stp F i (pc, ls, st, h) = some (.inr g)) : jb_mno ls h g := by
  unfold jb_stp at hs
  dsimp only at hs
  split at hs
  · cases hs
  · exact jb_ex_mono hF hs
theorem ja_FF.mono {d : Nat} (hFF : ja_FF l D E d F) : jb_mono F := fun i args h r hr => ⟨(hFF i args h r hr).2.2.1, (hFF i args h r hr).2.2.2.1⟩
end JU
section JV
variable {p : Program} {l : Launch} {e : Env} {s : State} {m : MethodId} {args : Array Value} {below : List Frame} {meth : Method} {c : Code} {D : va_G} {E : ja_E} {n0 t0 i : Nat} {F : Nat → List Value → jb_H → Option jb_Res}
theorem jb_run_mn (hF : jb_mono F) {r : jb_Res} : ∀ (n : Nat) (pc : Nat) (ls st : List Value) (h : jb_H), jb_run F i n (pc, ls, st, h) = some r → (∀ pc' ls' st' h', jb_stp F i (pc', ls', st', h') = some (.inl r) → r.2 = h') → h.length ≤ r.2.length ∧ ja_tot h ≤ ja_tot r.2
  | 0, _, _, _, _, hr, _ => by cases hr
  | n + 1, pc, ls, st, h, hr, hf => by
    rw [jb_run] at hr
    split at hr
    · cases hr
    · rename_i r' hs
      cases hr
      rw [hf _ _ _ _ hs]
      exact ⟨Nat.le_refl _, Nat.le_refl _⟩
    · rename_i g hs
      obtain ⟨pc', ls', st', h'⟩ := g
      have h1 := jb_stp_mono hF hs
      have h2 := jb_run_mn hF n pc' ls' st' h' hr hf
      exact ⟨Nat.le_trans h1.2.1 h2.1, Nat.le_trans h1.2.2 h2.2⟩
theorem ja_run {R : Room} (C : ja_C p m meth c s args i D E) (hn : s.heap.size = E.1 + n0) (hFF : ja_FF l D E (jb_ht i) F) (hRf : R.frames = jb_ht i + 1) (hRl : R.locals = 30 * jb_ht i + 24) {r : jb_Res} (hRc : r.2.length - n0 ≤ R.cells) (hRs : ja_tot r.2 - t0 ≤ R.slots) : ∀ (n : Nat) (pc : Nat) (ls st : List Value) (h : jb_H), jb_run F i n (pc, ls, st, h) = some r → ls.length = jb_ml i → (h.length ≤ r.2.length ∧ ja_tot h ≤ ja_tot r.2) ∧ ja_Wd p l e R s m args below meth c D E (MQ below (ja_Qc D E r) args s (r.2.length - n0) (ja_tot r.2 - t0) (ja_A E)) n0 t0 (pc, ls, st, h)
  | 0, _, _, _, _, hr, _ => by cases hr
  | n + 1, pc, ls, st, h, hr, hlen => by
    rw [jb_run] at hr
    split at hr
    · cases hr
    · rename_i r' hs
      cases hr
      obtain ⟨h1, h2⟩ := ja_ret (l := l) (e := e) (below := below) (R := R) (n0 := n0) (t0 := t0) C hs
      exact ⟨⟨by rw [h1]; exact Nat.le_refl _, by rw [h1]; exact Nat.le_refl _⟩, h2⟩
    · rename_i g hs
      obtain ⟨pc', ls', st', h'⟩ := g
      have h1 := jb_stp_mono hFF.mono hs
      obtain ⟨h2, h3⟩ := ja_run C hn hFF hRf hRl hRc hRs n pc' ls' st' h' hr (h1.1.trans hlen)
      refine ⟨⟨Nat.le_trans h1.2.1 h2.1, Nat.le_trans h1.2.2 h2.2⟩, ja_step C hn hFF hRf hRl hlen hs ?_ ?_ h3⟩
      · have := h2.1
        show h'.length - n0 ≤ _
        omega
      · have := h2.2
        show ja_tot h' - t0 ≤ _
        omega
end JV
theorem lg_sl_1 : ∀ (vs : List Value), (∀ v ∈ vs, v.category = 1) → lg_sl vs = vs.map Slot.val
  | [], _ => rfl
  | v :: vs, h => by
    have h1 := lg_sl_1 vs (fun w hw => h w (List.mem_cons_of_mem _ hw))
    have h2 := h v List.mem_cons_self
    unfold lg_sl at h1 ⊢
    rw [List.flatMap_cons, h1, if_neg (by omega)]
    rfl
theorem lv_args_1 : ∀ (vs : List Value) (j k : Nat) (v : Value), (∀ v ∈ vs, v.category = 1) → vs[k]? = some v → (j + k, v) ∈ lv_args j vs
  | [], _, _, _, _, h => by simp at h
  | w :: vs, j, k, v, hc, h => by
    unfold lv_args
    have h2 := hc w List.mem_cons_self
    rw [if_neg (by omega)]
    cases k with
    | zero =>
      simp at h
      subst h
      exact List.mem_cons_self
    | succ k =>
      rw [List.getElem?_cons_succ] at h
      have := lv_args_1 vs (j + 1) k v (fun w hw => hc w (List.mem_cons_of_mem _ hw)) h
      rw [show j + (k + 1) = j + 1 + k by omega]
      exact List.mem_cons_of_mem _ this
theorem ja_entryL {E : ja_E} (hf : ja_fok E) {i : Nat} {args : List Value} (h1 : args.length ≤ jb_ml i) (h2 : ∀ v ∈ args, v.category = 1) : ja_L E (jb_entry i args) ((lg_sl (args.map (ja_v E)) ++ List.replicate (jb_ml i - (lg_sl (args.map (ja_v E))).length) Slot.unset).toArray) ∧ (jb_entry i args).length = jb_ml i := by
  have hc : ∀ v ∈ args.map (ja_v E), v.category = 1 := by
    intro v hv
    obtain ⟨w, hw, rfl⟩ := List.mem_map.mp hv
    rw [ja_v_cat hf]
    exact h2 w hw
  have hl : (lg_sl (args.map (ja_v E))).length = args.length := by rw [lg_sl_1 _ hc, List.length_map, List.length_map]
  have hen : (jb_entry i args).length = jb_ml i := by
    unfold jb_entry
    rw [List.length_append, List.length_replicate]
    omega
  obtain ⟨g1, g2, g3⟩ := lv_entry (args.map (ja_v E)) (n := jb_ml i) (by rw [hl]; exact h1)
  refine ⟨⟨g1.trans hen.symm, g2, fun k v hk => ?_⟩, hen⟩
  unfold jb_entry at hk
  rcases Nat.lt_or_ge k args.length with z | z
  · rw [List.getElem?_append_left z] at hk
    refine ⟨h2 v (List.mem_of_getElem? hk), fun _ => ?_⟩
    have := g3 (0 + k, ja_v E v) (lv_args_1 _ 0 k _ hc (by rw [List.getElem?_map, hk]; rfl))
    rw [Nat.zero_add] at this
    exact this
  · rw [List.getElem?_append_right z, List.getElem?_replicate] at hk
    split at hk
    · cases hk
      exact ⟨rfl, fun q => absurd rfl q⟩
    · cases hk
theorem jb_run_lt {F : Nat → List Value → jb_H → Option jb_Res} {i n : Nat} {g : jb_Cfg} {r : jb_Res} (h : jb_run F i n g = some r) : i < 248 := by
  cases n with
  | zero => cases h
  | succ n =>
    rcases Nat.lt_or_ge i 248 with z | z
    · exact z
    · exfalso
      have hI : jb_I.getD i [] = [] := by
        rw [List.getD_eq_getElem?_getD, List.getElem?_eq_none (by
          have : jb_I.length = 248 := by decide +kernel
          omega)]
        rfl
      have hop : jb_op i g.1 = none := by
        unfold jb_op
        rw [hI]
        rfl
      rw [jb_run, jb_stp, hop] at h
      cases h
/-- **every method's contract** -/
theorem ja_sim (l : Launch) (D : va_G) (E : ja_E) : ∀ d, ja_FF l D E d (jb_G d)
  | 0 => fun i args h r hr => by cases hr
  | d + 1 => fun i args h r hr => by
    have IH := ja_sim l D E d
    rw [jb_G_succ] at hr
    split at hr
    · rename_i hht
      split at hr
      · rename_i ha
        obtain ⟨ha1, ha2⟩ := ha
        have ha2 : ∀ v ∈ args, v.category = 1 := fun v hv => by
          have := List.all_eq_true.mp ha2 v hv
          exact eq_of_beq this
        obtain ⟨n, hn⟩ := jb_to_iff.mp hr
        have hi := jb_run_lt hn
        obtain ⟨w1, w2, w3, w4, w5, w6⟩ := jb_M_at hi
        have hFF : ja_FF l D E (jb_ht i) (jb_G d) := by rw [hht]; exact IH
        have hret : ∀ pc' ls' st' h', jb_stp (jb_G d) i (pc', ls', st', h') = some (.inl r) → r.2 = h' := by
          intro pc' ls' st' h' hs
          unfold jb_stp at hs
          split at hs
          · cases hs
          · exact jb_ex_ret hs
        obtain ⟨hm1, hm2⟩ := jb_run_mn hFF.mono n _ _ _ _ hn hret
        refine ⟨hi, by omega, hm1, hm2, ?_⟩
        refine Met.ofW (cc := jb_b i) (maxL := jb_ml i) (ret := jb_ret i) w3 rfl ?_
        intro p e s m av below meth c s₁ B hml hP
        obtain ⟨rfl, hJ, hK, hR⟩ := hP
        have hts : ∀ w ∈ ja_ws i, w.before (args.map (ja_v E)).toArray s = true := atoms_spec (ws := ja_ws i) B.pre
        have C : ja_C p m meth c s (args.map (ja_v E)).toArray i D E := ⟨B.exec, B.bytes, B.returns, hml, by rw [← w2]; exact findClass_of_methodNamed B.named, fun w hw => hts w (List.mem_cons_of_mem _ hw), B.notSynchronized, (name_of_methodNamed B.named B.method).1, hK, hR, fun q hq => by
          have := hJ.2
          show E.1 ≤ q
          omega, hi⟩
        obtain ⟨hL, hlen⟩ := ja_entryL C.fok ha1 ha2
        have key := (ja_run (l := l) (e := e) (below := below) (n0 := h.length) (t0 := ja_tot h) (R := ja_rm i (r.2.length - h.length) (ja_tot r.2 - ja_tot h)) C hJ.2 hFF rfl rfl (Nat.le_refl _) (Nat.le_refl _) n _ _ _ _ hn hlen).2 s.heap [] _ hJ va_S.rf hL (Nat.le_refl _)
        dsimp only at key
        rw [Nat.sub_self, Nat.sub_self] at key
        rw [lg_entry_eq]
        exact key
      · cases hr
    · obtain ⟨h1, h2, h3⟩ := IH i args h r hr
      exact ⟨h1, by omega, h3⟩
end
section
/-! ===== the objects behind the constructors: their shape stays, their ints change ===== -/
/-- the ints: object, place -/
abbrev jm_S : Type := Nat → Nat → Int32
def jm_sh : List (Nat × List (Option Nat)) := [(10, [some 1, some 26, some 51, some 76, some 278, some 279, some 282, some 291, some 293, some 295, some 297, some 299, some 301, some 303, some 305, none, none]), (9, [some 2, some 9, some 16, some 21, none, none, none]), (0, [some 3, some 5, some 7]), (6, [some 4, none]), (12, List.replicate 5 none), (6, [some 6, none]), (12, List.replicate 5 none), (6, [some 8, none]), (12, List.replicate 5 none), (1, [some 10, some 12, some 14]), (6, [some 11, none]), (12, List.replicate 8 none), (6, [some 13, none]), (12, List.replicate 8 none), (6, [some 15, none]), (12, List.replicate 8 none), (7, [some 17, some 19]), (6, [some 18, none]), (12, List.replicate 6 none), (6, [some 20, none]), (12, List.replicate 6 none), (4, [some 22, some 24]), (6, [some 23, none]), (12, List.replicate 5 none), (6, [some 25, none]), (12, List.replicate 60 none), (9, [some 27, some 34, some 41, some 46, none, none, none]), (0, [some 28, some 30, some 32]), (6, [some 29, none]), (12, List.replicate 5 none), (6, [some 31, none]), (12, List.replicate 5 none), (6, [some 33, none]), (12, List.replicate 5 none), (1, [some 35, some 37, some 39]), (6, [some 36, none]), (12, List.replicate 8 none), (6, [some 38, none]), (12, List.replicate 8 none), (6, [some 40, none]), (12, List.replicate 8 none), (7, [some 42, some 44]), (6, [some 43, none]), (12, List.replicate 6 none), (6, [some 45, none]), (12, List.replicate 6 none), (4, [some 47, some 49]), (6, [some 48, none]), (12, List.replicate 5 none), (6, [some 50, none]), (12, List.replicate 60 none), (9, [some 52, some 59, some 66, some 71, none, none, none]), (0, [some 53, some 55, some 57]), (6, [some 54, none]), (12, List.replicate 5 none), (6, [some 56, none]), (12, List.replicate 5 none), (6, [some 58, none]), (12, List.replicate 5 none), (1, [some 60, some 62, some 64]), (6, [some 61, none]), (12, List.replicate 8 none), (6, [some 63, none]), (12, List.replicate 8 none), (6, [some 65, none]), (12, List.replicate 8 none), (7, [some 67, some 69]), (6, [some 68, none]), (12, List.replicate 6 none), (6, [some 70, none]), (12, List.replicate 6 none), (4, [some 72, some 74]), (6, [some 73, none]), (12, List.replicate 5 none), (6, [some 75, none]), (12, List.replicate 60 none), (2, [some 77, none, none]), (13, [some 78, some 103, some 128, some 153, some 178, some 203, some 228, some 253]), (9, [some 79, some 86, some 93, some 98, none, none, none]), (0, [some 80, some 82, some 84]), (6, [some 81, none]), (12, List.replicate 5 none), (6, [some 83, none]), (12, List.replicate 5 none), (6, [some 85, none]), (12, List.replicate 5 none), (1, [some 87, some 89, some 91]), (6, [some 88, none]), (12, List.replicate 8 none), (6, [some 90, none]), (12, List.replicate 8 none), (6, [some 92, none]), (12, List.replicate 8 none), (7, [some 94, some 96]), (6, [some 95, none]), (12, List.replicate 6 none), (6, [some 97, none]), (12, List.replicate 6 none), (4, [some 99, some 101]), (6, [some 100, none]), (12, List.replicate 5 none), (6, [some 102, none]), (12, List.replicate 60 none), (9, [some 104, some 111, some 118, some 123, none, none, none]), (0, [some 105, some 107, some 109]), (6, [some 106, none]), (12, List.replicate 5 none), (6, [some 108, none]), (12, List.replicate 5 none), (6, [some 110, none]), (12, List.replicate 5 none), (1, [some 112, some 114, some 116]), (6, [some 113, none]), (12, List.replicate 8 none), (6, [some 115, none]), (12, List.replicate 8 none), (6, [some 117, none]), (12, List.replicate 8 none), (7, [some 119, some 121]), (6, [some 120, none]), (12, List.replicate 6 none), (6, [some 122, none]), (12, List.replicate 6 none), (4, [some 124, some 126]), (6, [some 125, none]), (12, List.replicate 5 none), (6, [some 127, none]), (12, List.replicate 60 none), (9, [some 129, some 136, some 143, some 148, none, none, none]), (0, [some 130, some 132, some 134]), (6, [some 131, none]), (12, List.replicate 5 none), (6, [some 133, none]), (12, List.replicate 5 none), (6, [some 135, none]), (12, List.replicate 5 none), (1, [some 137, some 139, some 141]), (6, [some 138, none]), (12, List.replicate 8 none), (6, [some 140, none]), (12, List.replicate 8 none), (6, [some 142, none]), (12, List.replicate 8 none), (7, [some 144, some 146]), (6, [some 145, none]), (12, List.replicate 6 none), (6, [some 147, none]), (12, List.replicate 6 none), (4, [some 149, some 151]), (6, [some 150, none]), (12, List.replicate 5 none), (6, [some 152, none]), (12, List.replicate 60 none), (9, [some 154, some 161, some 168, some 173, none, none, none]), (0, [some 155, some 157, some 159]), (6, [some 156, none]), (12, List.replicate 5 none), (6, [some 158, none]), (12, List.replicate 5 none), (6, [some 160, none]), (12, List.replicate 5 none), (1, [some 162, some 164, some 166]), (6, [some 163, none]), (12, List.replicate 8 none), (6, [some 165, none]), (12, List.replicate 8 none), (6, [some 167, none]), (12, List.replicate 8 none), (7, [some 169, some 171]), (6, [some 170, none]), (12, List.replicate 6 none), (6, [some 172, none]), (12, List.replicate 6 none), (4, [some 174, some 176]), (6, [some 175, none]), (12, List.replicate 5 none), (6, [some 177, none]), (12, List.replicate 60 none), (9, [some 179, some 186, some 193, some 198, none, none, none]), (0, [some 180, some 182, some 184]), (6, [some 181, none]), (12, List.replicate 5 none), (6, [some 183, none]), (12, List.replicate 5 none), (6, [some 185, none]), (12, List.replicate 5 none), (1, [some 187, some 189, some 191]), (6, [some 188, none]), (12, List.replicate 8 none), (6, [some 190, none]), (12, List.replicate 8 none), (6, [some 192, none]), (12, List.replicate 8 none), (7, [some 194, some 196]), (6, [some 195, none]), (12, List.replicate 6 none), (6, [some 197, none]), (12, List.replicate 6 none), (4, [some 199, some 201]), (6, [some 200, none]), (12, List.replicate 5 none), (6, [some 202, none]), (12, List.replicate 60 none), (9, [some 204, some 211, some 218, some 223, none, none, none]), (0, [some 205, some 207, some 209]), (6, [some 206, none]), (12, List.replicate 5 none), (6, [some 208, none]), (12, List.replicate 5 none), (6, [some 210, none]), (12, List.replicate 5 none), (1, [some 212, some 214, some 216]), (6, [some 213, none]), (12, List.replicate 8 none), (6, [some 215, none]), (12, List.replicate 8 none), (6, [some 217, none]), (12, List.replicate 8 none), (7, [some 219, some 221]), (6, [some 220, none]), (12, List.replicate 6 none), (6, [some 222, none]), (12, List.replicate 6 none), (4, [some 224, some 226]), (6, [some 225, none]), (12, List.replicate 5 none), (6, [some 227, none]), (12, List.replicate 60 none), (9, [some 229, some 236, some 243, some 248, none, none, none]), (0, [some 230, some 232, some 234]), (6, [some 231, none]), (12, List.replicate 5 none), (6, [some 233, none]), (12, List.replicate 5 none), (6, [some 235, none]), (12, List.replicate 5 none), (1, [some 237, some 239, some 241]), (6, [some 238, none]), (12, List.replicate 8 none), (6, [some 240, none]), (12, List.replicate 8 none), (6, [some 242, none]), (12, List.replicate 8 none), (7, [some 244, some 246]), (6, [some 245, none]), (12, List.replicate 6 none), (6, [some 247, none]), (12, List.replicate 6 none), (4, [some 249, some 251]), (6, [some 250, none]), (12, List.replicate 5 none), (6, [some 252, none]), (12, List.replicate 60 none), (9, [some 254, some 261, some 268, some 273, none, none, none]), (0, [some 255, some 257, some 259]), (6, [some 256, none]), (12, List.replicate 5 none), (6, [some 258, none]), (12, List.replicate 5 none), (6, [some 260, none]), (12, List.replicate 5 none), (1, [some 262, some 264, some 266]), (6, [some 263, none]), (12, List.replicate 8 none), (6, [some 265, none]), (12, List.replicate 8 none), (6, [some 267, none]), (12, List.replicate 8 none), (7, [some 269, some 271]), (6, [some 270, none]), (12, List.replicate 6 none), (6, [some 272, none]), (12, List.replicate 6 none), (4, [some 274, some 276]), (6, [some 275, none]), (12, List.replicate 5 none), (6, [some 277, none]), (12, List.replicate 60 none), (5, [none, none, none, none]), (3, [some 280, none]), (6, [some 281, none]), (12, List.replicate 63 none), (8, [some 283, some 285, some 287, some 289]), (6, [some 284, none]), (12, List.replicate 60 none), (6, [some 286, none]), (12, List.replicate 12 none), (6, [some 288, none]), (12, List.replicate 12 none), (6, [some 290, none]), (12, List.replicate 12 none), (6, [some 292, none]), (12, List.replicate 20 none), (6, [some 294, none]), (12, List.replicate 64 none), (6, [some 296, none]), (12, List.replicate 60 none), (6, [some 298, none]), (12, List.replicate 12 none), (6, [some 300, none]), (12, List.replicate 12 none), (6, [some 302, none]), (12, List.replicate 12 none), (6, [some 304, none]), (12, List.replicate 12 none), (6, [some 306, none]), (12, List.replicate 8 none), (11, [some 308, some 309, some 310, some 311, none, none, none, none, none, none, none, some 312, none, some 313, none, some 314, none, none, none, some 315, none, some 316, some 317, some 318, none, some 319, none, none, none, none, some 320]), (12, List.replicate 146 none), (12, List.replicate 146 none), (12, List.replicate 146 none), (12, List.replicate 1168 none), (12, List.replicate 20 none), (12, List.replicate 60 none), (12, List.replicate 80 none), (12, List.replicate 60 none), (12, List.replicate 63 none), (12, List.replicate 63 none), (12, List.replicate 20 none), (12, List.replicate 20 none), (12, List.replicate 120 none)]
def jm_val (σ : jm_S) (r j : Nat) (t : Option Nat) : Value := match t with
  | some x => .ref x
  | none => .int (σ r j)
def jm_hp (σ : jm_S) : jb_H := jm_sh.mapIdx (fun r q => (q.1, q.2.mapIdx (fun j t => jm_val σ r j t)))
def jm_c (r : Nat) : Nat := ((jm_sh[r]?).map (·.1)).getD 99
def jm_f (r b : Nat) : Option (Option Nat) := (jm_sh[r]?).bind (fun q => q.2[b]?)
def jm_ln (r : Nat) : Nat := ((jm_sh[r]?).map (·.2.length)).getD 0
def jm_up (σ : jm_S) (r j : Nat) (x : Int32) : jm_S := fun r' j' => if r' = r ∧ j' = j then x else σ r' j'
theorem jm_up_same (σ : jm_S) (r j : Nat) (x : Int32) : jm_up σ r j x r j = x := by unfold jm_up; rw [if_pos ⟨rfl, rfl⟩]
theorem jm_up_o (σ : jm_S) {r j r' j' : Nat} (x : Int32) (h : r' ≠ r) : jm_up σ r j x r' j' = σ r' j' := by unfold jm_up; rw [if_neg (fun z => h z.1)]
theorem jm_up_j (σ : jm_S) {r j r' j' : Nat} (x : Int32) (h : j' ≠ j) : jm_up σ r j x r' j' = σ r' j' := by unfold jm_up; rw [if_neg (fun z => h z.2)]
theorem jm_hp_len (σ : jm_S) : (jm_hp σ).length = 321 := by
  rw [jm_hp, List.length_mapIdx]
  decide +kernel
theorem jm_hp_at (σ : jm_S) (r : Nat) : (jm_hp σ)[r]? = (jm_sh[r]?).map (fun q => (q.1, q.2.mapIdx (fun j t => jm_val σ r j t))) := by
  rw [jm_hp, List.getElem?_mapIdx]
theorem jm_obj {σ : jm_S} {r c : Nat} (hc : jm_c r = c) (hc2 : c < 99) : ∃ ts, jm_sh[r]? = some (c, ts) ∧ (jm_hp σ)[r]? = some (c, ts.mapIdx (fun j t => jm_val σ r j t)) ∧ jm_ln r = ts.length ∧ (∀ b, jm_f r b = ts[b]?) ∧ r < 1000000 := by
  rw [jm_hp_at]
  unfold jm_c at hc
  cases h : jm_sh[r]? with
  | none => rw [h] at hc; simp at hc; omega
  | some q =>
    rw [h] at hc
    obtain ⟨c', ts⟩ := q
    simp at hc
    subst hc
    have hl := (List.getElem?_eq_some_iff.mp h).1
    have h321 : jm_sh.length = 321 := by decide +kernel
    refine ⟨ts, rfl, rfl, ?_, fun b => ?_, by omega⟩
    · unfold jm_ln; rw [h]; rfl
    · unfold jm_f; rw [h]; rfl
theorem jm_set {σ : jm_S} {r c j : Nat} {ts : List (Option Nat)} {x : Int32} (h : jm_sh[r]? = some (c, ts)) (hj : ts[j]? = some none) : (jm_hp σ).set r (c, (ts.mapIdx (fun j t => jm_val σ r j t)).set j (.int x)) = jm_hp (jm_up σ r j x) := by
  apply List.ext_getElem?
  intro r'
  rw [List.getElem?_set, jm_hp_at, jm_hp_at, jm_hp_len]
  by_cases e : r = r'
  · subst e
    have hl := (List.getElem?_eq_some_iff.mp h).1
    have h321 : jm_sh.length = 321 := by decide +kernel
    rw [if_pos rfl, if_pos (by omega), h]
    simp only [Option.map_some, Option.some.injEq, Prod.mk.injEq, true_and]
    apply List.ext_getElem?
    intro j'
    rw [List.getElem?_set, List.getElem?_mapIdx, List.getElem?_mapIdx, List.length_mapIdx]
    by_cases e : j = j'
    · subst e
      rw [if_pos rfl, if_pos (List.getElem?_eq_some_iff.mp hj).1, hj]
      show _ = some (Value.int (jm_up σ r j x r j))
      rw [jm_up_same]
    · rw [if_neg e]
      cases ts[j']? with
      | none => rfl
      | some t =>
        show some (jm_val σ r j' t) = some (jm_val (jm_up σ r j x) r j' t)
        cases t with
        | some y => rfl
        | none =>
          show some (Value.int _) = some (Value.int _)
          rw [jm_up_j _ _ (Ne.symm e)]
  · rw [if_neg e]
    cases jm_sh[r']? with
    | none => rfl
    | some q =>
      simp only [Option.map_some, Option.some.injEq, Prod.mk.injEq, true_and]
      congr 1
      funext j' t
      cases t with
      | some y => rfl
      | none =>
        show Value.int _ = Value.int _
        rw [jm_up_o _ _ (Ne.symm e)]
/-- an index is in -/
abbrev jx (j : Int32) (n : Nat) : Prop := ¬ (j < 0 ∨ n ≤ j.toNatClampNeg)
/-- arrays of ints have nothing else; the rows, the villages -/
theorem jm_arr {a j : Nat} (hc : jm_c a = 12) (hj : j < jm_ln a) : jm_f a j = some none := by
  have key : ∀ a, a < 321 → jm_c a = 12 → (jm_sh[a]?).map (·.2) = some (List.replicate (jm_ln a) none) := by decide +kernel
  have ha : a < 321 := by
    rcases Nat.lt_or_ge a 321 with z | z
    · exact z
    · exfalso
      have h321 : jm_sh.length = 321 := by decide +kernel
      unfold jm_c at hc
      rw [List.getElem?_eq_none (by omega)] at hc
      simp at hc
  have h := key a ha hc
  obtain ⟨q, h1, h2⟩ := Option.map_eq_some_iff.mp h
  unfold jm_f
  rw [h1]
  show q.2[j]? = _
  rw [h2, List.getElem?_replicate, if_pos hj]
theorem jm_lt {r c : Nat} (hc : jm_c r = c) (h : c < 99) : r < 321 := by
  rcases Nat.lt_or_ge r 321 with z | z
  · exact z
  · exfalso
    have h321 : jm_sh.length = 321 := by decide +kernel
    unfold jm_c at hc
    rw [List.getElem?_eq_none (by omega)] at hc
    simp at hc
    omega
theorem jm_row {r : Nat} (hc : jm_c r = 6) : jm_f r 0 = some (some (r + 1)) ∧ jm_f r 1 = some none ∧ jm_c (r + 1) = 12 := by
  have key : ∀ a, a < 321 → jm_c a = 6 → jm_f a 0 = some (some (a + 1)) ∧ jm_f a 1 = some none ∧ jm_c (a + 1) = 12 := by decide +kernel
  exact key r (jm_lt hc (by omega)) hc
/-- a village's place -/
def jm_V (v : Nat) : Prop := jm_c v = 9
theorem jm_vil {v : Nat} (hc : jm_c v = 9) : (∀ q ∈ [(0, 0, 1), (0, 1, 8), (0, 2, 15), (0, 3, 20), (1, 0, 2), (1, 1, 4), (1, 2, 6), (8, 0, 9), (8, 1, 11), (8, 2, 13), (15, 0, 16), (15, 1, 18), (20, 0, 21), (20, 1, 23)], jm_f (v + q.1) q.2.1 = some (some (v + q.2.2))) ∧ (jm_c (v + 1) = 0 ∧ jm_c (v + 8) = 1 ∧ jm_c (v + 15) = 7 ∧ jm_c (v + 20) = 4) ∧ (∀ k ∈ [2, 4, 6, 9, 11, 13, 16, 18, 21, 23], jm_c (v + k) = 6) ∧ (∀ k ∈ [4, 5, 6], jm_f v k = some none) ∧ (∀ q ∈ [(3, 5), (5, 5), (7, 5), (10, 8), (12, 8), (14, 8), (17, 6), (19, 6), (22, 5), (24, 60)], jm_ln (v + q.1) = q.2) := by
  have key : ∀ a, a < 321 → jm_c a = 9 → ((∀ q ∈ [(0, 0, 1), (0, 1, 8), (0, 2, 15), (0, 3, 20), (1, 0, 2), (1, 1, 4), (1, 2, 6), (8, 0, 9), (8, 1, 11), (8, 2, 13), (15, 0, 16), (15, 1, 18), (20, 0, 21), (20, 1, 23)], jm_f (a + q.1) q.2.1 = some (some (a + q.2.2))) ∧ (jm_c (a + 1) = 0 ∧ jm_c (a + 8) = 1 ∧ jm_c (a + 15) = 7 ∧ jm_c (a + 20) = 4) ∧ (∀ k ∈ [2, 4, 6, 9, 11, 13, 16, 18, 21, 23], jm_c (a + k) = 6) ∧ (∀ k ∈ [4, 5, 6], jm_f a k = some none) ∧ (∀ q ∈ [(3, 5), (5, 5), (7, 5), (10, 8), (12, 8), (14, 8), (17, 6), (19, 6), (22, 5), (24, 60)], jm_ln (a + q.1) = q.2)) := by decide +kernel
  exact key v (jm_lt hc (by omega)) hc
/-! steps -/
section SX
variable {i pc k a b : Nat} {ls st : List Value} {h : jb_H} {σ : jm_S}
theorem sx_of {ins : Instr} {c' : jb_Cfg} (ho : jb_op i pc = some (ins, k, a, b)) (hs : jb_ex (jb_G (jb_ht i)) i ins k a b pc ls st h = some (.inr c')) : jb_Ex i (pc, ls, st, h) = jb_Ex i c' := by
  unfold jb_Ex
  apply jb_to_next
  unfold jb_stp
  dsimp only
  rw [ho]
  exact hs
theorem sx_end {ins : Instr} {r : jb_Res} (ho : jb_op i pc = some (ins, k, a, b)) (hs : jb_ex (jb_G (jb_ht i)) i ins k a b pc ls st h = some (.inl r)) : jb_Ex i (pc, ls, st, h) = some r := by
  unfold jb_Ex
  apply jb_to_ret
  unfold jb_stp
  dsimp only
  rw [ho]
  exact hs
theorem sx_no {ins : Instr} (ho : jb_op i pc = some (ins, k, a, b)) (hs : jb_ex (jb_G (jb_ht i)) i ins k a b pc ls st h = none) : jb_Ex i (pc, ls, st, h) = none := by
  unfold jb_Ex
  apply jb_to_none
  unfold jb_stp
  dsimp only
  rw [ho]
  exact hs
theorem jt_ite {α : Type} {c : Prop} {d : Decidable c} {x y x' y' : α} (h1 : c → x = x') (h2 : ¬ c → y = y') : (if c then x else y) = (if c then x' else y') := by
  by_cases h : c
  · rw [if_pos h, if_pos h, h1 h]
  · rw [if_neg h, if_neg h, h2 h]
theorem sx_const {ins : Instr} {n : Int32} {pc' : Nat} (ho : jb_op i pc = some (ins, k, a, b)) (hs : jb_ex (jb_G (jb_ht i)) i ins k a b pc ls st h = jb_go pc' ls (.int n :: st) h) : jb_Ex i (pc, ls, st, h) = jb_Ex i (pc', ls, .int n :: st, h) := sx_of ho (by rw [hs]; rfl)
theorem sx_iload {n : Nat} {x : Int32} (ho : jb_op i pc = some (.iload n, k, a, b)) (hl : ls[n]? = some (.int x)) : jb_Ex i (pc, ls, st, h) = jb_Ex i (pc + 2, ls, .int x :: st, h) := sx_of ho (by unfold jb_ex; dsimp only; rw [hl]; rfl)
theorem sx_iload_n {n : Fin 4} {x : Int32} (ho : jb_op i pc = some (.iload_n n, k, a, b)) (hl : ls[(n : Nat)]? = some (.int x)) : jb_Ex i (pc, ls, st, h) = jb_Ex i (pc + 1, ls, .int x :: st, h) := sx_of ho (by unfold jb_ex; dsimp only; rw [hl]; rfl)
theorem sx_aload_n {n : Fin 4} {x : Nat} (ho : jb_op i pc = some (.aload_n n, k, a, b)) (hl : ls[(n : Nat)]? = some (.ref x)) : jb_Ex i (pc, ls, st, h) = jb_Ex i (pc + 1, ls, .ref x :: st, h) := sx_of ho (by unfold jb_ex; dsimp only; rw [hl]; rfl)
theorem sx_istore {n : Nat} {x : Int32} {ls' : List Value} (ho : jb_op i pc = some (.istore n, k, a, b)) (hn : n < ls.length) (hl : ls.set n (.int x) = ls') : jb_Ex i (pc, ls, .int x :: st, h) = jb_Ex i (pc + 2, ls', st, h) := sx_of ho (by unfold jb_ex; dsimp only; rw [if_pos hn, hl]; rfl)
theorem sx_istore_n {n : Fin 4} {x : Int32} {ls' : List Value} (ho : jb_op i pc = some (.istore_n n, k, a, b)) (hn : (n : Nat) < ls.length) (hl : ls.set (n : Nat) (.int x) = ls') : jb_Ex i (pc, ls, .int x :: st, h) = jb_Ex i (pc + 1, ls', st, h) := sx_of ho (by unfold jb_ex; dsimp only; rw [if_pos hn, hl]; rfl)
theorem sx_astore_n {n : Fin 4} {x : Nat} {ls' : List Value} (ho : jb_op i pc = some (.astore_n n, k, a, b)) (hn : (n : Nat) < ls.length) (hl : ls.set (n : Nat) (.ref x) = ls') : jb_Ex i (pc, ls, .ref x :: st, h) = jb_Ex i (pc + 1, ls', st, h) := sx_of ho (by unfold jb_ex; dsimp only; rw [if_pos hn, hl]; rfl)
theorem sx_iinc {n : Nat} {d : Int} {x y : Int32} {ls' : List Value} (ho : jb_op i pc = some (.iinc n d, k, a, b)) (hx : ls[n]? = some (.int x)) (hy : Int32.ofInt d = y) (hl : ls.set n (.int (x + y)) = ls') : jb_Ex i (pc, ls, st, h) = jb_Ex i (pc + 3, ls', st, h) := sx_of ho (by unfold jb_ex; dsimp only; rw [hx, hy]; dsimp only; rw [hl]; rfl)
theorem sx_un {ins : Instr} {v w : Value} (ho : jb_op i pc = some (ins, k, a, b)) (hs : jb_ex (jb_G (jb_ht i)) i ins k a b pc ls (v :: st) h = jb_go (pc + 1) ls (w :: st) h) : jb_Ex i (pc, ls, v :: st, h) = jb_Ex i (pc + 1, ls, w :: st, h) := sx_of ho (by rw [hs]; rfl)
theorem sx_bin {ins : Instr} {v u w : Value} (ho : jb_op i pc = some (ins, k, a, b)) (hs : jb_ex (jb_G (jb_ht i)) i ins k a b pc ls (u :: v :: st) h = jb_go (pc + 1) ls (w :: st) h) : jb_Ex i (pc, ls, u :: v :: st, h) = jb_Ex i (pc + 1, ls, w :: st, h) := sx_of ho (by rw [hs]; rfl)
theorem sx_dup {v : Value} (ho : jb_op i pc = some (.dup, k, a, b)) (hv : v.category = 1) : jb_Ex i (pc, ls, v :: st, h) = jb_Ex i (pc + 1, ls, v :: v :: st, h) := sx_of ho (by unfold jb_ex; dsimp only; rw [if_pos hv]; rfl)
theorem sx_dup2 {v w : Value} (ho : jb_op i pc = some (.dup2, k, a, b)) (hv : v.category = 1) (hw : w.category = 1) : jb_Ex i (pc, ls, v :: w :: st, h) = jb_Ex i (pc + 1, ls, v :: w :: v :: w :: st, h) := sx_of ho (by unfold jb_ex; dsimp only; rw [if_pos ⟨hv, hw⟩]; rfl)
theorem sx_pop {v : Value} (ho : jb_op i pc = some (.pop, k, a, b)) (hv : v.category = 1) : jb_Ex i (pc, ls, v :: st, h) = jb_Ex i (pc + 1, ls, st, h) := sx_of ho (by unfold jb_ex; dsimp only; rw [if_pos hv]; rfl)
theorem sx_goto {o : Int} {t : Nat} (ho : jb_op i pc = some (.goto o, k, a, b)) (ht : jb_tg pc o = some t) : jb_Ex i (pc, ls, st, h) = jb_Ex i (t, ls, st, h) := sx_of ho (by unfold jb_ex; dsimp only; rw [ht]; rfl)
theorem sx_br {ins : Instr} {c : Prop} {d : Decidable c} {u v : Nat} {st' : List Value} (ho : jb_op i pc = some (ins, k, a, b)) (hs : jb_ex (jb_G (jb_ht i)) i ins k a b pc ls st h = jb_go (if c then u else v) ls st' h) : jb_Ex i (pc, ls, st, h) = if c then jb_Ex i (u, ls, st', h) else jb_Ex i (v, ls, st', h) := by
  rw [sx_of ho (by rw [hs]; rfl)]
  by_cases hc : c
  · rw [if_pos hc, if_pos hc]
  · rw [if_neg hc, if_neg hc]
theorem sx_ir {x : Int32} {t : FieldType} (ho : jb_op i pc = some (.ireturn, k, a, b)) (hr : jb_ret i = some t) (ht : t = .int ∨ t = .boolean ∨ t = .char ∨ t = .byte) (hn : narrow t (.int x) = .int x) : jb_Ex i (pc, ls, [.int x], h) = some (some (.int x), h) := sx_end ho (by unfold jb_ex; dsimp only; rw [hr]; dsimp only; rw [if_pos ⟨ht, hn⟩])
theorem sx_vr (ho : jb_op i pc = some (.return_, k, a, b)) (hr : jb_ret i = none) : jb_Ex i (pc, ls, [], h) = some (none, h) := sx_end ho (by unfold jb_ex; dsimp only; rw [if_pos hr])
theorem sx_ar {x : Nat} {n : String} (ho : jb_op i pc = some (.areturn, k, a, b)) (hr : jb_ret i = some (.object n)) : jb_Ex i (pc, ls, [.ref x], h) = some (some (.ref x), h) := sx_end ho (by unfold jb_ex; dsimp only; rw [hr])
theorem sx_an {n : String} (ho : jb_op i pc = some (.areturn, k, a, b)) (hr : jb_ret i = some (.object n)) : jb_Ex i (pc, ls, [.null], h) = some (some .null, h) := sx_end ho (by unfold jb_ex; dsimp only; rw [hr])
theorem sx_dr {x : UInt64} (ho : jb_op i pc = some (.dreturn, k, a, b)) (hr : jb_ret i = some .double) : jb_Ex i (pc, ls, [.double x], h) = some (some (.double x), h) := sx_end ho (by unfold jb_ex; dsimp only; rw [if_pos hr])
theorem sx_fr {x : UInt32} (ho : jb_op i pc = some (.freturn, k, a, b)) (hr : jb_ret i = some .float) : jb_Ex i (pc, ls, [.float x], h) = some (some (.float x), h) := sx_end ho (by unfold jb_ex; dsimp only; rw [if_pos hr])
/-- objects -/
theorem sx_gi {y r c f : Nat} (ho : jb_op i pc = some (.getfield y, k, c, f)) (hk : k = 0 ∨ k = 1) (hc : jm_c r = c) (hc2 : c < 99) (hf : jm_f r f = some none) : jb_Ex i (pc, ls, .ref r :: st, jm_hp σ) = jb_Ex i (pc + 3, ls, .int (σ r f) :: st, jm_hp σ) := by
  obtain ⟨ts, h1, h2, h3, h4, h5⟩ := jm_obj (σ := σ) hc hc2
  rw [h4] at hf
  refine sx_of ho ?_
  unfold jb_ex
  dsimp only
  rw [if_pos hk, if_pos h5, h2]
  dsimp only
  rw [if_pos rfl, List.getElem?_mapIdx, hf]
  rfl
theorem sx_gr {y r c f x : Nat} (ho : jb_op i pc = some (.getfield y, k, c, f)) (hk : k = 0 ∨ k = 1) (hc : jm_c r = c) (hc2 : c < 99) (hf : jm_f r f = some (some x)) : jb_Ex i (pc, ls, .ref r :: st, jm_hp σ) = jb_Ex i (pc + 3, ls, .ref x :: st, jm_hp σ) := by
  obtain ⟨ts, h1, h2, h3, h4, h5⟩ := jm_obj (σ := σ) hc hc2
  rw [h4] at hf
  refine sx_of ho ?_
  unfold jb_ex
  dsimp only
  rw [if_pos hk, if_pos h5, h2]
  dsimp only
  rw [if_pos rfl, List.getElem?_mapIdx, hf]
  rfl
theorem sx_pi {y r c f : Nat} {x : Int32} (ho : jb_op i pc = some (.putfield y, k, c, f)) (hk : k = 0 ∨ k = 1) (hc : jm_c r = c) (hc2 : c < 99) (hf : jm_f r f = some none) (hn : narrow (jb_Ty c f) (.int x) = .int x) (hfit : fits (jb_Ty c f) (.int x) = true) (hfin : (jb_T c f).2.2.2 = false) : jb_Ex i (pc, ls, .int x :: .ref r :: st, jm_hp σ) = jb_Ex i (pc + 3, ls, st, jm_hp (jm_up σ r f x)) := by
  obtain ⟨ts, h1, h2, h3, h4, h5⟩ := jm_obj (σ := σ) hc hc2
  rw [h4] at hf
  refine sx_of ho ?_
  unfold jb_ex
  dsimp only
  rw [if_pos ⟨hk, h5⟩, h2]
  dsimp only
  rw [if_pos ⟨rfl, by rw [List.length_mapIdx]; exact (List.getElem?_eq_some_iff.mp hf).1, hn, hfit, Or.inl hfin⟩, jm_set h1 hf]
  rfl
theorem sx_al {r : Nat} {j : Int32} (ho : jb_op i pc = some (.iaload, k, a, b)) (hc : jm_c r = 12) : jb_Ex i (pc, ls, .int j :: .ref r :: st, jm_hp σ) = if jx j (jm_ln r) then jb_Ex i (pc + 1, ls, .int (σ r j.toNatClampNeg) :: st, jm_hp σ) else none := by
  obtain ⟨ts, h1, h2, h3, h4, h5⟩ := jm_obj (σ := σ) hc (by omega)
  by_cases hj : jx j (jm_ln r)
  · rw [if_pos hj]
    refine sx_of ho ?_
    have hlt : j.toNatClampNeg < jm_ln r := Nat.not_le.mp (fun q => hj (Or.inr q))
    have hf := jm_arr hc hlt
    rw [h4] at hf
    unfold jb_ex
    dsimp only
    rw [if_pos h5, h2]
    dsimp only
    rw [if_pos ⟨rfl, by rw [List.length_mapIdx, ← h3]; exact hj⟩, List.getElem?_mapIdx, hf]
    rfl
  · rw [if_neg hj]
    refine sx_no ho ?_
    unfold jb_ex
    dsimp only
    rw [if_pos h5, h2]
    dsimp only
    rw [if_neg (fun z => hj (by rw [h3, ← List.length_mapIdx (f := fun j t => jm_val σ r j t)]; exact z.2))]
theorem sx_as {r : Nat} {j x : Int32} (ho : jb_op i pc = some (.iastore, k, a, b)) (hc : jm_c r = 12) : jb_Ex i (pc, ls, .int x :: .int j :: .ref r :: st, jm_hp σ) = if jx j (jm_ln r) then jb_Ex i (pc + 1, ls, st, jm_hp (jm_up σ r j.toNatClampNeg x)) else none := by
  obtain ⟨ts, h1, h2, h3, h4, h5⟩ := jm_obj (σ := σ) hc (by omega)
  by_cases hj : jx j (jm_ln r)
  · rw [if_pos hj]
    refine sx_of ho ?_
    have hlt : j.toNatClampNeg < jm_ln r := Nat.not_le.mp (fun q => hj (Or.inr q))
    have hf := jm_arr hc hlt
    rw [h4] at hf
    unfold jb_ex
    dsimp only
    rw [if_pos h5, h2]
    dsimp only
    rw [if_pos ⟨rfl, by rw [List.length_mapIdx, ← h3]; exact hj⟩, jm_set h1 hf]
    rfl
  · rw [if_neg hj]
    refine sx_no ho ?_
    unfold jb_ex
    dsimp only
    rw [if_pos h5, h2]
    dsimp only
    rw [if_neg (fun z => hj (by rw [h3, ← List.length_mapIdx (f := fun j t => jm_val σ r j t)]; exact z.2))]
theorem sx_len {r : Nat} (ho : jb_op i pc = some (.arraylength, k, a, b)) (hc : jm_c r = 12 ∨ jm_c r = 13) : jb_Ex i (pc, ls, .ref r :: st, jm_hp σ) = jb_Ex i (pc + 1, ls, .int (Int32.ofNat (jm_ln r)) :: st, jm_hp σ) := by
  obtain ⟨ts, h1, h2, h3, h4, h5⟩ := jm_obj (σ := σ) (r := r) rfl (by omega)
  refine sx_of ho ?_
  unfold jb_ex
  dsimp only
  rw [if_pos h5, h2]
  dsimp only
  rw [if_pos hc, List.length_mapIdx, ← h3]
  rfl
theorem jm_arq : jm_c 77 = 13 ∧ jm_ln 77 = 8 ∧ ∀ j, j < 8 → jm_f 77 j = some (some (78 + 25 * j)) := by decide +kernel
theorem sx_aq {j : Int32} (ho : jb_op i pc = some (.aaload, k, a, b)) : jb_Ex i (pc, ls, .int j :: .ref (77 : Nat) :: st, jm_hp σ) = if jx j 8 then jb_Ex i (pc + 1, ls, .ref (78 + 25 * j.toNatClampNeg : Nat) :: st, jm_hp σ) else none := by
  obtain ⟨ts, h1, h2, h3, h4, h5⟩ := jm_obj (σ := σ) jm_arq.1 (by omega)
  have h8 := jm_arq.2.1
  by_cases hj : jx j 8
  · rw [if_pos hj]
    refine sx_of ho ?_
    have hlt : j.toNatClampNeg < 8 := Nat.not_le.mp (fun q => hj (Or.inr q))
    have hf := jm_arq.2.2 _ hlt
    rw [h4] at hf
    unfold jb_ex
    dsimp only
    rw [if_pos (by omega), h2]
    dsimp only
    rw [if_pos ⟨rfl, by rw [List.length_mapIdx, ← h3, h8]; exact hj⟩, List.getElem?_mapIdx, hf]
    dsimp only [Option.map_some, jm_val]
    rw [if_pos (show 78 + 25 * j.toNatClampNeg < 1000000 by omega)]
    rfl
  · rw [if_neg hj]
    refine sx_no ho ?_
    unfold jb_ex
    dsimp only
    rw [if_pos (by omega), h2]
    dsimp only
    rw [if_neg (fun z => hj (by rw [← h8, h3, ← List.length_mapIdx (f := fun j t => jm_val σ 77 j t)]; exact z.2))]
/-! calls -/
def jb_K (q : Option jb_Res) (f : Option Value → jb_H → Option jb_Res) : Option jb_Res := match q with
  | some (v, h) => f v h
  | none => none
theorem jb_K_some (v : Option Value) (h : jb_H) (f : Option Value → jb_H → Option jb_Res) : jb_K (some (v, h)) f = f v h := rfl
theorem sx_iv {ins : Instr} {r : Nat} {as rest st : List Value} (ho : jb_op i pc = some (ins, k, a, b)) (hi : (∃ y, ins = .invokevirtual y ∧ (k = 2 ∨ k = 3)) ∨ (∃ y, ins = .invokespecial y ∧ (k = 6 ∨ k = 7))) (ht : jb_ht a < jb_ht i) (hst : as.reverse ++ .ref r :: rest = st) (hb : as.length = b) (hr : jb_recv h r (jb_ow a) = true) (hs : jb_sum rest ≤ 8) : jb_Ex i (pc, ls, st, h) = jb_K (jb_Ev a (.ref r :: as) h) (fun v h' => jb_Ex i (pc + 3, ls, v.toList ++ rest, h')) := by
  subst hst
  have e : jb_ex (jb_G (jb_ht i)) i ins k a b pc ls (as.reverse ++ .ref r :: rest) h = match jb_Ev a (.ref r :: as) h with
      | some (v, h') => jb_go (pc + 3) ls (v.toList ++ rest) h'
      | none => none := by
    have hd : (as.reverse ++ .ref r :: rest).drop b = .ref r :: rest := by rw [← hb, ← List.length_reverse, List.drop_left]
    have htk : (as.reverse ++ Value.ref r :: rest).take b = as.reverse := by rw [← hb, ← List.length_reverse, List.take_left]
    have e2 : jb_invV (jb_G (jb_ht i)) pc a b ls (as.reverse ++ .ref r :: rest) h = match jb_Ev a (.ref r :: as) h with
        | some (v, h') => jb_go (pc + 3) ls (v.toList ++ rest) h'
        | none => none := by
      unfold jb_invV
      rw [if_pos (by rw [List.length_append, List.length_reverse]; omega), hd]
      dsimp only
      rw [if_pos ⟨hr, hs⟩, htk, List.reverse_reverse, jb_G_low ht]
      cases jb_Ev a (.ref r :: as) h with
      | none => rfl
      | some q => rfl
    rcases hi with ⟨y, rfl, hk⟩ | ⟨y, rfl, hk⟩
    · unfold jb_ex
      dsimp only
      rw [if_pos hk, e2]
    · unfold jb_ex
      dsimp only
      rw [if_pos hk, e2]
  cases hq : jb_Ev a (.ref r :: as) h with
  | none =>
    rw [hq] at e
    exact sx_no ho e
  | some q =>
    rw [hq] at e
    exact sx_of ho e
theorem sx_is {y : Nat} {as rest st : List Value} (ho : jb_op i pc = some (.invokestatic y, k, a, b)) (hk : k = 4 ∨ k = 5) (ht : jb_ht a < jb_ht i) (hst : as.reverse ++ rest = st) (hb : as.length = b) (hs : jb_sum rest ≤ 8) : jb_Ex i (pc, ls, st, h) = jb_K (jb_Ev a as h) (fun v h' => jb_Ex i (pc + 3, ls, v.toList ++ rest, h')) := by
  subst hst
  have hd : (as.reverse ++ rest).drop b = rest := by rw [← hb, ← List.length_reverse, List.drop_left]
  have htk : (as.reverse ++ rest).take b = as.reverse := by rw [← hb, ← List.length_reverse, List.take_left]
  have e : jb_ex (jb_G (jb_ht i)) i (.invokestatic y) k a b pc ls (as.reverse ++ rest) h = match jb_Ev a as h with
      | some (v, h') => jb_go (pc + 3) ls (v.toList ++ rest) h'
      | none => none := by
    unfold jb_ex
    dsimp only
    rw [if_pos hk]
    unfold jb_invS
    rw [if_pos ⟨by rw [List.length_append, List.length_reverse]; omega, by rw [hd]; exact hs⟩, hd, htk, List.reverse_reverse, jb_G_low ht]
    cases jb_Ev a as h with
    | none => rfl
    | some q => rfl
  cases hq : jb_Ev a as h with
  | none =>
    rw [hq] at e
    exact sx_no ho e
  | some q =>
    rw [hq] at e
    exact sx_of ho e
theorem jm_recv {r o : Nat} (hc : jm_c r = o) (ho : o < 12) : jb_recv (jm_hp σ) r o = true := by
  obtain ⟨ts, h1, h2, h3, h4, h5⟩ := jm_obj (σ := σ) hc (by omega)
  unfold jb_recv
  rw [if_neg (by omega), h2]
  simp [ho, h5]
theorem js_recv {r : Nat} (hr : 1000000 ≤ r ∧ r < 1000010) : jb_recv h r 13 = true := by
  unfold jb_recv
  rw [if_pos rfl]
  exact decide_eq_true hr
theorem sx_m2 {y : Nat} {u v : Int32} {w : Int32} (ho : jb_op i pc = some (.invokestatic y, 15, a, b)) (ha : a ≠ 2) (hw : (if a = 0 then (if u < v then v else u) else (if v < u then v else u)) = w) (hs : jb_sum st ≤ 8) : jb_Ex i (pc, ls, .int v :: .int u :: st, h) = jb_Ex i (pc + 3, ls, .int w :: st, h) := by
  refine sx_of ho ?_
  unfold jb_ex
  dsimp only
  rw [if_neg (by omega), if_pos rfl, if_neg ha, if_pos hs, hw]
  rfl
theorem sx_m1 {y : Nat} {v : Int32} (ho : jb_op i pc = some (.invokestatic y, 15, 2, b)) (hs : jb_sum st ≤ 8) : jb_Ex i (pc, ls, .int v :: st, h) = jb_Ex i (pc + 3, ls, .int (if 0 ≤ v then v else 0 - v) :: st, h) := by
  refine sx_of ho ?_
  unfold jb_ex
  dsimp only
  rw [if_neg (by omega), if_pos rfl, if_pos rfl, if_pos hs]
  rfl
theorem sx_ldc {y s : Nat} (ho : jb_op i pc = some (.ldc y, 11, s, b)) : jb_Ex i (pc, ls, st, h) = jb_Ex i (pc + 2, ls, .ref (1000000 + s) :: st, h) := by
  refine sx_of ho ?_
  unfold jb_ex
  dsimp only
  rw [if_pos rfl]
  rfl
theorem sx_ldcw {y s : Nat} (ho : jb_op i pc = some (.ldc_w y, 11, s, b)) : jb_Ex i (pc, ls, st, h) = jb_Ex i (pc + 3, ls, .ref (1000000 + s) :: st, h) := by
  refine sx_of ho ?_
  unfold jb_ex
  dsimp only
  rw [if_pos rfl]
  rfl
theorem sx_null (ho : jb_op i pc = some (.aconst_null, k, a, b)) : jb_Ex i (pc, ls, st, h) = jb_Ex i (pc + 1, ls, .null :: st, h) := sx_of ho (by unfold jb_ex; rfl)
theorem sx_nn {o : Int} {x t : Nat} (ho : jb_op i pc = some (.ifnonnull o, k, a, b)) (hx : x < 1000000) (ht : jb_tg pc o = some t) : jb_Ex i (pc, ls, .ref x :: st, h) = jb_Ex i (t, ls, st, h) := by
  refine sx_of ho ?_
  unfold jb_ex
  dsimp only
  rw [ht]
  dsimp only
  rw [if_pos hx]
  rfl
theorem sx_tab {d lo hi : Int} {offs : Array Int} {x : Int32} {o : Int} {t : Nat} (ho : jb_op i pc = some (.tableswitch d lo hi offs, k, a, b)) (hx : ¬ (x.toInt < lo ∨ hi < x.toInt)) (hof : offs[(x.toInt - lo).toNat]? = some o) (ht : jb_tg pc o = some t) : jb_Ex i (pc, ls, .int x :: st, h) = jb_Ex i (t, ls, st, h) := by
  refine sx_of ho ?_
  unfold jb_ex
  dsimp only
  rw [if_neg hx, hof]
  dsimp only
  rw [ht]
  rfl
theorem sx_tad {d lo hi : Int} {offs : Array Int} {x : Int32} {t : Nat} (ho : jb_op i pc = some (.tableswitch d lo hi offs, k, a, b)) (hx : x.toInt < lo ∨ hi < x.toInt) (ht : jb_tg pc d = some t) : jb_Ex i (pc, ls, .int x :: st, h) = jb_Ex i (t, ls, st, h) := by
  refine sx_of ho ?_
  unfold jb_ex
  dsimp only
  rw [if_pos hx, ht]
  rfl
theorem sx_lk {d : Int} {ps : Array (Int × Int)} {x : Int32} {o : Int} {t : Nat} (ho : jb_op i pc = some (.lookupswitch d ps, k, a, b)) (hp : (ps.toList.zip (ps.toList.drop 1)).all (fun q => q.1.1 < q.2.1) = true) (hof : Op.lookupswitch.offset ps.toList d x.toInt = o) (ht : jb_tg pc o = some t) : jb_Ex i (pc, ls, .int x :: st, h) = jb_Ex i (t, ls, st, h) := by
  refine sx_of ho ?_
  unfold jb_ex
  dsimp only
  rw [if_pos hp, hof, ht]
  rfl
theorem sx_toInt {x : Int32} {c : Int32} {n : Int} (h : ¬ x = c) (hn : c.toInt = n) : x.toInt ≠ n := fun z => h (Int32.toInt_inj.mp (z.trans hn.symm))
theorem sx_if {α : Type} {c : Prop} {d : Decidable c} {x y z : α} (h1 : c → z = x) (h2 : ¬ c → z = y) : z = if c then x else y := by
  by_cases h : c
  · rw [if_pos h]; exact h1 h
  · rw [if_neg h]; exact h2 h
theorem sx_ent {i : Nat} {as : List Value} {h : jb_H} {ls : List Value} (hl : as ++ List.replicate (jb_ml i - as.length) (.retAddr 0) = ls) (h1 : as.length ≤ jb_ml i) (h2 : as.all (fun v => v.category == 1) = true) : jb_Ev i as h = jb_Ex i (0, ls, [], h) := by
  rw [jb_Ev_eq ⟨h1, h2⟩, jb_entry, hl]
end SX
end
section
/-! ===== small steps, as the printed trees want them ===== -/
def jI (n : Nat) : Int32 := Int32.ofNat n
def jb_R (t : FieldType) (x : Int32) (h : jb_H) : Option jb_Res := if narrow t (.int x) = .int x then some (some (.int x), h) else none
section SY
variable {i pc k a b : Nat} {ls st : List Value} {h : jb_H} {σ : jm_S}
theorem sy_ic {n : Int} {x : Int32} (ho : jb_op i pc = some (.iconst n, k, a, b)) (hx : Int32.ofInt n = x) : jb_Ex i (pc, ls, st, h) = jb_Ex i (pc + 1, ls, .int x :: st, h) := sx_const ho (by unfold jb_ex; dsimp only; rw [hx])
theorem sy_bp {n : Int} {x : Int32} (ho : jb_op i pc = some (.bipush n, k, a, b)) (hx : (Int8.ofInt n).toInt32 = x) : jb_Ex i (pc, ls, st, h) = jb_Ex i (pc + 2, ls, .int x :: st, h) := sx_const ho (by unfold jb_ex; dsimp only; rw [hx])
theorem sy_sp {n : Int} {x : Int32} (ho : jb_op i pc = some (.sipush n, k, a, b)) (hx : (Int16.ofInt n).toInt32 = x) : jb_Ex i (pc, ls, st, h) = jb_Ex i (pc + 3, ls, .int x :: st, h) := sx_const ho (by unfold jb_ex; dsimp only; rw [hx])
theorem sy_iadd {x y : Int32} (ho : jb_op i pc = some (.iadd, k, a, b)) : jb_Ex i (pc, ls, .int y :: .int x :: st, h) = jb_Ex i (pc + 1, ls, .int (x + y) :: st, h) := sx_bin ho rfl
theorem sy_isub {x y : Int32} (ho : jb_op i pc = some (.isub, k, a, b)) : jb_Ex i (pc, ls, .int y :: .int x :: st, h) = jb_Ex i (pc + 1, ls, .int (x - y) :: st, h) := sx_bin ho rfl
theorem sy_imul {x y : Int32} (ho : jb_op i pc = some (.imul, k, a, b)) : jb_Ex i (pc, ls, .int y :: .int x :: st, h) = jb_Ex i (pc + 1, ls, .int (x * y) :: st, h) := sx_bin ho rfl
theorem sy_iand {x y : Int32} (ho : jb_op i pc = some (.iand, k, a, b)) : jb_Ex i (pc, ls, .int y :: .int x :: st, h) = jb_Ex i (pc + 1, ls, .int (x &&& y) :: st, h) := sx_bin ho rfl
theorem sy_ishr {x y : Int32} (ho : jb_op i pc = some (.ishr, k, a, b)) : jb_Ex i (pc, ls, .int y :: .int x :: st, h) = jb_Ex i (pc + 1, ls, .int (x >>> (y &&& 31)) :: st, h) := sx_bin ho rfl
theorem sy_irem {x y : Int32} (ho : jb_op i pc = some (.irem, k, a, b)) (hy : y ≠ 0) : jb_Ex i (pc, ls, .int y :: .int x :: st, h) = jb_Ex i (pc + 1, ls, .int (x - x / y * y) :: st, h) := sx_bin ho (by unfold jb_ex; dsimp only; rw [if_neg hy])
theorem sy_ineg {x : Int32} (ho : jb_op i pc = some (.ineg, k, a, b)) : jb_Ex i (pc, ls, .int x :: st, h) = jb_Ex i (pc + 1, ls, .int (-x) :: st, h) := sx_un ho rfl
theorem sy_i2c {x : Int32} (ho : jb_op i pc = some (.i2c, k, a, b)) : jb_Ex i (pc, ls, .int x :: st, h) = jb_Ex i (pc + 1, ls, .int (x.toUInt32 % 65536).toInt32 :: st, h) := sx_un ho rfl
theorem sy_i2d {x : Int32} (ho : jb_op i pc = some (.i2d, k, a, b)) : jb_Ex i (pc, ls, .int x :: st, h) = jb_Ex i (pc + 1, ls, .double (FP.i2d x) :: st, h) := sx_un ho rfl
theorem sy_i2f {x : Int32} (ho : jb_op i pc = some (.i2f, k, a, b)) : jb_Ex i (pc, ls, .int x :: st, h) = jb_Ex i (pc + 1, ls, .float (FP.i2f x) :: st, h) := sx_un ho rfl
theorem sy_fc {n : Fin 3} (ho : jb_op i pc = some (.fconst n, k, a, b)) (hn : (n : Nat) = 0) : jb_Ex i (pc, ls, st, h) = jb_Ex i (pc + 1, ls, .float FP.fconst0 :: st, h) := sx_of ho (by unfold jb_ex; dsimp only; rw [if_pos hn]; rfl)
theorem sy_l2 {y c : Nat} (ho : jb_op i pc = some (.ldc2_w y, 12, c, b)) : jb_Ex i (pc, ls, st, h) = jb_Ex i (pc + 3, ls, .double (UInt64.ofNat c) :: st, h) := sx_of ho (by unfold jb_ex; dsimp only; rw [if_pos rfl]; rfl)
theorem sy_ddiv {x y : UInt64} (ho : jb_op i pc = some (.ddiv, k, a, b)) : jb_Ex i (pc, ls, .double y :: .double x :: st, h) = if FP.ddiv x y &&& 0x7fffffffffffffff ≤ 0x7ff0000000000000 then jb_Ex i (pc + 1, ls, .double (FP.ddiv x y) :: st, h) else none := by
  by_cases hc : FP.ddiv x y &&& 0x7fffffffffffffff ≤ 0x7ff0000000000000
  · rw [if_pos hc]
    exact sx_of ho (by unfold jb_ex; dsimp only; rw [if_pos hc]; rfl)
  · rw [if_neg hc]
    exact sx_no ho (by unfold jb_ex; dsimp only; rw [if_neg hc])
theorem sy_fdiv {x y : UInt32} (ho : jb_op i pc = some (.fdiv, k, a, b)) : jb_Ex i (pc, ls, .float y :: .float x :: st, h) = if FP.fdiv x y &&& 0x7fffffff ≤ 0x7f800000 then jb_Ex i (pc + 1, ls, .float (FP.fdiv x y) :: st, h) else none := by
  by_cases hc : FP.fdiv x y &&& 0x7fffffff ≤ 0x7f800000
  · rw [if_pos hc]
    exact sx_of ho (by unfold jb_ex; dsimp only; rw [if_pos hc]; rfl)
  · rw [if_neg hc]
    exact sx_no ho (by unfold jb_ex; dsimp only; rw [if_neg hc])
theorem sy_nu {o : Int} (ho : jb_op i pc = some (.ifnonnull o, k, a, b)) {t : Nat} (ht : jb_tg pc o = some t) : jb_Ex i (pc, ls, .null :: st, h) = jb_Ex i (pc + 3, ls, st, h) := sx_of ho (by unfold jb_ex; dsimp only; rw [ht]; rfl)
theorem sy_ic_eq {o : Int} {t : Nat} {x y : Int32} (ho : jb_op i pc = some (.if_icmp .eq o, k, a, b)) (ht : jb_tg pc o = some t) : jb_Ex i (pc, ls, .int y :: .int x :: st, h) = if x = y then jb_Ex i (t, ls, st, h) else jb_Ex i (pc + 3, ls, st, h) := sx_br ho (by unfold jb_ex; dsimp only; rw [ht])
theorem sy_ic_ne {o : Int} {t : Nat} {x y : Int32} (ho : jb_op i pc = some (.if_icmp .ne o, k, a, b)) (ht : jb_tg pc o = some t) : jb_Ex i (pc, ls, .int y :: .int x :: st, h) = if x = y then jb_Ex i (pc + 3, ls, st, h) else jb_Ex i (t, ls, st, h) := sx_br ho (by unfold jb_ex; dsimp only; rw [ht])
theorem sy_ic_lt {o : Int} {t : Nat} {x y : Int32} (ho : jb_op i pc = some (.if_icmp .lt o, k, a, b)) (ht : jb_tg pc o = some t) : jb_Ex i (pc, ls, .int y :: .int x :: st, h) = if x < y then jb_Ex i (t, ls, st, h) else jb_Ex i (pc + 3, ls, st, h) := sx_br ho (by unfold jb_ex; dsimp only; rw [ht])
theorem sy_ic_ge {o : Int} {t : Nat} {x y : Int32} (ho : jb_op i pc = some (.if_icmp .ge o, k, a, b)) (ht : jb_tg pc o = some t) : jb_Ex i (pc, ls, .int y :: .int x :: st, h) = if y ≤ x then jb_Ex i (t, ls, st, h) else jb_Ex i (pc + 3, ls, st, h) := sx_br ho (by unfold jb_ex; dsimp only; rw [ht])
theorem sy_ic_gt {o : Int} {t : Nat} {x y : Int32} (ho : jb_op i pc = some (.if_icmp .gt o, k, a, b)) (ht : jb_tg pc o = some t) : jb_Ex i (pc, ls, .int y :: .int x :: st, h) = if y < x then jb_Ex i (t, ls, st, h) else jb_Ex i (pc + 3, ls, st, h) := sx_br ho (by unfold jb_ex; dsimp only; rw [ht])
theorem sy_ic_le {o : Int} {t : Nat} {x y : Int32} (ho : jb_op i pc = some (.if_icmp .le o, k, a, b)) (ht : jb_tg pc o = some t) : jb_Ex i (pc, ls, .int y :: .int x :: st, h) = if x ≤ y then jb_Ex i (t, ls, st, h) else jb_Ex i (pc + 3, ls, st, h) := sx_br ho (by unfold jb_ex; dsimp only; rw [ht])
theorem sy_if_eq {o : Int} {t : Nat} {x : Int32} (ho : jb_op i pc = some (.ifCond .eq o, k, a, b)) (ht : jb_tg pc o = some t) : jb_Ex i (pc, ls, .int x :: st, h) = if x = 0 then jb_Ex i (t, ls, st, h) else jb_Ex i (pc + 3, ls, st, h) := sx_br ho (by unfold jb_ex; dsimp only; rw [ht])
theorem sy_if_ne {o : Int} {t : Nat} {x : Int32} (ho : jb_op i pc = some (.ifCond .ne o, k, a, b)) (ht : jb_tg pc o = some t) : jb_Ex i (pc, ls, .int x :: st, h) = if x = 0 then jb_Ex i (pc + 3, ls, st, h) else jb_Ex i (t, ls, st, h) := sx_br ho (by unfold jb_ex; dsimp only; rw [ht])
theorem sy_if_lt {o : Int} {t : Nat} {x : Int32} (ho : jb_op i pc = some (.ifCond .lt o, k, a, b)) (ht : jb_tg pc o = some t) : jb_Ex i (pc, ls, .int x :: st, h) = if x < 0 then jb_Ex i (t, ls, st, h) else jb_Ex i (pc + 3, ls, st, h) := sx_br ho (by unfold jb_ex; dsimp only; rw [ht])
theorem sy_if_ge {o : Int} {t : Nat} {x : Int32} (ho : jb_op i pc = some (.ifCond .ge o, k, a, b)) (ht : jb_tg pc o = some t) : jb_Ex i (pc, ls, .int x :: st, h) = if 0 ≤ x then jb_Ex i (t, ls, st, h) else jb_Ex i (pc + 3, ls, st, h) := sx_br ho (by unfold jb_ex; dsimp only; rw [ht])
theorem sy_if_gt {o : Int} {t : Nat} {x : Int32} (ho : jb_op i pc = some (.ifCond .gt o, k, a, b)) (ht : jb_tg pc o = some t) : jb_Ex i (pc, ls, .int x :: st, h) = if 0 < x then jb_Ex i (t, ls, st, h) else jb_Ex i (pc + 3, ls, st, h) := sx_br ho (by unfold jb_ex; dsimp only; rw [ht])
theorem sy_if_le {o : Int} {t : Nat} {x : Int32} (ho : jb_op i pc = some (.ifCond .le o, k, a, b)) (ht : jb_tg pc o = some t) : jb_Ex i (pc, ls, .int x :: st, h) = if x ≤ 0 then jb_Ex i (t, ls, st, h) else jb_Ex i (pc + 3, ls, st, h) := sx_br ho (by unfold jb_ex; dsimp only; rw [ht])
theorem sy_pi {y r c f : Nat} {x : Int32} (ho : jb_op i pc = some (.putfield y, k, c, f)) (hk : k = 0 ∨ k = 1) (hc : jm_c r = c) (hc2 : c < 99) (hf : jm_f r f = some none) (ht : jb_Ty c f = .int ∧ (jb_T c f).2.2.2 = false) : jb_Ex i (pc, ls, .int x :: .ref r :: st, jm_hp σ) = jb_Ex i (pc + 3, ls, st, jm_hp (jm_up σ r f x)) := sx_pi ho hk hc hc2 hf (by rw [ht.1]; rfl) (by rw [ht.1]; rfl) ht.2
theorem sy_pz {y r c f : Nat} {x : Int32} (ho : jb_op i pc = some (.putfield y, k, c, f)) (hk : k = 0 ∨ k = 1) (hc : jm_c r = c) (hc2 : c < 99) (hf : jm_f r f = some none) (ht : jb_Ty c f = .boolean ∧ (jb_T c f).2.2.2 = false) (hn : narrow .boolean (.int x) = .int x ∧ fits .boolean (.int x) = true) : jb_Ex i (pc, ls, .int x :: .ref r :: st, jm_hp σ) = jb_Ex i (pc + 3, ls, st, jm_hp (jm_up σ r f x)) := sx_pi ho hk hc hc2 hf (by rw [ht.1]; exact hn.1) (by rw [ht.1]; exact hn.2) ht.2
theorem sy_al {r n : Nat} {j : Int32} (ho : jb_op i pc = some (.iaload, k, a, b)) (hc : jm_c r = 12) (hn : jm_ln r = n) : jb_Ex i (pc, ls, .int j :: .ref r :: st, jm_hp σ) = if jx j n then jb_Ex i (pc + 1, ls, .int (σ r j.toNatClampNeg) :: st, jm_hp σ) else none := by
  subst hn
  exact sx_al ho hc
theorem sy_as {r n : Nat} {j x : Int32} (ho : jb_op i pc = some (.iastore, k, a, b)) (hc : jm_c r = 12) (hn : jm_ln r = n) : jb_Ex i (pc, ls, .int x :: .int j :: .ref r :: st, jm_hp σ) = if jx j n then jb_Ex i (pc + 1, ls, st, jm_hp (jm_up σ r j.toNatClampNeg x)) else none := by
  subst hn
  exact sx_as ho hc
theorem sy_len {r n : Nat} (ho : jb_op i pc = some (.arraylength, k, a, b)) (hc : jm_c r = 12 ∨ jm_c r = 13) (hn : jm_ln r = n) : jb_Ex i (pc, ls, .ref r :: st, jm_hp σ) = jb_Ex i (pc + 1, ls, .int (jI n) :: st, jm_hp σ) := by
  subst hn
  exact sx_len ho hc
theorem sy_ir {x : Int32} {t : FieldType} (ho : jb_op i pc = some (.ireturn, k, a, b)) (hr : jb_ret i = some t) (ht : t = .int ∨ t = .boolean ∨ t = .char ∨ t = .byte) : jb_Ex i (pc, ls, [.int x], h) = jb_R t x h := by
  unfold jb_R
  by_cases hn : narrow t (.int x) = .int x
  · rw [if_pos hn]
    exact sx_ir ho hr ht hn
  · rw [if_neg hn]
    exact sx_no ho (by unfold jb_ex; dsimp only; rw [hr]; dsimp only; rw [if_neg (fun z => hn z.2)])
theorem sy_iv {ins : Instr} {r o : Nat} {as rest st : List Value} (ho : jb_op i pc = some (ins, k, a, b)) (hi : (∃ y, ins = .invokevirtual y ∧ (k = 2 ∨ k = 3)) ∨ (∃ y, ins = .invokespecial y ∧ (k = 6 ∨ k = 7))) (ht : jb_ht a < jb_ht i) (hst : as.reverse ++ .ref r :: rest = st) (hb : as.length = b) (how : jb_ow a = o) (hr : jb_recv h r o = true) (hs : jb_sum rest ≤ 8) : jb_Ex i (pc, ls, st, h) = jb_K (jb_Ev a (.ref r :: as) h) (fun v h' => jb_Ex i (pc + 3, ls, v.toList ++ rest, h')) := sx_iv ho hi ht hst hb (by rw [how]; exact hr) hs
end SY
end
