section
-- ===== PART A: goes FIRST, ahead of the names: the tables' words, and 'selects' of the private methods out of them =====
/-- a private method of a class that the tables say can be made, by its rows of tables_1 -/
def lw_okq (q : MethodName × Nat) : Prop := (q.1.cls ≠ "java/lang/invoke/MethodHandle" ∧ q.1.cls ≠ "java/lang/invoke/VarHandle") ∧ Cond.instantiable q.1.cls q.2 ∈ tables_1 ∧ Cond.privateMethod q.1 ∈ tables_1 ∧ Cond.instanceMethod q.1 ∈ tables_1
theorem lw_p0 : lw_okq (⟨"SheetFolder$Planner", "forgetSteps", "()V"⟩, 13) := ⟨⟨by decide +kernel, by decide +kernel⟩, List.mem_of_getElem? (i := 231) (by decide +kernel), List.mem_of_getElem? (i := 241) (by decide +kernel), List.mem_of_getElem? (i := 242) (by decide +kernel)⟩
theorem lw_p1 : lw_okq (⟨"SheetFolder", "append", "(I)V"⟩, 9) := ⟨⟨by decide +kernel, by decide +kernel⟩, List.mem_of_getElem? (i := 30) (by decide +kernel), List.mem_of_getElem? (i := 355) (by decide +kernel), List.mem_of_getElem? (i := 356) (by decide +kernel)⟩
theorem lw_p2 : lw_okq (⟨"SheetFolder$Part", "springBackBetween", "(IID)D"⟩, 18) := ⟨⟨by decide +kernel, by decide +kernel⟩, List.mem_of_getElem? (i := 76) (by decide +kernel), List.mem_of_getElem? (i := 415) (by decide +kernel), List.mem_of_getElem? (i := 416) (by decide +kernel)⟩
theorem lw_p3 : lw_okq (⟨"SheetFolder$Places", "walk", "(LSheetFolder$Part;IIIIII)V"⟩, 9) := ⟨⟨by decide +kernel, by decide +kernel⟩, List.mem_of_getElem? (i := 195) (by decide +kernel), List.mem_of_getElem? (i := 436) (by decide +kernel), List.mem_of_getElem? (i := 437) (by decide +kernel)⟩
theorem lw_p4 : lw_okq (⟨"SheetFolder$Places", "touch", "(II)Z"⟩, 9) := ⟨⟨by decide +kernel, by decide +kernel⟩, List.mem_of_getElem? (i := 195) (by decide +kernel), List.mem_of_getElem? (i := 461) (by decide +kernel), List.mem_of_getElem? (i := 462) (by decide +kernel)⟩
theorem lw_p5 : lw_okq (⟨"SheetFolder$Places", "isClamped", "(I)Z"⟩, 9) := ⟨⟨by decide +kernel, by decide +kernel⟩, List.mem_of_getElem? (i := 195) (by decide +kernel), List.mem_of_getElem? (i := 519) (by decide +kernel), List.mem_of_getElem? (i := 520) (by decide +kernel)⟩
theorem lw_p6 : lw_okq (⟨"SheetFolder$Places", "enters", "(IIIII)Z"⟩, 9) := ⟨⟨by decide +kernel, by decide +kernel⟩, List.mem_of_getElem? (i := 195) (by decide +kernel), List.mem_of_getElem? (i := 527) (by decide +kernel), List.mem_of_getElem? (i := 528) (by decide +kernel)⟩
theorem lw_p7 : lw_okq (⟨"SheetFolder$Planner", "reachSets", "(LSheetFolder$Part;)V"⟩, 13) := ⟨⟨by decide +kernel, by decide +kernel⟩, List.mem_of_getElem? (i := 231) (by decide +kernel), List.mem_of_getElem? (i := 560) (by decide +kernel), List.mem_of_getElem? (i := 561) (by decide +kernel)⟩
theorem lw_p8 : lw_okq (⟨"SheetFolder$Planner", "findSteps", "(LSheetFolder$Part;I)I"⟩, 13) := ⟨⟨by decide +kernel, by decide +kernel⟩, List.mem_of_getElem? (i := 231) (by decide +kernel), List.mem_of_getElem? (i := 571) (by decide +kernel), List.mem_of_getElem? (i := 572) (by decide +kernel)⟩
theorem lw_p9 : lw_okq (⟨"SheetFolder$Planner", "isOpen", "(II)Z"⟩, 13) := ⟨⟨by decide +kernel, by decide +kernel⟩, List.mem_of_getElem? (i := 231) (by decide +kernel), List.mem_of_getElem? (i := 578) (by decide +kernel), List.mem_of_getElem? (i := 579) (by decide +kernel)⟩
theorem lw_p10 : lw_okq (⟨"SheetFolder$Planner", "countOrders", "(LSheetFolder$Part;)V"⟩, 13) := ⟨⟨by decide +kernel, by decide +kernel⟩, List.mem_of_getElem? (i := 231) (by decide +kernel), List.mem_of_getElem? (i := 585) (by decide +kernel), List.mem_of_getElem? (i := 586) (by decide +kernel)⟩
theorem lw_p11 : lw_okq (⟨"SheetFolder$Planner", "reckonCosts", "(LSheetFolder$Part;)V"⟩, 13) := ⟨⟨by decide +kernel, by decide +kernel⟩, List.mem_of_getElem? (i := 231) (by decide +kernel), List.mem_of_getElem? (i := 590) (by decide +kernel), List.mem_of_getElem? (i := 591) (by decide +kernel)⟩
theorem lw_p12 : lw_okq (⟨"SheetFolder$Planner", "reckonCostsBehind", "(LSheetFolder$Part;I)V"⟩, 13) := ⟨⟨by decide +kernel, by decide +kernel⟩, List.mem_of_getElem? (i := 231) (by decide +kernel), List.mem_of_getElem? (i := 594) (by decide +kernel), List.mem_of_getElem? (i := 595) (by decide +kernel)⟩
theorem lw_p13 : lw_okq (⟨"SheetFolder$Planner", "costOnward", "(LSheetFolder$Part;IIIZ)I"⟩, 13) := ⟨⟨by decide +kernel, by decide +kernel⟩, List.mem_of_getElem? (i := 231) (by decide +kernel), List.mem_of_getElem? (i := 598) (by decide +kernel), List.mem_of_getElem? (i := 599) (by decide +kernel)⟩
theorem lw_p14 : lw_okq (⟨"SheetFolder$Planner", "costThrough", "(LSheetFolder$Part;IIIIZ)I"⟩, 13) := ⟨⟨by decide +kernel, by decide +kernel⟩, List.mem_of_getElem? (i := 231) (by decide +kernel), List.mem_of_getElem? (i := 602) (by decide +kernel), List.mem_of_getElem? (i := 603) (by decide +kernel)⟩
theorem lw_p15 : lw_okq (⟨"SheetFolder$Planner", "choosePlan", "(LSheetFolder$Part;)V"⟩, 13) := ⟨⟨by decide +kernel, by decide +kernel⟩, List.mem_of_getElem? (i := 231) (by decide +kernel), List.mem_of_getElem? (i := 612) (by decide +kernel), List.mem_of_getElem? (i := 613) (by decide +kernel)⟩
def lw_privs_1 : List (MethodName × Nat) := [(⟨"SheetFolder$Planner", "forgetSteps", "()V"⟩, 13), (⟨"SheetFolder", "append", "(I)V"⟩, 9), (⟨"SheetFolder$Part", "springBackBetween", "(IID)D"⟩, 18), (⟨"SheetFolder$Places", "walk", "(LSheetFolder$Part;IIIIII)V"⟩, 9), (⟨"SheetFolder$Places", "touch", "(II)Z"⟩, 9), (⟨"SheetFolder$Places", "isClamped", "(I)Z"⟩, 9), (⟨"SheetFolder$Places", "enters", "(IIIII)Z"⟩, 9), (⟨"SheetFolder$Planner", "reachSets", "(LSheetFolder$Part;)V"⟩, 13), (⟨"SheetFolder$Planner", "findSteps", "(LSheetFolder$Part;I)I"⟩, 13), (⟨"SheetFolder$Planner", "isOpen", "(II)Z"⟩, 13), (⟨"SheetFolder$Planner", "countOrders", "(LSheetFolder$Part;)V"⟩, 13), (⟨"SheetFolder$Planner", "reckonCosts", "(LSheetFolder$Part;)V"⟩, 13), (⟨"SheetFolder$Planner", "reckonCostsBehind", "(LSheetFolder$Part;I)V"⟩, 13), (⟨"SheetFolder$Planner", "costOnward", "(LSheetFolder$Part;IIIZ)I"⟩, 13), (⟨"SheetFolder$Planner", "costThrough", "(LSheetFolder$Part;IIIIZ)I"⟩, 13), (⟨"SheetFolder$Planner", "choosePlan", "(LSheetFolder$Part;)V"⟩, 13)]
theorem lw_r1 : ∀ q ∈ lw_privs_1, lw_okq q := List.forall_mem_cons.mpr ⟨lw_p0, List.forall_mem_cons.mpr ⟨lw_p1, List.forall_mem_cons.mpr ⟨lw_p2, List.forall_mem_cons.mpr ⟨lw_p3, List.forall_mem_cons.mpr ⟨lw_p4, List.forall_mem_cons.mpr ⟨lw_p5, List.forall_mem_cons.mpr ⟨lw_p6, List.forall_mem_cons.mpr ⟨lw_p7, List.forall_mem_cons.mpr ⟨lw_p8, List.forall_mem_cons.mpr ⟨lw_p9, List.forall_mem_cons.mpr ⟨lw_p10, List.forall_mem_cons.mpr ⟨lw_p11, List.forall_mem_cons.mpr ⟨lw_p12, List.forall_mem_cons.mpr ⟨lw_p13, List.forall_mem_cons.mpr ⟨lw_p14, List.forall_mem_cons.mpr ⟨lw_p15, fun _ h => absurd h List.not_mem_nil⟩⟩⟩⟩⟩⟩⟩⟩⟩⟩⟩⟩⟩⟩⟩⟩
theorem lw_p16 : lw_okq (⟨"SheetFolder$Planner", "smallestStep", "(LSheetFolder$Part;IIII)I"⟩, 13) := ⟨⟨by decide +kernel, by decide +kernel⟩, List.mem_of_getElem? (i := 231) (by decide +kernel), List.mem_of_getElem? (i := 616) (by decide +kernel), List.mem_of_getElem? (i := 617) (by decide +kernel)⟩
theorem lw_p17 : lw_okq (⟨"java/lang/Throwable", "fillInStackTrace", "(I)Ljava/lang/Throwable;"⟩, 6) := ⟨⟨by decide +kernel, by decide +kernel⟩, List.mem_of_getElem? (i := 920) (by decide +kernel), List.mem_of_getElem? (i := 918) (by decide +kernel), List.mem_of_getElem? (i := 919) (by decide +kernel)⟩
theorem lw_p18 : lw_okq (⟨"SheetFolder", "writeBend", "(I)V"⟩, 9) := ⟨⟨by decide +kernel, by decide +kernel⟩, List.mem_of_getElem? (i := 30) (by decide +kernel), List.mem_of_getElem? (i := 1028) (by decide +kernel), List.mem_of_getElem? (i := 1029) (by decide +kernel)⟩
theorem lw_p19 : lw_okq (⟨"SheetFolder$TextReader", "nextToken", "()V"⟩, 9) := ⟨⟨by decide +kernel, by decide +kernel⟩, List.mem_of_getElem? (i := 38) (by decide +kernel), List.mem_of_getElem? (i := 1075) (by decide +kernel), List.mem_of_getElem? (i := 1076) (by decide +kernel)⟩
theorem lw_p20 : lw_okq (⟨"SheetFolder$TextReader", "takeWord", "()V"⟩, 9) := ⟨⟨by decide +kernel, by decide +kernel⟩, List.mem_of_getElem? (i := 38) (by decide +kernel), List.mem_of_getElem? (i := 1085) (by decide +kernel), List.mem_of_getElem? (i := 1086) (by decide +kernel)⟩
theorem lw_p21 : lw_okq (⟨"SheetFolder$TextReader", "takeNumber", "()V"⟩, 9) := ⟨⟨by decide +kernel, by decide +kernel⟩, List.mem_of_getElem? (i := 38) (by decide +kernel), List.mem_of_getElem? (i := 1092) (by decide +kernel), List.mem_of_getElem? (i := 1093) (by decide +kernel)⟩
theorem lw_p22 : lw_okq (⟨"SheetFolder$TextReader", "readStatement", "(LSheetFolder$Part;)V"⟩, 9) := ⟨⟨by decide +kernel, by decide +kernel⟩, List.mem_of_getElem? (i := 38) (by decide +kernel), List.mem_of_getElem? (i := 1096) (by decide +kernel), List.mem_of_getElem? (i := 1097) (by decide +kernel)⟩
theorem lw_p23 : lw_okq (⟨"SheetFolder$Word", "isSpelled", "([BII)Z"⟩, 8) := ⟨⟨by decide +kernel, by decide +kernel⟩, List.mem_of_getElem? (i := 1107) (by decide +kernel), List.mem_of_getElem? (i := 1105) (by decide +kernel), List.mem_of_getElem? (i := 1106) (by decide +kernel)⟩
theorem lw_p24 : lw_okq (⟨"SheetFolder$TextReader", "errorIfNot", "(II)I"⟩, 9) := ⟨⟨by decide +kernel, by decide +kernel⟩, List.mem_of_getElem? (i := 38) (by decide +kernel), List.mem_of_getElem? (i := 1126) (by decide +kernel), List.mem_of_getElem? (i := 1127) (by decide +kernel)⟩
theorem lw_p25 : lw_okq (⟨"SheetFolder$TextReader", "errorOfNumber", "(LSheetFolder$Word;ILSheetFolder$Part;)I"⟩, 9) := ⟨⟨by decide +kernel, by decide +kernel⟩, List.mem_of_getElem? (i := 38) (by decide +kernel), List.mem_of_getElem? (i := 1150) (by decide +kernel), List.mem_of_getElem? (i := 1151) (by decide +kernel)⟩
theorem lw_p26 : lw_okq (⟨"SheetFolder$TextReader", "accept", "(LSheetFolder$Word;LSheetFolder$Part;)V"⟩, 9) := ⟨⟨by decide +kernel, by decide +kernel⟩, List.mem_of_getElem? (i := 38) (by decide +kernel), List.mem_of_getElem? (i := 1169) (by decide +kernel), List.mem_of_getElem? (i := 1170) (by decide +kernel)⟩
theorem lw_p27 : lw_okq (⟨"SheetFolder", "requireLeg", "(I)V"⟩, 9) := ⟨⟨by decide +kernel, by decide +kernel⟩, List.mem_of_getElem? (i := 30) (by decide +kernel), List.mem_of_getElem? (i := 1216) (by decide +kernel), List.mem_of_getElem? (i := 1217) (by decide +kernel)⟩
theorem lw_p28 : lw_okq (⟨"SheetFolder", "requireBend", "(I)V"⟩, 9) := ⟨⟨by decide +kernel, by decide +kernel⟩, List.mem_of_getElem? (i := 30) (by decide +kernel), List.mem_of_getElem? (i := 1240) (by decide +kernel), List.mem_of_getElem? (i := 1241) (by decide +kernel)⟩
theorem lw_p29 : lw_okq (⟨"SheetFolder", "requireStep", "(II)V"⟩, 9) := ⟨⟨by decide +kernel, by decide +kernel⟩, List.mem_of_getElem? (i := 30) (by decide +kernel), List.mem_of_getElem? (i := 1298) (by decide +kernel), List.mem_of_getElem? (i := 1299) (by decide +kernel)⟩
theorem lw_p30 : lw_okq (⟨"SheetFolder", "reasonNow", "(I)I"⟩, 9) := ⟨⟨by decide +kernel, by decide +kernel⟩, List.mem_of_getElem? (i := 30) (by decide +kernel), List.mem_of_getElem? (i := 1302) (by decide +kernel), List.mem_of_getElem? (i := 1303) (by decide +kernel)⟩
theorem lw_p31 : lw_okq (⟨"SheetFolder", "gaugeNow", "(I)I"⟩, 9) := ⟨⟨by decide +kernel, by decide +kernel⟩, List.mem_of_getElem? (i := 30) (by decide +kernel), List.mem_of_getElem? (i := 1314) (by decide +kernel), List.mem_of_getElem? (i := 1315) (by decide +kernel)⟩
def lw_privs_2 : List (MethodName × Nat) := [(⟨"SheetFolder$Planner", "smallestStep", "(LSheetFolder$Part;IIII)I"⟩, 13), (⟨"java/lang/Throwable", "fillInStackTrace", "(I)Ljava/lang/Throwable;"⟩, 6), (⟨"SheetFolder", "writeBend", "(I)V"⟩, 9), (⟨"SheetFolder$TextReader", "nextToken", "()V"⟩, 9), (⟨"SheetFolder$TextReader", "takeWord", "()V"⟩, 9), (⟨"SheetFolder$TextReader", "takeNumber", "()V"⟩, 9), (⟨"SheetFolder$TextReader", "readStatement", "(LSheetFolder$Part;)V"⟩, 9), (⟨"SheetFolder$Word", "isSpelled", "([BII)Z"⟩, 8), (⟨"SheetFolder$TextReader", "errorIfNot", "(II)I"⟩, 9), (⟨"SheetFolder$TextReader", "errorOfNumber", "(LSheetFolder$Word;ILSheetFolder$Part;)I"⟩, 9), (⟨"SheetFolder$TextReader", "accept", "(LSheetFolder$Word;LSheetFolder$Part;)V"⟩, 9), (⟨"SheetFolder", "requireLeg", "(I)V"⟩, 9), (⟨"SheetFolder", "requireBend", "(I)V"⟩, 9), (⟨"SheetFolder", "requireStep", "(II)V"⟩, 9), (⟨"SheetFolder", "reasonNow", "(I)I"⟩, 9), (⟨"SheetFolder", "gaugeNow", "(I)I"⟩, 9)]
theorem lw_r2 : ∀ q ∈ lw_privs_2, lw_okq q := List.forall_mem_cons.mpr ⟨lw_p16, List.forall_mem_cons.mpr ⟨lw_p17, List.forall_mem_cons.mpr ⟨lw_p18, List.forall_mem_cons.mpr ⟨lw_p19, List.forall_mem_cons.mpr ⟨lw_p20, List.forall_mem_cons.mpr ⟨lw_p21, List.forall_mem_cons.mpr ⟨lw_p22, List.forall_mem_cons.mpr ⟨lw_p23, List.forall_mem_cons.mpr ⟨lw_p24, List.forall_mem_cons.mpr ⟨lw_p25, List.forall_mem_cons.mpr ⟨lw_p26, List.forall_mem_cons.mpr ⟨lw_p27, List.forall_mem_cons.mpr ⟨lw_p28, List.forall_mem_cons.mpr ⟨lw_p29, List.forall_mem_cons.mpr ⟨lw_p30, List.forall_mem_cons.mpr ⟨lw_p31, fun _ h => absurd h List.not_mem_nil⟩⟩⟩⟩⟩⟩⟩⟩⟩⟩⟩⟩⟩⟩⟩⟩
theorem lw_p32 : lw_okq (⟨"SheetFolder", "costNow", "(I)I"⟩, 9) := ⟨⟨by decide +kernel, by decide +kernel⟩, List.mem_of_getElem? (i := 30) (by decide +kernel), List.mem_of_getElem? (i := 1361) (by decide +kernel), List.mem_of_getElem? (i := 1362) (by decide +kernel)⟩
theorem lw_p33 : lw_okq (⟨"SheetFolder", "requireFlat", "()V"⟩, 9) := ⟨⟨by decide +kernel, by decide +kernel⟩, List.mem_of_getElem? (i := 30) (by decide +kernel), List.mem_of_getElem? (i := 1391) (by decide +kernel), List.mem_of_getElem? (i := 1392) (by decide +kernel)⟩
theorem lw_p34 : lw_okq (⟨"SheetFolder", "makeStep", "(I)I"⟩, 9) := ⟨⟨by decide +kernel, by decide +kernel⟩, List.mem_of_getElem? (i := 30) (by decide +kernel), List.mem_of_getElem? (i := 1419) (by decide +kernel), List.mem_of_getElem? (i := 1420) (by decide +kernel)⟩
theorem lw_p35 : lw_okq (⟨"SheetFolderModel", "reset", "()V"⟩, 31) := ⟨⟨by decide +kernel, by decide +kernel⟩, List.mem_of_getElem? (i := 1500) (by decide +kernel), List.mem_of_getElem? (i := 1506) (by decide +kernel), List.mem_of_getElem? (i := 1507) (by decide +kernel)⟩
theorem lw_p36 : lw_okq (⟨"SheetFolderModel", "lay", "(IIII)V"⟩, 31) := ⟨⟨by decide +kernel, by decide +kernel⟩, List.mem_of_getElem? (i := 1500) (by decide +kernel), List.mem_of_getElem? (i := 1510) (by decide +kernel), List.mem_of_getElem? (i := 1511) (by decide +kernel)⟩
theorem lw_p37 : lw_okq (⟨"SheetFolderModel", "append", "(I)V"⟩, 31) := ⟨⟨by decide +kernel, by decide +kernel⟩, List.mem_of_getElem? (i := 1500) (by decide +kernel), List.mem_of_getElem? (i := 1623) (by decide +kernel), List.mem_of_getElem? (i := 1624) (by decide +kernel)⟩
theorem lw_p38 : lw_okq (⟨"SheetFolderModel", "advance", "()Z"⟩, 31) := ⟨⟨by decide +kernel, by decide +kernel⟩, List.mem_of_getElem? (i := 1500) (by decide +kernel), List.mem_of_getElem? (i := 1634) (by decide +kernel), List.mem_of_getElem? (i := 1635) (by decide +kernel)⟩
theorem lw_p39 : lw_okq (⟨"SheetFolderModel", "byteAt", "(I)I"⟩, 31) := ⟨⟨by decide +kernel, by decide +kernel⟩, List.mem_of_getElem? (i := 1500) (by decide +kernel), List.mem_of_getElem? (i := 1638) (by decide +kernel), List.mem_of_getElem? (i := 1639) (by decide +kernel)⟩
theorem lw_p40 : lw_okq (⟨"SheetFolderModel", "statement", "()Z"⟩, 31) := ⟨⟨by decide +kernel, by decide +kernel⟩, List.mem_of_getElem? (i := 1500) (by decide +kernel), List.mem_of_getElem? (i := 1648) (by decide +kernel), List.mem_of_getElem? (i := 1649) (by decide +kernel)⟩
theorem lw_p41 : lw_okq (⟨"SheetFolderModel", "isWord", "(Ljava/lang/String;)Z"⟩, 31) := ⟨⟨by decide +kernel, by decide +kernel⟩, List.mem_of_getElem? (i := 1500) (by decide +kernel), List.mem_of_getElem? (i := 1653) (by decide +kernel), List.mem_of_getElem? (i := 1654) (by decide +kernel)⟩
theorem lw_p42 : lw_okq (⟨"SheetFolderModel", "sheetStatement", "()Z"⟩, 31) := ⟨⟨by decide +kernel, by decide +kernel⟩, List.mem_of_getElem? (i := 1500) (by decide +kernel), List.mem_of_getElem? (i := 1659) (by decide +kernel), List.mem_of_getElem? (i := 1660) (by decide +kernel)⟩
theorem lw_p43 : lw_okq (⟨"SheetFolderModel", "number", "(III)Z"⟩, 31) := ⟨⟨by decide +kernel, by decide +kernel⟩, List.mem_of_getElem? (i := 1500) (by decide +kernel), List.mem_of_getElem? (i := 1663) (by decide +kernel), List.mem_of_getElem? (i := 1664) (by decide +kernel)⟩
theorem lw_p44 : lw_okq (⟨"SheetFolderModel", "fail", "(I)Z"⟩, 31) := ⟨⟨by decide +kernel, by decide +kernel⟩, List.mem_of_getElem? (i := 1500) (by decide +kernel), List.mem_of_getElem? (i := 1667) (by decide +kernel), List.mem_of_getElem? (i := 1668) (by decide +kernel)⟩
theorem lw_p45 : lw_okq (⟨"SheetFolderModel", "legStatement", "()Z"⟩, 31) := ⟨⟨by decide +kernel, by decide +kernel⟩, List.mem_of_getElem? (i := 1500) (by decide +kernel), List.mem_of_getElem? (i := 1672) (by decide +kernel), List.mem_of_getElem? (i := 1673) (by decide +kernel)⟩
theorem lw_p46 : lw_okq (⟨"SheetFolderModel", "bendStatement", "(Z)Z"⟩, 31) := ⟨⟨by decide +kernel, by decide +kernel⟩, List.mem_of_getElem? (i := 1500) (by decide +kernel), List.mem_of_getElem? (i := 1678) (by decide +kernel), List.mem_of_getElem? (i := 1679) (by decide +kernel)⟩
theorem lw_p47 : lw_okq (⟨"SheetFolderModel", "backStatement", "()Z"⟩, 31) := ⟨⟨by decide +kernel, by decide +kernel⟩, List.mem_of_getElem? (i := 1500) (by decide +kernel), List.mem_of_getElem? (i := 1683) (by decide +kernel), List.mem_of_getElem? (i := 1684) (by decide +kernel)⟩
def lw_privs_3 : List (MethodName × Nat) := [(⟨"SheetFolder", "costNow", "(I)I"⟩, 9), (⟨"SheetFolder", "requireFlat", "()V"⟩, 9), (⟨"SheetFolder", "makeStep", "(I)I"⟩, 9), (⟨"SheetFolderModel", "reset", "()V"⟩, 31), (⟨"SheetFolderModel", "lay", "(IIII)V"⟩, 31), (⟨"SheetFolderModel", "append", "(I)V"⟩, 31), (⟨"SheetFolderModel", "advance", "()Z"⟩, 31), (⟨"SheetFolderModel", "byteAt", "(I)I"⟩, 31), (⟨"SheetFolderModel", "statement", "()Z"⟩, 31), (⟨"SheetFolderModel", "isWord", "(Ljava/lang/String;)Z"⟩, 31), (⟨"SheetFolderModel", "sheetStatement", "()Z"⟩, 31), (⟨"SheetFolderModel", "number", "(III)Z"⟩, 31), (⟨"SheetFolderModel", "fail", "(I)Z"⟩, 31), (⟨"SheetFolderModel", "legStatement", "()Z"⟩, 31), (⟨"SheetFolderModel", "bendStatement", "(Z)Z"⟩, 31), (⟨"SheetFolderModel", "backStatement", "()Z"⟩, 31)]
theorem lw_r3 : ∀ q ∈ lw_privs_3, lw_okq q := List.forall_mem_cons.mpr ⟨lw_p32, List.forall_mem_cons.mpr ⟨lw_p33, List.forall_mem_cons.mpr ⟨lw_p34, List.forall_mem_cons.mpr ⟨lw_p35, List.forall_mem_cons.mpr ⟨lw_p36, List.forall_mem_cons.mpr ⟨lw_p37, List.forall_mem_cons.mpr ⟨lw_p38, List.forall_mem_cons.mpr ⟨lw_p39, List.forall_mem_cons.mpr ⟨lw_p40, List.forall_mem_cons.mpr ⟨lw_p41, List.forall_mem_cons.mpr ⟨lw_p42, List.forall_mem_cons.mpr ⟨lw_p43, List.forall_mem_cons.mpr ⟨lw_p44, List.forall_mem_cons.mpr ⟨lw_p45, List.forall_mem_cons.mpr ⟨lw_p46, List.forall_mem_cons.mpr ⟨lw_p47, fun _ h => absurd h List.not_mem_nil⟩⟩⟩⟩⟩⟩⟩⟩⟩⟩⟩⟩⟩⟩⟩⟩
theorem lw_p48 : lw_okq (⟨"SheetFolderModel", "costStatement", "()Z"⟩, 31) := ⟨⟨by decide +kernel, by decide +kernel⟩, List.mem_of_getElem? (i := 1500) (by decide +kernel), List.mem_of_getElem? (i := 1688) (by decide +kernel), List.mem_of_getElem? (i := 1689) (by decide +kernel)⟩
theorem lw_p49 : lw_okq (⟨"SheetFolderModel", "toolHere", "()I"⟩, 31) := ⟨⟨by decide +kernel, by decide +kernel⟩, List.mem_of_getElem? (i := 1500) (by decide +kernel), List.mem_of_getElem? (i := 1692) (by decide +kernel), List.mem_of_getElem? (i := 1693) (by decide +kernel)⟩
theorem lw_p50 : lw_okq (⟨"SheetFolderModel", "toolStatement", "(I)Z"⟩, 31) := ⟨⟨by decide +kernel, by decide +kernel⟩, List.mem_of_getElem? (i := 1500) (by decide +kernel), List.mem_of_getElem? (i := 1701) (by decide +kernel), List.mem_of_getElem? (i := 1702) (by decide +kernel)⟩
theorem lw_p51 : lw_okq (⟨"SheetFolderModel", "closed", "()Z"⟩, 31) := ⟨⟨by decide +kernel, by decide +kernel⟩, List.mem_of_getElem? (i := 1500) (by decide +kernel), List.mem_of_getElem? (i := 1705) (by decide +kernel), List.mem_of_getElem? (i := 1706) (by decide +kernel)⟩
theorem lw_p52 : lw_okq (⟨"SheetFolderModel", "tellNow", "(I)I"⟩, 31) := ⟨⟨by decide +kernel, by decide +kernel⟩, List.mem_of_getElem? (i := 1500) (by decide +kernel), List.mem_of_getElem? (i := 1721) (by decide +kernel), List.mem_of_getElem? (i := 1722) (by decide +kernel)⟩
theorem lw_p53 : lw_okq (⟨"SheetFolderModel", "isLeg", "(I)Z"⟩, 31) := ⟨⟨by decide +kernel, by decide +kernel⟩, List.mem_of_getElem? (i := 1500) (by decide +kernel), List.mem_of_getElem? (i := 1733) (by decide +kernel), List.mem_of_getElem? (i := 1734) (by decide +kernel)⟩
theorem lw_p54 : lw_okq (⟨"SheetFolderModel", "good", "(Z)Z"⟩, 31) := ⟨⟨by decide +kernel, by decide +kernel⟩, List.mem_of_getElem? (i := 1500) (by decide +kernel), List.mem_of_getElem? (i := 1737) (by decide +kernel), List.mem_of_getElem? (i := 1738) (by decide +kernel)⟩
theorem lw_p55 : lw_okq (⟨"SheetFolderModel", "isBend", "(I)Z"⟩, 31) := ⟨⟨by decide +kernel, by decide +kernel⟩, List.mem_of_getElem? (i := 1500) (by decide +kernel), List.mem_of_getElem? (i := 1745) (by decide +kernel), List.mem_of_getElem? (i := 1746) (by decide +kernel)⟩
theorem lw_p56 : lw_okq (⟨"SheetFolderModel", "deductionNow", "()D"⟩, 31) := ⟨⟨by decide +kernel, by decide +kernel⟩, List.mem_of_getElem? (i := 1500) (by decide +kernel), List.mem_of_getElem? (i := 1753) (by decide +kernel), List.mem_of_getElem? (i := 1754) (by decide +kernel)⟩
theorem lw_p57 : lw_okq (⟨"SheetFolderModel", "sumOfLegs", "(I)I"⟩, 31) := ⟨⟨by decide +kernel, by decide +kernel⟩, List.mem_of_getElem? (i := 1500) (by decide +kernel), List.mem_of_getElem? (i := 1764) (by decide +kernel), List.mem_of_getElem? (i := 1765) (by decide +kernel)⟩
theorem lw_p58 : lw_okq (⟨"SheetFolderModel", "ratioNow", "()D"⟩, 31) := ⟨⟨by decide +kernel, by decide +kernel⟩, List.mem_of_getElem? (i := 1500) (by decide +kernel), List.mem_of_getElem? (i := 1777) (by decide +kernel), List.mem_of_getElem? (i := 1778) (by decide +kernel)⟩
theorem lw_p59 : lw_okq (⟨"SheetFolderModel", "springBy", "(D)D"⟩, 31) := ⟨⟨by decide +kernel, by decide +kernel⟩, List.mem_of_getElem? (i := 1500) (by decide +kernel), List.mem_of_getElem? (i := 1786) (by decide +kernel), List.mem_of_getElem? (i := 1787) (by decide +kernel)⟩
theorem lw_p60 : lw_okq (⟨"SheetFolderModel", "ratioOf", "(I)D"⟩, 31) := ⟨⟨by decide +kernel, by decide +kernel⟩, List.mem_of_getElem? (i := 1500) (by decide +kernel), List.mem_of_getElem? (i := 1790) (by decide +kernel), List.mem_of_getElem? (i := 1791) (by decide +kernel)⟩
theorem lw_p61 : lw_okq (⟨"SheetFolderModel", "angleOf", "(I)D"⟩, 31) := ⟨⟨by decide +kernel, by decide +kernel⟩, List.mem_of_getElem? (i := 1500) (by decide +kernel), List.mem_of_getElem? (i := 1794) (by decide +kernel), List.mem_of_getElem? (i := 1795) (by decide +kernel)⟩
theorem lw_p62 : lw_okq (⟨"SheetFolderModel", "isMirrored", "(II)Z"⟩, 31) := ⟨⟨by decide +kernel, by decide +kernel⟩, List.mem_of_getElem? (i := 1500) (by decide +kernel), List.mem_of_getElem? (i := 1820) (by decide +kernel), List.mem_of_getElem? (i := 1821) (by decide +kernel)⟩
theorem lw_p63 : lw_okq (⟨"SheetFolderModel", "layFinished", "()V"⟩, 31) := ⟨⟨by decide +kernel, by decide +kernel⟩, List.mem_of_getElem? (i := 1500) (by decide +kernel), List.mem_of_getElem? (i := 1832) (by decide +kernel), List.mem_of_getElem? (i := 1833) (by decide +kernel)⟩
def lw_privs_4 : List (MethodName × Nat) := [(⟨"SheetFolderModel", "costStatement", "()Z"⟩, 31), (⟨"SheetFolderModel", "toolHere", "()I"⟩, 31), (⟨"SheetFolderModel", "toolStatement", "(I)Z"⟩, 31), (⟨"SheetFolderModel", "closed", "()Z"⟩, 31), (⟨"SheetFolderModel", "tellNow", "(I)I"⟩, 31), (⟨"SheetFolderModel", "isLeg", "(I)Z"⟩, 31), (⟨"SheetFolderModel", "good", "(Z)Z"⟩, 31), (⟨"SheetFolderModel", "isBend", "(I)Z"⟩, 31), (⟨"SheetFolderModel", "deductionNow", "()D"⟩, 31), (⟨"SheetFolderModel", "sumOfLegs", "(I)I"⟩, 31), (⟨"SheetFolderModel", "ratioNow", "()D"⟩, 31), (⟨"SheetFolderModel", "springBy", "(D)D"⟩, 31), (⟨"SheetFolderModel", "ratioOf", "(I)D"⟩, 31), (⟨"SheetFolderModel", "angleOf", "(I)D"⟩, 31), (⟨"SheetFolderModel", "isMirrored", "(II)Z"⟩, 31), (⟨"SheetFolderModel", "layFinished", "()V"⟩, 31)]
theorem lw_r4 : ∀ q ∈ lw_privs_4, lw_okq q := List.forall_mem_cons.mpr ⟨lw_p48, List.forall_mem_cons.mpr ⟨lw_p49, List.forall_mem_cons.mpr ⟨lw_p50, List.forall_mem_cons.mpr ⟨lw_p51, List.forall_mem_cons.mpr ⟨lw_p52, List.forall_mem_cons.mpr ⟨lw_p53, List.forall_mem_cons.mpr ⟨lw_p54, List.forall_mem_cons.mpr ⟨lw_p55, List.forall_mem_cons.mpr ⟨lw_p56, List.forall_mem_cons.mpr ⟨lw_p57, List.forall_mem_cons.mpr ⟨lw_p58, List.forall_mem_cons.mpr ⟨lw_p59, List.forall_mem_cons.mpr ⟨lw_p60, List.forall_mem_cons.mpr ⟨lw_p61, List.forall_mem_cons.mpr ⟨lw_p62, List.forall_mem_cons.mpr ⟨lw_p63, fun _ h => absurd h List.not_mem_nil⟩⟩⟩⟩⟩⟩⟩⟩⟩⟩⟩⟩⟩⟩⟩⟩
theorem lw_p64 : lw_okq (⟨"SheetFolderModel", "layLeg", "(II)V"⟩, 31) := ⟨⟨by decide +kernel, by decide +kernel⟩, List.mem_of_getElem? (i := 1500) (by decide +kernel), List.mem_of_getElem? (i := 1836) (by decide +kernel), List.mem_of_getElem? (i := 1837) (by decide +kernel)⟩
theorem lw_p65 : lw_okq (⟨"SheetFolderModel", "isCrossed", "()Z"⟩, 31) := ⟨⟨by decide +kernel, by decide +kernel⟩, List.mem_of_getElem? (i := 1500) (by decide +kernel), List.mem_of_getElem? (i := 1856) (by decide +kernel), List.mem_of_getElem? (i := 1857) (by decide +kernel)⟩
theorem lw_p66 : lw_okq (⟨"SheetFolderModel", "good", "(ZZ)Z"⟩, 31) := ⟨⟨by decide +kernel, by decide +kernel⟩, List.mem_of_getElem? (i := 1500) (by decide +kernel), List.mem_of_getElem? (i := 1867) (by decide +kernel), List.mem_of_getElem? (i := 1868) (by decide +kernel)⟩
theorem lw_p67 : lw_okq (⟨"SheetFolderModel", "stepOf", "(II)I"⟩, 31) := ⟨⟨by decide +kernel, by decide +kernel⟩, List.mem_of_getElem? (i := 1500) (by decide +kernel), List.mem_of_getElem? (i := 1884) (by decide +kernel), List.mem_of_getElem? (i := 1885) (by decide +kernel)⟩
theorem lw_p68 : lw_okq (⟨"SheetFolderModel", "sumOfCosts", "()I"⟩, 31) := ⟨⟨by decide +kernel, by decide +kernel⟩, List.mem_of_getElem? (i := 1500) (by decide +kernel), List.mem_of_getElem? (i := 1892) (by decide +kernel), List.mem_of_getElem? (i := 1893) (by decide +kernel)⟩
theorem lw_p69 : lw_okq (⟨"SheetFolderModel", "reasonOf", "(III)I"⟩, 31) := ⟨⟨by decide +kernel, by decide +kernel⟩, List.mem_of_getElem? (i := 1500) (by decide +kernel), List.mem_of_getElem? (i := 1903) (by decide +kernel), List.mem_of_getElem? (i := 1904) (by decide +kernel)⟩
theorem lw_p70 : lw_okq (⟨"SheetFolderModel", "isShort", "(II)Z"⟩, 31) := ⟨⟨by decide +kernel, by decide +kernel⟩, List.mem_of_getElem? (i := 1500) (by decide +kernel), List.mem_of_getElem? (i := 1910) (by decide +kernel), List.mem_of_getElem? (i := 1911) (by decide +kernel)⟩
theorem lw_p71 : lw_okq (⟨"SheetFolderModel", "toolOf", "(II)I"⟩, 31) := ⟨⟨by decide +kernel, by decide +kernel⟩, List.mem_of_getElem? (i := 1500) (by decide +kernel), List.mem_of_getElem? (i := 1914) (by decide +kernel), List.mem_of_getElem? (i := 1915) (by decide +kernel)⟩
theorem lw_p72 : lw_okq (⟨"SheetFolderModel", "laySheet", "(III)V"⟩, 31) := ⟨⟨by decide +kernel, by decide +kernel⟩, List.mem_of_getElem? (i := 1500) (by decide +kernel), List.mem_of_getElem? (i := 1918) (by decide +kernel), List.mem_of_getElem? (i := 1919) (by decide +kernel)⟩
theorem lw_p73 : lw_okq (⟨"SheetFolderModel", "laySide", "(IIIIZI)V"⟩, 31) := ⟨⟨by decide +kernel, by decide +kernel⟩, List.mem_of_getElem? (i := 1500) (by decide +kernel), List.mem_of_getElem? (i := 1922) (by decide +kernel), List.mem_of_getElem? (i := 1923) (by decide +kernel)⟩
theorem lw_p74 : lw_okq (⟨"SheetFolderModel", "isGaugeLaid", "(II)Z"⟩, 31) := ⟨⟨by decide +kernel, by decide +kernel⟩, List.mem_of_getElem? (i := 1500) (by decide +kernel), List.mem_of_getElem? (i := 1926) (by decide +kernel), List.mem_of_getElem? (i := 1927) (by decide +kernel)⟩
theorem lw_p75 : lw_okq (⟨"SheetFolderModel", "gaugeLaid", "(II)I"⟩, 31) := ⟨⟨by decide +kernel, by decide +kernel⟩, List.mem_of_getElem? (i := 1500) (by decide +kernel), List.mem_of_getElem? (i := 1930) (by decide +kernel), List.mem_of_getElem? (i := 1931) (by decide +kernel)⟩
theorem lw_p76 : lw_okq (⟨"SheetFolderModel", "isClamped", "(III)Z"⟩, 31) := ⟨⟨by decide +kernel, by decide +kernel⟩, List.mem_of_getElem? (i := 1500) (by decide +kernel), List.mem_of_getElem? (i := 1934) (by decide +kernel), List.mem_of_getElem? (i := 1935) (by decide +kernel)⟩
theorem lw_p77 : lw_okq (⟨"SheetFolderModel", "hittingLaid", "(IIZZ)I"⟩, 31) := ⟨⟨by decide +kernel, by decide +kernel⟩, List.mem_of_getElem? (i := 1500) (by decide +kernel), List.mem_of_getElem? (i := 1938) (by decide +kernel), List.mem_of_getElem? (i := 1939) (by decide +kernel)⟩
theorem lw_p78 : lw_okq (⟨"SheetFolderModel", "hits", "(IZ)Z"⟩, 31) := ⟨⟨by decide +kernel, by decide +kernel⟩, List.mem_of_getElem? (i := 1500) (by decide +kernel), List.mem_of_getElem? (i := 1942) (by decide +kernel), List.mem_of_getElem? (i := 1943) (by decide +kernel)⟩
theorem lw_p79 : lw_okq (⟨"SheetFolderModel", "hitsBeam", "(I)Z"⟩, 31) := ⟨⟨by decide +kernel, by decide +kernel⟩, List.mem_of_getElem? (i := 1500) (by decide +kernel), List.mem_of_getElem? (i := 1946) (by decide +kernel), List.mem_of_getElem? (i := 1947) (by decide +kernel)⟩
def lw_privs_5 : List (MethodName × Nat) := [(⟨"SheetFolderModel", "layLeg", "(II)V"⟩, 31), (⟨"SheetFolderModel", "isCrossed", "()Z"⟩, 31), (⟨"SheetFolderModel", "good", "(ZZ)Z"⟩, 31), (⟨"SheetFolderModel", "stepOf", "(II)I"⟩, 31), (⟨"SheetFolderModel", "sumOfCosts", "()I"⟩, 31), (⟨"SheetFolderModel", "reasonOf", "(III)I"⟩, 31), (⟨"SheetFolderModel", "isShort", "(II)Z"⟩, 31), (⟨"SheetFolderModel", "toolOf", "(II)I"⟩, 31), (⟨"SheetFolderModel", "laySheet", "(III)V"⟩, 31), (⟨"SheetFolderModel", "laySide", "(IIIIZI)V"⟩, 31), (⟨"SheetFolderModel", "isGaugeLaid", "(II)Z"⟩, 31), (⟨"SheetFolderModel", "gaugeLaid", "(II)I"⟩, 31), (⟨"SheetFolderModel", "isClamped", "(III)Z"⟩, 31), (⟨"SheetFolderModel", "hittingLaid", "(IIZZ)I"⟩, 31), (⟨"SheetFolderModel", "hits", "(IZ)Z"⟩, 31), (⟨"SheetFolderModel", "hitsBeam", "(I)Z"⟩, 31)]
theorem lw_r5 : ∀ q ∈ lw_privs_5, lw_okq q := List.forall_mem_cons.mpr ⟨lw_p64, List.forall_mem_cons.mpr ⟨lw_p65, List.forall_mem_cons.mpr ⟨lw_p66, List.forall_mem_cons.mpr ⟨lw_p67, List.forall_mem_cons.mpr ⟨lw_p68, List.forall_mem_cons.mpr ⟨lw_p69, List.forall_mem_cons.mpr ⟨lw_p70, List.forall_mem_cons.mpr ⟨lw_p71, List.forall_mem_cons.mpr ⟨lw_p72, List.forall_mem_cons.mpr ⟨lw_p73, List.forall_mem_cons.mpr ⟨lw_p74, List.forall_mem_cons.mpr ⟨lw_p75, List.forall_mem_cons.mpr ⟨lw_p76, List.forall_mem_cons.mpr ⟨lw_p77, List.forall_mem_cons.mpr ⟨lw_p78, List.forall_mem_cons.mpr ⟨lw_p79, fun _ h => absurd h List.not_mem_nil⟩⟩⟩⟩⟩⟩⟩⟩⟩⟩⟩⟩⟩⟩⟩⟩
theorem lw_p80 : lw_okq (⟨"SheetFolderModel", "isInside", "(IIIII)Z"⟩, 31) := ⟨⟨by decide +kernel, by decide +kernel⟩, List.mem_of_getElem? (i := 1500) (by decide +kernel), List.mem_of_getElem? (i := 1950) (by decide +kernel), List.mem_of_getElem? (i := 1951) (by decide +kernel)⟩
theorem lw_p81 : lw_okq (⟨"SheetFolderModel", "hitsTable", "(I)Z"⟩, 31) := ⟨⟨by decide +kernel, by decide +kernel⟩, List.mem_of_getElem? (i := 1500) (by decide +kernel), List.mem_of_getElem? (i := 1957) (by decide +kernel), List.mem_of_getElem? (i := 1958) (by decide +kernel)⟩
theorem lw_p82 : lw_okq (⟨"SheetFolderModel", "hitsWing", "(I)Z"⟩, 31) := ⟨⟨by decide +kernel, by decide +kernel⟩, List.mem_of_getElem? (i := 1500) (by decide +kernel), List.mem_of_getElem? (i := 1961) (by decide +kernel), List.mem_of_getElem? (i := 1962) (by decide +kernel)⟩
theorem lw_p83 : lw_okq (⟨"SheetFolderModel", "gaugeOf", "(III)I"⟩, 31) := ⟨⟨by decide +kernel, by decide +kernel⟩, List.mem_of_getElem? (i := 1500) (by decide +kernel), List.mem_of_getElem? (i := 1969) (by decide +kernel), List.mem_of_getElem? (i := 1970) (by decide +kernel)⟩
theorem lw_p84 : lw_okq (⟨"SheetFolderModel", "costNow", "(II)I"⟩, 31) := ⟨⟨by decide +kernel, by decide +kernel⟩, List.mem_of_getElem? (i := 1500) (by decide +kernel), List.mem_of_getElem? (i := 2002) (by decide +kernel), List.mem_of_getElem? (i := 2003) (by decide +kernel)⟩
theorem lw_p85 : lw_okq (⟨"SheetFolderModel", "costBehind", "(IIIIII)I"⟩, 31) := ⟨⟨by decide +kernel, by decide +kernel⟩, List.mem_of_getElem? (i := 1500) (by decide +kernel), List.mem_of_getElem? (i := 2006) (by decide +kernel), List.mem_of_getElem? (i := 2007) (by decide +kernel)⟩
theorem lw_p86 : lw_okq (⟨"SheetFolderModel", "layOrders", "()V"⟩, 31) := ⟨⟨by decide +kernel, by decide +kernel⟩, List.mem_of_getElem? (i := 1500) (by decide +kernel), List.mem_of_getElem? (i := 2014) (by decide +kernel), List.mem_of_getElem? (i := 2015) (by decide +kernel)⟩
theorem lw_p87 : lw_okq (⟨"SheetFolderModel", "full", "()I"⟩, 31) := ⟨⟨by decide +kernel, by decide +kernel⟩, List.mem_of_getElem? (i := 1500) (by decide +kernel), List.mem_of_getElem? (i := 2018) (by decide +kernel), List.mem_of_getElem? (i := 2019) (by decide +kernel)⟩
theorem lw_p88 : lw_okq (⟨"SheetFolderModel", "isBehind", "(I)Z"⟩, 31) := ⟨⟨by decide +kernel, by decide +kernel⟩, List.mem_of_getElem? (i := 1500) (by decide +kernel), List.mem_of_getElem? (i := 2022) (by decide +kernel), List.mem_of_getElem? (i := 2023) (by decide +kernel)⟩
theorem lw_p89 : lw_okq (⟨"SheetFolderModel", "leastNow", "()I"⟩, 31) := ⟨⟨by decide +kernel, by decide +kernel⟩, List.mem_of_getElem? (i := 1500) (by decide +kernel), List.mem_of_getElem? (i := 2030) (by decide +kernel), List.mem_of_getElem? (i := 2031) (by decide +kernel)⟩
theorem lw_p90 : lw_okq (⟨"SheetFolderModel", "layCosts", "()V"⟩, 31) := ⟨⟨by decide +kernel, by decide +kernel⟩, List.mem_of_getElem? (i := 1500) (by decide +kernel), List.mem_of_getElem? (i := 2034) (by decide +kernel), List.mem_of_getElem? (i := 2035) (by decide +kernel)⟩
theorem lw_p91 : lw_okq (⟨"SheetFolderModel", "layCost", "(II)V"⟩, 31) := ⟨⟨by decide +kernel, by decide +kernel⟩, List.mem_of_getElem? (i := 1500) (by decide +kernel), List.mem_of_getElem? (i := 2038) (by decide +kernel), List.mem_of_getElem? (i := 2039) (by decide +kernel)⟩
theorem lw_p92 : lw_okq (⟨"SheetFolderModel", "gaugeLast", "(II)I"⟩, 31) := ⟨⟨by decide +kernel, by decide +kernel⟩, List.mem_of_getElem? (i := 1500) (by decide +kernel), List.mem_of_getElem? (i := 2044) (by decide +kernel), List.mem_of_getElem? (i := 2045) (by decide +kernel)⟩
theorem lw_p93 : lw_okq (⟨"SheetFolderModel", "isOrder", "()Z"⟩, 31) := ⟨⟨by decide +kernel, by decide +kernel⟩, List.mem_of_getElem? (i := 1500) (by decide +kernel), List.mem_of_getElem? (i := 2048) (by decide +kernel), List.mem_of_getElem? (i := 2049) (by decide +kernel)⟩
theorem lw_p94 : lw_okq (⟨"SheetFolderModel", "lastNow", "()I"⟩, 31) := ⟨⟨by decide +kernel, by decide +kernel⟩, List.mem_of_getElem? (i := 1500) (by decide +kernel), List.mem_of_getElem? (i := 2052) (by decide +kernel), List.mem_of_getElem? (i := 2053) (by decide +kernel)⟩
theorem lw_p95 : lw_okq (⟨"SheetFolderModel", "unmade", "()I"⟩, 31) := ⟨⟨by decide +kernel, by decide +kernel⟩, List.mem_of_getElem? (i := 1500) (by decide +kernel), List.mem_of_getElem? (i := 2060) (by decide +kernel), List.mem_of_getElem? (i := 2061) (by decide +kernel)⟩
def lw_privs_6 : List (MethodName × Nat) := [(⟨"SheetFolderModel", "isInside", "(IIIII)Z"⟩, 31), (⟨"SheetFolderModel", "hitsTable", "(I)Z"⟩, 31), (⟨"SheetFolderModel", "hitsWing", "(I)Z"⟩, 31), (⟨"SheetFolderModel", "gaugeOf", "(III)I"⟩, 31), (⟨"SheetFolderModel", "costNow", "(II)I"⟩, 31), (⟨"SheetFolderModel", "costBehind", "(IIIIII)I"⟩, 31), (⟨"SheetFolderModel", "layOrders", "()V"⟩, 31), (⟨"SheetFolderModel", "full", "()I"⟩, 31), (⟨"SheetFolderModel", "isBehind", "(I)Z"⟩, 31), (⟨"SheetFolderModel", "leastNow", "()I"⟩, 31), (⟨"SheetFolderModel", "layCosts", "()V"⟩, 31), (⟨"SheetFolderModel", "layCost", "(II)V"⟩, 31), (⟨"SheetFolderModel", "gaugeLast", "(II)I"⟩, 31), (⟨"SheetFolderModel", "isOrder", "()Z"⟩, 31), (⟨"SheetFolderModel", "lastNow", "()I"⟩, 31), (⟨"SheetFolderModel", "unmade", "()I"⟩, 31)]
theorem lw_r6 : ∀ q ∈ lw_privs_6, lw_okq q := List.forall_mem_cons.mpr ⟨lw_p80, List.forall_mem_cons.mpr ⟨lw_p81, List.forall_mem_cons.mpr ⟨lw_p82, List.forall_mem_cons.mpr ⟨lw_p83, List.forall_mem_cons.mpr ⟨lw_p84, List.forall_mem_cons.mpr ⟨lw_p85, List.forall_mem_cons.mpr ⟨lw_p86, List.forall_mem_cons.mpr ⟨lw_p87, List.forall_mem_cons.mpr ⟨lw_p88, List.forall_mem_cons.mpr ⟨lw_p89, List.forall_mem_cons.mpr ⟨lw_p90, List.forall_mem_cons.mpr ⟨lw_p91, List.forall_mem_cons.mpr ⟨lw_p92, List.forall_mem_cons.mpr ⟨lw_p93, List.forall_mem_cons.mpr ⟨lw_p94, List.forall_mem_cons.mpr ⟨lw_p95, fun _ h => absurd h List.not_mem_nil⟩⟩⟩⟩⟩⟩⟩⟩⟩⟩⟩⟩⟩⟩⟩⟩
theorem lw_p96 : lw_okq (⟨"SheetFolderModel", "bestStep", "(II)I"⟩, 31) := ⟨⟨by decide +kernel, by decide +kernel⟩, List.mem_of_getElem? (i := 1500) (by decide +kernel), List.mem_of_getElem? (i := 2068) (by decide +kernel), List.mem_of_getElem? (i := 2069) (by decide +kernel)⟩
theorem lw_p97 : lw_okq (⟨"SheetFolderModel", "layReached", "()V"⟩, 31) := ⟨⟨by decide +kernel, by decide +kernel⟩, List.mem_of_getElem? (i := 1500) (by decide +kernel), List.mem_of_getElem? (i := 2084) (by decide +kernel), List.mem_of_getElem? (i := 2085) (by decide +kernel)⟩
theorem lw_p98 : lw_okq (⟨"SheetFolderModel", "good", "(ZZZ)Z"⟩, 31) := ⟨⟨by decide +kernel, by decide +kernel⟩, List.mem_of_getElem? (i := 1500) (by decide +kernel), List.mem_of_getElem? (i := 2104) (by decide +kernel), List.mem_of_getElem? (i := 2105) (by decide +kernel)⟩
theorem lw_p99 : lw_okq (⟨"SheetFolderModel", "foldNow", "(II)I"⟩, 31) := ⟨⟨by decide +kernel, by decide +kernel⟩, List.mem_of_getElem? (i := 1500) (by decide +kernel), List.mem_of_getElem? (i := 2108) (by decide +kernel), List.mem_of_getElem? (i := 2109) (by decide +kernel)⟩
theorem lw_p100 : lw_okq (⟨"SheetFolderModel", "remember", "()V"⟩, 31) := ⟨⟨by decide +kernel, by decide +kernel⟩, List.mem_of_getElem? (i := 1500) (by decide +kernel), List.mem_of_getElem? (i := 2112) (by decide +kernel), List.mem_of_getElem? (i := 2113) (by decide +kernel)⟩
theorem lw_p101 : lw_okq (⟨"SheetFolderModel", "set", "(II)I"⟩, 31) := ⟨⟨by decide +kernel, by decide +kernel⟩, List.mem_of_getElem? (i := 1500) (by decide +kernel), List.mem_of_getElem? (i := 2129) (by decide +kernel), List.mem_of_getElem? (i := 2130) (by decide +kernel)⟩
theorem lw_p102 : lw_okq (⟨"SheetFolderModel", "putNumber", "(I)V"⟩, 31) := ⟨⟨by decide +kernel, by decide +kernel⟩, List.mem_of_getElem? (i := 1500) (by decide +kernel), List.mem_of_getElem? (i := 2160) (by decide +kernel), List.mem_of_getElem? (i := 2161) (by decide +kernel)⟩
theorem lw_p103 : lw_okq (⟨"SheetFolderModel", "put", "(I)V"⟩, 31) := ⟨⟨by decide +kernel, by decide +kernel⟩, List.mem_of_getElem? (i := 1500) (by decide +kernel), List.mem_of_getElem? (i := 2164) (by decide +kernel), List.mem_of_getElem? (i := 2165) (by decide +kernel)⟩
theorem lw_p104 : lw_okq (⟨"SheetFolderModel", "putBend", "(I)V"⟩, 31) := ⟨⟨by decide +kernel, by decide +kernel⟩, List.mem_of_getElem? (i := 1500) (by decide +kernel), List.mem_of_getElem? (i := 2168) (by decide +kernel), List.mem_of_getElem? (i := 2169) (by decide +kernel)⟩
theorem lw_p105 : lw_okq (⟨"SheetFolderModel", "putCost", "()V"⟩, 31) := ⟨⟨by decide +kernel, by decide +kernel⟩, List.mem_of_getElem? (i := 1500) (by decide +kernel), List.mem_of_getElem? (i := 2172) (by decide +kernel), List.mem_of_getElem? (i := 2173) (by decide +kernel)⟩
def lw_privs_7 : List (MethodName × Nat) := [(⟨"SheetFolderModel", "bestStep", "(II)I"⟩, 31), (⟨"SheetFolderModel", "layReached", "()V"⟩, 31), (⟨"SheetFolderModel", "good", "(ZZZ)Z"⟩, 31), (⟨"SheetFolderModel", "foldNow", "(II)I"⟩, 31), (⟨"SheetFolderModel", "remember", "()V"⟩, 31), (⟨"SheetFolderModel", "set", "(II)I"⟩, 31), (⟨"SheetFolderModel", "putNumber", "(I)V"⟩, 31), (⟨"SheetFolderModel", "put", "(I)V"⟩, 31), (⟨"SheetFolderModel", "putBend", "(I)V"⟩, 31), (⟨"SheetFolderModel", "putCost", "()V"⟩, 31)]
theorem lw_r7 : ∀ q ∈ lw_privs_7, lw_okq q := List.forall_mem_cons.mpr ⟨lw_p96, List.forall_mem_cons.mpr ⟨lw_p97, List.forall_mem_cons.mpr ⟨lw_p98, List.forall_mem_cons.mpr ⟨lw_p99, List.forall_mem_cons.mpr ⟨lw_p100, List.forall_mem_cons.mpr ⟨lw_p101, List.forall_mem_cons.mpr ⟨lw_p102, List.forall_mem_cons.mpr ⟨lw_p103, List.forall_mem_cons.mpr ⟨lw_p104, List.forall_mem_cons.mpr ⟨lw_p105, fun _ h => absurd h List.not_mem_nil⟩⟩⟩⟩⟩⟩⟩⟩⟩⟩
def lw_privs : List (MethodName × Nat) := lw_privs_1 ++ (lw_privs_2 ++ (lw_privs_3 ++ (lw_privs_4 ++ (lw_privs_5 ++ (lw_privs_6 ++ (lw_privs_7))))))
def lw_tbl : List Cond := k2_sels lw_privs ++ tables_1
theorem lw_privs_ok : ∀ q ∈ lw_privs, lw_okq q := by
  show ∀ q ∈ lw_privs_1 ++ (lw_privs_2 ++ (lw_privs_3 ++ (lw_privs_4 ++ (lw_privs_5 ++ (lw_privs_6 ++ (lw_privs_7)))))), lw_okq q
  exact List.forall_mem_append.mpr ⟨lw_r1, List.forall_mem_append.mpr ⟨lw_r2, List.forall_mem_append.mpr ⟨lw_r3, List.forall_mem_append.mpr ⟨lw_r4, List.forall_mem_append.mpr ⟨lw_r5, List.forall_mem_append.mpr ⟨lw_r6, lw_r7⟩⟩⟩⟩⟩⟩
/-- the streams that the claim lets the run draw from -/
abbrev lw_cs : List Choice := [Jvm.Choice.named "NaN.bits"]
theorem lw_bits : nanBits ∈ lw_cs := by first | decide | exact List.mem_cons_self | simp [lw_cs, nanBits]
end
section
/-! ===== BEGIN words of one list among another's, by their places ===== -/
theorem goodIn_r {big : List Cond} (ws : List Cond) (ps : List Nat) (hp : ws = ps.filterMap (fun i => big[i]?)) (h : ws.all goodWord = true) : GoodIn big ws := by
  intro w hw
  have h1 := List.all_eq_true.mp h w hw
  rw [hp] at hw
  obtain ⟨i, -, hi⟩ := List.mem_filterMap.mp hw
  have hm : w ∈ big := by first | exact List.mem_of_getElem? hi | exact List.getElem?_mem hi
  exact ⟨hm, good_of_word h1⟩
theorem goodIn_app {big a b : List Cond} (ha : GoodIn big a) (hb : GoodIn big b) : GoodIn big (a ++ b) := fun w h => (List.mem_append.mp h).elim (ha w) (hb w)
theorem goodIn_ca {big a b : List Cond} {c : Cond} (ha : GoodIn big (c :: a)) (hb : GoodIn big b) : GoodIn big (c :: (a ++ b)) := fun w h => (List.mem_cons.mp h).elim (fun e => ha w (List.mem_cons.mpr (Or.inl e))) (fun h => (List.mem_append.mp h).elim (fun h => ha w (List.mem_cons.mpr (Or.inr h))) (hb w))
theorem goodIn_sub {big ws : List Cond} (hm : ∀ w ∈ ws, w ∈ big) (h : ws.all goodWord = true) : GoodIn big ws := fun w hw => ⟨hm w hw, good_of_word (List.all_eq_true.mp h w hw)⟩
/-! ===== END ===== -/

/-! ===== BEGIN exceptions that leave a method, and their catching by the caller (launches without stack traces) ===== -/
section VXA
/-! The laws vx_back, vx_callV, vx_callS, vx_callSW, vx_throw0, vx_throwS follow proofs of the library, with one case more: JvmDerived/Free/Laws.lean (Back.of_free), Shelf42/LK1.lean (callV, callS), Shelf/KitTraced.lean (throwNew0V, throwNewS). -/
/-- where a method has thrown q: the class by its name, the cell, what was written, the world -/
def vx_T (XC : String → State → State → Prop) (st : State) (q : Addr) (t : State) (mc ms : Nat) (free : Addr → Prop) : Prop :=
  ∃ (E : String) (ce : Cell) (L : List Loc), XC E st t ∧ t.heap[q]? = some ce ∧ ce.vm = .none ∧ st.vm.findClass E = some ce.cls ∧ st.WarmedH t.vm ∧ st.sameButNew ({ t with vm := st.vm } : State) L mc ms ∧ ∀ z ∈ L, free z.base
def vx_Q (Qc : Array Value → State → Outcome → State → Prop) (XC : String → State → State → Prop) (mc ms : Nat) (free : Addr → Prop) : Array Value → State → Outcome → State → Prop := fun a st o t =>
  (Qc a st o t ∧ ∃ L, FrameEnd st o t L mc ms ∧ ∀ q ∈ L, free q.base) ∨ ∃ q, o = .threw q ∧ vx_T XC st q t mc ms free
/-- a callee that returns or throws -/
def vx_Met (l : Launch) (y : MethodName) (ws : List Cond) (rm : Room) (Pc : Array Value → State → Prop) (Qc : Array Value → State → Outcome → State → Prop) (XC : String → State → State → Prop) (mc ms : Nat) (free : Addr → Prop) : Prop :=
  MetFree l y (headSpec ws rm) Pc (fun _ _ _ _ _ => True) (vx_Q Qc XC mc ms free)
def vx_Post (XC : String → State → State → Prop) (mc ms : Nat) (free : Addr → Prop) : Pt → Array Value → Addr → Pt → Prop := fun A a q B =>
  ∃ (g : JFrame) (mk : MethodId) (t : State) (L : List Loc) (E : String) (ce : Cell), B.U.heap = t.heap ∧ B.U.vm = t.vm ∧ XC E (A.U.calling g mk a) t ∧ t.heap[q]? = some ce ∧ ce.vm = .none ∧ A.U.vm.findClass E = some ce.cls ∧ B.locs = A.locs ++ L ∧ (∀ z ∈ L, free z.base) ∧ B.cells = A.cells + mc ∧ B.slots = A.slots + ms
def vx_Back (l : Launch) (R : Room) (p : Program) (e : Env) (below : List Frame) (s : State) (sargs : Array Value) (y : MethodName) (len W9 : Nat)
    (Pre : Pt → Array Value → Prop) (Post : Pt → Array Value → Option Value → Pt → Prop) (PostX : Pt → Array Value → Addr → Pt → Prop) : Prop :=
  ∀ (m : MethodId) (meth : Method) (c : Code) (A : Pt) (g : JFrame) (ig : Instr) (mk : MethodId) (a : Array Value),
    Stand p l e R s m sargs below meth c A.U A.locs A.cells A.slots → g.method = m → g.locals.size = c.maxLocals → decode c.code g.pc = .ok (ig, len) →
    2 * g.monitorRoom + (g.stack.map fun v => v.category).sum ≤ W9 → A.U.methodNamed? y = some mk → Pre A a →
    (∃ (v : Option Value) (B : Pt), Stand p l e R s m sargs below meth c B.U B.locs B.cells B.slots ∧ Post A a v B ∧
      Steps p.tables e below (doInvoke e (A.U.setTop g) [] mk a).1 (B.U.setTop { g with pc := g.pc + len, stack := v.toList ++ g.stack })) ∨
    (∃ (q : Addr) (B : Pt), Stand p l e R s m sargs below meth c B.U B.locs B.cells B.slots ∧ PostX A a q B ∧
      Steps p.tables e below (doInvoke e (A.U.setTop g) [] mk a).1 ((B.U.setTop g).pushFrame (.throwing q)))
section Payer
variable {l : Launch} {R : Room} {p : Program} {e : Env} {below : List Frame} {s : State} {sargs : Array Value} {y : MethodName} {len W9 : Nat}
theorem vx_back {ws : List Cond} {rm : Room} {Pc : Array Value → State → Prop} {Qc : Array Value → State → Outcome → State → Prop} {XC : String → State → State → Prop} {mc ms : Nat} {free : Addr → Prop} {bytes : ByteArray} {maxL : Nat} {ret : Option FieldType}
    (hM : vx_Met l y ws rm Pc Qc XC mc ms free) (hblind : FrameBlind Pc) (hrc : rm.cells = mc) (hrs : rm.slots = ms)
    (hframes : rm.frames + 1 ≤ R.frames) (hlocals : W9 + (maxL + 11) + rm.locals ≤ R.locals)
    (hws : ∀ w ∈ ws, ∀ a' U, s.WarmedH U.vm → w.before a' U = true) (hcode : Cond.code y bytes maxL ret ∈ ws) (hinit : ∀ a' U, s.WarmedH U.vm → (Cond.initialized y.cls).before a' U = true) :
    vx_Back l R p e below s sargs y len W9 (PreOf R mc ms Pc) (PostOf Qc mc ms free) (vx_Post XC mc ms free) := by
  intro m meth c A g ig mk a X hg hsize hdg hW hn hp
  have h1 : (headSpec ws rm).pre.before a A.U = true := atoms_intro fun w hw => hws w hw _ _ X.warmed
  have h2 : (Cond.code y bytes maxL ret).before a A.U = true := hws _ hcode _ _ X.warmed
  have h3 : (Cond.initialized y.cls).before a A.U = true := hinit _ _ X.warmed
  have h4 : A.cells + (headSpec ws rm).room.cells ≤ R.cells := by rw [show (headSpec ws rm).room.cells = mc from hrc]; exact hp.1
  have h5 : A.slots + (headSpec ws rm).room.slots ≤ R.slots := by rw [show (headSpec ws rm).room.slots = ms from hrs]; exact hp.2.1
  have hPc : Pc a (A.U.calling g mk a) := hblind _ _ _ _ hp.2.2
  obtain ⟨U, Ls, c0, s0⟩ := A
  dsimp only [Pt.U, Pt.locs, Pt.cells, Pt.slots] at h1 h2 h3 h4 h5 X hn hPc ⊢
  obtain ⟨methY, cY, hmY, hcY, -, hlY, -, -, -, -⟩ := Cond.code_spec hn h2
  obtain ⟨kY, hkY, -⟩ := className_of_methodNamed hn
  have hinitY : kY.init = .initialized := Cond.initialized_spec (findClass_of_methodNamed hn) hkY h3
  have h : At U g.method c below := by rw [hg]; exact X.here
  have hlocals9 : W9 + (maxL + 11) + (headSpec ws rm).room.locals ≤ R.locals := hlocals
  have happ : (headSpec ws rm).appliesLoose y e.platform (U.calling g mk a) = true :=
    Spec.appliesLoose_calling (g := g) h hdg hn hkY hinitY
      (X.room_calling (g := g) (R' := (headSpec ws rm).room) hsize hmY hcY hframes (by rw [hlY]; omega) h4 h5) h1
  obtain ⟨mid, hmid⟩ := h.above
  have hfr : (U.setTop g).frames = (.java g :: mid) ++ below := by rw [State.frames_setTop' g h.top, hmid]; rfl
  obtain ⟨o, s₂, hsteps, -, hend, hq⟩ := Steps.callFree hM p X.admits X.cas X.clock (acts := []) hfr happ hPc trivial
  have hq' : vx_Q Qc XC mc ms free a (U.calling g mk a) o s₂ := hq
  rw [State.frames_setTop' g h.top] at hend
  obtain ⟨g₀, hg0⟩ := Option.isSome_iff_exists.mp h.top
  obtain ⟨r, hr⟩ := State.topJava?_eq_some.mp hg0
  have hr' : (({ U with heap := s₂.heap, slotsUsed := s₂.slotsUsed } : State).setVm s₂.vm).frames = .java g₀ :: r := hr
  rcases hq' with ⟨hqc, L, hfe, hL⟩ | ⟨q, rfl, E, ce, L, hx, hce, hcv, hcl, hW₂, hsm, hL⟩
  · obtain ⟨⟨v, rfl⟩, hW₂, e2, q2, q3, q4, q5, q6⟩ := id hfe
    have e3 : s₂ = ({ (U.calling g mk a).setFrames s₂.frames with heap := s₂.heap, slotsUsed := s₂.slotsUsed } : State).setVm s₂.vm := by
      have : s₂ = ({ s₂ with vm := (U.calling g mk a).vm } : State).setVm s₂.vm := rfl
      rw [e2] at this
      exact this
    obtain ⟨c₂, i₂, len₂, hc₂, hd₂, hf₂⟩ := hend
    have hW' : U.WarmedH s₂.vm := hW₂
    have hcc : c₂ = c := by
      have h1 : s₂.code? g.method = U.code? g.method := by
        rw [State.code?_eq, State.code?_eq, hW'.alike.method?]
      exact Option.some.inj (hc₂.symm.trans (h1.trans h.code))
    subst hcc
    have hlen : len₂ = len := by rw [hdg] at hd₂; cases hd₂; rfl
    subst hlen
    have hs₂ : s₂ = (({ U with heap := s₂.heap, slotsUsed := s₂.slotsUsed } : State).setVm s₂.vm).setTop { g with pc := g.pc + len₂, stack := v.toList ++ g.stack } := by
      refine e3.trans ?_
      rw [hf₂, State.calling_eq h.top, State.setFrames_setFrames, State.setTop_of_frames _ hr', hr]
      rfl
    have hsame : U.sameButNew ({ U with heap := s₂.heap, slotsUsed := s₂.slotsUsed } : State) L mc ms := by
      refine ⟨?_, q2, q3, q4, q5, q6⟩
      obtain ⟨t, ht, -⟩ := State.frames_cons hr
      show ({ U with heap := s₂.heap, slotsUsed := s₂.slotsUsed } : State) = { U.setFrames U.frames with heap := s₂.heap, slotsUsed := s₂.slotsUsed }
      rw [State.setFrames_self ht]
    subst hg
    refine Or.inl ⟨v, ⟨(({ U with heap := s₂.heap, slotsUsed := s₂.slotsUsed } : State).setVm s₂.vm), Ls ++ L, c0 + mc, s0 + ms⟩,
      ⟨X.admits, X.cas, X.clock, X.frames, X.room, X.hears, X.method, X.code, (X.here.setHeapUsed s₂.heap s₂.slotsUsed).setVm hW'.alike, X.tail, State.WarmedH.trans X.warmed hW', X.limits, X.bytes, X.same.trans (hsame.setVm s.vm)⟩,
      ⟨g, mk, s₂, L, rfl, rfl, hqc, rfl, hL, rfl, rfl⟩, ?_⟩
    show Steps p.tables e below _ ((({ U with heap := s₂.heap, slotsUsed := s₂.slotsUsed } : State).setVm s₂.vm).setTop { g with pc := g.pc + len₂, stack := v.toList ++ g.stack })
    rw [← hs₂]
    exact hsteps
  · obtain ⟨e2, q2, q3, q4, q5, q6⟩ := id hsm
    have e3 : s₂ = ({ (U.calling g mk a).setFrames s₂.frames with heap := s₂.heap, slotsUsed := s₂.slotsUsed } : State).setVm s₂.vm := by
      have : s₂ = ({ s₂ with vm := (U.calling g mk a).vm } : State).setVm s₂.vm := rfl
      rw [e2] at this
      exact this
    have hf₂ : s₂.frames = .throwing q :: .java g :: U.frames.tail := hend
    have hW' : U.WarmedH s₂.vm := hW₂
    have hs₂ : s₂ = ((({ U with heap := s₂.heap, slotsUsed := s₂.slotsUsed } : State).setVm s₂.vm).setTop g).pushFrame (.throwing q) := by
      refine e3.trans ?_
      rw [hf₂, State.calling_eq h.top, State.setFrames_setFrames, State.pushFrame, State.frames_setTop _ hr', State.setTop_of_frames _ hr', State.setFrames_setFrames, hr]
      rfl
    have hsame : U.sameButNew ({ U with heap := s₂.heap, slotsUsed := s₂.slotsUsed } : State) L mc ms := by
      refine ⟨?_, q2, q3, q4, q5, q6⟩
      obtain ⟨t, ht, -⟩ := State.frames_cons hr
      show ({ U with heap := s₂.heap, slotsUsed := s₂.slotsUsed } : State) = { U.setFrames U.frames with heap := s₂.heap, slotsUsed := s₂.slotsUsed }
      rw [State.setFrames_self ht]
    subst hg
    refine Or.inr ⟨q, ⟨(({ U with heap := s₂.heap, slotsUsed := s₂.slotsUsed } : State).setVm s₂.vm), Ls ++ L, c0 + mc, s0 + ms⟩,
      ⟨X.admits, X.cas, X.clock, X.frames, X.room, X.hears, X.method, X.code, (X.here.setHeapUsed s₂.heap s₂.slotsUsed).setVm hW'.alike, X.tail, State.WarmedH.trans X.warmed hW', X.limits, X.bytes, X.same.trans (hsame.setVm s.vm)⟩,
      ⟨g, mk, s₂, L, E, ce, rfl, rfl, hx, hce, hcv, hcl, rfl, hL, rfl, rfl⟩, ?_⟩
    show Steps p.tables e below _ (((({ U with heap := s₂.heap, slotsUsed := s₂.slotsUsed } : State).setVm s₂.vm).setTop g).pushFrame (.throwing q))
    rw [← hs₂]
    exact hsteps
end Payer
section Calls
variable {p : Program} {l : Launch} {e : Env} {R : Room} {s : State} {m : MethodId} {args : Array Value} {below : List Frame} {meth : Method} {c : Code} {T : State} {locs : List Loc} {cells slots : Nat}
theorem vx_callV (X : Stand p l e R s m args below meth c T locs cells slots) (hexec : p.tables.exec = Jvm.exec) {own C : String} {index : Nat} {y : MethodName} {bytes : ByteArray} {maxL : Nat} {ret : Option FieldType}
    (hown : s.vm.findClass own = some m.cls) (hlink : (Cond.methodLink own index y).before args s = true) (hinst : (Cond.instanceMethod y).before args s = true) (hsel : (Cond.selects C y y).before args s = true)
    (hcode : (Cond.code y bytes maxL ret).before args s = true) (hy : y.cls ≠ "java/lang/invoke/MethodHandle" ∧ y.cls ≠ "java/lang/invoke/VarHandle")
    {W9 : Nat} {Pre : Pt → Array Value → Prop} {Post : Pt → Array Value → Option Value → Pt → Prop} {PostX : Pt → Array Value → Addr → Pt → Prop} (hK : vx_Back l R p e below s args y 3 W9 Pre Post PostX)
    {b : Addr} {cellB : Cell} (hcell : T.heap[b]? = some cellB) (hobj : cellB.vm.isStatics = false) (hcls : s.vm.findClass C = some cellB.cls)
    {g : JFrame} (hg : g.method = m) (hsize : g.locals.size = c.maxLocals) {argsL rest : List Value} (hlen : ∀ sig, parseMethodDescriptor y.desc = some sig → argsL.length = sig.parameters.length)
    (hstack : g.stack = argsL.reverse ++ .ref b :: rest) (hW : 2 * g.monitorRoom + (rest.map fun v => v.category).sum ≤ W9) (hdg : decode c.code g.pc = .ok (.invokevirtual index, 3))
    (hpre : ∀ vm₁, s.WarmedH vm₁ → Pre ⟨T.setVm vm₁, locs, cells, slots⟩ (Value.ref b :: argsL).toArray) :
    (∃ (v : Option Value) (vm₁ : Vm) (B : Pt), s.WarmedH vm₁ ∧ Stand p l e R s m args below meth c B.U B.locs B.cells B.slots ∧ Post ⟨T.setVm vm₁, locs, cells, slots⟩ (Value.ref b :: argsL).toArray v B ∧
      ∀ target, Steps p.tables e below (B.U.setTop { g with pc := g.pc + 3, stack := v.toList ++ rest }) target → Steps p.tables e below (T.setTop g) target) ∨
    (∃ (q : Addr) (vm₁ : Vm) (B : Pt), s.WarmedH vm₁ ∧ Stand p l e R s m args below meth c B.U B.locs B.cells B.slots ∧ PostX ⟨T.setVm vm₁, locs, cells, slots⟩ (Value.ref b :: argsL).toArray q B ∧
      Steps p.tables e below (T.setTop g) ((B.U.setTop { g with stack := rest }).pushFrame (.throwing q))) := by
  obtain ⟨mk, methM, hnamed, hmethM, hstM, habM⟩ := Cond.instanceMethod_spec hinst
  obtain ⟨methM', cM, hmethM', -, -, -, -, -, -, hsigM⟩ := Cond.code_spec hnamed hcode
  cases hmethM.symm.trans hmethM'
  obtain ⟨c2, r2, m2, q1, q2, q3, q4, kP, hkP, hkPi⟩ := Cond.selects_spec hsel
  cases hcls.symm.trans q1
  cases (State.methodFound?_of_named hnamed hy).symm.trans q2
  cases hnamed.symm.trans q3
  have hselP : selectMethod e.platform s.vm cellB.cls mk = .method mk := by rw [Launch.admits_selectMethod X.admits]; exact q4
  obtain ⟨vm₁, X₁, hstep₁⟩ := X.invokevirtual hexec hown hlink hnamed hmethM hstM hkP hkPi hy (a := b) (cell := cellB) hcell
    (fun z h => by rw [h] at hobj; cases hobj) hselP hmethM habM hkP hkPi (g := g) hg (argsL := argsL) (rest := rest) (hlen _ hsigM) hstack hdg
  rcases hK m meth c ⟨T.setVm vm₁, locs, cells, slots⟩ { g with stack := rest } (.invokevirtual index) mk (Value.ref b :: argsL).toArray X₁ hg hsize hdg hW (X₁.named hnamed) (hpre vm₁ X₁.warmed) with ⟨v, B, X', hpost, hsteps⟩ | ⟨q, B, X', hpost, hsteps⟩
  · exact Or.inl ⟨v, vm₁, B, X₁.warmed, X', hpost, fun target h => hstep₁ _ fun acts => by rw [doInvoke_state]; exact hsteps.trans h⟩
  · exact Or.inr ⟨q, vm₁, B, X₁.warmed, X', hpost, hstep₁ _ fun acts => by rw [doInvoke_state]; exact hsteps⟩
theorem vx_callS (X : Stand p l e R s m args below meth c T locs cells slots) (hexec : p.tables.exec = Jvm.exec) {own : String} {index : Nat} {y : MethodName} {bytes : ByteArray} {maxL : Nat} {ret : Option FieldType}
    (hown : s.vm.findClass own = some m.cls) (hlink : (Cond.methodLink own index y).before args s = true) (hstat : (Cond.static y).before args s = true) (hinit : (Cond.initialized y.cls).before args s = true)
    (hcode : (Cond.code y bytes maxL ret).before args s = true) (hy : y.cls ≠ "java/lang/invoke/MethodHandle" ∧ y.cls ≠ "java/lang/invoke/VarHandle")
    {W9 : Nat} {Pre : Pt → Array Value → Prop} {Post : Pt → Array Value → Option Value → Pt → Prop} {PostX : Pt → Array Value → Addr → Pt → Prop} (hK : vx_Back l R p e below s args y 3 W9 Pre Post PostX)
    {g : JFrame} (hg : g.method = m) (hsize : g.locals.size = c.maxLocals) {argsL rest : List Value} (hlen : ∀ sig, parseMethodDescriptor y.desc = some sig → argsL.length = sig.parameters.length)
    (hstack : g.stack = argsL.reverse ++ rest) (hW : 2 * g.monitorRoom + (rest.map fun v => v.category).sum ≤ W9) (hdg : decode c.code g.pc = .ok (.invokestatic index, 3))
    (hpre : ∀ vm₁, s.WarmedH vm₁ → Pre ⟨T.setVm vm₁, locs, cells, slots⟩ argsL.toArray) :
    (∃ (v : Option Value) (vm₁ : Vm) (B : Pt), s.WarmedH vm₁ ∧ Stand p l e R s m args below meth c B.U B.locs B.cells B.slots ∧ Post ⟨T.setVm vm₁, locs, cells, slots⟩ argsL.toArray v B ∧
      ∀ target, Steps p.tables e below (B.U.setTop { g with pc := g.pc + 3, stack := v.toList ++ rest }) target → Steps p.tables e below (T.setTop g) target) ∨
    (∃ (q : Addr) (vm₁ : Vm) (B : Pt), s.WarmedH vm₁ ∧ Stand p l e R s m args below meth c B.U B.locs B.cells B.slots ∧ PostX ⟨T.setVm vm₁, locs, cells, slots⟩ argsL.toArray q B ∧
      Steps p.tables e below (T.setTop g) ((B.U.setTop { g with stack := rest }).pushFrame (.throwing q))) := by
  obtain ⟨mk, hnamed⟩ := Cond.code_named hcode
  obtain ⟨methM, cM, hmethM, -, -, -, -, -, -, hsigM⟩ := Cond.code_spec hnamed hcode
  have hstatic : methM.isStatic = true := Cond.static_spec hnamed hmethM hstat
  obtain ⟨kP, hkP, -⟩ := className_of_methodNamed hnamed
  have hinitP : kP.init = .initialized := Cond.initialized_spec (findClass_of_methodNamed hnamed) hkP hinit
  obtain ⟨vm₁, X₁, hstep₁⟩ := X.invokestatic hexec hown hlink hnamed hmethM hstatic hkP hinitP hy (g := g) hg (argsL := argsL) (rest := rest) (hlen _ hsigM) hstack hdg
  rcases hK m meth c ⟨T.setVm vm₁, locs, cells, slots⟩ { g with stack := rest } (.invokestatic index) mk argsL.toArray X₁ hg hsize hdg hW (X₁.named hnamed) (hpre vm₁ X₁.warmed) with ⟨v, B, X', hpost, hsteps⟩ | ⟨q, B, X', hpost, hsteps⟩
  · exact Or.inl ⟨v, vm₁, B, X₁.warmed, X', hpost, fun target h => hstep₁ _ fun acts => by rw [doInvoke_state]; exact hsteps.trans h⟩
  · exact Or.inr ⟨q, vm₁, B, X₁.warmed, X', hpost, hstep₁ _ fun acts => by rw [doInvoke_state]; exact hsteps⟩
end Calls
theorem vx_cls {s : State} {T : State} {vm₁ : Vm} {E : String} {k : ClassId} (hW : s.WarmedH vm₁) (h : (T.setVm vm₁).vm.findClass E = some k) : s.vm.findClass E = some k := by
  have h1 : vm₁.findClass E = some k := h
  rw [hW.alike.findClass] at h1
  exact h1
/-- the method's frame g, with q thrown over it -/
def vx_W (p : Program) (l : Launch) (e : Env) (R : Room) (s : State) (m : MethodId) (args : Array Value) (below : List Frame) (meth : Method) (c : Code) (H : Heap) (locs : List Loc) (cells slots : Nat) (Q : State → Prop) (g : JFrame) (q : Addr) : Prop :=
  ∀ T : State, T.heap = H → Stand p l e R s m args below meth c T locs cells slots → ∃ t, Steps p.tables e below ((T.setTop g).pushFrame (.throwing q)) t ∧ Q t
def vx_Run (p : Program) (l : Launch) (e : Env) (R : Room) (s : State) (m : MethodId) (args : Array Value) (below : List Frame) (meth : Method) (c : Code) (H : Heap) (locs : List Loc) (cells slots mc ms : Nat) (g : JFrame) (rest : List Value) (Qa : State → Outcome → State → Prop) (XC : String → State → State → Prop) (free : Addr → Prop) : Prop :=
  ∀ T : State, T.heap = H → Stand p l e R s m args below meth c T locs cells slots →
    (∃ (v : Option Value) (st₀ t T' : State) (L : List Loc), st₀.heap = H ∧ Stand p l e R s m args below meth c T' (locs ++ L) (cells + mc) (slots + ms) ∧ (∀ q ∈ L, free q.base) ∧ T'.heap = t.heap ∧ T'.vm = t.vm ∧ Qa st₀ (.returned v) t ∧
      Goes p e below T g T' { g with pc := g.pc + 3, stack := v.toList ++ rest }) ∨
    (∃ (q : Addr) (st₀ t T' : State) (L : List Loc) (E : String) (ce : Cell), st₀.heap = H ∧ Stand p l e R s m args below meth c T' (locs ++ L) (cells + mc) (slots + ms) ∧ (∀ z ∈ L, free z.base) ∧ T'.heap = t.heap ∧ T'.vm = t.vm ∧ XC E st₀ t ∧ t.heap[q]? = some ce ∧ ce.vm = .none ∧ s.vm.findClass E = some ce.cls ∧
      Steps p.tables e below (T.setTop g) ((T'.setTop { g with stack := rest }).pushFrame (.throwing q)))
def vx_X {S : Type} (px : S → Prop) (B : String → S → State → Prop) (A : Nat → Prop) : String → State → State → Prop := fun E st t => ∃ u : S, px u ∧ B E u t ∧ va_F A st t
section Runs
variable {p : Program} {l : Launch} {e : Env} {R : Room} {s : State} {m : MethodId} {args : Array Value} {below : List Frame} {meth : Method} {c : Code} {H : Heap} {locs : List Loc} {cells slots : Nat}
variable {y : MethodName} {bytes cc : ByteArray} {maxL nL mc ms n index : Nat} {ret : Option FieldType} {ws : List Cond} {rm : Room} {Pc : Array Value → State → Prop} {Qc : Array Value → State → Outcome → State → Prop} {XC : String → State → State → Prop} {free : Addr → Prop} {Ts : List Cond} {own C : String} {b : Addr} {As rest : List Value} {g : JFrame}
theorem vx_callBack (cb : CallB R s args own index y bytes maxL ret ws rm mc ms n) (hM : vx_Met l y ws rm Pc Qc XC mc ms free) (hbl : FrameBlind Pc) : vx_Back l R p e below s args y 3 8 (PreOf R mc ms Pc) (PostOf Qc mc ms free) (vx_Post XC mc ms free) := by
  obtain ⟨hrc, hrs, hfr, hlo, hws, hcw, -, hini, -⟩ := cb
  exact vx_back (bytes := bytes) (maxL := maxL) (ret := ret) hM hbl hrc hrs hfr hlo hws hcw (fun a' U hW => word_at hW (Or.inl (by first | rfl | simp [Cond.onTables, Cond.keeps, Cond.steady])) hini)
theorem vx_runV (S : CallFix p m c cc nL s args Ts own) (hM : vx_Met l y ws rm Pc Qc XC mc ms free) (cw : CallW R s args own C index y bytes maxL ret ws rm mc ms n) (hp : PreV s H C b Pc As)
    (hg : g.method = m) (hn : As.length = n) (hsize : g.locals.size = nL) (hstack : g.stack = As.reverse ++ .ref b :: rest) (hW : 2 * g.monitorRoom + (rest.map fun v => v.category).sum ≤ 8) (hdg : decode cc g.pc = .ok (.invokevirtual index, 3)) (hf : cells + mc ≤ R.cells ∧ slots + ms ≤ R.slots) :
    vx_Run p l e R s m args below meth c H locs cells slots mc ms g rest (Qc (Value.ref b :: As).toArray) XC free := by
  have hK : vx_Back l R p e below s args y 3 8 (PreOf R mc ms Pc) (PostOf Qc mc ms free) (vx_Post XC mc ms free) := vx_callBack cw.1 hM hp.1
  obtain ⟨⟨-, -, -, -, -, -, hcode, -, hy, hlen, hl⟩, hin, hse⟩ := cw
  obtain ⟨hx, hb, hml, ho, -⟩ := S
  obtain ⟨-, ⟨cellB, hcB, hoB, hclB⟩, hPc⟩ := hp
  intro T hT X
  rcases vx_callV X hx (C := C) (bytes := bytes) (maxL := maxL) (ret := ret) ho hl hin hse hcode hy hK (by rw [hT]; exact hcB) hoB hclB hg (hsize.trans hml.symm) (argsL := As) (rest := rest) (fun sig h => hn.trans (hlen sig h)) hstack hW (by rw [hb]; exact hdg)
    (fun vm₁ hW₁ => ⟨hf.1, hf.2, hPc (T.setVm vm₁) hT hW₁⟩) with ⟨v, vm₁, ⟨U', l2, c2, s2⟩, hW₁, X', ⟨g', mk, t, L, e1, e2, hq, h1, hL, h2, h3⟩, st⟩ | ⟨q, vm₁, ⟨U', l2, c2, s2⟩, hW₁, X', ⟨g', mk, t, L, E, ce, e1, e2, hq, hce, hcv, hcl, h1, hL, h2, h3⟩, st⟩
  · dsimp only [Pt.U, Pt.locs, Pt.cells, Pt.slots] at X' e1 e2 h1 h2 h3 st
    subst h1; subst h2; subst h3
    exact Or.inl ⟨v, (T.setVm vm₁).calling g' mk (Value.ref b :: As).toArray, t, U', L, hT, X', hL, e1, e2, hq, st⟩
  · dsimp only [Pt.U, Pt.locs, Pt.cells, Pt.slots] at X' e1 e2 h1 h2 h3 st hcl
    subst h1; subst h2; subst h3
    exact Or.inr ⟨q, (T.setVm vm₁).calling g' mk (Value.ref b :: As).toArray, t, U', L, E, ce, hT, X', hL, e1, e2, hq, hce, hcv, vx_cls hW₁ hcl, st⟩
theorem vx_runS (S : CallFix p m c cc nL s args Ts own) (hM : vx_Met l y ws rm Pc Qc XC mc ms free) (cw : CallB R s args own index y bytes maxL ret ws rm mc ms n ∧ (Cond.static y).before args s = true) (hp : PreS s H Pc As)
    (hg : g.method = m) (hn : As.length = n) (hsize : g.locals.size = nL) (hstack : g.stack = As.reverse ++ rest) (hW : 2 * g.monitorRoom + (rest.map fun v => v.category).sum ≤ 8) (hdg : decode cc g.pc = .ok (.invokestatic index, 3)) (hf : cells + mc ≤ R.cells ∧ slots + ms ≤ R.slots) :
    vx_Run p l e R s m args below meth c H locs cells slots mc ms g rest (Qc As.toArray) XC free := by
  have hK : vx_Back l R p e below s args y 3 8 (PreOf R mc ms Pc) (PostOf Qc mc ms free) (vx_Post XC mc ms free) := vx_callBack cw.1 hM hp.1
  obtain ⟨⟨-, -, -, -, -, -, hcode, hini, hy, hlen, hl⟩, hstt⟩ := cw
  obtain ⟨hx, hb, hml, ho, -⟩ := S
  intro T hT X
  rcases vx_callS X hx (bytes := bytes) (maxL := maxL) (ret := ret) ho hl hstt hini hcode hy hK hg (hsize.trans hml.symm) (argsL := As) (rest := rest) (fun sig h => hn.trans (hlen sig h)) hstack hW (by rw [hb]; exact hdg)
    (fun vm₁ hW₁ => ⟨hf.1, hf.2, hp.2 (T.setVm vm₁) hT hW₁⟩) with ⟨v, vm₁, ⟨U', l2, c2, s2⟩, hW₁, X', ⟨g', mk, t, L, e1, e2, hq, h1, hL, h2, h3⟩, st⟩ | ⟨q, vm₁, ⟨U', l2, c2, s2⟩, hW₁, X', ⟨g', mk, t, L, E, ce, e1, e2, hq, hce, hcv, hcl, h1, hL, h2, h3⟩, st⟩
  · dsimp only [Pt.U, Pt.locs, Pt.cells, Pt.slots] at X' e1 e2 h1 h2 h3 st
    subst h1; subst h2; subst h3
    exact Or.inl ⟨v, (T.setVm vm₁).calling g' mk As.toArray, t, U', L, hT, X', hL, e1, e2, hq, st⟩
  · dsimp only [Pt.U, Pt.locs, Pt.cells, Pt.slots] at X' e1 e2 h1 h2 h3 st hcl
    subst h1; subst h2; subst h3
    exact Or.inr ⟨q, (T.setVm vm₁).calling g' mk As.toArray, t, U', L, E, ce, hT, X', hL, e1, e2, hq, hce, hcv, vx_cls hW₁ hcl, st⟩
end Runs
section Rows
variable {p : Program} {l : Launch} {e : Env} {R : Room} {s : State} {m : MethodId} {args : Array Value} {below : List Frame} {meth : Method} {c : Code} {H : Heap} {locs : List Loc} {cells slots : Nat} {Q : State → Prop}
variable {mc ms : Nat} {free : Addr → Prop} {A0 A1 : Nat → Prop} {H0 : Heap} {a : Array Value} {pc : Nat} {ls : Array Slot} {st0 rest : List Value}
theorem vx_keep {st₀ t T' : State} {L : List Loc} (h0 : st₀.heap = H) (e1 : T'.heap = t.heap) (hS : va_S A0 H0 H locs) (hA : ∀ q, q < H.size → A1 q → A0 q) (hf : ∀ q, free q → A0 q) (hL : ∀ q ∈ L, free q.base) (hF : va_F A1 st₀ t) :
    H.size ≤ T'.heap.size ∧ (∀ q : Nat, q < H.size → ¬ A1 q → T'.heap[q]? = H[q]?) ∧ va_S A0 H0 T'.heap (locs ++ L) := by
  obtain ⟨hz, hk⟩ := hF
  rw [h0] at hz hk
  exact ⟨by rw [e1]; exact hz, fun q h1 h2 => by rw [e1]; exact hk q h1 h2,
    ⟨Nat.le_trans hS.1 (by rw [e1]; exact hz), fun q h1 h2 => by rw [e1, hk q (Nat.lt_of_lt_of_le h1 hS.1) (fun z => h2 (hA q (Nat.lt_of_lt_of_le h1 hS.1) z))]; exact hS.2.1 q h1 h2, fun q hq => by
      rcases List.mem_append.mp hq with h | h
      · exact hS.2.2 q h
      · exact hf _ (hL q h)⟩⟩
theorem vx_calli {S SX : Type} {post : Int32 → S → Prop} {px : SX → Prop} {B : S → State → Prop} {BX : String → SX → State → Prop} {AX : Nat → Prop} (hr : vx_Run p l e R s m args below meth c H locs cells slots mc ms (F0 m pc ls st0) rest (va_Qi post B A1 a) (vx_X px BX AX) free) (hS : va_S A0 H0 H locs) (hA : ∀ q, q < H.size → A1 q → A0 q) (hf : ∀ q, free q → A0 q) (hAX : ∀ q, q < H.size → AX q → A0 q)
    (kx : ∀ (E : String) (ce : Cell) (q9 : Addr) (u : SX) (t : State) (H1 : Heap) (locs1 : List Loc), t.heap = H1 → s.vm.Alike t.vm → px u → BX E u t → H.size ≤ H1.size → (∀ q : Nat, q < H.size → ¬ AX q → H1[q]? = H[q]?) → va_S A0 H0 H1 locs1 → H1[q9]? = some ce → ce.vm = .none → s.vm.findClass E = some ce.cls → vx_W p l e R s m args below meth c H1 locs1 (cells + mc) (slots + ms) Q (F0 m pc ls rest) q9)
    (kk : ∀ (r : Int32) (u : S) (t : State) (H1 : Heap) (locs1 : List Loc), t.heap = H1 → s.vm.Alike t.vm → post r u → B u t → H.size ≤ H1.size → (∀ q : Nat, q < H.size → ¬ A1 q → H1[q]? = H[q]?) → va_S A0 H0 H1 locs1 → W p l e R s m args below meth c H1 locs1 (cells + mc) (slots + ms) Q (F0 m (pc + 3) ls (.int r :: rest))) : W p l e R s m args below meth c H locs cells slots Q (F0 m pc ls st0) := by
  intro T hT X
  rcases hr T hT X with ⟨v, st₀, t, T', L, h0, X', hL, e1, e2, ⟨⟨r, u, hv, hp, hb⟩, hF⟩, st⟩ | ⟨q, st₀, t, T', L, E, ce, h0, X', hL, e1, e2, ⟨u, hp, hb, hF⟩, hce, hcv, hcl, st⟩
  · cases hv
    obtain ⟨k1, k2, k3⟩ := vx_keep h0 e1 hS hA hf hL hF
    obtain ⟨t2, a1, b1⟩ := kk r u t T'.heap (locs ++ L) e1.symm (by rw [← e2]; exact X'.warmed.alike) hp hb k1 k2 k3 T' rfl X'
    exact ⟨t2, st t2 a1, b1⟩
  · obtain ⟨k1, k2, k3⟩ := vx_keep h0 e1 hS hAX hf hL hF
    obtain ⟨t2, a1, b1⟩ := kx E ce q u t T'.heap (locs ++ L) e1.symm (by rw [← e2]; exact X'.warmed.alike) hp hb k1 k2 k3 (by rw [e1]; exact hce) hcv hcl T' rfl X'
    exact ⟨t2, st.trans a1, b1⟩
theorem vx_calll {S SX : Type} {post : Int64 → S → Prop} {px : SX → Prop} {B : S → State → Prop} {BX : String → SX → State → Prop} {AX : Nat → Prop} (hr : vx_Run p l e R s m args below meth c H locs cells slots mc ms (F0 m pc ls st0) rest (va_Ql post B A1 a) (vx_X px BX AX) free) (hS : va_S A0 H0 H locs) (hA : ∀ q, q < H.size → A1 q → A0 q) (hf : ∀ q, free q → A0 q) (hAX : ∀ q, q < H.size → AX q → A0 q)
    (kx : ∀ (E : String) (ce : Cell) (q9 : Addr) (u : SX) (t : State) (H1 : Heap) (locs1 : List Loc), t.heap = H1 → s.vm.Alike t.vm → px u → BX E u t → H.size ≤ H1.size → (∀ q : Nat, q < H.size → ¬ AX q → H1[q]? = H[q]?) → va_S A0 H0 H1 locs1 → H1[q9]? = some ce → ce.vm = .none → s.vm.findClass E = some ce.cls → vx_W p l e R s m args below meth c H1 locs1 (cells + mc) (slots + ms) Q (F0 m pc ls rest) q9)
    (kk : ∀ (r : Int64) (u : S) (t : State) (H1 : Heap) (locs1 : List Loc), t.heap = H1 → s.vm.Alike t.vm → post r u → B u t → H.size ≤ H1.size → (∀ q : Nat, q < H.size → ¬ A1 q → H1[q]? = H[q]?) → va_S A0 H0 H1 locs1 → W p l e R s m args below meth c H1 locs1 (cells + mc) (slots + ms) Q (F0 m (pc + 3) ls (.long r :: rest))) : W p l e R s m args below meth c H locs cells slots Q (F0 m pc ls st0) := by
  intro T hT X
  rcases hr T hT X with ⟨v, st₀, t, T', L, h0, X', hL, e1, e2, ⟨⟨r, u, hv, hp, hb⟩, hF⟩, st⟩ | ⟨q, st₀, t, T', L, E, ce, h0, X', hL, e1, e2, ⟨u, hp, hb, hF⟩, hce, hcv, hcl, st⟩
  · cases hv
    obtain ⟨k1, k2, k3⟩ := vx_keep h0 e1 hS hA hf hL hF
    obtain ⟨t2, a1, b1⟩ := kk r u t T'.heap (locs ++ L) e1.symm (by rw [← e2]; exact X'.warmed.alike) hp hb k1 k2 k3 T' rfl X'
    exact ⟨t2, st t2 a1, b1⟩
  · obtain ⟨k1, k2, k3⟩ := vx_keep h0 e1 hS hAX hf hL hF
    obtain ⟨t2, a1, b1⟩ := kx E ce q u t T'.heap (locs ++ L) e1.symm (by rw [← e2]; exact X'.warmed.alike) hp hb k1 k2 k3 (by rw [e1]; exact hce) hcv hcl T' rfl X'
    exact ⟨t2, st.trans a1, b1⟩
theorem vx_callf {S SX : Type} {post : UInt32 → S → Prop} {px : SX → Prop} {B : S → State → Prop} {BX : String → SX → State → Prop} {AX : Nat → Prop} (hr : vx_Run p l e R s m args below meth c H locs cells slots mc ms (F0 m pc ls st0) rest (va_Qf post B A1 a) (vx_X px BX AX) free) (hS : va_S A0 H0 H locs) (hA : ∀ q, q < H.size → A1 q → A0 q) (hf : ∀ q, free q → A0 q) (hAX : ∀ q, q < H.size → AX q → A0 q)
    (kx : ∀ (E : String) (ce : Cell) (q9 : Addr) (u : SX) (t : State) (H1 : Heap) (locs1 : List Loc), t.heap = H1 → s.vm.Alike t.vm → px u → BX E u t → H.size ≤ H1.size → (∀ q : Nat, q < H.size → ¬ AX q → H1[q]? = H[q]?) → va_S A0 H0 H1 locs1 → H1[q9]? = some ce → ce.vm = .none → s.vm.findClass E = some ce.cls → vx_W p l e R s m args below meth c H1 locs1 (cells + mc) (slots + ms) Q (F0 m pc ls rest) q9)
    (kk : ∀ (r : UInt32) (u : S) (t : State) (H1 : Heap) (locs1 : List Loc), t.heap = H1 → s.vm.Alike t.vm → post r u → B u t → H.size ≤ H1.size → (∀ q : Nat, q < H.size → ¬ A1 q → H1[q]? = H[q]?) → va_S A0 H0 H1 locs1 → W p l e R s m args below meth c H1 locs1 (cells + mc) (slots + ms) Q (F0 m (pc + 3) ls (.float r :: rest))) : W p l e R s m args below meth c H locs cells slots Q (F0 m pc ls st0) := by
  intro T hT X
  rcases hr T hT X with ⟨v, st₀, t, T', L, h0, X', hL, e1, e2, ⟨⟨r, u, hv, hp, hb⟩, hF⟩, st⟩ | ⟨q, st₀, t, T', L, E, ce, h0, X', hL, e1, e2, ⟨u, hp, hb, hF⟩, hce, hcv, hcl, st⟩
  · cases hv
    obtain ⟨k1, k2, k3⟩ := vx_keep h0 e1 hS hA hf hL hF
    obtain ⟨t2, a1, b1⟩ := kk r u t T'.heap (locs ++ L) e1.symm (by rw [← e2]; exact X'.warmed.alike) hp hb k1 k2 k3 T' rfl X'
    exact ⟨t2, st t2 a1, b1⟩
  · obtain ⟨k1, k2, k3⟩ := vx_keep h0 e1 hS hAX hf hL hF
    obtain ⟨t2, a1, b1⟩ := kx E ce q u t T'.heap (locs ++ L) e1.symm (by rw [← e2]; exact X'.warmed.alike) hp hb k1 k2 k3 (by rw [e1]; exact hce) hcv hcl T' rfl X'
    exact ⟨t2, st.trans a1, b1⟩
theorem vx_calld {S SX : Type} {post : UInt64 → S → Prop} {px : SX → Prop} {B : S → State → Prop} {BX : String → SX → State → Prop} {AX : Nat → Prop} (hr : vx_Run p l e R s m args below meth c H locs cells slots mc ms (F0 m pc ls st0) rest (va_Qd post B A1 a) (vx_X px BX AX) free) (hS : va_S A0 H0 H locs) (hA : ∀ q, q < H.size → A1 q → A0 q) (hf : ∀ q, free q → A0 q) (hAX : ∀ q, q < H.size → AX q → A0 q)
    (kx : ∀ (E : String) (ce : Cell) (q9 : Addr) (u : SX) (t : State) (H1 : Heap) (locs1 : List Loc), t.heap = H1 → s.vm.Alike t.vm → px u → BX E u t → H.size ≤ H1.size → (∀ q : Nat, q < H.size → ¬ AX q → H1[q]? = H[q]?) → va_S A0 H0 H1 locs1 → H1[q9]? = some ce → ce.vm = .none → s.vm.findClass E = some ce.cls → vx_W p l e R s m args below meth c H1 locs1 (cells + mc) (slots + ms) Q (F0 m pc ls rest) q9)
    (kk : ∀ (r : UInt64) (u : S) (t : State) (H1 : Heap) (locs1 : List Loc), t.heap = H1 → s.vm.Alike t.vm → post r u → B u t → H.size ≤ H1.size → (∀ q : Nat, q < H.size → ¬ A1 q → H1[q]? = H[q]?) → va_S A0 H0 H1 locs1 → W p l e R s m args below meth c H1 locs1 (cells + mc) (slots + ms) Q (F0 m (pc + 3) ls (.double r :: rest))) : W p l e R s m args below meth c H locs cells slots Q (F0 m pc ls st0) := by
  intro T hT X
  rcases hr T hT X with ⟨v, st₀, t, T', L, h0, X', hL, e1, e2, ⟨⟨r, u, hv, hp, hb⟩, hF⟩, st⟩ | ⟨q, st₀, t, T', L, E, ce, h0, X', hL, e1, e2, ⟨u, hp, hb, hF⟩, hce, hcv, hcl, st⟩
  · cases hv
    obtain ⟨k1, k2, k3⟩ := vx_keep h0 e1 hS hA hf hL hF
    obtain ⟨t2, a1, b1⟩ := kk r u t T'.heap (locs ++ L) e1.symm (by rw [← e2]; exact X'.warmed.alike) hp hb k1 k2 k3 T' rfl X'
    exact ⟨t2, st t2 a1, b1⟩
  · obtain ⟨k1, k2, k3⟩ := vx_keep h0 e1 hS hAX hf hL hF
    obtain ⟨t2, a1, b1⟩ := kx E ce q u t T'.heap (locs ++ L) e1.symm (by rw [← e2]; exact X'.warmed.alike) hp hb k1 k2 k3 (by rw [e1]; exact hce) hcv hcl T' rfl X'
    exact ⟨t2, st.trans a1, b1⟩
theorem vx_callv {S SX : Type} {post : S → Prop} {px : SX → Prop} {B : S → State → Prop} {BX : String → SX → State → Prop} {AX : Nat → Prop} (hr : vx_Run p l e R s m args below meth c H locs cells slots mc ms (F0 m pc ls st0) rest (va_Qv post B A1 a) (vx_X px BX AX) free) (hS : va_S A0 H0 H locs) (hA : ∀ q, q < H.size → A1 q → A0 q) (hf : ∀ q, free q → A0 q) (hAX : ∀ q, q < H.size → AX q → A0 q)
    (kx : ∀ (E : String) (ce : Cell) (q9 : Addr) (u : SX) (t : State) (H1 : Heap) (locs1 : List Loc), t.heap = H1 → s.vm.Alike t.vm → px u → BX E u t → H.size ≤ H1.size → (∀ q : Nat, q < H.size → ¬ AX q → H1[q]? = H[q]?) → va_S A0 H0 H1 locs1 → H1[q9]? = some ce → ce.vm = .none → s.vm.findClass E = some ce.cls → vx_W p l e R s m args below meth c H1 locs1 (cells + mc) (slots + ms) Q (F0 m pc ls rest) q9)
    (kk : ∀ (u : S) (t : State) (H1 : Heap) (locs1 : List Loc), t.heap = H1 → s.vm.Alike t.vm → post u → B u t → H.size ≤ H1.size → (∀ q : Nat, q < H.size → ¬ A1 q → H1[q]? = H[q]?) → va_S A0 H0 H1 locs1 → W p l e R s m args below meth c H1 locs1 (cells + mc) (slots + ms) Q (F0 m (pc + 3) ls (rest))) : W p l e R s m args below meth c H locs cells slots Q (F0 m pc ls st0) := by
  intro T hT X
  rcases hr T hT X with ⟨v, st₀, t, T', L, h0, X', hL, e1, e2, ⟨⟨u, hv, hp, hb⟩, hF⟩, st⟩ | ⟨q, st₀, t, T', L, E, ce, h0, X', hL, e1, e2, ⟨u, hp, hb, hF⟩, hce, hcv, hcl, st⟩
  · cases hv
    obtain ⟨k1, k2, k3⟩ := vx_keep h0 e1 hS hA hf hL hF
    obtain ⟨t2, a1, b1⟩ := kk u t T'.heap (locs ++ L) e1.symm (by rw [← e2]; exact X'.warmed.alike) hp hb k1 k2 k3 T' rfl X'
    exact ⟨t2, st t2 a1, b1⟩
  · obtain ⟨k1, k2, k3⟩ := vx_keep h0 e1 hS hAX hf hL hF
    obtain ⟨t2, a1, b1⟩ := kx E ce q u t T'.heap (locs ++ L) e1.symm (by rw [← e2]; exact X'.warmed.alike) hp hb k1 k2 k3 (by rw [e1]; exact hce) hcv hcl T' rfl X'
    exact ⟨t2, st.trans a1, b1⟩
/-- caught by the row x of this method's table; the rows ahead don't take it -/
theorem vx_catch {own name : String} {E : String} {ce : Cell} {q : Addr} (hown : s.vm.findClass own = some m.cls) (pre : List ExceptionTableEntry) (x : ExceptionTableEntry) (suf : List ExceptionTableEntry) (hsplit : c.exceptionTable.toList = pre ++ x :: suf)
    (hpass : ∀ z ∈ pre, covers z pc = false ∨ (z.catchType ≠ 0 ∧ ∃ nm : String, (Cond.classLink own z.catchType nm).before args s = true ∧ va_Nc E nm s)) (hx : covers x pc = true) (h0 : x.catchType ≠ 0)
    (hlink : (Cond.classLink own x.catchType name).before args s = true) (hcast : (Cond.castable E name).before args s = true) (hcell : H[q]? = some ce) (hv : ce.vm = .none) (hcl : s.vm.findClass E = some ce.cls)
    (kk : W p l e R s m args below meth c H locs cells slots Q (F0 m x.handlerPc ls [.ref q])) : vx_W p l e R s m args below meth c H locs cells slots Q (F0 m pc ls rest) q := by
  intro T hT X
  have hpl : e.platform.magicAccessors = ({} : Platform).magicAccessors := by rw [X.admits.platform]
  obtain ⟨c3, c4, hc3, hc4, hasg⟩ := Cond.castable_spec hcast
  cases Option.some.inj (hc3.symm.trans hcl)
  obtain ⟨c5, hc5, hcl5⟩ := Cond.classLink_spec hown hlink e.platform hpl
  cases Option.some.inj (hc4.symm.trans hc5)
  obtain ⟨vm', X', st⟩ := X.thenCaughtThrough q (g := F0 m pc ls rest) rfl (Steps.refl _) (by rw [hT]; exact hcell) (by rw [hv]; rfl) (by obtain ⟨k9, h9, -⟩ := Vm.findClass_spec hcl; exact ⟨k9, h9⟩) pre x suf hsplit
    (fun z hz => by
      rcases hpass z hz with h | ⟨hz0, nm, hl1, hn1⟩
      · exact Or.inl h
      · obtain ⟨c6, hc6, hcl6⟩ := Cond.classLink_spec hown hl1 e.platform hpl
        obtain ⟨a8, b8, h1, h2, h3⟩ := hn1
        cases Option.some.inj (h1.symm.trans hcl)
        cases Option.some.inj (h2.symm.trans hc6)
        exact Or.inr ⟨hz0, _, hcl6, h3⟩) hx (Or.inr ⟨h0, c4, hcl5, hasg⟩)
  obtain ⟨t, a1, b1⟩ := kk (T.setVm vm') hT X'
  exact ⟨t, st.trans a1, b1⟩
end Rows
section Ends
variable {p : Program} {l : Launch} {e : Env} {R : Room} {s : State} {m : MethodId} {args : Array Value} {below : List Frame} {meth : Method} {c : Code} {H : Heap} {locs : List Loc} {cells slots : Nat} {Q : State → Prop}
variable {mc ms : Nat} {free : Addr → Prop} {A0 A1 : Nat → Prop} {H0 : Heap} {a : Array Value} {ls : Array Slot} {st0 rest : List Value}
variable {Qc : Array Value → State → Outcome → State → Prop} {XC : String → State → State → Prop}
/-- what a body that may throw owes at its end -/
def vx_MQ (below : List Frame) (Qc : Array Value → State → Outcome → State → Prop) (XC : String → State → State → Prop) (a : Array Value) (s : State) (mc ms : Nat) (free : Addr → Prop) : State → Prop := fun t =>
  ∃ o, t.status = .running ∧ Ended t below o ∧ vx_Q Qc XC mc ms free a s o t
theorem vx_ret {g : JFrame} {mc ms : Nat} (k : W p l e R s m args below meth c H locs cells slots (MQ below Qc args s mc ms free) g) : W p l e R s m args below meth c H locs cells slots (vx_MQ below Qc XC args s mc ms free) g := by
  intro T hT X
  obtain ⟨t, a1, o, b1, b2, b3, b4⟩ := k T hT X
  exact ⟨t, a1, o, b1, b2, Or.inl ⟨b3, b4⟩⟩
/-- not caught here: it goes on to the caller -/
theorem vx_widen {g : JFrame} {q : Addr} {k n : Nat} (h1 : cells ≤ k) (h2 : slots ≤ n) (kk : vx_W p l e R s m args below meth c H locs k n Q g q) : vx_W p l e R s m args below meth c H locs cells slots Q g q := fun T hT X => kk T hT (stand_widen X h1 h2)
theorem vx_out {pc : Nat} {E : String} {ce : Cell} {q : Addr} {mc ms : Nat} (hout : ∀ x ∈ c.exceptionTable.toList, covers x pc = false) (hlocks : meth.locks = false) (hcell : H[q]? = some ce) (hv : ce.vm = .none) (hcl : s.vm.findClass E = some ce.cls)
    (hx : ∀ t : State, t.heap = H → s.vm.Alike t.vm → XC E s t) (hf : ∀ z ∈ locs, free z.base) (hc : cells ≤ mc) (hs : slots ≤ ms) :
    vx_W p l e R s m args below meth c H locs cells slots (vx_MQ below Qc XC args s mc ms free) (F0 m pc ls rest) q := by
  intro T hT X
  obtain ⟨st1, hrun, hend, hW, hsm⟩ := X.leaveThrown q (g := F0 m pc ls rest) rfl rfl rfl hout hlocks
  have hcell9 : (T.setFrames (.throwing q :: below)).heap[q]? = some ce := by
    show T.heap[q]? = some ce
    rw [hT]; exact hcell
  exact ⟨_, st1, .threw q, hrun, hend, Or.inr ⟨q, rfl, E, ce, locs, hx _ hT hW.alike, hcell9, hv, hcl, hW, hsm.mono hc hs, hf⟩⟩
theorem vx_frame {U : State} {k n : Nat} (h : s.sameButNew ({ U with vm := s.vm } : State) locs k n) : s.heap.size ≤ U.heap.size ∧ ∀ q : Nat, q < s.heap.size → (∀ z ∈ locs, z.base ≠ q) → U.heap[q]? = s.heap[q]? := by
  obtain ⟨-, h2, -, -, -, h6⟩ := h
  refine ⟨h2, fun q hq hz => ?_⟩
  obtain ⟨c9, e1, e2, e3, e4⟩ := h6 q _ (Array.getElem?_eq_getElem hq)
  have hs : c9.slots = (s.heap[q]).slots := Array.ext_getElem? fun i => e4 i fun hm => hz _ hm rfl
  have h9 : c9 = s.heap[q] := by
    rw [hs] at e2
    exact e2
  have e5 : U.heap[q]? = some c9 := e1
  rw [e5, h9, Array.getElem?_eq_getElem hq]
/-- the words of a throw but the four that speak of the heap -/
def vx_no (w : Cond) : Bool := decide (w ≠ .isRef (.static Bundle.tN "UNASSIGNED_STACK" Bundle.steD)) && decide (w ≠ .isRef (.static Bundle.tN "SUPPRESSED_SENTINEL" Bundle.listD)) && decide (w ≠ .laysStatic Bundle.tN "UNASSIGNED_STACK" Bundle.steD) && decide (w ≠ .laysStatic Bundle.tN "SUPPRESSED_SENTINEL" Bundle.listD)
def vx_at0 (own : String) (ic : Nat) (X : String) (names : List String) : List Cond := (Bundle.ownAtoms0 own ic X names).filter vx_no
def vx_atS (own : String) (ic : Nat) (X : String) (names : List String) : List Cond := (Bundle.ownAtoms own ic X names).filter vx_no
/-- a word that the tables alone decide, or a good one -/
def vx_ot (w : Cond) : Bool := w.onTables || goodWord w
theorem vx_ot_at {args a' : Array Value} {s U : State} {w : Cond} (hW : s.WarmedH U.vm) (hvm : s.vm = U.vm) (hg : vx_ot w = true) (h : w.before args s = true) : w.before a' U = true := by
  simp only [vx_ot, Bool.or_eq_true] at hg
  rcases hg with hg | hg
  · exact va_tabs hg hvm h
  · exact word_at hW (good_of_word hg) h
/-- a list's words: the good ones out of the method's own list, the others by premises of their own -/
theorem vx_hat {args : Array Value} {s : State} {L B : List Cond} (h1 : ∀ w ∈ L.filter goodWord, w.before args s = true) (h2 : ∀ w ∈ L.filter (fun w => !goodWord w), w ∈ B) (h3 : ∀ w ∈ B, w.before args s = true) : ∀ w ∈ L, w.before args s = true := by
  intro w hw
  by_cases g : goodWord w = true
  · exact h1 w (List.mem_filter.mpr ⟨hw, g⟩)
  · refine h3 w (h2 w (List.mem_filter.mpr ⟨hw, ?_⟩))
    show (!goodWord w) = true
    cases hgw : goodWord w
    · rfl
    · exact absurd hgw g
theorem vx_c {args : Array Value} {s : State} {w : Cond} {B : List Cond} (h : w.before args s = true) (t : ∀ w ∈ B, w.before args s = true) : ∀ w' ∈ w :: B, w'.before args s = true := fun w' h' => (List.mem_cons.mp h').elim (fun e => by rw [e]; exact h) (t w')
theorem vx_n {args : Array Value} {s : State} : ∀ w ∈ ([] : List Cond), w.before args s = true := fun _ h => nomatch h
theorem vx_own {args : Array Value} {s : State} {L : List Cond} (h1 : ∀ w ∈ L.filter vx_no, w.before args s = true)
    (hU : (Cond.isRef (.static Bundle.tN "UNASSIGNED_STACK" Bundle.steD)).before args s = true) (hN : (Cond.isRef (.static Bundle.tN "SUPPRESSED_SENTINEL" Bundle.listD)).before args s = true)
    (lU : (Cond.laysStatic Bundle.tN "UNASSIGNED_STACK" Bundle.steD).before args s = true) (lN : (Cond.laysStatic Bundle.tN "SUPPRESSED_SENTINEL" Bundle.listD).before args s = true) : ∀ w ∈ L, w.before args s = true := by
  intro w hw
  by_cases e1 : w = .isRef (.static Bundle.tN "UNASSIGNED_STACK" Bundle.steD)
  · rw [e1]; exact hU
  · by_cases e2 : w = .isRef (.static Bundle.tN "SUPPRESSED_SENTINEL" Bundle.listD)
    · rw [e2]; exact hN
    · by_cases e3 : w = .laysStatic Bundle.tN "UNASSIGNED_STACK" Bundle.steD
      · rw [e3]; exact lU
      · by_cases e4 : w = .laysStatic Bundle.tN "SUPPRESSED_SENTINEL" Bundle.listD
        · rw [e4]; exact lN
        · exact h1 w (List.mem_filter.mpr ⟨hw, by unfold vx_no; rw [decide_eq_true e1, decide_eq_true e2, decide_eq_true e3, decide_eq_true e4]; rfl⟩)
/-- where a static field lies, its class's statics cell in H -/
def vx_L (C n d : String) (A : Nat → Prop) (U : State) (H : Heap) : Prop := ∃ (c : ClassId) (k : Class) (i : Nat) (f : Field) (a : Nat) (cell : Cell), U.vm.findClass C = some c ∧ U.fieldFound? C n d = some (c, k, i, f) ∧ f.isStatic = true ∧ k.statics = some a ∧ H[a]? = some cell ∧ cell.vm.isStatics = true ∧ cell.cls = c ∧ f.slot < cell.slots.size ∧ k.staticTypes[f.slot]? = some f.type ∧ ¬ A a
theorem vx_L.moved {C n d : String} {A : Nat → Prop} {u U : State} {H : Heap} (hvm : u.vm.Alike U.vm) (h : vx_L C n d A u H) : vx_L C n d A U H := by
  obtain ⟨c, k, i, f, a, cell, h1, h2, h3, h4, h5, h6, h7, h8, h9, h10⟩ := h
  obtain ⟨k', hi', he⟩ := State.fieldFound?_setVm hvm h2
  exact ⟨c, k', i, f, a, cell, by rw [hvm.findClass]; exact h1, hi', h3, by rw [he]; exact h4, h5, h6, h7, h8, by rw [he]; exact h9, h10⟩
theorem vx_L.kept {C n d : String} {A : Nat → Prop} {U : State} {H H1 : Heap} (h : vx_L C n d A U H) (hq : ∀ a : Nat, a < H.size → ¬ A a → H1[a]? = H[a]?) : vx_L C n d A U H1 := by
  obtain ⟨c, k, i, f, a, cell, h1, h2, h3, h4, h5, h6, h7, h8, h9, h10⟩ := h
  exact ⟨c, k, i, f, a, cell, h1, h2, h3, h4, by rw [hq a (Array.getElem?_eq_some_iff.mp h5).1 h10]; exact h5, h6, h7, h8, h9, h10⟩
theorem vx_L.narrow {C n d : String} {A B : Nat → Prop} {U : State} {H : Heap} (h : vx_L C n d A U H) (hAB : ∀ q, B q → A q) : vx_L C n d B U H := by
  obtain ⟨c, k, i, f, a, cell, h1, h2, h3, h4, h5, h6, h7, h8, h9, h10⟩ := h
  exact ⟨c, k, i, f, a, cell, h1, h2, h3, h4, h5, h6, h7, h8, h9, fun z => h10 (hAB _ z)⟩
theorem vx_L.word {C n d : String} {A : Nat → Prop} {s : State} {args : Array Value} (h : vx_L C n d A s s.heap) : (Cond.laysStatic C n d).before args s = true := by
  obtain ⟨c, k, i, f, a, cell, h1, h2, h3, h4, h5, h6, h7, h8, h9, -⟩ := h
  show (Cond.laysStatic C n d).holds args s none s [] = true
  exact Cond.laysStatic_of h1 h2 h3 h4 h5 h6 h7 h8 h9
/-- .. and what it holds: null or some reference -/
def vx_Zq (C n d : String) (A : Nat → Prop) (U : State) (H : Heap) : Prop := va_Zq C n d A U H ∧ vx_L C n d A U H
theorem vx_Zq.moved {C n d : String} {A : Nat → Prop} {u U : State} {H : Heap} (hvm : u.vm.Alike U.vm) (h : vx_Zq C n d A u H) : vx_Zq C n d A U H := ⟨va_Zq.moved hvm h.1, vx_L.moved hvm h.2⟩
theorem vx_Zq.kept {C n d : String} {A : Nat → Prop} {U : State} {H H1 : Heap} (h : vx_Zq C n d A U H) (hq : ∀ a : Nat, a < H.size → ¬ A a → H1[a]? = H[a]?) : vx_Zq C n d A U H1 := ⟨va_Zq.kept h.1 hq, vx_L.kept h.2 hq⟩
theorem vx_Zq.narrow {C n d : String} {A B : Nat → Prop} {U : State} {H : Heap} (h : vx_Zq C n d A U H) (hAB : ∀ q, B q → A q) : vx_Zq C n d B U H := ⟨va_Zq.narrow h.1 hAB, vx_L.narrow h.2 hAB⟩
theorem vx_Zqof {args : Array Value} {s : State} {C n d : String} {A : Nat → Prop} (hl : (Cond.laysStatic C n d).before args s = true) (hini : (Cond.initialized C).before args s = true) (h : (Cond.isRef (.static C n d)).before args s = true) (hA : ∀ a : Nat, a < s.heap.size → ¬ A a) : vx_Zq C n d A s s.heap := by
  refine ⟨va_Zqof hl hini h hA, ?_⟩
  obtain ⟨c, k, i, f, a, cell, h1, h2, h3, h4, h5, h6, h7, h8, h9⟩ := Cond.laysStatic_spec hl
  exact ⟨c, k, i, f, a, cell, h1, h2, h3, h4, h5, h6, h7, h8, h9, hA a (Array.getElem?_eq_some_iff.mp h5).1⟩
theorem vx_isRef {C n d : String} {v : Value} {A : Nat → Prop} {s : State} {args : Array Value} (h : va_Z C n d v A s s.heap) (hv : v.isRef = true) : (Cond.isRef (.static C n d)).before args s = true := by
  obtain ⟨cf, kf, fi, f, a, cell, h1, h2, h3, h4, h5, h6, h7, -⟩ := h
  have he : (Term.static C n d).eval args s none [] s = some v := by
    simp [Term.eval, State.fieldNamed?, h1, h2, h4, h5, h6, h7]
  simp only [Cond.before, Cond.holds, Cond.value, he]
  cases v <;> simp_all [Value.isRef]
theorem vx_isRefq {C n d : String} {A : Nat → Prop} {s : State} {args : Array Value} (h : va_Zq C n d A s s.heap) : (Cond.isRef (.static C n d)).before args s = true := by
  rcases h with h | ⟨t, h⟩
  · exact vx_isRef h rfl
  · exact vx_isRef h rfl
/-- the same frame, seen from here: as if the method were called anew in this heap -/
theorem vx_rebase {T : State} (X : Stand p l e R s m args below meth c T locs cells slots) {R' : Room} (hf : R'.frames ≤ R.frames) (hl : R'.locals ≤ R.locals) (hc : cells + R'.cells ≤ R.cells) (hs : slots + R'.slots ≤ R.slots) :
    Stand p l e R' ((T.setVm s.vm).setFrames (.invoking m args :: below)) m args below meth c T [] 0 0 := by
  have htop : (T.setVm s.vm).topJava?.isSome := X.here.top
  have hF : ((T.setVm s.vm).setFrames (.invoking m args :: below)).frames = .invoking m args :: below := State.frames_setFrames _ (State.cur_lt_of_top htop)
  obtain ⟨g₀, hg0⟩ := Option.isSome_iff_exists.mp htop
  obtain ⟨r, hr⟩ := State.topJava?_eq_some.mp hg0
  have hl9 : e.platform.stackLimits (T.setVm s.vm).me = e.platform.stackLimits s.me := X.limits
  have hb9 : (T.setVm s.vm).me.stackBytes = s.me.stackBytes := X.bytes
  refine ⟨X.admits, X.cas, X.clock, hF, ?_, X.hears, X.method, X.code, X.here, X.tail, X.warmed, ?_, ?_, ?_⟩
  · have h := X.room
    have hU : ((T.setVm s.vm).setFrames (.invoking m args :: below)).localsInUse = s.localsInUse := by
      rw [State.localsInUse_invoking hF (meth := meth) (c := c) X.method X.code, State.localsInUse_invoking X.frames X.method X.code]
    simp only [State.hasRoom, Bool.and_eq_true, decide_eq_true_eq] at h ⊢
    obtain ⟨⟨⟨⟨h1, h2, h3, h4, h5, h6⟩, h7⟩, h8⟩, h9⟩ := h
    rw [X.frames, List.length_cons] at h2 h3
    have q1 := X.heapSize
    have q2 := X.used
    simp only [hF, hU, List.length_cons, State.stackLimits_setFrames, State.stackBytes_setFrames, hl9, hb9]
    refine ⟨⟨⟨⟨by omega, by omega, by omega, by omega, by omega, h6⟩, ?_⟩, ?_⟩, X.book⟩
    · show T.heap.size + R'.cells ≤ e.platform.maxCells
      omega
    · show T.slotsUsed + R'.slots ≤ e.platform.maxSlots
      omega
  · rw [State.stackLimits_setFrames]; rfl
  · rw [State.stackBytes_setFrames]; rfl
  · refine ⟨?_, Nat.le_refl _, Nat.le_refl _, ?_, ?_, fun a c9 h9 => ⟨c9, h9, rfl, rfl, fun _ _ => rfl⟩⟩
    · obtain ⟨t, ht, -⟩ := State.frames_cons hr
      show T.setVm s.vm = { ((T.setVm s.vm).setFrames (.invoking m args :: below)).setFrames (T.setVm s.vm).frames with heap := T.heap, slotsUsed := T.slotsUsed }
      rw [State.setFrames_setFrames, State.setFrames_self ht]
      rfl
    · show T.slotsUsed = T.slotsUsed + ((T.heap.toList.drop T.heap.size).map (·.slots.size)).sum
      rw [List.drop_eq_nil_of_le (Nat.le_of_eq Array.length_toList)]
      rfl
    · show ((T.heap.toList.drop T.heap.size).map (·.slots.size)).sum ≤ 0
      rw [List.drop_eq_nil_of_le (Nat.le_of_eq Array.length_toList)]
      exact Nat.le_refl _
/-- 'throw new E()': new; dup; invokespecial; athrow -/
theorem vx_throw0 {cc : ByteArray} {pc : Nat} (hexec : p.tables.exec = Jvm.exec) (hb : c.code = cc) (hl : l.stackTraces = false) {own cls : String} {names : List String} {ik ic mc ms : Nat} {A : Nat → Prop}
    (hown : s.vm.findClass own = some m.cls) (hcls : Bundle.fit cls = true) (hnames : ∀ n ∈ names, Bundle.fit n = true)
    (hk : (Cond.classLink own ik cls).before args s = true) (hini : (Cond.initialized cls).before args s = true) (hat : ∀ w ∈ vx_at0 own ic cls names, w.before args s = true)
    (hgood : ∀ w ∈ Cond.classLink own ik cls :: Cond.initialized cls :: vx_at0 own ic cls names, vx_ot w = true)
    (hU : vx_Zq Bundle.tN "UNASSIGNED_STACK" Bundle.steD A s s.heap) (hN : vx_Zq Bundle.tN "SUPPRESSED_SENTINEL" Bundle.listD A s s.heap) (hS : va_S A s.heap H locs) (hsize : ls.size = c.maxLocals)
    (d0 : decode cc pc = .ok (.new ik, 3)) (d3 : decode cc (pc + 3) = .ok (.dup, 1)) (d4 : decode cc (pc + 4) = .ok (.invokespecial ic, 3)) (d7 : decode cc (pc + 7) = .ok (.athrow, 1))
    (hout : ∀ x ∈ c.exceptionTable.toList, covers x (pc + 7) = false)
    (hRframes : names.length + 3 < R.frames) (hRlocals : (rest.map fun v => v.category).sum + (13 * (names.length + 1) + 42) ≤ R.locals) (hRcells : cells + 1 ≤ R.cells) (hRslots : slots + 6 ≤ R.slots) (hlocks : meth.locks = false)
    (hx : ∀ t : State, s.vm.Alike t.vm → H.size ≤ t.heap.size → (∀ q : Nat, q < H.size → t.heap[q]? = H[q]?) → XC cls s t)
    (hf : ∀ z ∈ locs, free z.base) (hc : cells + 1 ≤ mc) (hs : slots + 6 ≤ ms) :
    W p l e R s m args below meth c H locs cells slots (vx_MQ below Qc XC args s mc ms free) (F0 m pc ls rest) := by
  intro T hT X
  have htr : e.platform.stackTraces = false := (show e.platform.stackTraces = l.stackTraces by rw [X.admits.platform]).trans hl
  have Y := vx_rebase X (R' := { frames := R.frames, locals := R.locals, cells := 1, slots := 6 }) (Nat.le_refl _) (Nat.le_refl _) hRcells hRslots
  obtain ⟨s', hA⟩ : ∃ z, z = (T.setVm s.vm).setFrames (.invoking m args :: below) := ⟨_, rfl⟩
  rw [← hA] at Y
  have hvm : s'.vm = s.vm := by rw [hA]; rfl
  have hhp : s'.heap = H := by rw [hA]; exact hT
  have hW0 : s.WarmedH s'.vm := by rw [hvm]; exact State.WarmedH.refl s
  have hat' : ∀ w ∈ vx_at0 own ic cls names, w.before args s' = true := fun w hw => vx_ot_at hW0 hvm.symm (hgood w (List.mem_cons_of_mem _ (List.mem_cons_of_mem _ hw))) (hat w hw)
  have hk' : (Cond.classLink own ik cls).before args s' = true := vx_ot_at hW0 hvm.symm (hgood _ List.mem_cons_self) hk
  have hini' : (Cond.initialized cls).before args s' = true := vx_ot_at hW0 hvm.symm (hgood _ (List.mem_cons_of_mem _ List.mem_cons_self)) hini
  have hU' : vx_Zq Bundle.tN "UNASSIGNED_STACK" Bundle.steD A s' s'.heap := by rw [hhp]; exact vx_Zq.moved hW0.alike (hU.kept hS.2.1)
  have hN' : vx_Zq Bundle.tN "SUPPRESSED_SENTINEL" Bundle.listD A s' s'.heap := by rw [hhp]; exact vx_Zq.moved hW0.alike (hN.kept hS.2.1)
  have h : ∀ w ∈ Bundle.ownAtoms0 own ic cls names, w.before args s' = true := vx_own hat' (vx_isRefq hU'.1) (vx_isRefq hN'.1) hU'.2.word hN'.2.word
  have hown' : s'.vm.findClass own = some m.cls := by rw [hvm]; exact hown
  have hins : (Cond.instantiable cls 6).before args s' = true := h _ (by simp [Bundle.ownAtoms0])
  obtain ⟨vm₁, cX, kX, hfX, hkX, -, -, X₁, st1⟩ := Y.newCold hexec (own := own) (C := cls) (index := ik) (n := 6) hown' hk' hins hini'
    (g := F0 m pc ls rest) rfl (by rw [hb]; exact d0) (Nat.le_refl _) (Nat.le_refl _)
  generalize hT1 : (T.setVm vm₁).pushCell { cls := cX, slots := kX.instanceTypes.map defaultValue, vm := .none } = T1 at X₁ st1
  have hcat : (Value.ref T.heap.size).category = 1 := rfl
  have hcellA : T1.heap[T.heap.size]? = some (freshCell cX kX) := by rw [← hT1]; exact State.heap_pushCell_size _ _
  have d3' : decode c.code (pc + 3) = .ok (.dup, 1) := by rw [hb]; exact d3
  obtain ⟨U, hsteps, hrun, hend, hW, hsame, ce, hce, hO⟩ := X₁.ctorThrow0 hexec htr (own := own) (cls := cls) (names := names) (ic := ic) hown' hcls hnames h (fun x hx => nomatch hx) hfX hkX hcellA (by rw [hhp, hT]; exact Nat.le_refl _)
    (g := { method := m, pc := pc + 4, locals := ls, stack := .ref T.heap.size :: .ref T.heap.size :: rest, locked := none }) rfl hsize rfl rfl (rest := rest) rfl
    (by rw [hb]; exact d4) (by rw [hb]; exact d7) hout hRframes (by simp only [List.map_cons, List.sum_cons, hcat]; omega) hlocks
  obtain ⟨f1, f2⟩ := vx_frame hsame
  rw [hhp] at f1 f2
  have hWs : s.WarmedH U.vm := State.WarmedH.trans hW0 hW
  have hcl : s.vm.findClass cls = some ce.cls := by
    have h9 := hO.cls
    rw [hvm] at h9
    exact h9
  have hall : s.sameButNew ({ U with vm := s.vm } : State) locs mc ms := by
    subst hA
    obtain ⟨e1, e2⟩ := hsame
    rw [State.setFrames_setFrames] at e1
    have h2 : (T.setVm s.vm).sameButNew ({ U with vm := s.vm } : State) [] (0 + 1) (0 + 6) := ⟨e1, e2⟩
    have h3 := X.same.trans h2
    rw [List.append_nil] at h3
    exact h3.mono hc hs
  refine ⟨U, ?_, .threw T.heap.size, hrun, hend, Or.inr ⟨T.heap.size, rfl, cls, ce, locs, hx U hWs.alike f1 (fun q hq => f2 q hq (fun z hz => nomatch hz)), hce, hO.vm, hcl, hWs, hall, hf⟩⟩
  refine st1 _ ?_
  show Steps p.tables e below (T1.setTop { method := m, pc := pc + 3, locals := ls, stack := .ref T.heap.size :: rest, locked := none }) _
  jvm_step X₁.here [X₁.here.top, hexec, d3', Value.category]
  exact hsteps
/-- 'throw new E("text")': new; dup; ldc; invokespecial; athrow -/
theorem vx_throwS {cc : ByteArray} {pc : Nat} (hexec : p.tables.exec = Jvm.exec) (hb : c.code = cc) (hl : l.stackTraces = false) {own cls text : String} {names : List String} {ik is ic mc ms sa : Nat} {A : Nat → Prop}
    (hown : s.vm.findClass own = some m.cls) (hcls : Bundle.fit cls = true) (hnames : ∀ n ∈ names, Bundle.fit n = true)
    (hk : (Cond.classLink own ik cls).before args s = true) (hini : (Cond.initialized cls).before args s = true) (hstr : vk_R own is text sa s) (hat : ∀ w ∈ vx_atS own ic cls names, w.before args s = true)
    (hgood : ∀ w ∈ Cond.classLink own ik cls :: Cond.initialized cls :: vx_atS own ic cls names, vx_ot w = true)
    (hU : vx_Zq Bundle.tN "UNASSIGNED_STACK" Bundle.steD A s s.heap) (hN : vx_Zq Bundle.tN "SUPPRESSED_SENTINEL" Bundle.listD A s s.heap) (hS : va_S A s.heap H locs) (hsize : ls.size = c.maxLocals)
    (d0 : decode cc pc = .ok (.new ik, 3)) (d3 : decode cc (pc + 3) = .ok (.dup, 1)) (d4 : decode cc (pc + 4) = .ok (.ldc is, 2)) (d6 : decode cc (pc + 6) = .ok (.invokespecial ic, 3)) (d9 : decode cc (pc + 9) = .ok (.athrow, 1))
    (hout : ∀ x ∈ c.exceptionTable.toList, covers x (pc + 9) = false)
    (hRframes : names.length + 3 < R.frames) (hRlocals : (rest.map fun v => v.category).sum + (13 * (names.length + 1) + 43) ≤ R.locals) (hRcells : cells + 1 ≤ R.cells) (hRslots : slots + 6 ≤ R.slots) (hlocks : meth.locks = false)
    (hx : ∀ t : State, s.vm.Alike t.vm → H.size ≤ t.heap.size → (∀ q : Nat, q < H.size → t.heap[q]? = H[q]?) → XC cls s t)
    (hf : ∀ z ∈ locs, free z.base) (hc : cells + 1 ≤ mc) (hs : slots + 6 ≤ ms) :
    W p l e R s m args below meth c H locs cells slots (vx_MQ below Qc XC args s mc ms free) (F0 m pc ls rest) := by
  intro T hT X
  have htr : e.platform.stackTraces = false := (show e.platform.stackTraces = l.stackTraces by rw [X.admits.platform]).trans hl
  have Y := vx_rebase X (R' := { frames := R.frames, locals := R.locals, cells := 1, slots := 6 }) (Nat.le_refl _) (Nat.le_refl _) hRcells hRslots
  obtain ⟨s', hA⟩ : ∃ z, z = (T.setVm s.vm).setFrames (.invoking m args :: below) := ⟨_, rfl⟩
  rw [← hA] at Y
  have hvm : s'.vm = s.vm := by rw [hA]; rfl
  have hhp : s'.heap = H := by rw [hA]; exact hT
  have hW0 : s.WarmedH s'.vm := by rw [hvm]; exact State.WarmedH.refl s
  have hat' : ∀ w ∈ vx_atS own ic cls names, w.before args s' = true := fun w hw => vx_ot_at hW0 hvm.symm (hgood w (List.mem_cons_of_mem _ (List.mem_cons_of_mem _ hw))) (hat w hw)
  have hk' : (Cond.classLink own ik cls).before args s' = true := vx_ot_at hW0 hvm.symm (hgood _ List.mem_cons_self) hk
  have hini' : (Cond.initialized cls).before args s' = true := vx_ot_at hW0 hvm.symm (hgood _ (List.mem_cons_of_mem _ List.mem_cons_self)) hini
  have hU' : vx_Zq Bundle.tN "UNASSIGNED_STACK" Bundle.steD A s' s'.heap := by rw [hhp]; exact vx_Zq.moved hW0.alike (hU.kept hS.2.1)
  have hN' : vx_Zq Bundle.tN "SUPPRESSED_SENTINEL" Bundle.listD A s' s'.heap := by rw [hhp]; exact vx_Zq.moved hW0.alike (hN.kept hS.2.1)
  have h : ∀ w ∈ Bundle.ownAtoms own ic cls names, w.before args s' = true := vx_own hat' (vx_isRefq hU'.1) (vx_isRefq hN'.1) hU'.2.word hN'.2.word
  have hown' : s'.vm.findClass own = some m.cls := by rw [hvm]; exact hown
  have hins : (Cond.instantiable cls 6).before args s' = true := h _ (by simp [Bundle.ownAtoms])
  obtain ⟨vm₁, cX, kX, hfX, hkX, -, -, X₁, st1⟩ := Y.newCold hexec (own := own) (C := cls) (index := ik) (n := 6) hown' hk' hins hini'
    (g := F0 m pc ls rest) rfl (by rw [hb]; exact d0) (Nat.le_refl _) (Nat.le_refl _)
  generalize hT1 : (T.setVm vm₁).pushCell { cls := cX, slots := kX.instanceTypes.map defaultValue, vm := .none } = T1 at X₁ st1
  have hcat : (Value.ref T.heap.size).category = 1 := rfl
  have hcellA : T1.heap[T.heap.size]? = some (freshCell cX kX) := by rw [← hT1]; exact State.heap_pushCell_size _ _
  have d3' : decode c.code (pc + 3) = .ok (.dup, 1) := by rw [hb]; exact d3
  have d4' : decode c.code (pc + 4) = .ok (.ldc is, 2) := by rw [hb]; exact d4
  have hstr' : vk_R own is text sa s' := vk_R.warm hW0 hstr
  obtain ⟨U, hsteps, hrun, hend, hW, hsame, ce, hce, hO⟩ := X₁.ctorThrowS hexec htr (own := own) (cls := cls) (names := names) (ic := ic) hown' hcls hnames h (fun x hx => nomatch hx) hfX hkX hcellA (by rw [hhp, hT]; exact Nat.le_refl _) (msg := .ref sa) rfl
    (g := { method := m, pc := pc + 6, locals := ls, stack := .ref sa :: .ref T.heap.size :: .ref T.heap.size :: rest, locked := none }) rfl hsize rfl rfl (rest := rest) rfl
    (by rw [hb]; exact d6) (by rw [hb]; exact d9) hout hRframes (by simp only [List.map_cons, List.sum_cons, hcat]; omega) hlocks
  obtain ⟨f1, f2⟩ := vx_frame hsame
  rw [hhp] at f1 f2
  have hWs : s.WarmedH U.vm := State.WarmedH.trans hW0 hW
  have hcl : s.vm.findClass cls = some ce.cls := by
    have h9 := hO.cls
    rw [hvm] at h9
    exact h9
  have hall : s.sameButNew ({ U with vm := s.vm } : State) locs mc ms := by
    subst hA
    obtain ⟨e1, e2⟩ := hsame
    rw [State.setFrames_setFrames] at e1
    have h2 : (T.setVm s.vm).sameButNew ({ U with vm := s.vm } : State) [] (0 + 1) (0 + 6) := ⟨e1, e2⟩
    have h3 := X.same.trans h2
    rw [List.append_nil] at h3
    exact h3.mono hc hs
  refine ⟨U, ?_, .threw T.heap.size, hrun, hend, Or.inr ⟨T.heap.size, rfl, cls, ce, locs, hx U hWs.alike f1 (fun q hq => f2 q hq (fun z hz => nomatch hz)), hce, hO.vm, hcl, hWs, hall, hf⟩⟩
  refine st1 _ ?_
  show Steps p.tables e below (T1.setTop { method := m, pc := pc + 3, locals := ls, stack := .ref T.heap.size :: rest, locked := none }) _
  jvm_step X₁.here [X₁.here.top, hexec, d3', Value.category]
  exact X₁.ldcString hexec (own := own) (text := text) (index := is) (a := sa) hown' hstr'.1 hstr'.2
    (g := { method := m, pc := pc + 4, locals := ls, stack := .ref T.heap.size :: .ref T.heap.size :: rest, locked := none }) rfl d4' _ hsteps
/-- 'throw new E("text")', the text by a wide index -/
theorem vx_throwSW {cc : ByteArray} {pc : Nat} (hexec : p.tables.exec = Jvm.exec) (hb : c.code = cc) (hl : l.stackTraces = false) {own cls text : String} {names : List String} {ik is ic mc ms sa : Nat} {A : Nat → Prop}
    (hown : s.vm.findClass own = some m.cls) (hcls : Bundle.fit cls = true) (hnames : ∀ n ∈ names, Bundle.fit n = true)
    (hk : (Cond.classLink own ik cls).before args s = true) (hini : (Cond.initialized cls).before args s = true) (hstr : vk_R own is text sa s) (hat : ∀ w ∈ vx_atS own ic cls names, w.before args s = true)
    (hgood : ∀ w ∈ Cond.classLink own ik cls :: Cond.initialized cls :: vx_atS own ic cls names, vx_ot w = true)
    (hU : vx_Zq Bundle.tN "UNASSIGNED_STACK" Bundle.steD A s s.heap) (hN : vx_Zq Bundle.tN "SUPPRESSED_SENTINEL" Bundle.listD A s s.heap) (hS : va_S A s.heap H locs) (hsize : ls.size = c.maxLocals)
    (d0 : decode cc pc = .ok (.new ik, 3)) (d3 : decode cc (pc + 3) = .ok (.dup, 1)) (d4 : decode cc (pc + 4) = .ok (.ldc_w is, 3)) (d7 : decode cc (pc + 7) = .ok (.invokespecial ic, 3)) (d10 : decode cc (pc + 10) = .ok (.athrow, 1))
    (hout : ∀ x ∈ c.exceptionTable.toList, covers x (pc + 10) = false)
    (hRframes : names.length + 3 < R.frames) (hRlocals : (rest.map fun v => v.category).sum + (13 * (names.length + 1) + 43) ≤ R.locals) (hRcells : cells + 1 ≤ R.cells) (hRslots : slots + 6 ≤ R.slots) (hlocks : meth.locks = false)
    (hx : ∀ t : State, s.vm.Alike t.vm → H.size ≤ t.heap.size → (∀ q : Nat, q < H.size → t.heap[q]? = H[q]?) → XC cls s t)
    (hf : ∀ z ∈ locs, free z.base) (hc : cells + 1 ≤ mc) (hs : slots + 6 ≤ ms) :
    W p l e R s m args below meth c H locs cells slots (vx_MQ below Qc XC args s mc ms free) (F0 m pc ls rest) := by
  intro T hT X
  have htr : e.platform.stackTraces = false := (show e.platform.stackTraces = l.stackTraces by rw [X.admits.platform]).trans hl
  have Y := vx_rebase X (R' := { frames := R.frames, locals := R.locals, cells := 1, slots := 6 }) (Nat.le_refl _) (Nat.le_refl _) hRcells hRslots
  obtain ⟨s', hA⟩ : ∃ z, z = (T.setVm s.vm).setFrames (.invoking m args :: below) := ⟨_, rfl⟩
  rw [← hA] at Y
  have hvm : s'.vm = s.vm := by rw [hA]; rfl
  have hhp : s'.heap = H := by rw [hA]; exact hT
  have hW0 : s.WarmedH s'.vm := by rw [hvm]; exact State.WarmedH.refl s
  have hat' : ∀ w ∈ vx_atS own ic cls names, w.before args s' = true := fun w hw => vx_ot_at hW0 hvm.symm (hgood w (List.mem_cons_of_mem _ (List.mem_cons_of_mem _ hw))) (hat w hw)
  have hk' : (Cond.classLink own ik cls).before args s' = true := vx_ot_at hW0 hvm.symm (hgood _ List.mem_cons_self) hk
  have hini' : (Cond.initialized cls).before args s' = true := vx_ot_at hW0 hvm.symm (hgood _ (List.mem_cons_of_mem _ List.mem_cons_self)) hini
  have hU' : vx_Zq Bundle.tN "UNASSIGNED_STACK" Bundle.steD A s' s'.heap := by rw [hhp]; exact vx_Zq.moved hW0.alike (hU.kept hS.2.1)
  have hN' : vx_Zq Bundle.tN "SUPPRESSED_SENTINEL" Bundle.listD A s' s'.heap := by rw [hhp]; exact vx_Zq.moved hW0.alike (hN.kept hS.2.1)
  have h : ∀ w ∈ Bundle.ownAtoms own ic cls names, w.before args s' = true := vx_own hat' (vx_isRefq hU'.1) (vx_isRefq hN'.1) hU'.2.word hN'.2.word
  have hown' : s'.vm.findClass own = some m.cls := by rw [hvm]; exact hown
  have hins : (Cond.instantiable cls 6).before args s' = true := h _ (by simp [Bundle.ownAtoms])
  obtain ⟨vm₁, cX, kX, hfX, hkX, -, -, X₁, st1⟩ := Y.newCold hexec (own := own) (C := cls) (index := ik) (n := 6) hown' hk' hins hini'
    (g := F0 m pc ls rest) rfl (by rw [hb]; exact d0) (Nat.le_refl _) (Nat.le_refl _)
  generalize hT1 : (T.setVm vm₁).pushCell { cls := cX, slots := kX.instanceTypes.map defaultValue, vm := .none } = T1 at X₁ st1
  have hcat : (Value.ref T.heap.size).category = 1 := rfl
  have hcellA : T1.heap[T.heap.size]? = some (freshCell cX kX) := by rw [← hT1]; exact State.heap_pushCell_size _ _
  have d3' : decode c.code (pc + 3) = .ok (.dup, 1) := by rw [hb]; exact d3
  have d4' : decode c.code (pc + 4) = .ok (.ldc_w is, 3) := by rw [hb]; exact d4
  have hstr' : vk_R own is text sa s' := vk_R.warm hW0 hstr
  obtain ⟨U, hsteps, hrun, hend, hW, hsame, ce, hce, hO⟩ := X₁.ctorThrowS hexec htr (own := own) (cls := cls) (names := names) (ic := ic) hown' hcls hnames h (fun x hx => nomatch hx) hfX hkX hcellA (by rw [hhp, hT]; exact Nat.le_refl _) (msg := .ref sa) rfl
    (g := { method := m, pc := pc + 7, locals := ls, stack := .ref sa :: .ref T.heap.size :: .ref T.heap.size :: rest, locked := none }) rfl hsize rfl rfl (rest := rest) rfl
    (by rw [hb]; exact d7) (by rw [hb]; exact d10) hout hRframes (by simp only [List.map_cons, List.sum_cons, hcat]; omega) hlocks
  obtain ⟨f1, f2⟩ := vx_frame hsame
  rw [hhp] at f1 f2
  have hWs : s.WarmedH U.vm := State.WarmedH.trans hW0 hW
  have hcl : s.vm.findClass cls = some ce.cls := by
    have h9 := hO.cls
    rw [hvm] at h9
    exact h9
  have hall : s.sameButNew ({ U with vm := s.vm } : State) locs mc ms := by
    subst hA
    obtain ⟨e1, e2⟩ := hsame
    rw [State.setFrames_setFrames] at e1
    have h2 : (T.setVm s.vm).sameButNew ({ U with vm := s.vm } : State) [] (0 + 1) (0 + 6) := ⟨e1, e2⟩
    have h3 := X.same.trans h2
    rw [List.append_nil] at h3
    exact h3.mono hc hs
  refine ⟨U, ?_, .threw T.heap.size, hrun, hend, Or.inr ⟨T.heap.size, rfl, cls, ce, locs, hx U hWs.alike f1 (fun q hq => f2 q hq (fun z hz => nomatch hz)), hce, hO.vm, hcl, hWs, hall, hf⟩⟩
  refine st1 _ ?_
  show Steps p.tables e below (T1.setTop { method := m, pc := pc + 3, locals := ls, stack := .ref T.heap.size :: rest, locked := none }) _
  jvm_step X₁.here [X₁.here.top, hexec, d3', Value.category]
  exact X₁.ldcStringW hexec (own := own) (text := text) (index := is) (a := sa) hown' hstr'.1 hstr'.2
    (g := { method := m, pc := pc + 4, locals := ls, stack := .ref T.heap.size :: .ref T.heap.size :: rest, locked := none }) rfl d4' _ hsteps
end Ends
section Bodies
variable {l : Launch}
theorem vx_ofW {y : MethodName} {ws ws' : List Cond} {rm : Room} {Pc : Array Value → State → Prop} {Qc : Array Value → State → Outcome → State → Prop} {XC : String → State → State → Prop} {mc ms : Nat} {free : Addr → Prop} {cc : ByteArray} {maxL : Nat} {ret : Option FieldType}
    (hy : plainName y.cls = true) (hw : ws = Cond.code y cc maxL ret :: ws')
    (body : ∀ p e s m args below meth c s₁, BodyLoose p l y (headSpec ws rm) cc maxL ret e s m args below meth c s₁ → c.maxLocals = maxL → (∀ x ∈ c.exceptionTable.toList, False) → Pc args s →
      W p l e (headSpec ws rm).room s m args below meth c s.heap [] 0 0 (vx_MQ below Qc XC args s mc ms free) (entryFrame m args maxL)) : vx_Met l y ws rm Pc Qc XC mc ms free := by
  refine MetFree.of_bodyS (code := cc) (maxLocals := maxL) (ret := ret) hy ?_ ?_
  · intro args s m h hn
    obtain ⟨meth, c, h1, h2, h3, h4, h5, h6, -, -⟩ := Cond.code_spec hn (atoms_spec (ws := ws) h _ (by rw [hw]; exact List.mem_cons_self))
    exact ⟨meth, c, h1, h2, h3, h4, h5, h6⟩
  · intro p e s m args below meth c s₁ B hml hP _
    have hh0 : s₁.heap = s.heap := by rw [B.state]; rfl
    have ht : ∀ x ∈ c.exceptionTable.toList, False := by
      obtain ⟨meth9, c9, h1, h2, -, -, -, -, h7, -⟩ := Cond.code_spec B.named (atoms_spec (ws := ws) B.pre _ (by rw [hw]; exact List.mem_cons_self))
      cases Option.some.inj (h1.symm.trans B.method)
      cases Option.some.inj (h2.symm.trans (Stand.of_body B).code)
      intro x hx
      rw [Array.isEmpty_iff.mp h7] at hx
      cases hx
    obtain ⟨t, a1, o, b1, b2, b3⟩ := body p e s m args below meth c s₁ B hml ht hP s₁ hh0 (Stand.of_body B)
    exact ⟨t, o, a1, b1, b2, b3⟩
/-- the table of a body with handlers -/
theorem vx_table {p : Program} {x y : MethodName} {S : Spec} {cc bytes : ByteArray} {maxL maxL' : Nat} {ret ret' : Option FieldType} {e : Env} {s s₁ : State} {m : MethodId} {args : Array Value} {below : List Frame} {meth : Method} {c : Code} {hh : List (Nat × Nat × Nat × Nat)}
    (B : BodyLoose p l y S cc maxL ret e s m args below meth c s₁) (h : (Cond.codeWith y bytes maxL' ret' hh).before args s = true) : c.exceptionTable.toList = tableOf hh := by
  obtain ⟨m9, meth9, c9, hn9, h1, h2, -, -, h6, -⟩ := Cond.codeWith_spec h
  cases Option.some.inj (hn9.symm.trans B.named)
  cases Option.some.inj (h1.symm.trans B.method)
  cases Option.some.inj (h2.symm.trans (Stand.of_body B).code)
  rw [← h6, table_eq]
end Bodies
end VXA
/-! ===== END ===== -/
/-! ===== BEGIN a static call of a method with an exception table ===== -/
section VXS
variable {p : Program} {l : Launch} {e : Env} {R : Room} {s : State} {m : MethodId} {args : Array Value} {below : List Frame} {meth : Method} {c : Code} {T : State} {H : Heap} {locs : List Loc} {cells slots : Nat}
abbrev vx_CSW (R : Room) (s : State) (args : Array Value) (own : String) (index : Nat) (y : MethodName) (bytes : ByteArray) (maxL : Nat) (ret : Option FieldType) (hh : List (Nat × Nat × Nat × Nat)) (ws : List Cond) (rm : Room) (mc ms n : Nat) : Prop :=
  (rm.cells = mc ∧ rm.slots = ms ∧ rm.frames + 1 ≤ R.frames ∧ 8 + (maxL + 11) + rm.locals ≤ R.locals ∧ (∀ w ∈ ws, ∀ (a' : Array Value) (U : State), s.WarmedH U.vm → w.before a' U = true) ∧ Cond.codeWith y bytes maxL ret hh ∈ ws) ∧
  (Cond.codeWith y bytes maxL ret hh).before args s = true ∧ (Cond.initialized y.cls).before args s = true ∧ (y.cls ≠ "java/lang/invoke/MethodHandle" ∧ y.cls ≠ "java/lang/invoke/VarHandle") ∧
  (∀ sig, parseMethodDescriptor y.desc = some sig → n = sig.parameters.length) ∧ (Cond.methodLink own index y).before args s = true ∧ (Cond.static y).before args s = true
theorem vx_cwSW {own : String} {index maxL mc ms : Nat} {y : MethodName} {bytes : ByteArray} {ret : Option FieldType} {hh : List (Nat × Nat × Nat × Nat)} {Ts ws ws' : List Cond} {rm : Room} (n : Nat) (ht : ∀ w ∈ Ts, w.before args s = true) (hT : GoodIn Ts (va_wsS own index y ws)) (hw : ws = Cond.codeWith y bytes maxL ret hh :: ws') (hrc : rm.cells = mc) (hrs : rm.slots = ms)
    (hd : y.cls ≠ "java/lang/invoke/MethodHandle" ∧ y.cls ≠ "java/lang/invoke/VarHandle" ∧ (parseMethodDescriptor y.desc).map (fun d => d.parameters.length) = some n) (hR : rm.frames + 1 ≤ R.frames ∧ 8 + (maxL + 11) + rm.locals ≤ R.locals) :
    vx_CSW R s args own index y bytes maxL ret hh ws rm mc ms n := by
  have ok : ∀ w ∈ va_wsS own index y ws, w.before args s = true := fun w h => ht w (hT w h).1
  have hG : GoodIn Ts ws := fun w h => hT w (by unfold va_wsS; exact List.mem_append_right _ h)
  have hc : Cond.codeWith y bytes maxL ret hh ∈ ws := by rw [hw]; exact List.mem_cons_self
  refine ⟨⟨hrc, hrs, hR.1, hR.2, pay_in ht hG, hc⟩, ht _ (hG _ hc).1, ok _ (by simp [va_wsS]), ⟨hd.1, hd.2.1⟩, fun sig h => ?_, ok _ (by simp [va_wsS]), ok _ (by simp [va_wsS])⟩
  have h2 := hd.2.2
  rw [h] at h2
  exact (Option.some.inj h2).symm
theorem vx_callSW (X : Stand p l e R s m args below meth c T locs cells slots) (hexec : p.tables.exec = Jvm.exec) {own : String} {index : Nat} {y : MethodName} {bytes : ByteArray} {maxL : Nat} {ret : Option FieldType} {hh : List (Nat × Nat × Nat × Nat)}
    (hown : s.vm.findClass own = some m.cls) (hlink : (Cond.methodLink own index y).before args s = true) (hstat : (Cond.static y).before args s = true) (hinit : (Cond.initialized y.cls).before args s = true)
    (hcode : (Cond.codeWith y bytes maxL ret hh).before args s = true) (hy : y.cls ≠ "java/lang/invoke/MethodHandle" ∧ y.cls ≠ "java/lang/invoke/VarHandle")
    {W9 : Nat} {Pre : Pt → Array Value → Prop} {Post : Pt → Array Value → Option Value → Pt → Prop} (hK : Back l R p e below s args y 3 W9 Pre Post)
    {g : JFrame} (hg : g.method = m) (hsize : g.locals.size = c.maxLocals) {argsL rest : List Value} (hlen : ∀ sig, parseMethodDescriptor y.desc = some sig → argsL.length = sig.parameters.length)
    (hstack : g.stack = argsL.reverse ++ rest) (hW : 2 * g.monitorRoom + (rest.map fun v => v.category).sum ≤ W9) (hdg : decode c.code g.pc = .ok (.invokestatic index, 3))
    (hpre : ∀ vm₁, s.WarmedH vm₁ → Pre ⟨T.setVm vm₁, locs, cells, slots⟩ argsL.toArray) :
    ∃ (v : Option Value) (vm₁ : Vm) (B : Pt), s.WarmedH vm₁ ∧ Stand p l e R s m args below meth c B.U B.locs B.cells B.slots ∧ Post ⟨T.setVm vm₁, locs, cells, slots⟩ argsL.toArray v B ∧
      ∀ target, Steps p.tables e below (B.U.setTop { g with pc := g.pc + 3, stack := v.toList ++ rest }) target → Steps p.tables e below (T.setTop g) target := by
  obtain ⟨mk, methM, cM, hnamed, hmethM, -, -, -, -, -, -, hsigM⟩ := Cond.codeWith_spec hcode
  have hstatic : methM.isStatic = true := Cond.static_spec hnamed hmethM hstat
  obtain ⟨kP, hkP, -⟩ := className_of_methodNamed hnamed
  have hinitP : kP.init = .initialized := Cond.initialized_spec (findClass_of_methodNamed hnamed) hkP hinit
  obtain ⟨vm₁, X₁, hstep₁⟩ := X.invokestatic hexec hown hlink hnamed hmethM hstatic hkP hinitP hy (g := g) hg (argsL := argsL) (rest := rest) (hlen _ hsigM) hstack hdg
  obtain ⟨v, B, X', hpost, hsteps⟩ := hK m meth c ⟨T.setVm vm₁, locs, cells, slots⟩ { g with stack := rest } (.invokestatic index) mk argsL.toArray X₁ hg hsize hdg hW (X₁.named hnamed) (hpre vm₁ X₁.warmed)
  exact ⟨v, vm₁, B, X₁.warmed, X', hpost, fun target h => hstep₁ _ fun acts => by rw [doInvoke_state]; exact hsteps.trans h⟩
theorem vx_runSW {y : MethodName} {bytes cc : ByteArray} {maxL nL mc ms n index : Nat} {ret : Option FieldType} {hh : List (Nat × Nat × Nat × Nat)} {ws : List Cond} {rm : Room} {Pc : Array Value → State → Prop} {Qc : Array Value → State → Outcome → State → Prop} {free : Addr → Prop} {Ts : List Cond} {own : String} {As rest : List Value} {g : JFrame}
    (S : CallFix p m c cc nL s args Ts own) (hM : Met l y ws rm Pc Qc mc ms free) (cw : vx_CSW R s args own index y bytes maxL ret hh ws rm mc ms n) (hp : PreS s H Pc As)
    (hg : g.method = m) (hn : As.length = n) (hsize : g.locals.size = nL) (hstack : g.stack = As.reverse ++ rest) (hW : 2 * g.monitorRoom + (rest.map fun v => v.category).sum ≤ 8) (hdg : decode cc g.pc = .ok (.invokestatic index, 3)) (hf : cells + mc ≤ R.cells ∧ slots + ms ≤ R.slots) :
    va_Run p l e R s m args below meth c H locs cells slots mc ms g rest (Qc As.toArray) (free) := by
  obtain ⟨⟨hrc, hrs, hfr, hlo, hws, hcw⟩, hcode, hini, hy, hlen, hl, hstt⟩ := cw
  have hK : Back l R p e below s args y 3 8 (PreOf R mc ms Pc) (PostOf Qc mc ms free) := va_backW (hh := hh) (bytes := bytes) (maxL := maxL) (ret := ret) hM hp.1 hrc hrs hfr hlo hws hcw (fun a' U hW => word_at hW (Or.inl (by first | rfl | simp [Cond.onTables, Cond.keeps, Cond.steady])) hini)
  obtain ⟨hx, hb, hml, ho, -⟩ := S
  intro T hT X
  obtain ⟨v, vm₁, ⟨U', l2, c2, s2⟩, hW₁, X', ⟨g', mk, t, L, e1, e2, hq, h1, hL, h2, h3⟩, st⟩ := vx_callSW X hx (hh := hh) (bytes := bytes) (maxL := maxL) (ret := ret) ho hl hstt hini hcode hy hK hg (hsize.trans hml.symm) (argsL := As) (rest := rest) (fun sig h => hn.trans (hlen sig h)) hstack hW (by rw [hb]; exact hdg)
    (fun vm₁ hW₁ => ⟨hf.1, hf.2, hp.2 (T.setVm vm₁) hT hW₁⟩)
  dsimp only [Pt.U, Pt.locs, Pt.cells, Pt.slots] at X' e1 e2 h1 h2 h3 st
  subst h1; subst h2; subst h3
  exact ⟨v, (T.setVm vm₁).calling g' mk As.toArray, t, U', L, hT, X', hL, e1, e2, hq, st⟩
/-- not caught here, past rows that name other classes: it goes on to the caller -/
theorem vx_outP {p : Program} {l : Launch} {e : Env} {R : Room} {s : State} {m : MethodId} {args : Array Value} {below : List Frame} {meth : Method} {c : Code} {H : Heap} {locs : List Loc} {cells slots : Nat} {free : Addr → Prop} {ls : Array Slot} {rest : List Value} {Qc : Array Value → State → Outcome → State → Prop} {XC : String → State → State → Prop}
    {pc : Nat} {own E : String} {ce : Cell} {q : Addr} {mc ms : Nat} (hown : s.vm.findClass own = some m.cls) (hlocks : meth.locks = false)
    (hpass : ∀ z ∈ c.exceptionTable.toList, covers z pc = false ∨ (z.catchType ≠ 0 ∧ ∃ nm : String, (Cond.classLink own z.catchType nm).before args s = true ∧ va_Nc E nm s)) (hcell : H[q]? = some ce) (hv : ce.vm = .none) (hcl : s.vm.findClass E = some ce.cls)
    (hx : ∀ t : State, t.heap = H → s.vm.Alike t.vm → XC E s t) (hf : ∀ z ∈ locs, free z.base) (hc : cells ≤ mc) (hs : slots ≤ ms) :
    vx_W p l e R s m args below meth c H locs cells slots (vx_MQ below Qc XC args s mc ms free) (F0 m pc ls rest) q := by
  intro T hT X
  have hpl : e.platform.magicAccessors = ({} : Platform).magicAccessors := by rw [X.admits.platform]
  obtain ⟨vm', hW', X', st⟩ := X.outThrough hlocks q (g := F0 m pc ls rest) rfl rfl rfl (cell := ce) (by rw [hT]; exact hcell) (by rw [hv]; rfl)
    (by obtain ⟨k9, h9, -⟩ := Vm.findClass_spec hcl; exact ⟨k9, h9⟩) (fun z hz => by
      rcases hpass z hz with h | ⟨hz0, nm, hl1, hn1⟩
      · exact Or.inl h
      · obtain ⟨c6, hc6, hcl6⟩ := Cond.classLink_spec hown hl1 e.platform hpl
        obtain ⟨a8, b8, h1, h2, h3⟩ := hn1
        cases Option.some.inj (h1.symm.trans hcl)
        cases Option.some.inj (h2.symm.trans hc6)
        exact Or.inr ⟨hz0, _, hcl6, h3⟩)
  obtain ⟨g₀, hfr⟩ := X'.frames_eq
  have hcell9 : ((T.setVm vm').setFrames (.throwing q :: below)).heap[q]? = some ce := by
    show T.heap[q]? = some ce
    rw [hT]; exact hcell
  have hend : Ended ((T.setVm vm').setFrames (.throwing q :: below)) below (.threw q) := State.frames_setFrames _ (State.cur_lt_of_frames hfr)
  refine ⟨(T.setVm vm').setFrames (.throwing q :: below), ?_, .threw q, X'.here.running, hend, Or.inr ⟨q, rfl, E, ce, locs, hx _ hT (X'.ends _).1.alike, hcell9, hv, hcl, (X'.ends _).1, (X'.ends _).2.mono hc hs, hf⟩⟩
  rw [X.pushThrowing_eq]
  exact st
/-- a thing of a world lies in the heap -/
theorem vx_lt {D : va_G} {cl : List vw_C} {ws : va_W} {H1 : Heap} (h : va_P D cl ws H1) {k : Nat} {q : Nat × va_E} (hk : ws[k]? = some q) : q.1 < H1.size := (h k q hk).lt
end VXS
/-! ===== END ===== -/
/-! ===== BEGIN methods with a table of their own: called by a name, returning or throwing ===== -/
section VXH
/-! vx_backW, vx_callVX, vx_callSX, vx_callVW, vx_runVW, vx_runVX, vx_runSX, vx_ofWH follow the same proofs as their sisters above (Free/Laws.lean, Shelf42/LK1.lean); vx_outP calls Shelf42/NT130.lean (outThrough). -/
section
variable {l : Launch} {R : Room} {p : Program} {e : Env} {below : List Frame} {s : State} {sargs : Array Value} {y : MethodName} {len W9 : Nat}
theorem vx_backW {ws : List Cond} {rm : Room} {Pc : Array Value → State → Prop} {Qc : Array Value → State → Outcome → State → Prop} {XC : String → State → State → Prop} {mc ms : Nat} {free : Addr → Prop} {bytes : ByteArray} {maxL : Nat} {ret : Option FieldType} {hh : List (Nat × Nat × Nat × Nat)}
    (hM : vx_Met l y ws rm Pc Qc XC mc ms free) (hblind : FrameBlind Pc) (hrc : rm.cells = mc) (hrs : rm.slots = ms)
    (hframes : rm.frames + 1 ≤ R.frames) (hlocals : W9 + (maxL + 11) + rm.locals ≤ R.locals)
    (hws : ∀ w ∈ ws, ∀ a' U, s.WarmedH U.vm → w.before a' U = true) (hcode : Cond.codeWith y bytes maxL ret hh ∈ ws) (hinit : ∀ a' U, s.WarmedH U.vm → (Cond.initialized y.cls).before a' U = true) :
    vx_Back l R p e below s sargs y len W9 (PreOf R mc ms Pc) (PostOf Qc mc ms free) (vx_Post XC mc ms free) := by
  intro m meth c A g ig mk a X hg hsize hdg hW hn hp
  have h1 : (headSpec ws rm).pre.before a A.U = true := atoms_intro fun w hw => hws w hw _ _ X.warmed
  have h2 : (Cond.codeWith y bytes maxL ret hh).before a A.U = true := hws _ hcode _ _ X.warmed
  have h3 : (Cond.initialized y.cls).before a A.U = true := hinit _ _ X.warmed
  have h4 : A.cells + (headSpec ws rm).room.cells ≤ R.cells := by rw [show (headSpec ws rm).room.cells = mc from hrc]; exact hp.1
  have h5 : A.slots + (headSpec ws rm).room.slots ≤ R.slots := by rw [show (headSpec ws rm).room.slots = ms from hrs]; exact hp.2.1
  have hPc : Pc a (A.U.calling g mk a) := hblind _ _ _ _ hp.2.2
  obtain ⟨U, Ls, c0, s0⟩ := A
  dsimp only [Pt.U, Pt.locs, Pt.cells, Pt.slots] at h1 h2 h3 h4 h5 X hn hPc ⊢
  obtain ⟨m9, methY, cY, hn9, hmY, hcY, -, hlY, -⟩ := Cond.codeWith_spec h2
  cases Option.some.inj (hn9.symm.trans hn)
  obtain ⟨kY, hkY, -⟩ := className_of_methodNamed hn
  have hinitY : kY.init = .initialized := Cond.initialized_spec (findClass_of_methodNamed hn) hkY h3
  have h : At U g.method c below := by rw [hg]; exact X.here
  have hlocals9 : W9 + (maxL + 11) + (headSpec ws rm).room.locals ≤ R.locals := hlocals
  have happ : (headSpec ws rm).appliesLoose y e.platform (U.calling g mk a) = true :=
    Spec.appliesLoose_calling (g := g) h hdg hn hkY hinitY
      (X.room_calling (g := g) (R' := (headSpec ws rm).room) hsize hmY hcY hframes (by rw [hlY]; omega) h4 h5) h1
  obtain ⟨mid, hmid⟩ := h.above
  have hfr : (U.setTop g).frames = (.java g :: mid) ++ below := by rw [State.frames_setTop' g h.top, hmid]; rfl
  obtain ⟨o, s₂, hsteps, -, hend, hq⟩ := Steps.callFree hM p X.admits X.cas X.clock (acts := []) hfr happ hPc trivial
  have hq' : vx_Q Qc XC mc ms free a (U.calling g mk a) o s₂ := hq
  rw [State.frames_setTop' g h.top] at hend
  obtain ⟨g₀, hg0⟩ := Option.isSome_iff_exists.mp h.top
  obtain ⟨r, hr⟩ := State.topJava?_eq_some.mp hg0
  have hr' : (({ U with heap := s₂.heap, slotsUsed := s₂.slotsUsed } : State).setVm s₂.vm).frames = .java g₀ :: r := hr
  rcases hq' with ⟨hqc, L, hfe, hL⟩ | ⟨q, rfl, E, ce, L, hx, hce, hcv, hcl, hW₂, hsm, hL⟩
  · obtain ⟨⟨v, rfl⟩, hW₂, e2, q2, q3, q4, q5, q6⟩ := id hfe
    have e3 : s₂ = ({ (U.calling g mk a).setFrames s₂.frames with heap := s₂.heap, slotsUsed := s₂.slotsUsed } : State).setVm s₂.vm := by
      have : s₂ = ({ s₂ with vm := (U.calling g mk a).vm } : State).setVm s₂.vm := rfl
      rw [e2] at this
      exact this
    obtain ⟨c₂, i₂, len₂, hc₂, hd₂, hf₂⟩ := hend
    have hW' : U.WarmedH s₂.vm := hW₂
    have hcc : c₂ = c := by
      have h1 : s₂.code? g.method = U.code? g.method := by
        rw [State.code?_eq, State.code?_eq, hW'.alike.method?]
      exact Option.some.inj (hc₂.symm.trans (h1.trans h.code))
    subst hcc
    have hlen : len₂ = len := by rw [hdg] at hd₂; cases hd₂; rfl
    subst hlen
    have hs₂ : s₂ = (({ U with heap := s₂.heap, slotsUsed := s₂.slotsUsed } : State).setVm s₂.vm).setTop { g with pc := g.pc + len₂, stack := v.toList ++ g.stack } := by
      refine e3.trans ?_
      rw [hf₂, State.calling_eq h.top, State.setFrames_setFrames, State.setTop_of_frames _ hr', hr]
      rfl
    have hsame : U.sameButNew ({ U with heap := s₂.heap, slotsUsed := s₂.slotsUsed } : State) L mc ms := by
      refine ⟨?_, q2, q3, q4, q5, q6⟩
      obtain ⟨t, ht, -⟩ := State.frames_cons hr
      show ({ U with heap := s₂.heap, slotsUsed := s₂.slotsUsed } : State) = { U.setFrames U.frames with heap := s₂.heap, slotsUsed := s₂.slotsUsed }
      rw [State.setFrames_self ht]
    subst hg
    refine Or.inl ⟨v, ⟨(({ U with heap := s₂.heap, slotsUsed := s₂.slotsUsed } : State).setVm s₂.vm), Ls ++ L, c0 + mc, s0 + ms⟩,
      ⟨X.admits, X.cas, X.clock, X.frames, X.room, X.hears, X.method, X.code, (X.here.setHeapUsed s₂.heap s₂.slotsUsed).setVm hW'.alike, X.tail, State.WarmedH.trans X.warmed hW', X.limits, X.bytes, X.same.trans (hsame.setVm s.vm)⟩,
      ⟨g, mk, s₂, L, rfl, rfl, hqc, rfl, hL, rfl, rfl⟩, ?_⟩
    show Steps p.tables e below _ ((({ U with heap := s₂.heap, slotsUsed := s₂.slotsUsed } : State).setVm s₂.vm).setTop { g with pc := g.pc + len₂, stack := v.toList ++ g.stack })
    rw [← hs₂]
    exact hsteps
  · obtain ⟨e2, q2, q3, q4, q5, q6⟩ := id hsm
    have e3 : s₂ = ({ (U.calling g mk a).setFrames s₂.frames with heap := s₂.heap, slotsUsed := s₂.slotsUsed } : State).setVm s₂.vm := by
      have : s₂ = ({ s₂ with vm := (U.calling g mk a).vm } : State).setVm s₂.vm := rfl
      rw [e2] at this
      exact this
    have hf₂ : s₂.frames = .throwing q :: .java g :: U.frames.tail := hend
    have hW' : U.WarmedH s₂.vm := hW₂
    have hs₂ : s₂ = ((({ U with heap := s₂.heap, slotsUsed := s₂.slotsUsed } : State).setVm s₂.vm).setTop g).pushFrame (.throwing q) := by
      refine e3.trans ?_
      rw [hf₂, State.calling_eq h.top, State.setFrames_setFrames, State.pushFrame, State.frames_setTop _ hr', State.setTop_of_frames _ hr', State.setFrames_setFrames, hr]
      rfl
    have hsame : U.sameButNew ({ U with heap := s₂.heap, slotsUsed := s₂.slotsUsed } : State) L mc ms := by
      refine ⟨?_, q2, q3, q4, q5, q6⟩
      obtain ⟨t, ht, -⟩ := State.frames_cons hr
      show ({ U with heap := s₂.heap, slotsUsed := s₂.slotsUsed } : State) = { U.setFrames U.frames with heap := s₂.heap, slotsUsed := s₂.slotsUsed }
      rw [State.setFrames_self ht]
    subst hg
    refine Or.inr ⟨q, ⟨(({ U with heap := s₂.heap, slotsUsed := s₂.slotsUsed } : State).setVm s₂.vm), Ls ++ L, c0 + mc, s0 + ms⟩,
      ⟨X.admits, X.cas, X.clock, X.frames, X.room, X.hears, X.method, X.code, (X.here.setHeapUsed s₂.heap s₂.slotsUsed).setVm hW'.alike, X.tail, State.WarmedH.trans X.warmed hW', X.limits, X.bytes, X.same.trans (hsame.setVm s.vm)⟩,
      ⟨g, mk, s₂, L, E, ce, rfl, rfl, hx, hce, hcv, hcl, rfl, hL, rfl, rfl⟩, ?_⟩
    show Steps p.tables e below _ (((({ U with heap := s₂.heap, slotsUsed := s₂.slotsUsed } : State).setVm s₂.vm).setTop g).pushFrame (.throwing q))
    rw [← hs₂]
    exact hsteps
end
variable {p : Program} {l : Launch} {e : Env} {R : Room} {s : State} {m : MethodId} {args : Array Value} {below : List Frame} {meth : Method} {c : Code} {T : State} {H : Heap} {locs : List Loc} {cells slots : Nat}
theorem vx_callVX (X : Stand p l e R s m args below meth c T locs cells slots) (hexec : p.tables.exec = Jvm.exec) {own C : String} {index : Nat} {y : MethodName} {bytes : ByteArray} {maxL : Nat} {ret : Option FieldType} {hh : List (Nat × Nat × Nat × Nat)}
    (hown : s.vm.findClass own = some m.cls) (hlink : (Cond.methodLink own index y).before args s = true) (hinst : (Cond.instanceMethod y).before args s = true) (hsel : (Cond.selects C y y).before args s = true)
    (hcode : (Cond.codeWith y bytes maxL ret hh).before args s = true) (hy : y.cls ≠ "java/lang/invoke/MethodHandle" ∧ y.cls ≠ "java/lang/invoke/VarHandle")
    {W9 : Nat} {Pre : Pt → Array Value → Prop} {Post : Pt → Array Value → Option Value → Pt → Prop} {PostX : Pt → Array Value → Addr → Pt → Prop} (hK : vx_Back l R p e below s args y 3 W9 Pre Post PostX)
    {b : Addr} {cellB : Cell} (hcell : T.heap[b]? = some cellB) (hobj : cellB.vm.isStatics = false) (hcls : s.vm.findClass C = some cellB.cls)
    {g : JFrame} (hg : g.method = m) (hsize : g.locals.size = c.maxLocals) {argsL rest : List Value} (hlen : ∀ sig, parseMethodDescriptor y.desc = some sig → argsL.length = sig.parameters.length)
    (hstack : g.stack = argsL.reverse ++ .ref b :: rest) (hW : 2 * g.monitorRoom + (rest.map fun v => v.category).sum ≤ W9) (hdg : decode c.code g.pc = .ok (.invokevirtual index, 3))
    (hpre : ∀ vm₁, s.WarmedH vm₁ → Pre ⟨T.setVm vm₁, locs, cells, slots⟩ (Value.ref b :: argsL).toArray) :
    (∃ (v : Option Value) (vm₁ : Vm) (B : Pt), s.WarmedH vm₁ ∧ Stand p l e R s m args below meth c B.U B.locs B.cells B.slots ∧ Post ⟨T.setVm vm₁, locs, cells, slots⟩ (Value.ref b :: argsL).toArray v B ∧
      ∀ target, Steps p.tables e below (B.U.setTop { g with pc := g.pc + 3, stack := v.toList ++ rest }) target → Steps p.tables e below (T.setTop g) target) ∨
    (∃ (q : Addr) (vm₁ : Vm) (B : Pt), s.WarmedH vm₁ ∧ Stand p l e R s m args below meth c B.U B.locs B.cells B.slots ∧ PostX ⟨T.setVm vm₁, locs, cells, slots⟩ (Value.ref b :: argsL).toArray q B ∧
      Steps p.tables e below (T.setTop g) ((B.U.setTop { g with stack := rest }).pushFrame (.throwing q))) := by
  obtain ⟨mk, methM, hnamed, hmethM, hstM, habM⟩ := Cond.instanceMethod_spec hinst
  obtain ⟨m8, methM', cM, hn8, hmethM', -, -, -, -, -, -, hsigM⟩ := Cond.codeWith_spec hcode
  cases Option.some.inj (hn8.symm.trans hnamed)
  cases hmethM.symm.trans hmethM'
  obtain ⟨c2, r2, m2, q1, q2, q3, q4, kP, hkP, hkPi⟩ := Cond.selects_spec hsel
  cases hcls.symm.trans q1
  cases (State.methodFound?_of_named hnamed hy).symm.trans q2
  cases hnamed.symm.trans q3
  have hselP : selectMethod e.platform s.vm cellB.cls mk = .method mk := by rw [Launch.admits_selectMethod X.admits]; exact q4
  obtain ⟨vm₁, X₁, hstep₁⟩ := X.invokevirtual hexec hown hlink hnamed hmethM hstM hkP hkPi hy (a := b) (cell := cellB) hcell
    (fun z h => by rw [h] at hobj; cases hobj) hselP hmethM habM hkP hkPi (g := g) hg (argsL := argsL) (rest := rest) (hlen _ hsigM) hstack hdg
  rcases hK m meth c ⟨T.setVm vm₁, locs, cells, slots⟩ { g with stack := rest } (.invokevirtual index) mk (Value.ref b :: argsL).toArray X₁ hg hsize hdg hW (X₁.named hnamed) (hpre vm₁ X₁.warmed) with ⟨v, B, X', hpost, hsteps⟩ | ⟨q, B, X', hpost, hsteps⟩
  · exact Or.inl ⟨v, vm₁, B, X₁.warmed, X', hpost, fun target h => hstep₁ _ fun acts => by rw [doInvoke_state]; exact hsteps.trans h⟩
  · exact Or.inr ⟨q, vm₁, B, X₁.warmed, X', hpost, hstep₁ _ fun acts => by rw [doInvoke_state]; exact hsteps⟩
theorem vx_callSX (X : Stand p l e R s m args below meth c T locs cells slots) (hexec : p.tables.exec = Jvm.exec) {own : String} {index : Nat} {y : MethodName} {bytes : ByteArray} {maxL : Nat} {ret : Option FieldType} {hh : List (Nat × Nat × Nat × Nat)}
    (hown : s.vm.findClass own = some m.cls) (hlink : (Cond.methodLink own index y).before args s = true) (hstat : (Cond.static y).before args s = true) (hinit : (Cond.initialized y.cls).before args s = true)
    (hcode : (Cond.codeWith y bytes maxL ret hh).before args s = true) (hy : y.cls ≠ "java/lang/invoke/MethodHandle" ∧ y.cls ≠ "java/lang/invoke/VarHandle")
    {W9 : Nat} {Pre : Pt → Array Value → Prop} {Post : Pt → Array Value → Option Value → Pt → Prop} {PostX : Pt → Array Value → Addr → Pt → Prop} (hK : vx_Back l R p e below s args y 3 W9 Pre Post PostX)
    {g : JFrame} (hg : g.method = m) (hsize : g.locals.size = c.maxLocals) {argsL rest : List Value} (hlen : ∀ sig, parseMethodDescriptor y.desc = some sig → argsL.length = sig.parameters.length)
    (hstack : g.stack = argsL.reverse ++ rest) (hW : 2 * g.monitorRoom + (rest.map fun v => v.category).sum ≤ W9) (hdg : decode c.code g.pc = .ok (.invokestatic index, 3))
    (hpre : ∀ vm₁, s.WarmedH vm₁ → Pre ⟨T.setVm vm₁, locs, cells, slots⟩ argsL.toArray) :
    (∃ (v : Option Value) (vm₁ : Vm) (B : Pt), s.WarmedH vm₁ ∧ Stand p l e R s m args below meth c B.U B.locs B.cells B.slots ∧ Post ⟨T.setVm vm₁, locs, cells, slots⟩ argsL.toArray v B ∧
      ∀ target, Steps p.tables e below (B.U.setTop { g with pc := g.pc + 3, stack := v.toList ++ rest }) target → Steps p.tables e below (T.setTop g) target) ∨
    (∃ (q : Addr) (vm₁ : Vm) (B : Pt), s.WarmedH vm₁ ∧ Stand p l e R s m args below meth c B.U B.locs B.cells B.slots ∧ PostX ⟨T.setVm vm₁, locs, cells, slots⟩ argsL.toArray q B ∧
      Steps p.tables e below (T.setTop g) ((B.U.setTop { g with stack := rest }).pushFrame (.throwing q))) := by
  obtain ⟨mk, methM, cM, hnamed, hmethM, -, -, -, -, -, -, hsigM⟩ := Cond.codeWith_spec hcode
  have hstatic : methM.isStatic = true := Cond.static_spec hnamed hmethM hstat
  obtain ⟨kP, hkP, -⟩ := className_of_methodNamed hnamed
  have hinitP : kP.init = .initialized := Cond.initialized_spec (findClass_of_methodNamed hnamed) hkP hinit
  obtain ⟨vm₁, X₁, hstep₁⟩ := X.invokestatic hexec hown hlink hnamed hmethM hstatic hkP hinitP hy (g := g) hg (argsL := argsL) (rest := rest) (hlen _ hsigM) hstack hdg
  rcases hK m meth c ⟨T.setVm vm₁, locs, cells, slots⟩ { g with stack := rest } (.invokestatic index) mk argsL.toArray X₁ hg hsize hdg hW (X₁.named hnamed) (hpre vm₁ X₁.warmed) with ⟨v, B, X', hpost, hsteps⟩ | ⟨q, B, X', hpost, hsteps⟩
  · exact Or.inl ⟨v, vm₁, B, X₁.warmed, X', hpost, fun target h => hstep₁ _ fun acts => by rw [doInvoke_state]; exact hsteps.trans h⟩
  · exact Or.inr ⟨q, vm₁, B, X₁.warmed, X', hpost, hstep₁ _ fun acts => by rw [doInvoke_state]; exact hsteps⟩
theorem vx_callVW (X : Stand p l e R s m args below meth c T locs cells slots) (hexec : p.tables.exec = Jvm.exec) {own C : String} {index : Nat} {y : MethodName} {bytes : ByteArray} {maxL : Nat} {ret : Option FieldType} {hh : List (Nat × Nat × Nat × Nat)}
    (hown : s.vm.findClass own = some m.cls) (hlink : (Cond.methodLink own index y).before args s = true) (hinst : (Cond.instanceMethod y).before args s = true) (hsel : (Cond.selects C y y).before args s = true)
    (hcode : (Cond.codeWith y bytes maxL ret hh).before args s = true) (hy : y.cls ≠ "java/lang/invoke/MethodHandle" ∧ y.cls ≠ "java/lang/invoke/VarHandle")
    {W9 : Nat} {Pre : Pt → Array Value → Prop} {Post : Pt → Array Value → Option Value → Pt → Prop} (hK : Back l R p e below s args y 3 W9 Pre Post)
    {b : Addr} {cellB : Cell} (hcell : T.heap[b]? = some cellB) (hobj : cellB.vm.isStatics = false) (hcls : s.vm.findClass C = some cellB.cls)
    {g : JFrame} (hg : g.method = m) (hsize : g.locals.size = c.maxLocals) {argsL rest : List Value} (hlen : ∀ sig, parseMethodDescriptor y.desc = some sig → argsL.length = sig.parameters.length)
    (hstack : g.stack = argsL.reverse ++ .ref b :: rest) (hW : 2 * g.monitorRoom + (rest.map fun v => v.category).sum ≤ W9) (hdg : decode c.code g.pc = .ok (.invokevirtual index, 3))
    (hpre : ∀ vm₁, s.WarmedH vm₁ → Pre ⟨T.setVm vm₁, locs, cells, slots⟩ (Value.ref b :: argsL).toArray) :
    ∃ (v : Option Value) (vm₁ : Vm) (B : Pt), s.WarmedH vm₁ ∧ Stand p l e R s m args below meth c B.U B.locs B.cells B.slots ∧ Post ⟨T.setVm vm₁, locs, cells, slots⟩ (Value.ref b :: argsL).toArray v B ∧
      ∀ target, Steps p.tables e below (B.U.setTop { g with pc := g.pc + 3, stack := v.toList ++ rest }) target → Steps p.tables e below (T.setTop g) target := by
  obtain ⟨mk, methM, hnamed, hmethM, hstM, habM⟩ := Cond.instanceMethod_spec hinst
  obtain ⟨m8, methM', cM, hn8, hmethM', -, -, -, -, -, -, hsigM⟩ := Cond.codeWith_spec hcode
  cases Option.some.inj (hn8.symm.trans hnamed)
  cases hmethM.symm.trans hmethM'
  obtain ⟨c2, r2, m2, q1, q2, q3, q4, kP, hkP, hkPi⟩ := Cond.selects_spec hsel
  cases hcls.symm.trans q1
  cases (State.methodFound?_of_named hnamed hy).symm.trans q2
  cases hnamed.symm.trans q3
  have hselP : selectMethod e.platform s.vm cellB.cls mk = .method mk := by rw [Launch.admits_selectMethod X.admits]; exact q4
  obtain ⟨vm₁, X₁, hstep₁⟩ := X.invokevirtual hexec hown hlink hnamed hmethM hstM hkP hkPi hy (a := b) (cell := cellB) hcell
    (fun z h => by rw [h] at hobj; cases hobj) hselP hmethM habM hkP hkPi (g := g) hg (argsL := argsL) (rest := rest) (hlen _ hsigM) hstack hdg
  obtain ⟨v, B, X', hpost, hsteps⟩ := hK m meth c ⟨T.setVm vm₁, locs, cells, slots⟩ { g with stack := rest } (.invokevirtual index) mk (Value.ref b :: argsL).toArray X₁ hg hsize hdg hW (X₁.named hnamed) (hpre vm₁ X₁.warmed)
  exact ⟨v, vm₁, B, X₁.warmed, X', hpost, fun target h => hstep₁ _ fun acts => by rw [doInvoke_state]; exact hsteps.trans h⟩
abbrev vx_CVW (R : Room) (s : State) (args : Array Value) (own C : String) (index : Nat) (y : MethodName) (bytes : ByteArray) (maxL : Nat) (ret : Option FieldType) (hh : List (Nat × Nat × Nat × Nat)) (ws : List Cond) (rm : Room) (mc ms n : Nat) : Prop :=
  (rm.cells = mc ∧ rm.slots = ms ∧ rm.frames + 1 ≤ R.frames ∧ 8 + (maxL + 11) + rm.locals ≤ R.locals ∧ (∀ w ∈ ws, ∀ (a' : Array Value) (U : State), s.WarmedH U.vm → w.before a' U = true) ∧ Cond.codeWith y bytes maxL ret hh ∈ ws) ∧
  (Cond.codeWith y bytes maxL ret hh).before args s = true ∧ (Cond.initialized y.cls).before args s = true ∧ (y.cls ≠ "java/lang/invoke/MethodHandle" ∧ y.cls ≠ "java/lang/invoke/VarHandle") ∧
  (∀ sig, parseMethodDescriptor y.desc = some sig → n = sig.parameters.length) ∧ (Cond.methodLink own index y).before args s = true ∧ (Cond.instanceMethod y).before args s = true ∧ (Cond.selects C y y).before args s = true
theorem vx_cwVW {own C : String} {index maxL mc ms : Nat} {y : MethodName} {bytes : ByteArray} {ret : Option FieldType} {hh : List (Nat × Nat × Nat × Nat)} {Ts ws ws' : List Cond} {rm : Room} (n : Nat) (ht : ∀ w ∈ Ts, w.before args s = true) (hT : GoodIn Ts (wsV own index C y ws)) (hw : ws = Cond.codeWith y bytes maxL ret hh :: ws') (hrc : rm.cells = mc) (hrs : rm.slots = ms)
    (hd : y.cls = C ∧ y.cls ≠ "java/lang/invoke/MethodHandle" ∧ y.cls ≠ "java/lang/invoke/VarHandle" ∧ (parseMethodDescriptor y.desc).map (fun d => d.parameters.length) = some n) (hR : rm.frames + 1 ≤ R.frames ∧ 8 + (maxL + 11) + rm.locals ≤ R.locals) :
    vx_CVW R s args own C index y bytes maxL ret hh ws rm mc ms n := by
  obtain ⟨hC, hd⟩ := hd
  subst hC
  have ok : ∀ w ∈ wsV own index y.cls y ws, w.before args s = true := fun w h => ht w (hT w h).1
  have hG : GoodIn Ts ws := fun w h => hT w (by unfold wsV; exact List.mem_append_right _ h)
  have hc : Cond.codeWith y bytes maxL ret hh ∈ ws := by rw [hw]; exact List.mem_cons_self
  refine ⟨⟨hrc, hrs, hR.1, hR.2, pay_in ht hG, hc⟩, ht _ (hG _ hc).1, ok _ (by simp [wsV]), ⟨hd.1, hd.2.1⟩, fun sig h => ?_, ok _ (by simp [wsV]), ok _ (by simp [wsV]), ok _ (by simp [wsV])⟩
  have h2 := hd.2.2
  rw [h] at h2
  exact (Option.some.inj h2).symm
theorem vx_runVW {y : MethodName} {bytes cc : ByteArray} {maxL nL mc ms n index : Nat} {ret : Option FieldType} {hh : List (Nat × Nat × Nat × Nat)} {ws : List Cond} {rm : Room} {Pc : Array Value → State → Prop} {Qc : Array Value → State → Outcome → State → Prop} {free : Addr → Prop} {Ts : List Cond} {own C : String} {b : Addr} {As rest : List Value} {g : JFrame}
    (S : CallFix p m c cc nL s args Ts own) (hM : Met l y ws rm Pc Qc mc ms free) (cw : vx_CVW R s args own C index y bytes maxL ret hh ws rm mc ms n) (hp : PreV s H C b Pc As)
    (hg : g.method = m) (hn : As.length = n) (hsize : g.locals.size = nL) (hstack : g.stack = As.reverse ++ .ref b :: rest) (hW : 2 * g.monitorRoom + (rest.map fun v => v.category).sum ≤ 8) (hdg : decode cc g.pc = .ok (.invokevirtual index, 3)) (hf : cells + mc ≤ R.cells ∧ slots + ms ≤ R.slots) :
    va_Run p l e R s m args below meth c H locs cells slots mc ms g rest (Qc (Value.ref b :: As).toArray) free := by
  obtain ⟨⟨hrc, hrs, hfr, hlo, hws, hcw⟩, hcode, hini, hy, hlen, hl, hin, hse⟩ := cw
  have hK : Back l R p e below s args y 3 8 (PreOf R mc ms Pc) (PostOf Qc mc ms free) := va_backW (hh := hh) (bytes := bytes) (maxL := maxL) (ret := ret) hM hp.1 hrc hrs hfr hlo hws hcw (fun a' U hW => word_at hW (Or.inl (by first | rfl | simp [Cond.onTables, Cond.keeps, Cond.steady])) hini)
  obtain ⟨hx, hb, hml, ho, -⟩ := S
  obtain ⟨-, ⟨cellB, hcB, hoB, hclB⟩, hPc⟩ := hp
  intro T hT X
  obtain ⟨v, vm₁, ⟨U', l2, c2, s2⟩, hW₁, X', ⟨g', mk, t, L, e1, e2, hq, h1, hL, h2, h3⟩, st⟩ := vx_callVW X hx (C := C) (hh := hh) (bytes := bytes) (maxL := maxL) (ret := ret) ho hl hin hse hcode hy hK (by rw [hT]; exact hcB) hoB hclB hg (hsize.trans hml.symm) (argsL := As) (rest := rest) (fun sig h => hn.trans (hlen sig h)) hstack hW (by rw [hb]; exact hdg)
    (fun vm₁ hW₁ => ⟨hf.1, hf.2, hPc (T.setVm vm₁) hT hW₁⟩)
  dsimp only [Pt.U, Pt.locs, Pt.cells, Pt.slots] at X' e1 e2 h1 h2 h3 st
  subst h1; subst h2; subst h3
  exact ⟨v, (T.setVm vm₁).calling g' mk (Value.ref b :: As).toArray, t, U', L, hT, X', hL, e1, e2, hq, st⟩
section
variable {y : MethodName} {bytes cc : ByteArray} {maxL nL mc ms n index : Nat} {ret : Option FieldType} {ws : List Cond} {rm : Room} {Pc : Array Value → State → Prop} {Qc : Array Value → State → Outcome → State → Prop} {XC : String → State → State → Prop} {free : Addr → Prop} {Ts : List Cond} {own C : String} {b : Addr} {As rest : List Value} {g : JFrame}
theorem vx_runVX {hh : List (Nat × Nat × Nat × Nat)} (S : CallFix p m c cc nL s args Ts own) (hM : vx_Met l y ws rm Pc Qc XC mc ms free) (cw : vx_CVW R s args own C index y bytes maxL ret hh ws rm mc ms n) (hp : PreV s H C b Pc As)
    (hg : g.method = m) (hn : As.length = n) (hsize : g.locals.size = nL) (hstack : g.stack = As.reverse ++ .ref b :: rest) (hW : 2 * g.monitorRoom + (rest.map fun v => v.category).sum ≤ 8) (hdg : decode cc g.pc = .ok (.invokevirtual index, 3)) (hf : cells + mc ≤ R.cells ∧ slots + ms ≤ R.slots) :
    vx_Run p l e R s m args below meth c H locs cells slots mc ms g rest (Qc (Value.ref b :: As).toArray) XC free := by
  obtain ⟨⟨hrc, hrs, hfr, hlo, hws, hcw⟩, hcode, hini, hy, hlen, hl, hin, hse⟩ := cw
  have hK : vx_Back l R p e below s args y 3 8 (PreOf R mc ms Pc) (PostOf Qc mc ms free) (vx_Post XC mc ms free) := vx_backW (hh := hh) (bytes := bytes) (maxL := maxL) (ret := ret) hM hp.1 hrc hrs hfr hlo hws hcw (fun a' U hW => word_at hW (Or.inl (by first | rfl | simp [Cond.onTables, Cond.keeps, Cond.steady])) hini)
  obtain ⟨hx, hb, hml, ho, -⟩ := S
  obtain ⟨-, ⟨cellB, hcB, hoB, hclB⟩, hPc⟩ := hp
  intro T hT X
  rcases vx_callVX X hx (C := C) (hh := hh) (bytes := bytes) (maxL := maxL) (ret := ret) ho hl hin hse hcode hy hK (by rw [hT]; exact hcB) hoB hclB hg (hsize.trans hml.symm) (argsL := As) (rest := rest) (fun sig h => hn.trans (hlen sig h)) hstack hW (by rw [hb]; exact hdg)
    (fun vm₁ hW₁ => ⟨hf.1, hf.2, hPc (T.setVm vm₁) hT hW₁⟩) with ⟨v, vm₁, ⟨U', l2, c2, s2⟩, hW₁, X', ⟨g', mk, t, L, e1, e2, hq, h1, hL, h2, h3⟩, st⟩ | ⟨q, vm₁, ⟨U', l2, c2, s2⟩, hW₁, X', ⟨g', mk, t, L, E, ce, e1, e2, hq, hce, hcv, hcl, h1, hL, h2, h3⟩, st⟩
  · dsimp only [Pt.U, Pt.locs, Pt.cells, Pt.slots] at X' e1 e2 h1 h2 h3 st
    subst h1; subst h2; subst h3
    exact Or.inl ⟨v, (T.setVm vm₁).calling g' mk (Value.ref b :: As).toArray, t, U', L, hT, X', hL, e1, e2, hq, st⟩
  · dsimp only [Pt.U, Pt.locs, Pt.cells, Pt.slots] at X' e1 e2 h1 h2 h3 st hcl
    subst h1; subst h2; subst h3
    exact Or.inr ⟨q, (T.setVm vm₁).calling g' mk (Value.ref b :: As).toArray, t, U', L, E, ce, hT, X', hL, e1, e2, hq, hce, hcv, vx_cls hW₁ hcl, st⟩
theorem vx_runSX {hh : List (Nat × Nat × Nat × Nat)} (S : CallFix p m c cc nL s args Ts own) (hM : vx_Met l y ws rm Pc Qc XC mc ms free) (cw : vx_CSW R s args own index y bytes maxL ret hh ws rm mc ms n) (hp : PreS s H Pc As)
    (hg : g.method = m) (hn : As.length = n) (hsize : g.locals.size = nL) (hstack : g.stack = As.reverse ++ rest) (hW : 2 * g.monitorRoom + (rest.map fun v => v.category).sum ≤ 8) (hdg : decode cc g.pc = .ok (.invokestatic index, 3)) (hf : cells + mc ≤ R.cells ∧ slots + ms ≤ R.slots) :
    vx_Run p l e R s m args below meth c H locs cells slots mc ms g rest (Qc As.toArray) XC free := by
  obtain ⟨⟨hrc, hrs, hfr, hlo, hws, hcw⟩, hcode, hini, hy, hlen, hl, hstt⟩ := cw
  have hK : vx_Back l R p e below s args y 3 8 (PreOf R mc ms Pc) (PostOf Qc mc ms free) (vx_Post XC mc ms free) := vx_backW (hh := hh) (bytes := bytes) (maxL := maxL) (ret := ret) hM hp.1 hrc hrs hfr hlo hws hcw (fun a' U hW => word_at hW (Or.inl (by first | rfl | simp [Cond.onTables, Cond.keeps, Cond.steady])) hini)
  obtain ⟨hx, hb, hml, ho, -⟩ := S
  intro T hT X
  rcases vx_callSX X hx (hh := hh) (bytes := bytes) (maxL := maxL) (ret := ret) ho hl hstt hini hcode hy hK hg (hsize.trans hml.symm) (argsL := As) (rest := rest) (fun sig h => hn.trans (hlen sig h)) hstack hW (by rw [hb]; exact hdg)
    (fun vm₁ hW₁ => ⟨hf.1, hf.2, hp.2 (T.setVm vm₁) hT hW₁⟩) with ⟨v, vm₁, ⟨U', l2, c2, s2⟩, hW₁, X', ⟨g', mk, t, L, e1, e2, hq, h1, hL, h2, h3⟩, st⟩ | ⟨q, vm₁, ⟨U', l2, c2, s2⟩, hW₁, X', ⟨g', mk, t, L, E, ce, e1, e2, hq, hce, hcv, hcl, h1, hL, h2, h3⟩, st⟩
  · dsimp only [Pt.U, Pt.locs, Pt.cells, Pt.slots] at X' e1 e2 h1 h2 h3 st
    subst h1; subst h2; subst h3
    exact Or.inl ⟨v, (T.setVm vm₁).calling g' mk As.toArray, t, U', L, hT, X', hL, e1, e2, hq, st⟩
  · dsimp only [Pt.U, Pt.locs, Pt.cells, Pt.slots] at X' e1 e2 h1 h2 h3 st hcl
    subst h1; subst h2; subst h3
    exact Or.inr ⟨q, (T.setVm vm₁).calling g' mk As.toArray, t, U', L, E, ce, hT, X', hL, e1, e2, hq, hce, hcv, vx_cls hW₁ hcl, st⟩
end
end VXH
theorem vx_ofWH {l : Launch} {y : MethodName} {ws ws' : List Cond} {rm : Room} {Pc : Array Value → State → Prop} {Qc : Array Value → State → Outcome → State → Prop} {XC : String → State → State → Prop} {mc ms : Nat} {free : Addr → Prop} {cc : ByteArray} {maxL : Nat} {ret : Option FieldType} {hh : List (Nat × Nat × Nat × Nat)}
    (hy : plainName y.cls = true) (hw : ws = Cond.codeWith y cc maxL ret hh :: ws')
    (body : ∀ p e s m args below meth c s₁, BodyLoose p l y (headSpec ws rm) cc maxL ret e s m args below meth c s₁ → c.maxLocals = maxL → Pc args s →
      W p l e (headSpec ws rm).room s m args below meth c s.heap [] 0 0 (vx_MQ below Qc XC args s mc ms free) (entryFrame m args maxL)) : vx_Met l y ws rm Pc Qc XC mc ms free := by
  refine MetFree.of_bodyS (code := cc) (maxLocals := maxL) (ret := ret) hy ?_ ?_
  · intro args s m h hn
    obtain ⟨m9, meth, c, hn9, h1, h2, h3, h4, -, h5, h6, -⟩ := Cond.codeWith_spec (atoms_spec (ws := ws) h _ (by rw [hw]; exact List.mem_cons_self))
    cases hn.symm.trans hn9
    exact ⟨meth, c, h1, h2, h3, h4, h5, h6⟩
  · intro p e s m args below meth c s₁ B hml hP _
    have hh0 : s₁.heap = s.heap := by rw [B.state]; rfl
    obtain ⟨t, a1, o, b1, b2, b3⟩ := body p e s m args below meth c s₁ B hml hP s₁ hh0 (Stand.of_body B)
    exact ⟨t, o, a1, b1, b2, b3⟩
/-! ===== END ===== -/
end
section
def RX0 : String := "SheetFolder$History"
def TX0 : u_T := fun k => match k with
  | 0 => ("SheetFolder$History", "before", "[LSheetFolder$Part;", true)
  | 1 => ("SheetFolder$History", "oldest", "I", false)
  | _ => ("SheetFolder$History", "count", "I", false)
def tyX0 : Nat → FieldType := fun k => match k with
  | 0 => .array (.object "SheetFolder$Part")
  | 1 => .int
  | _ => .int
abbrev wsX00 : List Cond := u_ws RX0 TX0 3
theorem nmX0 : ∀ a, a < 3 → ∀ b, b < 3 → a ≠ b → (TX0 a).2.1 ≠ (TX0 b).2.1 := by decide +kernel
theorem tyX0_ok : ∀ k, k < 3 → parseFieldDescriptor (TX0 k).2.2.1 = some (tyX0 k) := by decide +kernel
abbrev cX0_init : ByteArray := prog_2_method_1_code
def yX0_init : MethodName := ⟨RX0, "<init>", "()V"⟩
abbrev cX0_forgetAll : ByteArray := prog_2_method_2_code
def yX0_forgetAll : MethodName := ⟨RX0, "forgetAll", "()V"⟩
abbrev cX0_remember : ByteArray := prog_2_method_3_code
def yX0_remember : MethodName := ⟨RX0, "remember", "(LSheetFolder$Part;)V"⟩
abbrev cX0_takeBack : ByteArray := prog_2_method_4_code
def yX0_takeBack : MethodName := ⟨RX0, "takeBack", "(LSheetFolder$Part;)Z"⟩
def RX1 : String := "SheetFolder$Part"
def TX1 : u_T := fun k => match k with
  | 0 => ("SheetFolder$Part", "legCount", "I", false)
  | 1 => ("SheetFolder$Part", "legLengths", "[I", true)
  | 2 => ("SheetFolder$Part", "upBits", "I", false)
  | 3 => ("SheetFolder$Part", "thickness", "I", false)
  | 4 => ("SheetFolder$Part", "radius", "I", false)
  | 5 => ("SheetFolder$Part", "neutral", "I", false)
  | 6 => ("SheetFolder$Part", "toolNumbers", "[I", true)
  | 7 => ("SheetFolder$Part", "flipCost", "I", false)
  | 8 => ("SheetFolder$Part", "turnCost", "I", false)
  | 9 => ("SheetFolder$Part", "moveCost", "I", false)
  | 10 => ("SheetFolder$Part", "backCount", "I", false)
  | 11 => ("SheetFolder$Part", "backRatios", "[I", true)
  | 12 => ("SheetFolder$Part", "backAngles", "[I", true)
  | 13 => ("SheetFolder$Part", "madeBits", "I", false)
  | 14 => ("SheetFolder$Part", "stepCount", "I", false)
  | 15 => ("SheetFolder$Part", "stepCodes", "[I", true)
  | 16 => ("SheetFolder$Part", "stepGauges", "[I", true)
  | _ => ("SheetFolder$Part", "stepCosts", "[I", true)
def tyX1 : Nat → FieldType := fun k => match k with
  | 0 => .int
  | 1 => .array .int
  | 2 => .int
  | 3 => .int
  | 4 => .int
  | 5 => .int
  | 6 => .array .int
  | 7 => .int
  | 8 => .int
  | 9 => .int
  | 10 => .int
  | 11 => .array .int
  | 12 => .array .int
  | 13 => .int
  | 14 => .int
  | 15 => .array .int
  | 16 => .array .int
  | _ => .array .int
abbrev wsX10 : List Cond := u_ws RX1 TX1 18
theorem nmX1 : ∀ a, a < 18 → ∀ b, b < 18 → a ≠ b → (TX1 a).2.1 ≠ (TX1 b).2.1 := by decide +kernel
theorem tyX1_ok : ∀ k, k < 18 → parseFieldDescriptor (TX1 k).2.2.1 = some (tyX1 k) := by decide +kernel
abbrev cX1_init : ByteArray := prog_3_method_1_code
def yX1_init : MethodName := ⟨RX1, "<init>", "()V"⟩
abbrev cX1_clear : ByteArray := prog_3_method_2_code
def yX1_clear : MethodName := ⟨RX1, "clear", "()V"⟩
abbrev cX1_copyFrom : ByteArray := prog_3_method_3_code
def yX1_copyFrom : MethodName := ⟨RX1, "copyFrom", "(LSheetFolder$Part;)V"⟩
abbrev cX1_putSheet : ByteArray := prog_3_method_4_code
def yX1_putSheet : MethodName := ⟨RX1, "putSheet", "(III)V"⟩
abbrev cX1_putTool : ByteArray := prog_3_method_5_code
def yX1_putTool : MethodName := ⟨RX1, "putTool", "(III)V"⟩
abbrev cX1_putCosts : ByteArray := prog_3_method_6_code
def yX1_putCosts : MethodName := ⟨RX1, "putCosts", "(III)V"⟩
abbrev cX1_addBack : ByteArray := prog_3_method_7_code
def yX1_addBack : MethodName := ⟨RX1, "addBack", "(II)V"⟩
abbrev cX1_lastBackRatio : ByteArray := prog_3_method_8_code
def yX1_lastBackRatio : MethodName := ⟨RX1, "lastBackRatio", "()I"⟩
abbrev cX1_addLeg : ByteArray := prog_3_method_9_code
def yX1_addLeg : MethodName := ⟨RX1, "addLeg", "(IZ)V"⟩
abbrev cX1_bendCount : ByteArray := prog_3_method_10_code
def yX1_bendCount : MethodName := ⟨RX1, "bendCount", "()I"⟩
abbrev cX1_allBends : ByteArray := prog_3_method_11_code
def yX1_allBends : MethodName := ⟨RX1, "allBends", "()I"⟩
abbrev cX1_goesUp : ByteArray := prog_3_method_12_code
def yX1_goesUp : MethodName := ⟨RX1, "goesUp", "(I)Z"⟩
abbrev cX1_sumOfLegs : ByteArray := prog_3_method_13_code
def yX1_sumOfLegs : MethodName := ⟨RX1, "sumOfLegs", "(I)I"⟩
abbrev cX1_isSameFromOtherEnd : ByteArray := prog_3_method_14_code
def yX1_isSameFromOtherEnd : MethodName := ⟨RX1, "isSameFromOtherEnd", "()Z"⟩
abbrev cX1_deductionOfBend : ByteArray := prog_3_method_15_code
def yX1_deductionOfBend : MethodName := ⟨RX1, "deductionOfBend", "()D"⟩
abbrev cX1_ratioOfSheet : ByteArray := prog_3_method_16_code
def yX1_ratioOfSheet : MethodName := ⟨RX1, "ratioOfSheet", "()D"⟩
abbrev cX1_springBackAt : ByteArray := prog_3_method_17_code
def yX1_springBackAt : MethodName := ⟨RX1, "springBackAt", "(D)D"⟩
abbrev cX1_springBackBetween : ByteArray := prog_3_method_18_code
def yX1_springBackBetween : MethodName := ⟨RX1, "springBackBetween", "(IID)D"⟩
abbrev cX1_dropSteps : ByteArray := prog_3_method_19_code
def yX1_dropSteps : MethodName := ⟨RX1, "dropSteps", "()V"⟩
abbrev cX1_addStep : ByteArray := prog_3_method_20_code
def yX1_addStep : MethodName := ⟨RX1, "addStep", "(III)V"⟩
abbrev cX1_lastCode : ByteArray := prog_3_method_21_code
def yX1_lastCode : MethodName := ⟨RX1, "lastCode", "()I"⟩
abbrev cX1_lastGauge : ByteArray := prog_3_method_22_code
def yX1_lastGauge : MethodName := ⟨RX1, "lastGauge", "()I"⟩
abbrev cX1_sumOfCosts : ByteArray := prog_3_method_23_code
def yX1_sumOfCosts : MethodName := ⟨RX1, "sumOfCosts", "()I"⟩
abbrev cX1_priceBetween : ByteArray := prog_3_method_24_code
def yX1_priceBetween : MethodName := ⟨RX1, "priceBetween", "(IIII)I"⟩
abbrev cX1_bendsLike : ByteArray := prog_3_method_25_code
def yX1_bendsLike : MethodName := ⟨RX1, "bendsLike", "(LSheetFolder$Part;)Z"⟩
abbrev cX1_goesOnLike : ByteArray := prog_3_method_26_code
def yX1_goesOnLike : MethodName := ⟨RX1, "goesOnLike", "(LSheetFolder$Part;)Z"⟩
def RX2 : String := "SheetFolder$Places"
def TX2 : u_T := fun k => match k with
  | 0 => ("SheetFolder$Places", "farX", "[I", true)
  | 1 => ("SheetFolder$Places", "farY", "[I", true)
  | 2 => ("SheetFolder$Places", "leastX", "[I", true)
  | 3 => ("SheetFolder$Places", "mostX", "[I", true)
  | 4 => ("SheetFolder$Places", "leastY", "[I", true)
  | 5 => ("SheetFolder$Places", "mostY", "[I", true)
  | 6 => ("SheetFolder$Places", "legCount", "I", false)
  | 7 => ("SheetFolder$Places", "clampedFrom", "I", false)
  | _ => ("SheetFolder$Places", "clampedTo", "I", false)
def tyX2 : Nat → FieldType := fun k => match k with
  | 0 => .array .int
  | 1 => .array .int
  | 2 => .array .int
  | 3 => .array .int
  | 4 => .array .int
  | 5 => .array .int
  | 6 => .int
  | 7 => .int
  | _ => .int
abbrev wsX20 : List Cond := u_ws RX2 TX2 9
theorem nmX2 : ∀ a, a < 9 → ∀ b, b < 9 → a ≠ b → (TX2 a).2.1 ≠ (TX2 b).2.1 := by decide +kernel
theorem tyX2_ok : ∀ k, k < 9 → parseFieldDescriptor (TX2 k).2.2.1 = some (tyX2 k) := by decide +kernel
abbrev cX2_init : ByteArray := prog_4_method_1_code
def yX2_init : MethodName := ⟨RX2, "<init>", "()V"⟩
abbrev cX2_layFinished : ByteArray := prog_4_method_2_code
def yX2_layFinished : MethodName := ⟨RX2, "layFinished", "(LSheetFolder$Part;)V"⟩
abbrev cX2_layStep : ByteArray := prog_4_method_3_code
def yX2_layStep : MethodName := ⟨RX2, "layStep", "(LSheetFolder$Part;II)V"⟩
abbrev cX2_walk : ByteArray := prog_4_method_4_code
def yX2_walk : MethodName := ⟨RX2, "walk", "(LSheetFolder$Part;IIIIII)V"⟩
abbrev cX2_isClamped : ByteArray := prog_4_method_5_code
def yX2_isClamped : MethodName := ⟨RX2, "isClamped", "(I)Z"⟩
abbrev cX2_reachToBack : ByteArray := prog_4_method_6_code
def yX2_reachToBack : MethodName := ⟨RX2, "reachToBack", "()I"⟩
abbrev cX2_topOfFreeSide : ByteArray := prog_4_method_7_code
def yX2_topOfFreeSide : MethodName := ⟨RX2, "topOfFreeSide", "()I"⟩
abbrev cX2_extent : ByteArray := prog_4_method_8_code
def yX2_extent : MethodName := ⟨RX2, "extent", "([II)I"⟩
abbrev cX2_legsHitting : ByteArray := prog_4_method_9_code
def yX2_legsHitting : MethodName := ⟨RX2, "legsHitting", "(LSheetFolder$Part;)I"⟩
abbrev cX2_enters : ByteArray := prog_4_method_10_code
def yX2_enters : MethodName := ⟨RX2, "enters", "(IIIII)Z"⟩
abbrev cX2_crossesItself : ByteArray := prog_4_method_11_code
def yX2_crossesItself : MethodName := ⟨RX2, "crossesItself", "()Z"⟩
abbrev cX2_touch : ByteArray := prog_4_method_12_code
def yX2_touch : MethodName := ⟨RX2, "touch", "(II)Z"⟩
abbrev cX2_reasonFor : ByteArray := prog_4_method_13_code
def yX2_reasonFor : MethodName := ⟨RX2, "reasonFor", "(LSheetFolder$Part;II)I"⟩
abbrev cX2_possibleSteps : ByteArray := prog_4_method_14_code
def yX2_possibleSteps : MethodName := ⟨RX2, "possibleSteps", "(LSheetFolder$Part;I)I"⟩
def RX3 : String := "SheetFolder$Planner"
def TX3 : u_T := fun k => match k with
  | 0 => ("SheetFolder$Planner", "leastTotal", "I", false)
  | 1 => ("SheetFolder$Planner", "greatestTotal", "I", false)
  | 2 => ("SheetFolder$Planner", "plan", "[I", true)
  | 3 => ("SheetFolder$Planner", "planLength", "I", false)
  | 4 => ("SheetFolder$Planner", "places", "LSheetFolder$Places;", true)
  | 5 => ("SheetFolder$Planner", "known", "LSheetFolder$Part;", true)
  | 6 => ("SheetFolder$Planner", "isPlanKnown", "Z", false)
  | 7 => ("SheetFolder$Planner", "openSteps", "[I", true)
  | 8 => ("SheetFolder$Planner", "isReached", "[Z", true)
  | 9 => ("SheetFolder$Planner", "orderCounts", "[J", true)
  | 10 => ("SheetFolder$Planner", "gauges", "[I", true)
  | 11 => ("SheetFolder$Planner", "leastCosts", "[I", true)
  | _ => ("SheetFolder$Planner", "greatestCosts", "[I", true)
def tyX3 : Nat → FieldType := fun k => match k with
  | 0 => .int
  | 1 => .int
  | 2 => .array .int
  | 3 => .int
  | 4 => .object "SheetFolder$Places"
  | 5 => .object "SheetFolder$Part"
  | 6 => .boolean
  | 7 => .array .int
  | 8 => .array .boolean
  | 9 => .array .long
  | 10 => .array .int
  | 11 => .array .int
  | _ => .array .int
abbrev wsX30 : List Cond := u_ws RX3 TX3 13
theorem nmX3 : ∀ a, a < 13 → ∀ b, b < 13 → a ≠ b → (TX3 a).2.1 ≠ (TX3 b).2.1 := by decide +kernel
theorem tyX3_ok : ∀ k, k < 13 → parseFieldDescriptor (TX3 k).2.2.1 = some (tyX3 k) := by decide +kernel
abbrev cX3_init : ByteArray := prog_5_method_1_code
def yX3_init : MethodName := ⟨RX3, "<init>", "()V"⟩
abbrev cX3_prepare : ByteArray := prog_5_method_2_code
def yX3_prepare : MethodName := ⟨RX3, "prepare", "(LSheetFolder$Part;)V"⟩
abbrev cX3_reachesAll : ByteArray := prog_5_method_3_code
def yX3_reachesAll : MethodName := ⟨RX3, "reachesAll", "(LSheetFolder$Part;)Z"⟩
abbrev cX3_ordersFrom : ByteArray := prog_5_method_4_code
def yX3_ordersFrom : MethodName := ⟨RX3, "ordersFrom", "(I)J"⟩
abbrev cX3_stepsAtTheEnd : ByteArray := prog_5_method_5_code
def yX3_stepsAtTheEnd : MethodName := ⟨RX3, "stepsAtTheEnd", "(LSheetFolder$Part;)I"⟩
abbrev cX3_mostBendsFrom : ByteArray := prog_5_method_6_code
def yX3_mostBendsFrom : MethodName := ⟨RX3, "mostBendsFrom", "(LSheetFolder$Part;)I"⟩
abbrev cX3_forgetSteps : ByteArray := prog_5_method_7_code
def yX3_forgetSteps : MethodName := ⟨RX3, "forgetSteps", "()V"⟩
abbrev cX3_reachSets : ByteArray := prog_5_method_8_code
def yX3_reachSets : MethodName := ⟨RX3, "reachSets", "(LSheetFolder$Part;)V"⟩
abbrev cX3_findSteps : ByteArray := prog_5_method_9_code
def yX3_findSteps : MethodName := ⟨RX3, "findSteps", "(LSheetFolder$Part;I)I"⟩
abbrev cX3_isOpen : ByteArray := prog_5_method_10_code
def yX3_isOpen : MethodName := ⟨RX3, "isOpen", "(II)Z"⟩
abbrev cX3_setBehind : ByteArray := prog_5_method_11_code
def yX3_setBehind : MethodName := ⟨RX3, "setBehind", "(II)I"⟩
abbrev cX3_countOrders : ByteArray := prog_5_method_12_code
def yX3_countOrders : MethodName := ⟨RX3, "countOrders", "(LSheetFolder$Part;)V"⟩
abbrev cX3_reckonCosts : ByteArray := prog_5_method_13_code
def yX3_reckonCosts : MethodName := ⟨RX3, "reckonCosts", "(LSheetFolder$Part;)V"⟩
abbrev cX3_reckonCostsBehind : ByteArray := prog_5_method_14_code
def yX3_reckonCostsBehind : MethodName := ⟨RX3, "reckonCostsBehind", "(LSheetFolder$Part;I)V"⟩
abbrev cX3_costOnward : ByteArray := prog_5_method_15_code
def yX3_costOnward : MethodName := ⟨RX3, "costOnward", "(LSheetFolder$Part;IIIZ)I"⟩
abbrev cX3_costThrough : ByteArray := prog_5_method_16_code
def yX3_costThrough : MethodName := ⟨RX3, "costThrough", "(LSheetFolder$Part;IIIIZ)I"⟩
abbrev cX3_choosePlan : ByteArray := prog_5_method_17_code
def yX3_choosePlan : MethodName := ⟨RX3, "choosePlan", "(LSheetFolder$Part;)V"⟩
abbrev cX3_smallestStep : ByteArray := prog_5_method_18_code
def yX3_smallestStep : MethodName := ⟨RX3, "smallestStep", "(LSheetFolder$Part;IIII)I"⟩
def RX4 : String := "SheetFolder$TextReader"
def TX4 : u_T := fun k => match k with
  | 0 => ("SheetFolder$TextReader", "kindOfError", "I", false)
  | 1 => ("SheetFolder$TextReader", "placeOfError", "I", false)
  | 2 => ("SheetFolder$TextReader", "bytes", "[B", false)
  | 3 => ("SheetFolder$TextReader", "length", "I", false)
  | 4 => ("SheetFolder$TextReader", "tokenFrom", "I", false)
  | 5 => ("SheetFolder$TextReader", "tokenTo", "I", false)
  | 6 => ("SheetFolder$TextReader", "token", "I", false)
  | 7 => ("SheetFolder$TextReader", "tokenNumber", "I", false)
  | _ => ("SheetFolder$TextReader", "numbers", "[I", true)
def tyX4 : Nat → FieldType := fun k => match k with
  | 0 => .int
  | 1 => .int
  | 2 => .array .byte
  | 3 => .int
  | 4 => .int
  | 5 => .int
  | 6 => .int
  | 7 => .int
  | _ => .array .int
abbrev wsX40 : List Cond := u_ws RX4 TX4 9
theorem nmX4 : ∀ a, a < 9 → ∀ b, b < 9 → a ≠ b → (TX4 a).2.1 ≠ (TX4 b).2.1 := by decide +kernel
theorem tyX4_ok : ∀ k, k < 9 → parseFieldDescriptor (TX4 k).2.2.1 = some (tyX4 k) := by decide +kernel
abbrev cX4_init : ByteArray := prog_6_method_1_code
def yX4_init : MethodName := ⟨RX4, "<init>", "()V"⟩
abbrev cX4_readText : ByteArray := prog_6_method_2_code
def yX4_readText : MethodName := ⟨RX4, "readText", "([BILSheetFolder$Part;)Z"⟩
abbrev cX4_readStatement : ByteArray := prog_6_method_3_code
def yX4_readStatement : MethodName := ⟨RX4, "readStatement", "(LSheetFolder$Part;)V"⟩
abbrev cX4_errorIfNot : ByteArray := prog_6_method_4_code
def yX4_errorIfNot : MethodName := ⟨RX4, "errorIfNot", "(II)I"⟩
abbrev cX4_errorOfWord : ByteArray := prog_6_method_5_code
def yX4_errorOfWord : MethodName := ⟨RX4, "errorOfWord", "(LSheetFolder$Word;LSheetFolder$Part;)I"⟩
abbrev cX4_errorOfNumber : ByteArray := prog_6_method_6_code
def yX4_errorOfNumber : MethodName := ⟨RX4, "errorOfNumber", "(LSheetFolder$Word;ILSheetFolder$Part;)I"⟩
abbrev cX4_accept : ByteArray := prog_6_method_7_code
def yX4_accept : MethodName := ⟨RX4, "accept", "(LSheetFolder$Word;LSheetFolder$Part;)V"⟩
abbrev cX4_nextToken : ByteArray := prog_6_method_8_code
def yX4_nextToken : MethodName := ⟨RX4, "nextToken", "()V"⟩
abbrev cX4_takeWord : ByteArray := prog_6_method_9_code
def yX4_takeWord : MethodName := ⟨RX4, "takeWord", "()V"⟩
abbrev cX4_takeNumber : ByteArray := prog_6_method_10_code
def yX4_takeNumber : MethodName := ⟨RX4, "takeNumber", "()V"⟩
abbrev cX4_isSpace : ByteArray := prog_6_method_11_code
def yX4_isSpace : MethodName := ⟨RX4, "isSpace", "(B)Z"⟩
abbrev cX4_isLetter : ByteArray := prog_6_method_12_code
def yX4_isLetter : MethodName := ⟨RX4, "isLetter", "(B)Z"⟩
abbrev cX4_isDigit : ByteArray := prog_6_method_13_code
def yX4_isDigit : MethodName := ⟨RX4, "isDigit", "(B)Z"⟩
def RX5 : String := "SheetFolder$Word"
def TX5 : u_T := fun k => match k with
  | _ => ("", "", "", false)
def tyX5 : Nat → FieldType := fun k => match k with
  | _ => .int
abbrev wsX50 : List Cond := u_ws RX5 TX5 0
theorem nmX5 : ∀ a, a < 0 → ∀ b, b < 0 → a ≠ b → (TX5 a).2.1 ≠ (TX5 b).2.1 := by decide +kernel
theorem tyX5_ok : ∀ k, k < 0 → parseFieldDescriptor (TX5 k).2.2.1 = some (tyX5 k) := by decide +kernel
abbrev cX5_find : ByteArray := prog_7_method_4_code
def yX5_find : MethodName := ⟨RX5, "find", "([BII)LSheetFolder$Word;"⟩
abbrev cX5_isSpelled : ByteArray := prog_7_method_5_code
def yX5_isSpelled : MethodName := ⟨RX5, "isSpelled", "([BII)Z"⟩
abbrev cX5_ofTool : ByteArray := prog_7_method_6_code
def yX5_ofTool : MethodName := ⟨RX5, "ofTool", "(I)LSheetFolder$Word;"⟩
abbrev cX5_toolNumber : ByteArray := prog_7_method_7_code
def yX5_toolNumber : MethodName := ⟨RX5, "toolNumber", "()I"⟩
abbrev cX5_numberCount : ByteArray := prog_7_method_8_code
def yX5_numberCount : MethodName := ⟨RX5, "numberCount", "()I"⟩
abbrev cX5_allows : ByteArray := prog_7_method_9_code
def yX5_allows : MethodName := ⟨RX5, "allows", "(II)Z"⟩
abbrev cX5_allowsBehind : ByteArray := prog_7_method_10_code
def yX5_allowsBehind : MethodName := ⟨RX5, "allowsBehind", "(III)Z"⟩
abbrev cX5_isBend : ByteArray := prog_7_method_11_code
def yX5_isBend : MethodName := ⟨RX5, "isBend", "()Z"⟩
def RX6 : String := "SheetFolder"
def TX6 : u_T := fun k => match k with
  | 0 => ("SheetFolder", "buffer", "[B", true)
  | 1 => ("SheetFolder", "buffered", "I", false)
  | 2 => ("SheetFolder", "reader", "LSheetFolder$TextReader;", true)
  | 3 => ("SheetFolder", "part", "LSheetFolder$Part;", true)
  | 4 => ("SheetFolder", "scratch", "LSheetFolder$Part;", true)
  | 5 => ("SheetFolder", "history", "LSheetFolder$History;", true)
  | 6 => ("SheetFolder", "places", "LSheetFolder$Places;", true)
  | 7 => ("SheetFolder", "planner", "LSheetFolder$Planner;", true)
  | _ => ("SheetFolder", "output", "Ljava/lang/StringBuilder;", true)
def tyX6 : Nat → FieldType := fun k => match k with
  | 0 => .array .byte
  | 1 => .int
  | 2 => .object "SheetFolder$TextReader"
  | 3 => .object "SheetFolder$Part"
  | 4 => .object "SheetFolder$Part"
  | 5 => .object "SheetFolder$History"
  | 6 => .object "SheetFolder$Places"
  | 7 => .object "SheetFolder$Planner"
  | _ => .object "java/lang/StringBuilder"
abbrev wsX60 : List Cond := u_ws RX6 TX6 9
theorem nmX6 : ∀ a, a < 9 → ∀ b, b < 9 → a ≠ b → (TX6 a).2.1 ≠ (TX6 b).2.1 := by decide +kernel
theorem tyX6_ok : ∀ k, k < 9 → parseFieldDescriptor (TX6 k).2.2.1 = some (tyX6 k) := by decide +kernel
abbrev cX6_init : ByteArray := prog_1_method_1_code
def yX6_init : MethodName := ⟨RX6, "<init>", "()V"⟩
abbrev cX6_feed : ByteArray := prog_1_method_2_code
def yX6_feed : MethodName := ⟨RX6, "feed", "(IIIII)I"⟩
abbrev cX6_append : ByteArray := prog_1_method_3_code
def yX6_append : MethodName := ⟨RX6, "append", "(I)V"⟩
abbrev cX6_load : ByteArray := prog_1_method_4_code
def yX6_load : MethodName := ⟨RX6, "load", "(I)I"⟩
abbrev cX6_errorKind : ByteArray := prog_1_method_5_code
def yX6_errorKind : MethodName := ⟨RX6, "errorKind", "()I"⟩
abbrev cX6_errorPosition : ByteArray := prog_1_method_6_code
def yX6_errorPosition : MethodName := ⟨RX6, "errorPosition", "()I"⟩
abbrev cX6_bends : ByteArray := prog_1_method_7_code
def yX6_bends : MethodName := ⟨RX6, "bends", "()I"⟩
abbrev cX6_legs : ByteArray := prog_1_method_8_code
def yX6_legs : MethodName := ⟨RX6, "legs", "()I"⟩
abbrev cX6_leg : ByteArray := prog_1_method_9_code
def yX6_leg : MethodName := ⟨RX6, "leg", "(I)I"⟩
abbrev cX6_isUp : ByteArray := prog_1_method_10_code
def yX6_isUp : MethodName := ⟨RX6, "isUp", "(I)Z"⟩
abbrev cX6_deduction : ByteArray := prog_1_method_11_code
def yX6_deduction : MethodName := ⟨RX6, "deduction", "()D"⟩
abbrev cX6_flatLength : ByteArray := prog_1_method_12_code
def yX6_flatLength : MethodName := ⟨RX6, "flatLength", "()D"⟩
abbrev cX6_linePlace : ByteArray := prog_1_method_13_code
def yX6_linePlace : MethodName := ⟨RX6, "linePlace", "(I)D"⟩
abbrev cX6_ratio : ByteArray := prog_1_method_14_code
def yX6_ratio : MethodName := ⟨RX6, "ratio", "()D"⟩
abbrev cX6_springBack : ByteArray := prog_1_method_15_code
def yX6_springBack : MethodName := ⟨RX6, "springBack", "()D"⟩
abbrev cX6_springBackFor : ByteArray := prog_1_method_16_code
def yX6_springBackFor : MethodName := ⟨RX6, "springBackFor", "(D)D"⟩
abbrev cX6_swingAngle : ByteArray := prog_1_method_17_code
def yX6_swingAngle : MethodName := ⟨RX6, "swingAngle", "()I"⟩
abbrev cX6_tool : ByteArray := prog_1_method_18_code
def yX6_tool : MethodName := ⟨RX6, "tool", "(II)I"⟩
abbrev cX6_finishedWidth : ByteArray := prog_1_method_19_code
def yX6_finishedWidth : MethodName := ⟨RX6, "finishedWidth", "()I"⟩
abbrev cX6_finishedHeight : ByteArray := prog_1_method_20_code
def yX6_finishedHeight : MethodName := ⟨RX6, "finishedHeight", "()I"⟩
abbrev cX6_isFinishedCrossed : ByteArray := prog_1_method_21_code
def yX6_isFinishedCrossed : MethodName := ⟨RX6, "isFinishedCrossed", "()Z"⟩
abbrev cX6_finishedCorner : ByteArray := prog_1_method_22_code
def yX6_finishedCorner : MethodName := ⟨RX6, "finishedCorner", "(II)I"⟩
abbrev cX6_isSymmetric : ByteArray := prog_1_method_23_code
def yX6_isSymmetric : MethodName := ⟨RX6, "isSymmetric", "()Z"⟩
abbrev cX6_longestLeg : ByteArray := prog_1_method_24_code
def yX6_longestLeg : MethodName := ⟨RX6, "longestLeg", "()I"⟩
abbrev cX6_made : ByteArray := prog_1_method_25_code
def yX6_made : MethodName := ⟨RX6, "made", "()I"⟩
abbrev cX6_steps : ByteArray := prog_1_method_26_code
def yX6_steps : MethodName := ⟨RX6, "steps", "()I"⟩
abbrev cX6_step : ByteArray := prog_1_method_27_code
def yX6_step : MethodName := ⟨RX6, "step", "(II)I"⟩
abbrev cX6_costSoFar : ByteArray := prog_1_method_28_code
def yX6_costSoFar : MethodName := ⟨RX6, "costSoFar", "()I"⟩
abbrev cX6_reason : ByteArray := prog_1_method_29_code
def yX6_reason : MethodName := ⟨RX6, "reason", "(II)I"⟩
abbrev cX6_gauge : ByteArray := prog_1_method_30_code
def yX6_gauge : MethodName := ⟨RX6, "gauge", "(II)I"⟩
abbrev cX6_corner : ByteArray := prog_1_method_31_code
def yX6_corner : MethodName := ⟨RX6, "corner", "(IIII)I"⟩
abbrev cX6_top : ByteArray := prog_1_method_32_code
def yX6_top : MethodName := ⟨RX6, "top", "(II)I"⟩
abbrev cX6_hitting : ByteArray := prog_1_method_33_code
def yX6_hitting : MethodName := ⟨RX6, "hitting", "(II)I"⟩
abbrev cX6_refused : ByteArray := prog_1_method_34_code
def yX6_refused : MethodName := ⟨RX6, "refused", "(I)I"⟩
abbrev cX6_possible : ByteArray := prog_1_method_35_code
def yX6_possible : MethodName := ⟨RX6, "possible", "()I"⟩
abbrev cX6_stuck : ByteArray := prog_1_method_36_code
def yX6_stuck : MethodName := ⟨RX6, "stuck", "()I"⟩
abbrev cX6_costOf : ByteArray := prog_1_method_37_code
def yX6_costOf : MethodName := ⟨RX6, "costOf", "(II)I"⟩
abbrev cX6_reasonNow : ByteArray := prog_1_method_38_code
def yX6_reasonNow : MethodName := ⟨RX6, "reasonNow", "(I)I"⟩
abbrev cX6_gaugeNow : ByteArray := prog_1_method_39_code
def yX6_gaugeNow : MethodName := ⟨RX6, "gaugeNow", "(I)I"⟩
abbrev cX6_costNow : ByteArray := prog_1_method_40_code
def yX6_costNow : MethodName := ⟨RX6, "costNow", "(I)I"⟩
abbrev cX6_orders : ByteArray := prog_1_method_41_code
def yX6_orders : MethodName := ⟨RX6, "orders", "()J"⟩
abbrev cX6_leastCost : ByteArray := prog_1_method_42_code
def yX6_leastCost : MethodName := ⟨RX6, "leastCost", "()I"⟩
abbrev cX6_plannedSteps : ByteArray := prog_1_method_43_code
def yX6_plannedSteps : MethodName := ⟨RX6, "plannedSteps", "()I"⟩
abbrev cX6_planned : ByteArray := prog_1_method_44_code
def yX6_planned : MethodName := ⟨RX6, "planned", "(I)I"⟩
abbrev cX6_greatestCost : ByteArray := prog_1_method_45_code
def yX6_greatestCost : MethodName := ⟨RX6, "greatestCost", "()I"⟩
abbrev cX6_ordersWith : ByteArray := prog_1_method_46_code
def yX6_ordersWith : MethodName := ⟨RX6, "ordersWith", "(II)J"⟩
abbrev cX6_lastSteps : ByteArray := prog_1_method_47_code
def yX6_lastSteps : MethodName := ⟨RX6, "lastSteps", "()I"⟩
abbrev cX6_mostBends : ByteArray := prog_1_method_48_code
def yX6_mostBends : MethodName := ⟨RX6, "mostBends", "()I"⟩
abbrev cX6_greatestBeam : ByteArray := prog_1_method_49_code
def yX6_greatestBeam : MethodName := ⟨RX6, "greatestBeam", "()I"⟩
abbrev cX6_costIfTurned : ByteArray := prog_1_method_50_code
def yX6_costIfTurned : MethodName := ⟨RX6, "costIfTurned", "(I)I"⟩
abbrev cX6_fold : ByteArray := prog_1_method_51_code
def yX6_fold : MethodName := ⟨RX6, "fold", "(II)I"⟩
abbrev cX6_foldNext : ByteArray := prog_1_method_52_code
def yX6_foldNext : MethodName := ⟨RX6, "foldNext", "()I"⟩
abbrev cX6_makeStep : ByteArray := prog_1_method_53_code
def yX6_makeStep : MethodName := ⟨RX6, "makeStep", "(I)I"⟩
abbrev cX6_unfold : ByteArray := prog_1_method_54_code
def yX6_unfold : MethodName := ⟨RX6, "unfold", "()I"⟩
abbrev cX6_setLeg : ByteArray := prog_1_method_55_code
def yX6_setLeg : MethodName := ⟨RX6, "setLeg", "(II)I"⟩
abbrev cX6_setDirection : ByteArray := prog_1_method_56_code
def yX6_setDirection : MethodName := ⟨RX6, "setDirection", "(IZ)Z"⟩
abbrev cX6_setTool : ByteArray := prog_1_method_57_code
def yX6_setTool : MethodName := ⟨RX6, "setTool", "(III)I"⟩
abbrev cX6_setSheet : ByteArray := prog_1_method_58_code
def yX6_setSheet : MethodName := ⟨RX6, "setSheet", "(III)I"⟩
abbrev cX6_setCost : ByteArray := prog_1_method_59_code
def yX6_setCost : MethodName := ⟨RX6, "setCost", "(III)I"⟩
abbrev cX6_undo : ByteArray := prog_1_method_60_code
def yX6_undo : MethodName := ⟨RX6, "undo", "()I"⟩
abbrev cX6_write : ByteArray := prog_1_method_61_code
def yX6_write : MethodName := ⟨RX6, "write", "()I"⟩
abbrev cX6_writeBend : ByteArray := prog_1_method_62_code
def yX6_writeBend : MethodName := ⟨RX6, "writeBend", "(I)V"⟩
abbrev cX6_written : ByteArray := prog_1_method_63_code
def yX6_written : MethodName := ⟨RX6, "written", "(I)C"⟩
abbrev cX6_requireBend : ByteArray := prog_1_method_64_code
def yX6_requireBend : MethodName := ⟨RX6, "requireBend", "(I)V"⟩
abbrev cX6_requireLeg : ByteArray := prog_1_method_65_code
def yX6_requireLeg : MethodName := ⟨RX6, "requireLeg", "(I)V"⟩
abbrev cX6_requireChoice : ByteArray := prog_1_method_66_code
def yX6_requireChoice : MethodName := ⟨RX6, "requireChoice", "(II)V"⟩
abbrev cX6_requireStep : ByteArray := prog_1_method_67_code
def yX6_requireStep : MethodName := ⟨RX6, "requireStep", "(II)V"⟩
abbrev cX6_requireFlat : ByteArray := prog_1_method_68_code
def yX6_requireFlat : MethodName := ⟨RX6, "requireFlat", "()V"⟩
def RX7 : String := "SheetFolderModel"
def TX7 : u_T := fun k => match k with
  | 0 => ("SheetFolderModel", "s", "[I", true)
  | 1 => ("SheetFolderModel", "parsed", "[I", true)
  | 2 => ("SheetFolderModel", "aside", "[I", true)
  | 3 => ("SheetFolderModel", "history", "[I", true)
  | 4 => ("SheetFolderModel", "edits", "I", false)
  | 5 => ("SheetFolderModel", "thrown", "I", false)
  | 6 => ("SheetFolderModel", "buffer", "[I", true)
  | 7 => ("SheetFolderModel", "buffered", "I", false)
  | 8 => ("SheetFolderModel", "errorKind", "I", false)
  | 9 => ("SheetFolderModel", "errorPosition", "I", false)
  | 10 => ("SheetFolderModel", "length", "I", false)
  | 11 => ("SheetFolderModel", "start", "I", false)
  | 12 => ("SheetFolderModel", "next", "I", false)
  | 13 => ("SheetFolderModel", "token", "I", false)
  | 14 => ("SheetFolderModel", "value", "I", false)
  | 15 => ("SheetFolderModel", "kind", "I", false)
  | 16 => ("SheetFolderModel", "position", "I", false)
  | 17 => ("SheetFolderModel", "fromX", "[I", true)
  | 18 => ("SheetFolderModel", "fromY", "[I", true)
  | 19 => ("SheetFolderModel", "toX", "[I", true)
  | 20 => ("SheetFolderModel", "toY", "[I", true)
  | 21 => ("SheetFolderModel", "x", "I", false)
  | 22 => ("SheetFolderModel", "y", "I", false)
  | 23 => ("SheetFolderModel", "can", "[Z", true)
  | 24 => ("SheetFolderModel", "gauges", "[I", true)
  | 25 => ("SheetFolderModel", "many", "[J", true)
  | 26 => ("SheetFolderModel", "least", "[I", true)
  | 27 => ("SheetFolderModel", "most", "[I", true)
  | 28 => ("SheetFolderModel", "isReached", "[Z", true)
  | 29 => ("SheetFolderModel", "output", "[I", true)
  | _ => ("SheetFolderModel", "outputLength", "I", false)
def tyX7 : Nat → FieldType := fun k => match k with
  | 0 => .array .int
  | 1 => .array .int
  | 2 => .array .int
  | 3 => .array .int
  | 4 => .int
  | 5 => .int
  | 6 => .array .int
  | 7 => .int
  | 8 => .int
  | 9 => .int
  | 10 => .int
  | 11 => .int
  | 12 => .int
  | 13 => .int
  | 14 => .int
  | 15 => .int
  | 16 => .int
  | 17 => .array .int
  | 18 => .array .int
  | 19 => .array .int
  | 20 => .array .int
  | 21 => .int
  | 22 => .int
  | 23 => .array .boolean
  | 24 => .array .int
  | 25 => .array .long
  | 26 => .array .int
  | 27 => .array .int
  | 28 => .array .boolean
  | 29 => .array .int
  | _ => .int
abbrev wsX70 : List Cond := u_ws RX7 TX7 31
theorem nmX7 : ∀ a, a < 31 → ∀ b, b < 31 → a ≠ b → (TX7 a).2.1 ≠ (TX7 b).2.1 := by decide +kernel
theorem tyX7_ok : ∀ k, k < 31 → parseFieldDescriptor (TX7 k).2.2.1 = some (tyX7 k) := by decide +kernel
abbrev cX7_init : ByteArray := prog_9_method_1_code
def yX7_init : MethodName := ⟨RX7, "<init>", "()V"⟩
abbrev cX7_thrown : ByteArray := prog_9_method_2_code
def yX7_thrown : MethodName := ⟨RX7, "thrown", "()I"⟩
abbrev cX7_between : ByteArray := prog_9_method_3_code
def yX7_between : MethodName := ⟨RX7, "between", "(JJJ)Z"⟩
abbrev cX7_good : ByteArray := prog_9_method_4_code
def yX7_good : MethodName := ⟨RX7, "good", "(Z)Z"⟩
abbrev cX7_good_ : ByteArray := prog_9_method_5_code
def yX7_good_ : MethodName := ⟨RX7, "good", "(ZZ)Z"⟩
abbrev cX7_good__ : ByteArray := prog_9_method_6_code
def yX7_good__ : MethodName := ⟨RX7, "good", "(ZZZ)Z"⟩
abbrev cX7_copy : ByteArray := prog_9_method_7_code
def yX7_copy : MethodName := ⟨RX7, "copy", "([I[I)V"⟩
abbrev cX7_has : ByteArray := prog_9_method_8_code
def yX7_has : MethodName := ⟨RX7, "has", "(II)Z"⟩
abbrev cX7_remember : ByteArray := prog_9_method_9_code
def yX7_remember : MethodName := ⟨RX7, "remember", "()V"⟩
abbrev cX7_undo : ByteArray := prog_9_method_10_code
def yX7_undo : MethodName := ⟨RX7, "undo", "()I"⟩
abbrev cX7_append : ByteArray := prog_9_method_11_code
def yX7_append : MethodName := ⟨RX7, "append", "(I)V"⟩
abbrev cX7_feed : ByteArray := prog_9_method_12_code
def yX7_feed : MethodName := ⟨RX7, "feed", "(IIIII)I"⟩
abbrev cX7_byteAt : ByteArray := prog_9_method_13_code
def yX7_byteAt : MethodName := ⟨RX7, "byteAt", "(I)I"⟩
abbrev cX7_isLetter : ByteArray := prog_9_method_14_code
def yX7_isLetter : MethodName := ⟨RX7, "isLetter", "(I)Z"⟩
abbrev cX7_isDigit : ByteArray := prog_9_method_15_code
def yX7_isDigit : MethodName := ⟨RX7, "isDigit", "(I)Z"⟩
abbrev cX7_advance : ByteArray := prog_9_method_16_code
def yX7_advance : MethodName := ⟨RX7, "advance", "()Z"⟩
abbrev cX7_isWord : ByteArray := prog_9_method_17_code
def yX7_isWord : MethodName := ⟨RX7, "isWord", "(Ljava/lang/String;)Z"⟩
abbrev cX7_fail : ByteArray := prog_9_method_18_code
def yX7_fail : MethodName := ⟨RX7, "fail", "(I)Z"⟩
abbrev cX7_number : ByteArray := prog_9_method_19_code
def yX7_number : MethodName := ⟨RX7, "number", "(III)Z"⟩
abbrev cX7_closed : ByteArray := prog_9_method_20_code
def yX7_closed : MethodName := ⟨RX7, "closed", "()Z"⟩
abbrev cX7_lay : ByteArray := prog_9_method_21_code
def yX7_lay : MethodName := ⟨RX7, "lay", "(IIII)V"⟩
abbrev cX7_reset : ByteArray := prog_9_method_22_code
def yX7_reset : MethodName := ⟨RX7, "reset", "()V"⟩
abbrev cX7_sheetStatement : ByteArray := prog_9_method_23_code
def yX7_sheetStatement : MethodName := ⟨RX7, "sheetStatement", "()Z"⟩
abbrev cX7_legStatement : ByteArray := prog_9_method_24_code
def yX7_legStatement : MethodName := ⟨RX7, "legStatement", "()Z"⟩
abbrev cX7_bendStatement : ByteArray := prog_9_method_25_code
def yX7_bendStatement : MethodName := ⟨RX7, "bendStatement", "(Z)Z"⟩
abbrev cX7_backStatement : ByteArray := prog_9_method_26_code
def yX7_backStatement : MethodName := ⟨RX7, "backStatement", "()Z"⟩
abbrev cX7_toolStatement : ByteArray := prog_9_method_27_code
def yX7_toolStatement : MethodName := ⟨RX7, "toolStatement", "(I)Z"⟩
abbrev cX7_costStatement : ByteArray := prog_9_method_28_code
def yX7_costStatement : MethodName := ⟨RX7, "costStatement", "()Z"⟩
abbrev cX7_toolHere : ByteArray := prog_9_method_29_code
def yX7_toolHere : MethodName := ⟨RX7, "toolHere", "()I"⟩
abbrev cX7_statement : ByteArray := prog_9_method_30_code
def yX7_statement : MethodName := ⟨RX7, "statement", "()Z"⟩
abbrev cX7_load : ByteArray := prog_9_method_31_code
def yX7_load : MethodName := ⟨RX7, "load", "(I)I"⟩
abbrev cX7_errorKind : ByteArray := prog_9_method_32_code
def yX7_errorKind : MethodName := ⟨RX7, "errorKind", "()I"⟩
abbrev cX7_errorPosition : ByteArray := prog_9_method_33_code
def yX7_errorPosition : MethodName := ⟨RX7, "errorPosition", "()I"⟩
abbrev cX7_isBend : ByteArray := prog_9_method_34_code
def yX7_isBend : MethodName := ⟨RX7, "isBend", "(I)Z"⟩
abbrev cX7_isLeg : ByteArray := prog_9_method_35_code
def yX7_isLeg : MethodName := ⟨RX7, "isLeg", "(I)Z"⟩
abbrev cX7_isSide : ByteArray := prog_9_method_36_code
def yX7_isSide : MethodName := ⟨RX7, "isSide", "(I)Z"⟩
abbrev cX7_tellNow : ByteArray := prog_9_method_37_code
def yX7_tellNow : MethodName := ⟨RX7, "tellNow", "(I)I"⟩
abbrev cX7_bends : ByteArray := prog_9_method_38_code
def yX7_bends : MethodName := ⟨RX7, "bends", "()I"⟩
abbrev cX7_legs : ByteArray := prog_9_method_39_code
def yX7_legs : MethodName := ⟨RX7, "legs", "()I"⟩
abbrev cX7_leg : ByteArray := prog_9_method_40_code
def yX7_leg : MethodName := ⟨RX7, "leg", "(I)I"⟩
abbrev cX7_isUp : ByteArray := prog_9_method_41_code
def yX7_isUp : MethodName := ⟨RX7, "isUp", "(I)Z"⟩
abbrev cX7_sumOfLegs : ByteArray := prog_9_method_42_code
def yX7_sumOfLegs : MethodName := ⟨RX7, "sumOfLegs", "(I)I"⟩
abbrev cX7_deductionNow : ByteArray := prog_9_method_43_code
def yX7_deductionNow : MethodName := ⟨RX7, "deductionNow", "()D"⟩
abbrev cX7_deduction : ByteArray := prog_9_method_44_code
def yX7_deduction : MethodName := ⟨RX7, "deduction", "()D"⟩
abbrev cX7_flatLength : ByteArray := prog_9_method_45_code
def yX7_flatLength : MethodName := ⟨RX7, "flatLength", "()D"⟩
abbrev cX7_linePlace : ByteArray := prog_9_method_46_code
def yX7_linePlace : MethodName := ⟨RX7, "linePlace", "(I)D"⟩
abbrev cX7_ratioNow : ByteArray := prog_9_method_47_code
def yX7_ratioNow : MethodName := ⟨RX7, "ratioNow", "()D"⟩
abbrev cX7_ratio : ByteArray := prog_9_method_48_code
def yX7_ratio : MethodName := ⟨RX7, "ratio", "()D"⟩
abbrev cX7_ratioOf : ByteArray := prog_9_method_49_code
def yX7_ratioOf : MethodName := ⟨RX7, "ratioOf", "(I)D"⟩
abbrev cX7_angleOf : ByteArray := prog_9_method_50_code
def yX7_angleOf : MethodName := ⟨RX7, "angleOf", "(I)D"⟩
abbrev cX7_springBy : ByteArray := prog_9_method_51_code
def yX7_springBy : MethodName := ⟨RX7, "springBy", "(D)D"⟩
abbrev cX7_springBack : ByteArray := prog_9_method_52_code
def yX7_springBack : MethodName := ⟨RX7, "springBack", "()D"⟩
abbrev cX7_springBackFor : ByteArray := prog_9_method_53_code
def yX7_springBackFor : MethodName := ⟨RX7, "springBackFor", "(D)D"⟩
abbrev cX7_swingAngle : ByteArray := prog_9_method_54_code
def yX7_swingAngle : MethodName := ⟨RX7, "swingAngle", "()I"⟩
abbrev cX7_isTool : ByteArray := prog_9_method_55_code
def yX7_isTool : MethodName := ⟨RX7, "isTool", "(II)Z"⟩
abbrev cX7_tool : ByteArray := prog_9_method_56_code
def yX7_tool : MethodName := ⟨RX7, "tool", "(II)I"⟩
abbrev cX7_isMirrored : ByteArray := prog_9_method_57_code
def yX7_isMirrored : MethodName := ⟨RX7, "isMirrored", "(II)Z"⟩
abbrev cX7_isSymmetric : ByteArray := prog_9_method_58_code
def yX7_isSymmetric : MethodName := ⟨RX7, "isSymmetric", "()Z"⟩
abbrev cX7_longestLeg : ByteArray := prog_9_method_59_code
def yX7_longestLeg : MethodName := ⟨RX7, "longestLeg", "()I"⟩
abbrev cX7_acrossOf : ByteArray := prog_9_method_60_code
def yX7_acrossOf : MethodName := ⟨RX7, "acrossOf", "(I)I"⟩
abbrev cX7_upOf : ByteArray := prog_9_method_61_code
def yX7_upOf : MethodName := ⟨RX7, "upOf", "(I)I"⟩
abbrev cX7_layLeg : ByteArray := prog_9_method_62_code
def yX7_layLeg : MethodName := ⟨RX7, "layLeg", "(II)V"⟩
abbrev cX7_isClamped : ByteArray := prog_9_method_63_code
def yX7_isClamped : MethodName := ⟨RX7, "isClamped", "(III)Z"⟩
abbrev cX7_laySide : ByteArray := prog_9_method_64_code
def yX7_laySide : MethodName := ⟨RX7, "laySide", "(IIIIZI)V"⟩
abbrev cX7_laySheet : ByteArray := prog_9_method_65_code
def yX7_laySheet : MethodName := ⟨RX7, "laySheet", "(III)V"⟩
abbrev cX7_isCrossing : ByteArray := prog_9_method_66_code
def yX7_isCrossing : MethodName := ⟨RX7, "isCrossing", "(IIII)Z"⟩
abbrev cX7_isInside : ByteArray := prog_9_method_67_code
def yX7_isInside : MethodName := ⟨RX7, "isInside", "(IIIII)Z"⟩
abbrev cX7_toolOf : ByteArray := prog_9_method_68_code
def yX7_toolOf : MethodName := ⟨RX7, "toolOf", "(II)I"⟩
abbrev cX7_hitsBeam : ByteArray := prog_9_method_69_code
def yX7_hitsBeam : MethodName := ⟨RX7, "hitsBeam", "(I)Z"⟩
abbrev cX7_hitsTable : ByteArray := prog_9_method_70_code
def yX7_hitsTable : MethodName := ⟨RX7, "hitsTable", "(I)Z"⟩
abbrev cX7_hitsWing : ByteArray := prog_9_method_71_code
def yX7_hitsWing : MethodName := ⟨RX7, "hitsWing", "(I)Z"⟩
abbrev cX7_hits : ByteArray := prog_9_method_72_code
def yX7_hits : MethodName := ⟨RX7, "hits", "(IZ)Z"⟩
abbrev cX7_overlap : ByteArray := prog_9_method_73_code
def yX7_overlap : MethodName := ⟨RX7, "overlap", "(IIII)Z"⟩
abbrev cX7_isCrossed : ByteArray := prog_9_method_74_code
def yX7_isCrossed : MethodName := ⟨RX7, "isCrossed", "()Z"⟩
abbrev cX7_gaugeLaid : ByteArray := prog_9_method_75_code
def yX7_gaugeLaid : MethodName := ⟨RX7, "gaugeLaid", "(II)I"⟩
abbrev cX7_hittingLaid : ByteArray := prog_9_method_76_code
def yX7_hittingLaid : MethodName := ⟨RX7, "hittingLaid", "(IIZZ)I"⟩
abbrev cX7_isShort : ByteArray := prog_9_method_77_code
def yX7_isShort : MethodName := ⟨RX7, "isShort", "(II)Z"⟩
abbrev cX7_isGaugeLaid : ByteArray := prog_9_method_78_code
def yX7_isGaugeLaid : MethodName := ⟨RX7, "isGaugeLaid", "(II)Z"⟩
abbrev cX7_reasonOf : ByteArray := prog_9_method_79_code
def yX7_reasonOf : MethodName := ⟨RX7, "reasonOf", "(III)I"⟩
abbrev cX7_layFinished : ByteArray := prog_9_method_80_code
def yX7_layFinished : MethodName := ⟨RX7, "layFinished", "()V"⟩
abbrev cX7_finishedWidth : ByteArray := prog_9_method_81_code
def yX7_finishedWidth : MethodName := ⟨RX7, "finishedWidth", "()I"⟩
abbrev cX7_finishedHeight : ByteArray := prog_9_method_82_code
def yX7_finishedHeight : MethodName := ⟨RX7, "finishedHeight", "()I"⟩
abbrev cX7_isFinishedCrossed : ByteArray := prog_9_method_83_code
def yX7_isFinishedCrossed : MethodName := ⟨RX7, "isFinishedCrossed", "()Z"⟩
abbrev cX7_finishedCorner : ByteArray := prog_9_method_84_code
def yX7_finishedCorner : MethodName := ⟨RX7, "finishedCorner", "(II)I"⟩
abbrev cX7_stepOf : ByteArray := prog_9_method_85_code
def yX7_stepOf : MethodName := ⟨RX7, "stepOf", "(II)I"⟩
abbrev cX7_sumOfCosts : ByteArray := prog_9_method_86_code
def yX7_sumOfCosts : MethodName := ⟨RX7, "sumOfCosts", "()I"⟩
abbrev cX7_made : ByteArray := prog_9_method_87_code
def yX7_made : MethodName := ⟨RX7, "made", "()I"⟩
abbrev cX7_steps : ByteArray := prog_9_method_88_code
def yX7_steps : MethodName := ⟨RX7, "steps", "()I"⟩
abbrev cX7_step : ByteArray := prog_9_method_89_code
def yX7_step : MethodName := ⟨RX7, "step", "(II)I"⟩
abbrev cX7_costSoFar : ByteArray := prog_9_method_90_code
def yX7_costSoFar : MethodName := ⟨RX7, "costSoFar", "()I"⟩
abbrev cX7_reason : ByteArray := prog_9_method_91_code
def yX7_reason : MethodName := ⟨RX7, "reason", "(II)I"⟩
abbrev cX7_gaugeOf : ByteArray := prog_9_method_92_code
def yX7_gaugeOf : MethodName := ⟨RX7, "gaugeOf", "(III)I"⟩
abbrev cX7_gauge : ByteArray := prog_9_method_93_code
def yX7_gauge : MethodName := ⟨RX7, "gauge", "(II)I"⟩
abbrev cX7_corner : ByteArray := prog_9_method_94_code
def yX7_corner : MethodName := ⟨RX7, "corner", "(IIII)I"⟩
abbrev cX7_top : ByteArray := prog_9_method_95_code
def yX7_top : MethodName := ⟨RX7, "top", "(II)I"⟩
abbrev cX7_hitting : ByteArray := prog_9_method_96_code
def yX7_hitting : MethodName := ⟨RX7, "hitting", "(II)I"⟩
abbrev cX7_refused : ByteArray := prog_9_method_97_code
def yX7_refused : MethodName := ⟨RX7, "refused", "(I)I"⟩
abbrev cX7_possible : ByteArray := prog_9_method_98_code
def yX7_possible : MethodName := ⟨RX7, "possible", "()I"⟩
abbrev cX7_stuck : ByteArray := prog_9_method_99_code
def yX7_stuck : MethodName := ⟨RX7, "stuck", "()I"⟩
abbrev cX7_costBehind : ByteArray := prog_9_method_100_code
def yX7_costBehind : MethodName := ⟨RX7, "costBehind", "(IIIIII)I"⟩
abbrev cX7_costNow : ByteArray := prog_9_method_101_code
def yX7_costNow : MethodName := ⟨RX7, "costNow", "(II)I"⟩
abbrev cX7_costOf : ByteArray := prog_9_method_102_code
def yX7_costOf : MethodName := ⟨RX7, "costOf", "(II)I"⟩
abbrev cX7_full : ByteArray := prog_9_method_103_code
def yX7_full : MethodName := ⟨RX7, "full", "()I"⟩
abbrev cX7_isBehind : ByteArray := prog_9_method_104_code
def yX7_isBehind : MethodName := ⟨RX7, "isBehind", "(I)Z"⟩
abbrev cX7_layOrders : ByteArray := prog_9_method_105_code
def yX7_layOrders : MethodName := ⟨RX7, "layOrders", "()V"⟩
abbrev cX7_gaugeLast : ByteArray := prog_9_method_106_code
def yX7_gaugeLast : MethodName := ⟨RX7, "gaugeLast", "(II)I"⟩
abbrev cX7_layCost : ByteArray := prog_9_method_107_code
def yX7_layCost : MethodName := ⟨RX7, "layCost", "(II)V"⟩
abbrev cX7_layCosts : ByteArray := prog_9_method_108_code
def yX7_layCosts : MethodName := ⟨RX7, "layCosts", "()V"⟩
abbrev cX7_lastNow : ByteArray := prog_9_method_109_code
def yX7_lastNow : MethodName := ⟨RX7, "lastNow", "()I"⟩
abbrev cX7_isOrder : ByteArray := prog_9_method_110_code
def yX7_isOrder : MethodName := ⟨RX7, "isOrder", "()Z"⟩
abbrev cX7_orders : ByteArray := prog_9_method_111_code
def yX7_orders : MethodName := ⟨RX7, "orders", "()J"⟩
abbrev cX7_leastNow : ByteArray := prog_9_method_112_code
def yX7_leastNow : MethodName := ⟨RX7, "leastNow", "()I"⟩
abbrev cX7_leastCost : ByteArray := prog_9_method_113_code
def yX7_leastCost : MethodName := ⟨RX7, "leastCost", "()I"⟩
abbrev cX7_unmade : ByteArray := prog_9_method_114_code
def yX7_unmade : MethodName := ⟨RX7, "unmade", "()I"⟩
abbrev cX7_plannedSteps : ByteArray := prog_9_method_115_code
def yX7_plannedSteps : MethodName := ⟨RX7, "plannedSteps", "()I"⟩
abbrev cX7_bestStep : ByteArray := prog_9_method_116_code
def yX7_bestStep : MethodName := ⟨RX7, "bestStep", "(II)I"⟩
abbrev cX7_planned : ByteArray := prog_9_method_117_code
def yX7_planned : MethodName := ⟨RX7, "planned", "(I)I"⟩
abbrev cX7_greatestCost : ByteArray := prog_9_method_118_code
def yX7_greatestCost : MethodName := ⟨RX7, "greatestCost", "()I"⟩
abbrev cX7_ordersWith : ByteArray := prog_9_method_119_code
def yX7_ordersWith : MethodName := ⟨RX7, "ordersWith", "(II)J"⟩
abbrev cX7_layReached : ByteArray := prog_9_method_120_code
def yX7_layReached : MethodName := ⟨RX7, "layReached", "()V"⟩
abbrev cX7_lastSteps : ByteArray := prog_9_method_121_code
def yX7_lastSteps : MethodName := ⟨RX7, "lastSteps", "()I"⟩
abbrev cX7_mostBends : ByteArray := prog_9_method_122_code
def yX7_mostBends : MethodName := ⟨RX7, "mostBends", "()I"⟩
abbrev cX7_greatestBeam : ByteArray := prog_9_method_123_code
def yX7_greatestBeam : MethodName := ⟨RX7, "greatestBeam", "()I"⟩
abbrev cX7_costIfTurned : ByteArray := prog_9_method_124_code
def yX7_costIfTurned : MethodName := ⟨RX7, "costIfTurned", "(I)I"⟩
abbrev cX7_foldNow : ByteArray := prog_9_method_125_code
def yX7_foldNow : MethodName := ⟨RX7, "foldNow", "(II)I"⟩
abbrev cX7_fold : ByteArray := prog_9_method_126_code
def yX7_fold : MethodName := ⟨RX7, "fold", "(II)I"⟩
abbrev cX7_foldNext : ByteArray := prog_9_method_127_code
def yX7_foldNext : MethodName := ⟨RX7, "foldNext", "()I"⟩
abbrev cX7_unfold : ByteArray := prog_9_method_128_code
def yX7_unfold : MethodName := ⟨RX7, "unfold", "()I"⟩
abbrev cX7_set : ByteArray := prog_9_method_129_code
def yX7_set : MethodName := ⟨RX7, "set", "(II)I"⟩
abbrev cX7_setLeg : ByteArray := prog_9_method_130_code
def yX7_setLeg : MethodName := ⟨RX7, "setLeg", "(II)I"⟩
abbrev cX7_setDirection : ByteArray := prog_9_method_131_code
def yX7_setDirection : MethodName := ⟨RX7, "setDirection", "(IZ)Z"⟩
abbrev cX7_areTold : ByteArray := prog_9_method_132_code
def yX7_areTold : MethodName := ⟨RX7, "areTold", "(III)Z"⟩
abbrev cX7_setTool : ByteArray := prog_9_method_133_code
def yX7_setTool : MethodName := ⟨RX7, "setTool", "(III)I"⟩
abbrev cX7_setSheet : ByteArray := prog_9_method_134_code
def yX7_setSheet : MethodName := ⟨RX7, "setSheet", "(III)I"⟩
abbrev cX7_setCost : ByteArray := prog_9_method_135_code
def yX7_setCost : MethodName := ⟨RX7, "setCost", "(III)I"⟩
abbrev cX7_put : ByteArray := prog_9_method_136_code
def yX7_put : MethodName := ⟨RX7, "put", "(I)V"⟩
abbrev cX7_putNumber : ByteArray := prog_9_method_137_code
def yX7_putNumber : MethodName := ⟨RX7, "putNumber", "(I)V"⟩
abbrev cX7_putBend : ByteArray := prog_9_method_138_code
def yX7_putBend : MethodName := ⟨RX7, "putBend", "(I)V"⟩
abbrev cX7_putCost : ByteArray := prog_9_method_139_code
def yX7_putCost : MethodName := ⟨RX7, "putCost", "()V"⟩
abbrev cX7_write : ByteArray := prog_9_method_140_code
def yX7_write : MethodName := ⟨RX7, "write", "()I"⟩
abbrev cX7_written : ByteArray := prog_9_method_141_code
def yX7_written : MethodName := ⟨RX7, "written", "(I)C"⟩
def RJ5 : String := "java/lang/AbstractStringBuilder"
def TJ5 : u_T := fun k => match k with
  | _ => ("", "", "", false)
def tyJ5 : Nat → FieldType := fun k => match k with
  | _ => .int
abbrev wsJ50 : List Cond := u_ws RJ5 TJ5 0
theorem nmJ5 : ∀ a, a < 0 → ∀ b, b < 0 → a ≠ b → (TJ5 a).2.1 ≠ (TJ5 b).2.1 := by decide +kernel
theorem tyJ5_ok : ∀ k, k < 0 → parseFieldDescriptor (TJ5 k).2.2.1 = some (tyJ5 k) := by decide +kernel
abbrev cJ5_init_d00df : ByteArray := prog_10_method_2_code
def yJ5_init_d00df : MethodName := ⟨RJ5, "<init>", "(I)V"⟩
abbrev cJ5_length_8abf5 : ByteArray := prog_10_method_6_code
def yJ5_length_8abf5 : MethodName := ⟨RJ5, "length", "()I"⟩
abbrev cJ5_ensureCapacityInternal_d00df : ByteArray := prog_10_method_9_code
def yJ5_ensureCapacityInternal_d00df : MethodName := ⟨RJ5, "ensureCapacityInternal", "(I)V"⟩
abbrev cJ5_newCapacity_0f7a4 : ByteArray := prog_10_method_10_code
def yJ5_newCapacity_0f7a4 : MethodName := ⟨RJ5, "newCapacity", "(I)I"⟩
abbrev cJ5_inflate_da8c8 : ByteArray := prog_10_method_11_code
def yJ5_inflate_da8c8 : MethodName := ⟨RJ5, "inflate", "()V"⟩
abbrev cJ5_setLength_d00df : ByteArray := prog_10_method_13_code
def yJ5_setLength_d00df : MethodName := ⟨RJ5, "setLength", "(I)V"⟩
abbrev cJ5_charAt_5068e : ByteArray := prog_10_method_14_code
def yJ5_charAt_5068e : MethodName := ⟨RJ5, "charAt", "(I)C"⟩
abbrev cJ5_append_cf1ce : ByteArray := prog_10_method_22_code
def yJ5_append_cf1ce : MethodName := ⟨RJ5, "append", "(Ljava/lang/String;)Ljava/lang/AbstractStringBuilder;"⟩
abbrev cJ5_appendNull_278bc : ByteArray := prog_10_method_26_code
def yJ5_appendNull_278bc : MethodName := ⟨RJ5, "appendNull", "()Ljava/lang/AbstractStringBuilder;"⟩
abbrev cJ5_append_3fe6f : ByteArray := prog_10_method_31_code
def yJ5_append_3fe6f : MethodName := ⟨RJ5, "append", "(C)Ljava/lang/AbstractStringBuilder;"⟩
abbrev cJ5_append_c97b9 : ByteArray := prog_10_method_32_code
def yJ5_append_c97b9 : MethodName := ⟨RJ5, "append", "(I)Ljava/lang/AbstractStringBuilder;"⟩
abbrev cJ5_getValue_6d5f1 : ByteArray := prog_10_method_64_code
def yJ5_getValue_6d5f1 : MethodName := ⟨RJ5, "getValue", "()[B"⟩
abbrev cJ5_isLatin1_aae02 : ByteArray := prog_10_method_68_code
def yJ5_isLatin1_aae02 : MethodName := ⟨RJ5, "isLatin1", "()Z"⟩
abbrev cJ5_inflateIfNeededFor_a7421 : ByteArray := prog_10_method_71_code
def yJ5_inflateIfNeededFor_a7421 : MethodName := ⟨RJ5, "inflateIfNeededFor", "(Ljava/lang/String;)V"⟩
abbrev cJ5_putStringAt_47b60 : ByteArray := prog_10_method_73_code
def yJ5_putStringAt_47b60 : MethodName := ⟨RJ5, "putStringAt", "(ILjava/lang/String;)V"⟩
def RJx00060 : String := "java/lang/ArrayIndexOutOfBoundsException"
def TJx00060 : u_T := fun k => match k with
  | 0 => ("java/lang/Throwable", "cause", "Ljava/lang/Throwable;", false)
  | 1 => ("java/lang/Throwable", "stackTrace", "[Ljava/lang/StackTraceElement;", false)
  | 2 => ("java/lang/Throwable", "suppressedExceptions", "Ljava/util/List;", false)
  | 3 => ("java/lang/Throwable", "detailMessage", "Ljava/lang/String;", false)
  | 4 => ("java/lang/Throwable", "backtrace", "Ljava/lang/Object;", false)
  | _ => ("java/lang/Throwable", "depth", "I", false)
def tyJx00060 : Nat → FieldType := fun k => match k with
  | 0 => .object "java/lang/Throwable"
  | 1 => .array (.object "java/lang/StackTraceElement")
  | 2 => .object "java/util/List"
  | 3 => .object "java/lang/String"
  | 4 => .object "java/lang/Object"
  | _ => .int
abbrev wsJx000600 : List Cond := u_ws RJx00060 TJx00060 6
theorem nmJx00060 : ∀ a, a < 6 → ∀ b, b < 6 → a ≠ b → (TJx00060 a).2.1 ≠ (TJx00060 b).2.1 := by decide +kernel
theorem tyJx00060_ok : ∀ k, k < 6 → parseFieldDescriptor (TJx00060 k).2.2.1 = some (tyJx00060 k) := by decide +kernel
abbrev cJx00060_init_d00df : ByteArray := prog_11_method_3_code
def yJx00060_init_d00df : MethodName := ⟨RJx00060, "<init>", "(I)V"⟩
def RJx8e188 : String := "java/lang/Cloneable"
def TJx8e188 : u_T := fun k => match k with
  | _ => ("", "", "", false)
def tyJx8e188 : Nat → FieldType := fun k => match k with
  | _ => .int
abbrev wsJx8e1880 : List Cond := u_ws RJx8e188 TJx8e188 0
theorem nmJx8e188 : ∀ a, a < 0 → ∀ b, b < 0 → a ≠ b → (TJx8e188 a).2.1 ≠ (TJx8e188 b).2.1 := by decide +kernel
theorem tyJx8e188_ok : ∀ k, k < 0 → parseFieldDescriptor (TJx8e188 k).2.2.1 = some (tyJx8e188 k) := by decide +kernel
def RJx29ce0 : String := "java/lang/Enum"
def TJx29ce0 : u_T := fun k => match k with
  | _ => ("", "", "", false)
def tyJx29ce0 : Nat → FieldType := fun k => match k with
  | _ => .int
abbrev wsJx29ce00 : List Cond := u_ws RJx29ce0 TJx29ce0 0
theorem nmJx29ce0 : ∀ a, a < 0 → ∀ b, b < 0 → a ≠ b → (TJx29ce0 a).2.1 ≠ (TJx29ce0 b).2.1 := by decide +kernel
theorem tyJx29ce0_ok : ∀ k, k < 0 → parseFieldDescriptor (TJx29ce0 k).2.2.1 = some (tyJx29ce0 k) := by decide +kernel
def RJ6 : String := "java/lang/Integer"
def TJ6 : u_T := fun k => match k with
  | _ => ("", "", "", false)
def tyJ6 : Nat → FieldType := fun k => match k with
  | _ => .int
abbrev wsJ60 : List Cond := u_ws RJ6 TJ6 0
theorem nmJ6 : ∀ a, a < 0 → ∀ b, b < 0 → a ≠ b → (TJ6 a).2.1 ≠ (TJ6 b).2.1 := by decide +kernel
theorem tyJ6_ok : ∀ k, k < 0 → parseFieldDescriptor (TJ6 k).2.2.1 = some (tyJ6 k) := by decide +kernel
abbrev cJ6_getChars_ba4f3 : ByteArray := prog_18_method_12_code
def yJ6_getChars_ba4f3 : MethodName := ⟨RJ6, "getChars", "(II[B)I"⟩
abbrev cJ6_stringSize_0f7a4 : ByteArray := prog_18_method_13_code
def yJ6_stringSize_0f7a4 : MethodName := ⟨RJ6, "stringSize", "(I)I"⟩
abbrev cJ6_bitCount_0f7a4 : ByteArray := prog_18_method_49_code
def yJ6_bitCount_0f7a4 : MethodName := ⟨RJ6, "bitCount", "(I)I"⟩
def RJ9 : String := "java/lang/Math"
def TJ9 : u_T := fun k => match k with
  | _ => ("", "", "", false)
def tyJ9 : Nat → FieldType := fun k => match k with
  | _ => .int
abbrev wsJ90 : List Cond := u_ws RJ9 TJ9 0
theorem nmJ9 : ∀ a, a < 0 → ∀ b, b < 0 → a ≠ b → (TJ9 a).2.1 ≠ (TJ9 b).2.1 := by decide +kernel
theorem tyJ9_ok : ∀ k, k < 0 → parseFieldDescriptor (TJ9 k).2.2.1 = some (tyJ9 k) := by decide +kernel
abbrev cJ9_max_7cf53 : ByteArray := prog_19_method_65_code
def yJ9_max_7cf53 : MethodName := ⟨RJ9, "max", "(II)I"⟩
abbrev cJ9_min_7cf53 : ByteArray := prog_19_method_69_code
def yJ9_min_7cf53 : MethodName := ⟨RJ9, "min", "(II)I"⟩
def RJ0 : String := "java/lang/String"
def TJ0 : u_T := fun k => match k with
  | 0 => ("java/lang/String", "value", "[B", true)
  | 1 => ("java/lang/String", "coder", "B", true)
  | 2 => ("java/lang/String", "hash", "I", false)
  | _ => ("java/lang/String", "hashIsZero", "Z", false)
def tyJ0 : Nat → FieldType := fun k => match k with
  | 0 => .array .byte
  | 1 => .byte
  | 2 => .int
  | _ => .boolean
abbrev wsJ00 : List Cond := u_ws RJ0 TJ0 4
theorem nmJ0 : ∀ a, a < 4 → ∀ b, b < 4 → a ≠ b → (TJ0 a).2.1 ≠ (TJ0 b).2.1 := by decide +kernel
theorem tyJ0_ok : ∀ k, k < 4 → parseFieldDescriptor (TJ0 k).2.2.1 = some (tyJ0 k) := by decide +kernel
abbrev cJ0_init_81219 : ByteArray := prog_21_method_53_code
def yJ0_init_81219 : MethodName := ⟨RJ0, "<init>", "(Ljava/lang/StringBuilder;)V"⟩
abbrev cJ0_length_8abf5 : ByteArray := prog_21_method_54_code
def yJ0_length_8abf5 : MethodName := ⟨RJ0, "length", "()I"⟩
abbrev cJ0_charAt_5068e : ByteArray := prog_21_method_56_code
def yJ0_charAt_5068e : MethodName := ⟨RJ0, "charAt", "(I)C"⟩
abbrev cJ0_getBytes_840e7 : ByteArray := prog_21_method_147_code
def yJ0_getBytes_840e7 : MethodName := ⟨RJ0, "getBytes", "([BIB)V"⟩
abbrev cJ0_init_db425 : ByteArray := prog_21_method_150_code
def yJ0_init_db425 : MethodName := ⟨RJ0, "<init>", "(Ljava/lang/AbstractStringBuilder;Ljava/lang/Void;)V"⟩
abbrev cJ0_coder_7d493 : ByteArray := prog_21_method_152_code
def yJ0_coder_7d493 : MethodName := ⟨RJ0, "coder", "()B"⟩
abbrev cJ0_isLatin1_aae02 : ByteArray := prog_21_method_154_code
def yJ0_isLatin1_aae02 : MethodName := ⟨RJ0, "isLatin1", "()Z"⟩
abbrev cJ0_checkIndex_df160 : ByteArray := prog_21_method_155_code
def yJ0_checkIndex_df160 : MethodName := ⟨RJ0, "checkIndex", "(II)V"⟩
abbrev cJ0_checkBoundsOffCount_cabcc : ByteArray := prog_21_method_157_code
def yJ0_checkBoundsOffCount_cabcc : MethodName := ⟨RJ0, "checkBoundsOffCount", "(III)I"⟩
abbrev cJ0_checkBoundsBeginEnd_23922 : ByteArray := prog_21_method_158_code
def yJ0_checkBoundsBeginEnd_23922 : MethodName := ⟨RJ0, "checkBoundsBeginEnd", "(III)V"⟩
def RJ4 : String := "java/lang/StringBuilder"
def TJ4 : u_T := fun k => match k with
  | 0 => ("java/lang/AbstractStringBuilder", "value", "[B", false)
  | 1 => ("java/lang/AbstractStringBuilder", "coder", "B", false)
  | 2 => ("java/lang/AbstractStringBuilder", "maybeLatin1", "Z", false)
  | _ => ("java/lang/AbstractStringBuilder", "count", "I", false)
def tyJ4 : Nat → FieldType := fun k => match k with
  | 0 => .array .byte
  | 1 => .byte
  | 2 => .boolean
  | _ => .int
abbrev wsJ40 : List Cond := u_ws RJ4 TJ4 4
theorem nmJ4 : ∀ a, a < 4 → ∀ b, b < 4 → a ≠ b → (TJ4 a).2.1 ≠ (TJ4 b).2.1 := by decide +kernel
theorem tyJ4_ok : ∀ k, k < 4 → parseFieldDescriptor (TJ4 k).2.2.1 = some (tyJ4 k) := by decide +kernel
abbrev cJ4_init_da8c8 : ByteArray := prog_22_method_1_code
def yJ4_init_da8c8 : MethodName := ⟨RJ4, "<init>", "()V"⟩
abbrev cJ4_append_15ec4 : ByteArray := prog_22_method_7_code
def yJ4_append_15ec4 : MethodName := ⟨RJ4, "append", "(Ljava/lang/String;)Ljava/lang/StringBuilder;"⟩
abbrev cJ4_append_cf468 : ByteArray := prog_22_method_14_code
def yJ4_append_cf468 : MethodName := ⟨RJ4, "append", "(C)Ljava/lang/StringBuilder;"⟩
abbrev cJ4_append_bf812 : ByteArray := prog_22_method_15_code
def yJ4_append_bf812 : MethodName := ⟨RJ4, "append", "(I)Ljava/lang/StringBuilder;"⟩
abbrev cJ4_toString_0e30d : ByteArray := prog_22_method_42_code
def yJ4_toString_0e30d : MethodName := ⟨RJ4, "toString", "()Ljava/lang/String;"⟩
abbrev cJ4_charAt_5068e : ByteArray := prog_22_method_88_code
def yJ4_charAt_5068e : MethodName := ⟨RJ4, "charAt", "(I)C"⟩
abbrev cJ4_setLength_d00df : ByteArray := prog_22_method_89_code
def yJ4_setLength_d00df : MethodName := ⟨RJ4, "setLength", "(I)V"⟩
abbrev cJ4_length_8abf5 : ByteArray := prog_22_method_93_code
def yJ4_length_8abf5 : MethodName := ⟨RJ4, "length", "()I"⟩
def RJx7c733 : String := "java/lang/StringIndexOutOfBoundsException"
def TJx7c733 : u_T := fun k => match k with
  | 0 => ("java/lang/Throwable", "backtrace", "Ljava/lang/Object;", false)
  | 1 => ("java/lang/Throwable", "detailMessage", "Ljava/lang/String;", false)
  | 2 => ("java/lang/Throwable", "cause", "Ljava/lang/Throwable;", false)
  | 3 => ("java/lang/Throwable", "stackTrace", "[Ljava/lang/StackTraceElement;", false)
  | 4 => ("java/lang/Throwable", "depth", "I", false)
  | _ => ("java/lang/Throwable", "suppressedExceptions", "Ljava/util/List;", false)
def tyJx7c733 : Nat → FieldType := fun k => match k with
  | 0 => .object "java/lang/Object"
  | 1 => .object "java/lang/String"
  | 2 => .object "java/lang/Throwable"
  | 3 => .array (.object "java/lang/StackTraceElement")
  | 4 => .int
  | _ => .object "java/util/List"
abbrev wsJx7c7330 : List Cond := u_ws RJx7c733 TJx7c733 6
theorem nmJx7c733 : ∀ a, a < 6 → ∀ b, b < 6 → a ≠ b → (TJx7c733 a).2.1 ≠ (TJx7c733 b).2.1 := by decide +kernel
theorem tyJx7c733_ok : ∀ k, k < 6 → parseFieldDescriptor (TJx7c733 k).2.2.1 = some (tyJx7c733 k) := by decide +kernel
abbrev cJx7c733_init_d00df : ByteArray := prog_23_method_3_code
def yJx7c733_init_d00df : MethodName := ⟨RJx7c733, "<init>", "(I)V"⟩
def RJ1 : String := "java/lang/StringLatin1"
def TJ1 : u_T := fun k => match k with
  | _ => ("", "", "", false)
def tyJ1 : Nat → FieldType := fun k => match k with
  | _ => .int
abbrev wsJ10 : List Cond := u_ws RJ1 TJ1 0
theorem nmJ1 : ∀ a, a < 0 → ∀ b, b < 0 → a ≠ b → (TJ1 a).2.1 ≠ (TJ1 b).2.1 := by decide +kernel
theorem tyJ1_ok : ∀ k, k < 0 → parseFieldDescriptor (TJ1 k).2.2.1 = some (tyJ1 k) := by decide +kernel
abbrev cJ1_charAt_3b067 : ByteArray := prog_24_method_2_code
def yJ1_charAt_3b067 : MethodName := ⟨RJ1, "charAt", "([BI)C"⟩
abbrev cJ1_canEncode_fc78d : ByteArray := prog_24_method_3_code
def yJ1_canEncode_fc78d : MethodName := ⟨RJ1, "canEncode", "(C)Z"⟩
abbrev cJ1_fillNull_b72d1 : ByteArray := prog_24_method_48_code
def yJ1_fillNull_b72d1 : MethodName := ⟨RJ1, "fillNull", "([BII)V"⟩
abbrev cJ1_inflate_0e8fd : ByteArray := prog_24_method_50_code
def yJ1_inflate_0e8fd : MethodName := ⟨RJ1, "inflate", "([BI[BII)V"⟩
def RJ2 : String := "java/lang/StringUTF16"
def TJ2 : u_T := fun k => match k with
  | _ => ("", "", "", false)
def tyJ2 : Nat → FieldType := fun k => match k with
  | _ => .int
abbrev wsJ20 : List Cond := u_ws RJ2 TJ2 0
theorem nmJ2 : ∀ a, a < 0 → ∀ b, b < 0 → a ≠ b → (TJ2 a).2.1 ≠ (TJ2 b).2.1 := by decide +kernel
theorem tyJ2_ok : ∀ k, k < 0 → parseFieldDescriptor (TJ2 k).2.2.1 = some (tyJ2 k) := by decide +kernel
abbrev cJ2_newBytesFor_77867 : ByteArray := prog_25_method_2_code
def yJ2_newBytesFor_77867 : MethodName := ⟨RJ2, "newBytesFor", "(I)[B"⟩
abbrev cJ2_newBytesLength_0f7a4 : ByteArray := prog_25_method_3_code
def yJ2_newBytesLength_0f7a4 : MethodName := ⟨RJ2, "newBytesLength", "(I)I"⟩
abbrev cJ2_putChar_b72d1 : ByteArray := prog_25_method_4_code
def yJ2_putChar_b72d1 : MethodName := ⟨RJ2, "putChar", "([BII)V"⟩
abbrev cJ2_getChar_3b067 : ByteArray := prog_25_method_5_code
def yJ2_getChar_3b067 : MethodName := ⟨RJ2, "getChar", "([BI)C"⟩
abbrev cJ2_length_9d52b : ByteArray := prog_25_method_6_code
def yJ2_length_9d52b : MethodName := ⟨RJ2, "length", "([B)I"⟩
abbrev cJ2_coderFromArrayLen_85cad : ByteArray := prog_25_method_15_code
def yJ2_coderFromArrayLen_85cad : MethodName := ⟨RJ2, "coderFromArrayLen", "([BI)B"⟩
abbrev cJ2_compress_39247 : ByteArray := prog_25_method_17_code
def yJ2_compress_39247 : MethodName := ⟨RJ2, "compress", "([BII)[B"⟩
abbrev cJ2_compress_5af95 : ByteArray := prog_25_method_22_code
def yJ2_compress_5af95 : MethodName := ⟨RJ2, "compress", "([BI[BII)I"⟩
abbrev cJ2_fillNull_b72d1 : ByteArray := prog_25_method_70_code
def yJ2_fillNull_b72d1 : MethodName := ⟨RJ2, "fillNull", "([BII)V"⟩
abbrev cJ2_putCharSB_b72d1 : ByteArray := prog_25_method_71_code
def yJ2_putCharSB_b72d1 : MethodName := ⟨RJ2, "putCharSB", "([BII)V"⟩
abbrev cJ2_getChars_46870 : ByteArray := prog_25_method_77_code
def yJ2_getChars_46870 : MethodName := ⟨RJ2, "getChars", "(III[B)I"⟩
abbrev cJ2_putCharsAt_cd4e5 : ByteArray := prog_25_method_81_code
def yJ2_putCharsAt_cd4e5 : MethodName := ⟨RJ2, "putCharsAt", "([BICCCC)I"⟩
abbrev cJ2_charAt_3b067 : ByteArray := prog_25_method_83_code
def yJ2_charAt_3b067 : MethodName := ⟨RJ2, "charAt", "([BI)C"⟩
abbrev cJ2_inflate_0e8fd : ByteArray := prog_25_method_86_code
def yJ2_inflate_0e8fd : MethodName := ⟨RJ2, "inflate", "([BI[BII)V"⟩
abbrev cJ2_getChars_ba4f3 : ByteArray := prog_25_method_89_code
def yJ2_getChars_ba4f3 : MethodName := ⟨RJ2, "getChars", "(II[B)I"⟩
abbrev cJ2_checkIndex_2214a : ByteArray := prog_25_method_91_code
def yJ2_checkIndex_2214a : MethodName := ⟨RJ2, "checkIndex", "(I[B)V"⟩
abbrev cJ2_checkBoundsBeginEnd_d044e : ByteArray := prog_25_method_93_code
def yJ2_checkBoundsBeginEnd_d044e : MethodName := ⟨RJ2, "checkBoundsBeginEnd", "(II[B)V"⟩
abbrev cJ2_checkBoundsOffCount_d044e : ByteArray := prog_25_method_94_code
def yJ2_checkBoundsOffCount_d044e : MethodName := ⟨RJ2, "checkBoundsOffCount", "(II[B)V"⟩
def RJ10 : String := "java/lang/System"
def TJ10 : u_T := fun k => match k with
  | _ => ("", "", "", false)
def tyJ10 : Nat → FieldType := fun k => match k with
  | _ => .int
abbrev wsJ100 : List Cond := u_ws RJ10 TJ10 0
theorem nmJ10 : ∀ a, a < 0 → ∀ b, b < 0 → a ≠ b → (TJ10 a).2.1 ≠ (TJ10 b).2.1 := by decide +kernel
theorem tyJ10_ok : ∀ k, k < 0 → parseFieldDescriptor (TJ10 k).2.2.1 = some (tyJ10 k) := by decide +kernel
def RJ7 : String := "java/util/Arrays"
def TJ7 : u_T := fun k => match k with
  | _ => ("", "", "", false)
def tyJ7 : Nat → FieldType := fun k => match k with
  | _ => .int
abbrev wsJ70 : List Cond := u_ws RJ7 TJ7 0
theorem nmJ7 : ∀ a, a < 0 → ∀ b, b < 0 → a ≠ b → (TJ7 a).2.1 ≠ (TJ7 b).2.1 := by decide +kernel
theorem tyJ7_ok : ∀ k, k < 0 → parseFieldDescriptor (TJ7 k).2.2.1 = some (tyJ7 k) := by decide +kernel
abbrev cJ7_rangeCheck_23922 : ByteArray := prog_28_method_30_code
def yJ7_rangeCheck_23922 : MethodName := ⟨RJ7, "rangeCheck", "(III)V"⟩
abbrev cJ7_fill_eb02e : ByteArray := prog_28_method_110_code
def yJ7_fill_eb02e : MethodName := ⟨RJ7, "fill", "([BIIB)V"⟩
abbrev cJ7_copyOf_9075b : ByteArray := prog_28_method_121_code
def yJ7_copyOf_9075b : MethodName := ⟨RJ7, "copyOf", "([BI)[B"⟩
abbrev cJ7_checkLength_df160 : ByteArray := prog_28_method_131_code
def yJ7_checkLength_df160 : MethodName := ⟨RJ7, "checkLength", "(II)V"⟩
abbrev cJ7_copyOfRange_39247 : ByteArray := prog_28_method_132_code
def yJ7_copyOfRange_39247 : MethodName := ⟨RJ7, "copyOfRange", "([BII)[B"⟩
abbrev cJ7_copyOfRangeByte_39247 : ByteArray := prog_28_method_133_code
def yJ7_copyOfRangeByte_39247 : MethodName := ⟨RJ7, "copyOfRangeByte", "([BII)[B"⟩
def RJ8 : String := "jdk/internal/util/ArraysSupport"
def TJ8 : u_T := fun k => match k with
  | _ => ("", "", "", false)
def tyJ8 : Nat → FieldType := fun k => match k with
  | _ => .int
abbrev wsJ80 : List Cond := u_ws RJ8 TJ8 0
theorem nmJ8 : ∀ a, a < 0 → ∀ b, b < 0 → a ≠ b → (TJ8 a).2.1 ≠ (TJ8 b).2.1 := by decide +kernel
theorem tyJ8_ok : ∀ k, k < 0 → parseFieldDescriptor (TJ8 k).2.2.1 = some (tyJ8 k) := by decide +kernel
abbrev cJ8_newLength_cabcc : ByteArray := prog_29_method_27_code
def yJ8_newLength_cabcc : MethodName := ⟨RJ8, "newLength", "(III)I"⟩
abbrev cJ8_hugeLength_7cf53 : ByteArray := prog_29_method_28_code
def yJ8_hugeLength_7cf53 : MethodName := ⟨RJ8, "hugeLength", "(II)I"⟩
def RJ3 : String := "jdk/internal/util/Preconditions"
def TJ3 : u_T := fun k => match k with
  | _ => ("", "", "", false)
def tyJ3 : Nat → FieldType := fun k => match k with
  | _ => .int
abbrev wsJ30 : List Cond := u_ws RJ3 TJ3 0
theorem nmJ3 : ∀ a, a < 0 → ∀ b, b < 0 → a ≠ b → (TJ3 a).2.1 ≠ (TJ3 b).2.1 := by decide +kernel
theorem tyJ3_ok : ∀ k, k < 0 → parseFieldDescriptor (TJ3 k).2.2.1 = some (tyJ3 k) := by decide +kernel
abbrev cJ3_checkIndex_8e157 : ByteArray := prog_30_method_11_code
def yJ3_checkIndex_8e157 : MethodName := ⟨RJ3, "checkIndex", "(IILjava/util/function/BiFunction;)I"⟩
abbrev cJ3_checkFromToIndex_8c36e : ByteArray := prog_30_method_12_code
def yJ3_checkFromToIndex_8c36e : MethodName := ⟨RJ3, "checkFromToIndex", "(IIILjava/util/function/BiFunction;)I"⟩
abbrev cJ3_checkFromIndexSize_8c36e : ByteArray := prog_30_method_13_code
def yJ3_checkFromIndexSize_8c36e : MethodName := ⟨RJ3, "checkFromIndexSize", "(IIILjava/util/function/BiFunction;)I"⟩
def RL : String := "SheetFolderLaw"
abbrev cL_load : ByteArray := method_3_code
def yL_load : MethodName := ⟨RL, "load", "(LSheetFolder;I[J)I"⟩
abbrev cL_leg : ByteArray := method_4_code
def yL_leg : MethodName := ⟨RL, "leg", "(LSheetFolder;I[J)I"⟩
abbrev cL_isUp : ByteArray := method_5_code
def yL_isUp : MethodName := ⟨RL, "isUp", "(LSheetFolder;I[J)I"⟩
abbrev cL_linePlace : ByteArray := method_6_code
def yL_linePlace : MethodName := ⟨RL, "linePlace", "(LSheetFolder;I[D)I"⟩
abbrev cL_springBackFor : ByteArray := method_7_code
def yL_springBackFor : MethodName := ⟨RL, "springBackFor", "(LSheetFolder;D[D)I"⟩
abbrev cL_tool : ByteArray := method_8_code
def yL_tool : MethodName := ⟨RL, "tool", "(LSheetFolder;II[J)I"⟩
abbrev cL_finishedCorner : ByteArray := method_9_code
def yL_finishedCorner : MethodName := ⟨RL, "finishedCorner", "(LSheetFolder;II[J)I"⟩
abbrev cL_step : ByteArray := method_10_code
def yL_step : MethodName := ⟨RL, "step", "(LSheetFolder;II[J)I"⟩
abbrev cL_reason : ByteArray := method_11_code
def yL_reason : MethodName := ⟨RL, "reason", "(LSheetFolder;II[J)I"⟩
abbrev cL_gauge : ByteArray := method_12_code
def yL_gauge : MethodName := ⟨RL, "gauge", "(LSheetFolder;II[J)I"⟩
abbrev cL_corner : ByteArray := method_13_code
def yL_corner : MethodName := ⟨RL, "corner", "(LSheetFolder;IIII[J)I"⟩
abbrev cL_top : ByteArray := method_14_code
def yL_top : MethodName := ⟨RL, "top", "(LSheetFolder;II[J)I"⟩
abbrev cL_hitting : ByteArray := method_15_code
def yL_hitting : MethodName := ⟨RL, "hitting", "(LSheetFolder;II[J)I"⟩
abbrev cL_refused : ByteArray := method_16_code
def yL_refused : MethodName := ⟨RL, "refused", "(LSheetFolder;I[J)I"⟩
abbrev cL_costOf : ByteArray := method_17_code
def yL_costOf : MethodName := ⟨RL, "costOf", "(LSheetFolder;II[J)I"⟩
abbrev cL_planned : ByteArray := method_18_code
def yL_planned : MethodName := ⟨RL, "planned", "(LSheetFolder;I[J)I"⟩
abbrev cL_ordersWith : ByteArray := method_19_code
def yL_ordersWith : MethodName := ⟨RL, "ordersWith", "(LSheetFolder;II[J)I"⟩
abbrev cL_costIfTurned : ByteArray := method_20_code
def yL_costIfTurned : MethodName := ⟨RL, "costIfTurned", "(LSheetFolder;I[J)I"⟩
abbrev cL_fold : ByteArray := method_21_code
def yL_fold : MethodName := ⟨RL, "fold", "(LSheetFolder;II[J)I"⟩
abbrev cL_foldNext : ByteArray := method_22_code
def yL_foldNext : MethodName := ⟨RL, "foldNext", "(LSheetFolder;[J)I"⟩
abbrev cL_setLeg : ByteArray := method_23_code
def yL_setLeg : MethodName := ⟨RL, "setLeg", "(LSheetFolder;II[J)I"⟩
abbrev cL_setDirection : ByteArray := method_24_code
def yL_setDirection : MethodName := ⟨RL, "setDirection", "(LSheetFolder;IZ[J)I"⟩
abbrev cL_setTool : ByteArray := method_25_code
def yL_setTool : MethodName := ⟨RL, "setTool", "(LSheetFolder;III[J)I"⟩
abbrev cL_setSheet : ByteArray := method_26_code
def yL_setSheet : MethodName := ⟨RL, "setSheet", "(LSheetFolder;III[J)I"⟩
abbrev cL_setCost : ByteArray := method_27_code
def yL_setCost : MethodName := ⟨RL, "setCost", "(LSheetFolder;III[J)I"⟩
abbrev cL_written : ByteArray := method_28_code
def yL_written : MethodName := ⟨RL, "written", "(LSheetFolder;I[J)I"⟩
abbrev cL_law : ByteArray := code
def yL_law : MethodName := ⟨RL, "law", "([I)Z"⟩
abbrev vwCl : List vw_C := [(RJ0, TJ0, 4), (RJ4, TJ4, 4), (RJx00060, TJx00060, 6), (RJx7c733, TJx7c733, 6), (RX0, TX0, 3), (RX1, TX1, 18), (RX2, TX2, 9), (RX3, TX3, 13), (RX4, TX4, 9), (RX5, TX5, 0), (RX6, TX6, 9), (RX7, TX7, 31)]
end
section
/-! a quick check of decoded instructions, and the tables of all methods -/
theorem dk_u1 {c : ByteArray} {p : Nat} {b : UInt8} (h : c.data.toList[p]? = some b) : (Reader.u1 : Decoder Nat) c p = .ok (b.toNat, p + 1) := by
  have h1 : p < c.data.size := by
    rw [← Array.length_toList]; exact (List.getElem?_eq_some_iff.mp h).1
  have h2 : c.data[p] = b := by
    have := (List.getElem?_eq_some_iff.mp h).2
    rw [← this]; simp
  have h3 : p < c.size := h1
  have h4 : c[p] = b := h2
  have h5 : (Reader.u1 : Decoder Nat) c p = (dite (p < c.size) (fun h => ((do set (p+1); Pure.pure c[p].toNat) : Decoder Nat)) (fun _ => throw (HasTruncated.truncated p))) c p := rfl
  rw [h5, dif_pos h3, h4]; rfl
theorem dk_u2 {c : ByteArray} {p : Nat} {b0 b1 : UInt8} (h0 : c.data.toList[p]? = some b0) (h1 : c.data.toList[p + 1]? = some b1) : (Reader.u2 : Decoder Nat) c p = .ok (b0.toNat * 256 + b1.toNat, p + 2) := by
  show Except.bind ((Reader.u1 : Decoder Nat) c p) _ = _
  rw [dk_u1 h0]
  show Except.bind ((Reader.u1 : Decoder Nat) c (p + 1)) _ = _
  rw [dk_u1 h1]
  rfl
theorem dk_s1 {c : ByteArray} {p : Nat} {b : UInt8} (h : c.data.toList[p]? = some b) : (Reader.s1 : Decoder Int) c p = .ok (Reader.signed 8 b.toNat, p + 1) := by
  show Except.bind ((Reader.u1 : Decoder Nat) c p) _ = _
  rw [dk_u1 h]
  rfl
theorem dk_s2 {c : ByteArray} {p : Nat} {b0 b1 : UInt8} (h0 : c.data.toList[p]? = some b0) (h1 : c.data.toList[p + 1]? = some b1) : (Reader.s2 : Decoder Int) c p = .ok (Reader.signed 16 (b0.toNat * 256 + b1.toNat), p + 2) := by
  show Except.bind ((Reader.u2 : Decoder Nat) c p) _ = _
  rw [dk_u2 h0 h1]
  rfl
theorem dk_dec {c : ByteArray} {p n : Nat} {i : Instr} (h : (Decoder.instr p) c p = .ok (i, p + n)) : decode c p = .ok (i, n) := by
  show (Except.bind ((Decoder.instr p) c p) (fun q => Except.ok (q.1, q.2 - p)) : Except DecodeError (Instr × Nat)) = _
  rw [h]
  show (Except.ok (i, p + n - p) : Except DecodeError (Instr × Nat)) = _
  rw [Nat.add_sub_cancel_left]
theorem dk_aaload {c : ByteArray} {p : Nat} {b0 : UInt8} (h0 : c.data.toList[p]? = some b0) (e : b0.toNat = 50) : (Decoder.instr p) c p = .ok (.aaload, p + 1) := by
  have u0 := dk_u1 h0
  rw [e] at u0
  unfold Decoder.instr
  show Except.bind ((Reader.u1 : Decoder Nat) c p) _ = _
  rw [u0]
  rfl
theorem dk_aastore {c : ByteArray} {p : Nat} {b0 : UInt8} (h0 : c.data.toList[p]? = some b0) (e : b0.toNat = 83) : (Decoder.instr p) c p = .ok (.aastore, p + 1) := by
  have u0 := dk_u1 h0
  rw [e] at u0
  unfold Decoder.instr
  show Except.bind ((Reader.u1 : Decoder Nat) c p) _ = _
  rw [u0]
  rfl
theorem dk_aconst_null {c : ByteArray} {p : Nat} {b0 : UInt8} (h0 : c.data.toList[p]? = some b0) (e : b0.toNat = 1) : (Decoder.instr p) c p = .ok (.aconst_null, p + 1) := by
  have u0 := dk_u1 h0
  rw [e] at u0
  unfold Decoder.instr
  show Except.bind ((Reader.u1 : Decoder Nat) c p) _ = _
  rw [u0]
  rfl
theorem dk_areturn {c : ByteArray} {p : Nat} {b0 : UInt8} (h0 : c.data.toList[p]? = some b0) (e : b0.toNat = 176) : (Decoder.instr p) c p = .ok (.areturn, p + 1) := by
  have u0 := dk_u1 h0
  rw [e] at u0
  unfold Decoder.instr
  show Except.bind ((Reader.u1 : Decoder Nat) c p) _ = _
  rw [u0]
  rfl
theorem dk_arraylength {c : ByteArray} {p : Nat} {b0 : UInt8} (h0 : c.data.toList[p]? = some b0) (e : b0.toNat = 190) : (Decoder.instr p) c p = .ok (.arraylength, p + 1) := by
  have u0 := dk_u1 h0
  rw [e] at u0
  unfold Decoder.instr
  show Except.bind ((Reader.u1 : Decoder Nat) c p) _ = _
  rw [u0]
  rfl
theorem dk_athrow {c : ByteArray} {p : Nat} {b0 : UInt8} (h0 : c.data.toList[p]? = some b0) (e : b0.toNat = 191) : (Decoder.instr p) c p = .ok (.athrow, p + 1) := by
  have u0 := dk_u1 h0
  rw [e] at u0
  unfold Decoder.instr
  show Except.bind ((Reader.u1 : Decoder Nat) c p) _ = _
  rw [u0]
  rfl
theorem dk_baload {c : ByteArray} {p : Nat} {b0 : UInt8} (h0 : c.data.toList[p]? = some b0) (e : b0.toNat = 51) : (Decoder.instr p) c p = .ok (.baload, p + 1) := by
  have u0 := dk_u1 h0
  rw [e] at u0
  unfold Decoder.instr
  show Except.bind ((Reader.u1 : Decoder Nat) c p) _ = _
  rw [u0]
  rfl
theorem dk_bastore {c : ByteArray} {p : Nat} {b0 : UInt8} (h0 : c.data.toList[p]? = some b0) (e : b0.toNat = 84) : (Decoder.instr p) c p = .ok (.bastore, p + 1) := by
  have u0 := dk_u1 h0
  rw [e] at u0
  unfold Decoder.instr
  show Except.bind ((Reader.u1 : Decoder Nat) c p) _ = _
  rw [u0]
  rfl
theorem dk_d2i {c : ByteArray} {p : Nat} {b0 : UInt8} (h0 : c.data.toList[p]? = some b0) (e : b0.toNat = 142) : (Decoder.instr p) c p = .ok (.d2i, p + 1) := by
  have u0 := dk_u1 h0
  rw [e] at u0
  unfold Decoder.instr
  show Except.bind ((Reader.u1 : Decoder Nat) c p) _ = _
  rw [u0]
  rfl
theorem dk_dadd {c : ByteArray} {p : Nat} {b0 : UInt8} (h0 : c.data.toList[p]? = some b0) (e : b0.toNat = 99) : (Decoder.instr p) c p = .ok (.dadd, p + 1) := by
  have u0 := dk_u1 h0
  rw [e] at u0
  unfold Decoder.instr
  show Except.bind ((Reader.u1 : Decoder Nat) c p) _ = _
  rw [u0]
  rfl
theorem dk_daload {c : ByteArray} {p : Nat} {b0 : UInt8} (h0 : c.data.toList[p]? = some b0) (e : b0.toNat = 49) : (Decoder.instr p) c p = .ok (.daload, p + 1) := by
  have u0 := dk_u1 h0
  rw [e] at u0
  unfold Decoder.instr
  show Except.bind ((Reader.u1 : Decoder Nat) c p) _ = _
  rw [u0]
  rfl
theorem dk_dastore {c : ByteArray} {p : Nat} {b0 : UInt8} (h0 : c.data.toList[p]? = some b0) (e : b0.toNat = 82) : (Decoder.instr p) c p = .ok (.dastore, p + 1) := by
  have u0 := dk_u1 h0
  rw [e] at u0
  unfold Decoder.instr
  show Except.bind ((Reader.u1 : Decoder Nat) c p) _ = _
  rw [u0]
  rfl
theorem dk_ddiv {c : ByteArray} {p : Nat} {b0 : UInt8} (h0 : c.data.toList[p]? = some b0) (e : b0.toNat = 111) : (Decoder.instr p) c p = .ok (.ddiv, p + 1) := by
  have u0 := dk_u1 h0
  rw [e] at u0
  unfold Decoder.instr
  show Except.bind ((Reader.u1 : Decoder Nat) c p) _ = _
  rw [u0]
  rfl
theorem dk_dmul {c : ByteArray} {p : Nat} {b0 : UInt8} (h0 : c.data.toList[p]? = some b0) (e : b0.toNat = 107) : (Decoder.instr p) c p = .ok (.dmul, p + 1) := by
  have u0 := dk_u1 h0
  rw [e] at u0
  unfold Decoder.instr
  show Except.bind ((Reader.u1 : Decoder Nat) c p) _ = _
  rw [u0]
  rfl
theorem dk_dreturn {c : ByteArray} {p : Nat} {b0 : UInt8} (h0 : c.data.toList[p]? = some b0) (e : b0.toNat = 175) : (Decoder.instr p) c p = .ok (.dreturn, p + 1) := by
  have u0 := dk_u1 h0
  rw [e] at u0
  unfold Decoder.instr
  show Except.bind ((Reader.u1 : Decoder Nat) c p) _ = _
  rw [u0]
  rfl
theorem dk_dsub {c : ByteArray} {p : Nat} {b0 : UInt8} (h0 : c.data.toList[p]? = some b0) (e : b0.toNat = 103) : (Decoder.instr p) c p = .ok (.dsub, p + 1) := by
  have u0 := dk_u1 h0
  rw [e] at u0
  unfold Decoder.instr
  show Except.bind ((Reader.u1 : Decoder Nat) c p) _ = _
  rw [u0]
  rfl
theorem dk_dup {c : ByteArray} {p : Nat} {b0 : UInt8} (h0 : c.data.toList[p]? = some b0) (e : b0.toNat = 89) : (Decoder.instr p) c p = .ok (.dup, p + 1) := by
  have u0 := dk_u1 h0
  rw [e] at u0
  unfold Decoder.instr
  show Except.bind ((Reader.u1 : Decoder Nat) c p) _ = _
  rw [u0]
  rfl
theorem dk_dup2 {c : ByteArray} {p : Nat} {b0 : UInt8} (h0 : c.data.toList[p]? = some b0) (e : b0.toNat = 92) : (Decoder.instr p) c p = .ok (.dup2, p + 1) := by
  have u0 := dk_u1 h0
  rw [e] at u0
  unfold Decoder.instr
  show Except.bind ((Reader.u1 : Decoder Nat) c p) _ = _
  rw [u0]
  rfl
theorem dk_dup_x1 {c : ByteArray} {p : Nat} {b0 : UInt8} (h0 : c.data.toList[p]? = some b0) (e : b0.toNat = 90) : (Decoder.instr p) c p = .ok (.dup_x1, p + 1) := by
  have u0 := dk_u1 h0
  rw [e] at u0
  unfold Decoder.instr
  show Except.bind ((Reader.u1 : Decoder Nat) c p) _ = _
  rw [u0]
  rfl
theorem dk_i2b {c : ByteArray} {p : Nat} {b0 : UInt8} (h0 : c.data.toList[p]? = some b0) (e : b0.toNat = 145) : (Decoder.instr p) c p = .ok (.i2b, p + 1) := by
  have u0 := dk_u1 h0
  rw [e] at u0
  unfold Decoder.instr
  show Except.bind ((Reader.u1 : Decoder Nat) c p) _ = _
  rw [u0]
  rfl
theorem dk_i2c {c : ByteArray} {p : Nat} {b0 : UInt8} (h0 : c.data.toList[p]? = some b0) (e : b0.toNat = 146) : (Decoder.instr p) c p = .ok (.i2c, p + 1) := by
  have u0 := dk_u1 h0
  rw [e] at u0
  unfold Decoder.instr
  show Except.bind ((Reader.u1 : Decoder Nat) c p) _ = _
  rw [u0]
  rfl
theorem dk_i2d {c : ByteArray} {p : Nat} {b0 : UInt8} (h0 : c.data.toList[p]? = some b0) (e : b0.toNat = 135) : (Decoder.instr p) c p = .ok (.i2d, p + 1) := by
  have u0 := dk_u1 h0
  rw [e] at u0
  unfold Decoder.instr
  show Except.bind ((Reader.u1 : Decoder Nat) c p) _ = _
  rw [u0]
  rfl
theorem dk_i2l {c : ByteArray} {p : Nat} {b0 : UInt8} (h0 : c.data.toList[p]? = some b0) (e : b0.toNat = 133) : (Decoder.instr p) c p = .ok (.i2l, p + 1) := by
  have u0 := dk_u1 h0
  rw [e] at u0
  unfold Decoder.instr
  show Except.bind ((Reader.u1 : Decoder Nat) c p) _ = _
  rw [u0]
  rfl
theorem dk_iadd {c : ByteArray} {p : Nat} {b0 : UInt8} (h0 : c.data.toList[p]? = some b0) (e : b0.toNat = 96) : (Decoder.instr p) c p = .ok (.iadd, p + 1) := by
  have u0 := dk_u1 h0
  rw [e] at u0
  unfold Decoder.instr
  show Except.bind ((Reader.u1 : Decoder Nat) c p) _ = _
  rw [u0]
  rfl
theorem dk_iaload {c : ByteArray} {p : Nat} {b0 : UInt8} (h0 : c.data.toList[p]? = some b0) (e : b0.toNat = 46) : (Decoder.instr p) c p = .ok (.iaload, p + 1) := by
  have u0 := dk_u1 h0
  rw [e] at u0
  unfold Decoder.instr
  show Except.bind ((Reader.u1 : Decoder Nat) c p) _ = _
  rw [u0]
  rfl
theorem dk_iand {c : ByteArray} {p : Nat} {b0 : UInt8} (h0 : c.data.toList[p]? = some b0) (e : b0.toNat = 126) : (Decoder.instr p) c p = .ok (.iand, p + 1) := by
  have u0 := dk_u1 h0
  rw [e] at u0
  unfold Decoder.instr
  show Except.bind ((Reader.u1 : Decoder Nat) c p) _ = _
  rw [u0]
  rfl
theorem dk_iastore {c : ByteArray} {p : Nat} {b0 : UInt8} (h0 : c.data.toList[p]? = some b0) (e : b0.toNat = 79) : (Decoder.instr p) c p = .ok (.iastore, p + 1) := by
  have u0 := dk_u1 h0
  rw [e] at u0
  unfold Decoder.instr
  show Except.bind ((Reader.u1 : Decoder Nat) c p) _ = _
  rw [u0]
  rfl
theorem dk_idiv {c : ByteArray} {p : Nat} {b0 : UInt8} (h0 : c.data.toList[p]? = some b0) (e : b0.toNat = 108) : (Decoder.instr p) c p = .ok (.idiv, p + 1) := by
  have u0 := dk_u1 h0
  rw [e] at u0
  unfold Decoder.instr
  show Except.bind ((Reader.u1 : Decoder Nat) c p) _ = _
  rw [u0]
  rfl
theorem dk_imul {c : ByteArray} {p : Nat} {b0 : UInt8} (h0 : c.data.toList[p]? = some b0) (e : b0.toNat = 104) : (Decoder.instr p) c p = .ok (.imul, p + 1) := by
  have u0 := dk_u1 h0
  rw [e] at u0
  unfold Decoder.instr
  show Except.bind ((Reader.u1 : Decoder Nat) c p) _ = _
  rw [u0]
  rfl
theorem dk_ineg {c : ByteArray} {p : Nat} {b0 : UInt8} (h0 : c.data.toList[p]? = some b0) (e : b0.toNat = 116) : (Decoder.instr p) c p = .ok (.ineg, p + 1) := by
  have u0 := dk_u1 h0
  rw [e] at u0
  unfold Decoder.instr
  show Except.bind ((Reader.u1 : Decoder Nat) c p) _ = _
  rw [u0]
  rfl
theorem dk_ior {c : ByteArray} {p : Nat} {b0 : UInt8} (h0 : c.data.toList[p]? = some b0) (e : b0.toNat = 128) : (Decoder.instr p) c p = .ok (.ior, p + 1) := by
  have u0 := dk_u1 h0
  rw [e] at u0
  unfold Decoder.instr
  show Except.bind ((Reader.u1 : Decoder Nat) c p) _ = _
  rw [u0]
  rfl
theorem dk_irem {c : ByteArray} {p : Nat} {b0 : UInt8} (h0 : c.data.toList[p]? = some b0) (e : b0.toNat = 112) : (Decoder.instr p) c p = .ok (.irem, p + 1) := by
  have u0 := dk_u1 h0
  rw [e] at u0
  unfold Decoder.instr
  show Except.bind ((Reader.u1 : Decoder Nat) c p) _ = _
  rw [u0]
  rfl
theorem dk_ireturn {c : ByteArray} {p : Nat} {b0 : UInt8} (h0 : c.data.toList[p]? = some b0) (e : b0.toNat = 172) : (Decoder.instr p) c p = .ok (.ireturn, p + 1) := by
  have u0 := dk_u1 h0
  rw [e] at u0
  unfold Decoder.instr
  show Except.bind ((Reader.u1 : Decoder Nat) c p) _ = _
  rw [u0]
  rfl
theorem dk_ishl {c : ByteArray} {p : Nat} {b0 : UInt8} (h0 : c.data.toList[p]? = some b0) (e : b0.toNat = 120) : (Decoder.instr p) c p = .ok (.ishl, p + 1) := by
  have u0 := dk_u1 h0
  rw [e] at u0
  unfold Decoder.instr
  show Except.bind ((Reader.u1 : Decoder Nat) c p) _ = _
  rw [u0]
  rfl
theorem dk_ishr {c : ByteArray} {p : Nat} {b0 : UInt8} (h0 : c.data.toList[p]? = some b0) (e : b0.toNat = 122) : (Decoder.instr p) c p = .ok (.ishr, p + 1) := by
  have u0 := dk_u1 h0
  rw [e] at u0
  unfold Decoder.instr
  show Except.bind ((Reader.u1 : Decoder Nat) c p) _ = _
  rw [u0]
  rfl
theorem dk_isub {c : ByteArray} {p : Nat} {b0 : UInt8} (h0 : c.data.toList[p]? = some b0) (e : b0.toNat = 100) : (Decoder.instr p) c p = .ok (.isub, p + 1) := by
  have u0 := dk_u1 h0
  rw [e] at u0
  unfold Decoder.instr
  show Except.bind ((Reader.u1 : Decoder Nat) c p) _ = _
  rw [u0]
  rfl
theorem dk_iushr {c : ByteArray} {p : Nat} {b0 : UInt8} (h0 : c.data.toList[p]? = some b0) (e : b0.toNat = 124) : (Decoder.instr p) c p = .ok (.iushr, p + 1) := by
  have u0 := dk_u1 h0
  rw [e] at u0
  unfold Decoder.instr
  show Except.bind ((Reader.u1 : Decoder Nat) c p) _ = _
  rw [u0]
  rfl
theorem dk_ixor {c : ByteArray} {p : Nat} {b0 : UInt8} (h0 : c.data.toList[p]? = some b0) (e : b0.toNat = 130) : (Decoder.instr p) c p = .ok (.ixor, p + 1) := by
  have u0 := dk_u1 h0
  rw [e] at u0
  unfold Decoder.instr
  show Except.bind ((Reader.u1 : Decoder Nat) c p) _ = _
  rw [u0]
  rfl
theorem dk_ladd {c : ByteArray} {p : Nat} {b0 : UInt8} (h0 : c.data.toList[p]? = some b0) (e : b0.toNat = 97) : (Decoder.instr p) c p = .ok (.ladd, p + 1) := by
  have u0 := dk_u1 h0
  rw [e] at u0
  unfold Decoder.instr
  show Except.bind ((Reader.u1 : Decoder Nat) c p) _ = _
  rw [u0]
  rfl
theorem dk_laload {c : ByteArray} {p : Nat} {b0 : UInt8} (h0 : c.data.toList[p]? = some b0) (e : b0.toNat = 47) : (Decoder.instr p) c p = .ok (.laload, p + 1) := by
  have u0 := dk_u1 h0
  rw [e] at u0
  unfold Decoder.instr
  show Except.bind ((Reader.u1 : Decoder Nat) c p) _ = _
  rw [u0]
  rfl
theorem dk_lastore {c : ByteArray} {p : Nat} {b0 : UInt8} (h0 : c.data.toList[p]? = some b0) (e : b0.toNat = 80) : (Decoder.instr p) c p = .ok (.lastore, p + 1) := by
  have u0 := dk_u1 h0
  rw [e] at u0
  unfold Decoder.instr
  show Except.bind ((Reader.u1 : Decoder Nat) c p) _ = _
  rw [u0]
  rfl
theorem dk_lcmp {c : ByteArray} {p : Nat} {b0 : UInt8} (h0 : c.data.toList[p]? = some b0) (e : b0.toNat = 148) : (Decoder.instr p) c p = .ok (.lcmp, p + 1) := by
  have u0 := dk_u1 h0
  rw [e] at u0
  unfold Decoder.instr
  show Except.bind ((Reader.u1 : Decoder Nat) c p) _ = _
  rw [u0]
  rfl
theorem dk_lreturn {c : ByteArray} {p : Nat} {b0 : UInt8} (h0 : c.data.toList[p]? = some b0) (e : b0.toNat = 173) : (Decoder.instr p) c p = .ok (.lreturn, p + 1) := by
  have u0 := dk_u1 h0
  rw [e] at u0
  unfold Decoder.instr
  show Except.bind ((Reader.u1 : Decoder Nat) c p) _ = _
  rw [u0]
  rfl
theorem dk_pop {c : ByteArray} {p : Nat} {b0 : UInt8} (h0 : c.data.toList[p]? = some b0) (e : b0.toNat = 87) : (Decoder.instr p) c p = .ok (.pop, p + 1) := by
  have u0 := dk_u1 h0
  rw [e] at u0
  unfold Decoder.instr
  show Except.bind ((Reader.u1 : Decoder Nat) c p) _ = _
  rw [u0]
  rfl
theorem dk_return_ {c : ByteArray} {p : Nat} {b0 : UInt8} (h0 : c.data.toList[p]? = some b0) (e : b0.toNat = 177) : (Decoder.instr p) c p = .ok (.return_, p + 1) := by
  have u0 := dk_u1 h0
  rw [e] at u0
  unfold Decoder.instr
  show Except.bind ((Reader.u1 : Decoder Nat) c p) _ = _
  rw [u0]
  rfl
theorem dk_aload_n0 {c : ByteArray} {p : Nat} {b0 : UInt8} (h0 : c.data.toList[p]? = some b0) (e : b0.toNat = 42) : (Decoder.instr p) c p = .ok (.aload_n 0, p + 1) := by
  have u0 := dk_u1 h0
  rw [e] at u0
  unfold Decoder.instr
  show Except.bind ((Reader.u1 : Decoder Nat) c p) _ = _
  rw [u0]
  rfl
theorem dk_aload_n1 {c : ByteArray} {p : Nat} {b0 : UInt8} (h0 : c.data.toList[p]? = some b0) (e : b0.toNat = 43) : (Decoder.instr p) c p = .ok (.aload_n 1, p + 1) := by
  have u0 := dk_u1 h0
  rw [e] at u0
  unfold Decoder.instr
  show Except.bind ((Reader.u1 : Decoder Nat) c p) _ = _
  rw [u0]
  rfl
theorem dk_aload_n2 {c : ByteArray} {p : Nat} {b0 : UInt8} (h0 : c.data.toList[p]? = some b0) (e : b0.toNat = 44) : (Decoder.instr p) c p = .ok (.aload_n 2, p + 1) := by
  have u0 := dk_u1 h0
  rw [e] at u0
  unfold Decoder.instr
  show Except.bind ((Reader.u1 : Decoder Nat) c p) _ = _
  rw [u0]
  rfl
theorem dk_aload_n3 {c : ByteArray} {p : Nat} {b0 : UInt8} (h0 : c.data.toList[p]? = some b0) (e : b0.toNat = 45) : (Decoder.instr p) c p = .ok (.aload_n 3, p + 1) := by
  have u0 := dk_u1 h0
  rw [e] at u0
  unfold Decoder.instr
  show Except.bind ((Reader.u1 : Decoder Nat) c p) _ = _
  rw [u0]
  rfl
theorem dk_astore_n0 {c : ByteArray} {p : Nat} {b0 : UInt8} (h0 : c.data.toList[p]? = some b0) (e : b0.toNat = 75) : (Decoder.instr p) c p = .ok (.astore_n 0, p + 1) := by
  have u0 := dk_u1 h0
  rw [e] at u0
  unfold Decoder.instr
  show Except.bind ((Reader.u1 : Decoder Nat) c p) _ = _
  rw [u0]
  rfl
theorem dk_astore_n1 {c : ByteArray} {p : Nat} {b0 : UInt8} (h0 : c.data.toList[p]? = some b0) (e : b0.toNat = 76) : (Decoder.instr p) c p = .ok (.astore_n 1, p + 1) := by
  have u0 := dk_u1 h0
  rw [e] at u0
  unfold Decoder.instr
  show Except.bind ((Reader.u1 : Decoder Nat) c p) _ = _
  rw [u0]
  rfl
theorem dk_astore_n2 {c : ByteArray} {p : Nat} {b0 : UInt8} (h0 : c.data.toList[p]? = some b0) (e : b0.toNat = 77) : (Decoder.instr p) c p = .ok (.astore_n 2, p + 1) := by
  have u0 := dk_u1 h0
  rw [e] at u0
  unfold Decoder.instr
  show Except.bind ((Reader.u1 : Decoder Nat) c p) _ = _
  rw [u0]
  rfl
theorem dk_astore_n3 {c : ByteArray} {p : Nat} {b0 : UInt8} (h0 : c.data.toList[p]? = some b0) (e : b0.toNat = 78) : (Decoder.instr p) c p = .ok (.astore_n 3, p + 1) := by
  have u0 := dk_u1 h0
  rw [e] at u0
  unfold Decoder.instr
  show Except.bind ((Reader.u1 : Decoder Nat) c p) _ = _
  rw [u0]
  rfl
theorem dk_dconst0 {c : ByteArray} {p : Nat} {b0 : UInt8} (h0 : c.data.toList[p]? = some b0) (e : b0.toNat = 14) : (Decoder.instr p) c p = .ok (.dconst 0, p + 1) := by
  have u0 := dk_u1 h0
  rw [e] at u0
  unfold Decoder.instr
  show Except.bind ((Reader.u1 : Decoder Nat) c p) _ = _
  rw [u0]
  rfl
theorem dk_dconst1 {c : ByteArray} {p : Nat} {b0 : UInt8} (h0 : c.data.toList[p]? = some b0) (e : b0.toNat = 15) : (Decoder.instr p) c p = .ok (.dconst 1, p + 1) := by
  have u0 := dk_u1 h0
  rw [e] at u0
  unfold Decoder.instr
  show Except.bind ((Reader.u1 : Decoder Nat) c p) _ = _
  rw [u0]
  rfl
theorem dk_dload_n0 {c : ByteArray} {p : Nat} {b0 : UInt8} (h0 : c.data.toList[p]? = some b0) (e : b0.toNat = 38) : (Decoder.instr p) c p = .ok (.dload_n 0, p + 1) := by
  have u0 := dk_u1 h0
  rw [e] at u0
  unfold Decoder.instr
  show Except.bind ((Reader.u1 : Decoder Nat) c p) _ = _
  rw [u0]
  rfl
theorem dk_dload_n1 {c : ByteArray} {p : Nat} {b0 : UInt8} (h0 : c.data.toList[p]? = some b0) (e : b0.toNat = 39) : (Decoder.instr p) c p = .ok (.dload_n 1, p + 1) := by
  have u0 := dk_u1 h0
  rw [e] at u0
  unfold Decoder.instr
  show Except.bind ((Reader.u1 : Decoder Nat) c p) _ = _
  rw [u0]
  rfl
theorem dk_dload_n2 {c : ByteArray} {p : Nat} {b0 : UInt8} (h0 : c.data.toList[p]? = some b0) (e : b0.toNat = 40) : (Decoder.instr p) c p = .ok (.dload_n 2, p + 1) := by
  have u0 := dk_u1 h0
  rw [e] at u0
  unfold Decoder.instr
  show Except.bind ((Reader.u1 : Decoder Nat) c p) _ = _
  rw [u0]
  rfl
theorem dk_dload_n3 {c : ByteArray} {p : Nat} {b0 : UInt8} (h0 : c.data.toList[p]? = some b0) (e : b0.toNat = 41) : (Decoder.instr p) c p = .ok (.dload_n 3, p + 1) := by
  have u0 := dk_u1 h0
  rw [e] at u0
  unfold Decoder.instr
  show Except.bind ((Reader.u1 : Decoder Nat) c p) _ = _
  rw [u0]
  rfl
theorem dk_dstore_n0 {c : ByteArray} {p : Nat} {b0 : UInt8} (h0 : c.data.toList[p]? = some b0) (e : b0.toNat = 71) : (Decoder.instr p) c p = .ok (.dstore_n 0, p + 1) := by
  have u0 := dk_u1 h0
  rw [e] at u0
  unfold Decoder.instr
  show Except.bind ((Reader.u1 : Decoder Nat) c p) _ = _
  rw [u0]
  rfl
theorem dk_dstore_n1 {c : ByteArray} {p : Nat} {b0 : UInt8} (h0 : c.data.toList[p]? = some b0) (e : b0.toNat = 72) : (Decoder.instr p) c p = .ok (.dstore_n 1, p + 1) := by
  have u0 := dk_u1 h0
  rw [e] at u0
  unfold Decoder.instr
  show Except.bind ((Reader.u1 : Decoder Nat) c p) _ = _
  rw [u0]
  rfl
theorem dk_dstore_n2 {c : ByteArray} {p : Nat} {b0 : UInt8} (h0 : c.data.toList[p]? = some b0) (e : b0.toNat = 73) : (Decoder.instr p) c p = .ok (.dstore_n 2, p + 1) := by
  have u0 := dk_u1 h0
  rw [e] at u0
  unfold Decoder.instr
  show Except.bind ((Reader.u1 : Decoder Nat) c p) _ = _
  rw [u0]
  rfl
theorem dk_dstore_n3 {c : ByteArray} {p : Nat} {b0 : UInt8} (h0 : c.data.toList[p]? = some b0) (e : b0.toNat = 74) : (Decoder.instr p) c p = .ok (.dstore_n 3, p + 1) := by
  have u0 := dk_u1 h0
  rw [e] at u0
  unfold Decoder.instr
  show Except.bind ((Reader.u1 : Decoder Nat) c p) _ = _
  rw [u0]
  rfl
theorem dk_iload_n0 {c : ByteArray} {p : Nat} {b0 : UInt8} (h0 : c.data.toList[p]? = some b0) (e : b0.toNat = 26) : (Decoder.instr p) c p = .ok (.iload_n 0, p + 1) := by
  have u0 := dk_u1 h0
  rw [e] at u0
  unfold Decoder.instr
  show Except.bind ((Reader.u1 : Decoder Nat) c p) _ = _
  rw [u0]
  rfl
theorem dk_iload_n1 {c : ByteArray} {p : Nat} {b0 : UInt8} (h0 : c.data.toList[p]? = some b0) (e : b0.toNat = 27) : (Decoder.instr p) c p = .ok (.iload_n 1, p + 1) := by
  have u0 := dk_u1 h0
  rw [e] at u0
  unfold Decoder.instr
  show Except.bind ((Reader.u1 : Decoder Nat) c p) _ = _
  rw [u0]
  rfl
theorem dk_iload_n2 {c : ByteArray} {p : Nat} {b0 : UInt8} (h0 : c.data.toList[p]? = some b0) (e : b0.toNat = 28) : (Decoder.instr p) c p = .ok (.iload_n 2, p + 1) := by
  have u0 := dk_u1 h0
  rw [e] at u0
  unfold Decoder.instr
  show Except.bind ((Reader.u1 : Decoder Nat) c p) _ = _
  rw [u0]
  rfl
theorem dk_iload_n3 {c : ByteArray} {p : Nat} {b0 : UInt8} (h0 : c.data.toList[p]? = some b0) (e : b0.toNat = 29) : (Decoder.instr p) c p = .ok (.iload_n 3, p + 1) := by
  have u0 := dk_u1 h0
  rw [e] at u0
  unfold Decoder.instr
  show Except.bind ((Reader.u1 : Decoder Nat) c p) _ = _
  rw [u0]
  rfl
theorem dk_istore_n0 {c : ByteArray} {p : Nat} {b0 : UInt8} (h0 : c.data.toList[p]? = some b0) (e : b0.toNat = 59) : (Decoder.instr p) c p = .ok (.istore_n 0, p + 1) := by
  have u0 := dk_u1 h0
  rw [e] at u0
  unfold Decoder.instr
  show Except.bind ((Reader.u1 : Decoder Nat) c p) _ = _
  rw [u0]
  rfl
theorem dk_istore_n1 {c : ByteArray} {p : Nat} {b0 : UInt8} (h0 : c.data.toList[p]? = some b0) (e : b0.toNat = 60) : (Decoder.instr p) c p = .ok (.istore_n 1, p + 1) := by
  have u0 := dk_u1 h0
  rw [e] at u0
  unfold Decoder.instr
  show Except.bind ((Reader.u1 : Decoder Nat) c p) _ = _
  rw [u0]
  rfl
theorem dk_istore_n2 {c : ByteArray} {p : Nat} {b0 : UInt8} (h0 : c.data.toList[p]? = some b0) (e : b0.toNat = 61) : (Decoder.instr p) c p = .ok (.istore_n 2, p + 1) := by
  have u0 := dk_u1 h0
  rw [e] at u0
  unfold Decoder.instr
  show Except.bind ((Reader.u1 : Decoder Nat) c p) _ = _
  rw [u0]
  rfl
theorem dk_istore_n3 {c : ByteArray} {p : Nat} {b0 : UInt8} (h0 : c.data.toList[p]? = some b0) (e : b0.toNat = 62) : (Decoder.instr p) c p = .ok (.istore_n 3, p + 1) := by
  have u0 := dk_u1 h0
  rw [e] at u0
  unfold Decoder.instr
  show Except.bind ((Reader.u1 : Decoder Nat) c p) _ = _
  rw [u0]
  rfl
theorem dk_lconst0 {c : ByteArray} {p : Nat} {b0 : UInt8} (h0 : c.data.toList[p]? = some b0) (e : b0.toNat = 9) : (Decoder.instr p) c p = .ok (.lconst 0, p + 1) := by
  have u0 := dk_u1 h0
  rw [e] at u0
  unfold Decoder.instr
  show Except.bind ((Reader.u1 : Decoder Nat) c p) _ = _
  rw [u0]
  rfl
theorem dk_lconst1 {c : ByteArray} {p : Nat} {b0 : UInt8} (h0 : c.data.toList[p]? = some b0) (e : b0.toNat = 10) : (Decoder.instr p) c p = .ok (.lconst 1, p + 1) := by
  have u0 := dk_u1 h0
  rw [e] at u0
  unfold Decoder.instr
  show Except.bind ((Reader.u1 : Decoder Nat) c p) _ = _
  rw [u0]
  rfl
theorem dk_lload_n0 {c : ByteArray} {p : Nat} {b0 : UInt8} (h0 : c.data.toList[p]? = some b0) (e : b0.toNat = 30) : (Decoder.instr p) c p = .ok (.lload_n 0, p + 1) := by
  have u0 := dk_u1 h0
  rw [e] at u0
  unfold Decoder.instr
  show Except.bind ((Reader.u1 : Decoder Nat) c p) _ = _
  rw [u0]
  rfl
theorem dk_lload_n1 {c : ByteArray} {p : Nat} {b0 : UInt8} (h0 : c.data.toList[p]? = some b0) (e : b0.toNat = 31) : (Decoder.instr p) c p = .ok (.lload_n 1, p + 1) := by
  have u0 := dk_u1 h0
  rw [e] at u0
  unfold Decoder.instr
  show Except.bind ((Reader.u1 : Decoder Nat) c p) _ = _
  rw [u0]
  rfl
theorem dk_lload_n2 {c : ByteArray} {p : Nat} {b0 : UInt8} (h0 : c.data.toList[p]? = some b0) (e : b0.toNat = 32) : (Decoder.instr p) c p = .ok (.lload_n 2, p + 1) := by
  have u0 := dk_u1 h0
  rw [e] at u0
  unfold Decoder.instr
  show Except.bind ((Reader.u1 : Decoder Nat) c p) _ = _
  rw [u0]
  rfl
theorem dk_lload_n3 {c : ByteArray} {p : Nat} {b0 : UInt8} (h0 : c.data.toList[p]? = some b0) (e : b0.toNat = 33) : (Decoder.instr p) c p = .ok (.lload_n 3, p + 1) := by
  have u0 := dk_u1 h0
  rw [e] at u0
  unfold Decoder.instr
  show Except.bind ((Reader.u1 : Decoder Nat) c p) _ = _
  rw [u0]
  rfl
theorem dk_aload {c : ByteArray} {p : Nat} {b0 b1 : UInt8} (h0 : c.data.toList[p]? = some b0) (h1 : c.data.toList[p + 1]? = some b1) (e : b0.toNat = 25) : (Decoder.instr p) c p = .ok (.aload b1.toNat, p + 2) := by
  have u0 := dk_u1 h0
  rw [e] at u0
  unfold Decoder.instr
  show Except.bind ((Reader.u1 : Decoder Nat) c p) _ = _
  rw [u0]
  show Except.bind ((Reader.u1 : Decoder Nat) c (p + 1)) _ = _
  rw [dk_u1 h1]
  rfl
theorem dk_astore {c : ByteArray} {p : Nat} {b0 b1 : UInt8} (h0 : c.data.toList[p]? = some b0) (h1 : c.data.toList[p + 1]? = some b1) (e : b0.toNat = 58) : (Decoder.instr p) c p = .ok (.astore b1.toNat, p + 2) := by
  have u0 := dk_u1 h0
  rw [e] at u0
  unfold Decoder.instr
  show Except.bind ((Reader.u1 : Decoder Nat) c p) _ = _
  rw [u0]
  show Except.bind ((Reader.u1 : Decoder Nat) c (p + 1)) _ = _
  rw [dk_u1 h1]
  rfl
theorem dk_dload {c : ByteArray} {p : Nat} {b0 b1 : UInt8} (h0 : c.data.toList[p]? = some b0) (h1 : c.data.toList[p + 1]? = some b1) (e : b0.toNat = 24) : (Decoder.instr p) c p = .ok (.dload b1.toNat, p + 2) := by
  have u0 := dk_u1 h0
  rw [e] at u0
  unfold Decoder.instr
  show Except.bind ((Reader.u1 : Decoder Nat) c p) _ = _
  rw [u0]
  show Except.bind ((Reader.u1 : Decoder Nat) c (p + 1)) _ = _
  rw [dk_u1 h1]
  rfl
theorem dk_dstore {c : ByteArray} {p : Nat} {b0 b1 : UInt8} (h0 : c.data.toList[p]? = some b0) (h1 : c.data.toList[p + 1]? = some b1) (e : b0.toNat = 57) : (Decoder.instr p) c p = .ok (.dstore b1.toNat, p + 2) := by
  have u0 := dk_u1 h0
  rw [e] at u0
  unfold Decoder.instr
  show Except.bind ((Reader.u1 : Decoder Nat) c p) _ = _
  rw [u0]
  show Except.bind ((Reader.u1 : Decoder Nat) c (p + 1)) _ = _
  rw [dk_u1 h1]
  rfl
theorem dk_iload {c : ByteArray} {p : Nat} {b0 b1 : UInt8} (h0 : c.data.toList[p]? = some b0) (h1 : c.data.toList[p + 1]? = some b1) (e : b0.toNat = 21) : (Decoder.instr p) c p = .ok (.iload b1.toNat, p + 2) := by
  have u0 := dk_u1 h0
  rw [e] at u0
  unfold Decoder.instr
  show Except.bind ((Reader.u1 : Decoder Nat) c p) _ = _
  rw [u0]
  show Except.bind ((Reader.u1 : Decoder Nat) c (p + 1)) _ = _
  rw [dk_u1 h1]
  rfl
theorem dk_istore {c : ByteArray} {p : Nat} {b0 b1 : UInt8} (h0 : c.data.toList[p]? = some b0) (h1 : c.data.toList[p + 1]? = some b1) (e : b0.toNat = 54) : (Decoder.instr p) c p = .ok (.istore b1.toNat, p + 2) := by
  have u0 := dk_u1 h0
  rw [e] at u0
  unfold Decoder.instr
  show Except.bind ((Reader.u1 : Decoder Nat) c p) _ = _
  rw [u0]
  show Except.bind ((Reader.u1 : Decoder Nat) c (p + 1)) _ = _
  rw [dk_u1 h1]
  rfl
theorem dk_ldc {c : ByteArray} {p : Nat} {b0 b1 : UInt8} (h0 : c.data.toList[p]? = some b0) (h1 : c.data.toList[p + 1]? = some b1) (e : b0.toNat = 18) : (Decoder.instr p) c p = .ok (.ldc b1.toNat, p + 2) := by
  have u0 := dk_u1 h0
  rw [e] at u0
  unfold Decoder.instr
  show Except.bind ((Reader.u1 : Decoder Nat) c p) _ = _
  rw [u0]
  show Except.bind ((Reader.u1 : Decoder Nat) c (p + 1)) _ = _
  rw [dk_u1 h1]
  rfl
theorem dk_lload {c : ByteArray} {p : Nat} {b0 b1 : UInt8} (h0 : c.data.toList[p]? = some b0) (h1 : c.data.toList[p + 1]? = some b1) (e : b0.toNat = 22) : (Decoder.instr p) c p = .ok (.lload b1.toNat, p + 2) := by
  have u0 := dk_u1 h0
  rw [e] at u0
  unfold Decoder.instr
  show Except.bind ((Reader.u1 : Decoder Nat) c p) _ = _
  rw [u0]
  show Except.bind ((Reader.u1 : Decoder Nat) c (p + 1)) _ = _
  rw [dk_u1 h1]
  rfl
theorem dk_lstore {c : ByteArray} {p : Nat} {b0 b1 : UInt8} (h0 : c.data.toList[p]? = some b0) (h1 : c.data.toList[p + 1]? = some b1) (e : b0.toNat = 55) : (Decoder.instr p) c p = .ok (.lstore b1.toNat, p + 2) := by
  have u0 := dk_u1 h0
  rw [e] at u0
  unfold Decoder.instr
  show Except.bind ((Reader.u1 : Decoder Nat) c p) _ = _
  rw [u0]
  show Except.bind ((Reader.u1 : Decoder Nat) c (p + 1)) _ = _
  rw [dk_u1 h1]
  rfl
theorem dk_bipush {c : ByteArray} {p : Nat} {b0 b1 : UInt8} (h0 : c.data.toList[p]? = some b0) (h1 : c.data.toList[p + 1]? = some b1) (e : b0.toNat = 16) : (Decoder.instr p) c p = .ok (.bipush (Reader.signed 8 b1.toNat), p + 2) := by
  have u0 := dk_u1 h0
  rw [e] at u0
  unfold Decoder.instr
  show Except.bind ((Reader.u1 : Decoder Nat) c p) _ = _
  rw [u0]
  show Except.bind ((Reader.s1 : Decoder Int) c (p + 1)) _ = _
  rw [dk_s1 h1]
  rfl
theorem dk_anewarray {c : ByteArray} {p : Nat} {b0 b1 b2 : UInt8} (h0 : c.data.toList[p]? = some b0) (h1 : c.data.toList[p + 1]? = some b1) (h2 : c.data.toList[p + 2]? = some b2) (e : b0.toNat = 189) : (Decoder.instr p) c p = .ok (.anewarray (b1.toNat * 256 + b2.toNat), p + 3) := by
  have u0 := dk_u1 h0
  rw [e] at u0
  unfold Decoder.instr
  show Except.bind ((Reader.u1 : Decoder Nat) c p) _ = _
  rw [u0]
  show Except.bind ((Reader.u2 : Decoder Nat) c (p + 1)) _ = _
  rw [dk_u2 h1 h2]
  rfl
theorem dk_checkcast {c : ByteArray} {p : Nat} {b0 b1 b2 : UInt8} (h0 : c.data.toList[p]? = some b0) (h1 : c.data.toList[p + 1]? = some b1) (h2 : c.data.toList[p + 2]? = some b2) (e : b0.toNat = 192) : (Decoder.instr p) c p = .ok (.checkcast (b1.toNat * 256 + b2.toNat), p + 3) := by
  have u0 := dk_u1 h0
  rw [e] at u0
  unfold Decoder.instr
  show Except.bind ((Reader.u1 : Decoder Nat) c p) _ = _
  rw [u0]
  show Except.bind ((Reader.u2 : Decoder Nat) c (p + 1)) _ = _
  rw [dk_u2 h1 h2]
  rfl
theorem dk_getfield {c : ByteArray} {p : Nat} {b0 b1 b2 : UInt8} (h0 : c.data.toList[p]? = some b0) (h1 : c.data.toList[p + 1]? = some b1) (h2 : c.data.toList[p + 2]? = some b2) (e : b0.toNat = 180) : (Decoder.instr p) c p = .ok (.getfield (b1.toNat * 256 + b2.toNat), p + 3) := by
  have u0 := dk_u1 h0
  rw [e] at u0
  unfold Decoder.instr
  show Except.bind ((Reader.u1 : Decoder Nat) c p) _ = _
  rw [u0]
  show Except.bind ((Reader.u2 : Decoder Nat) c (p + 1)) _ = _
  rw [dk_u2 h1 h2]
  rfl
theorem dk_getstatic {c : ByteArray} {p : Nat} {b0 b1 b2 : UInt8} (h0 : c.data.toList[p]? = some b0) (h1 : c.data.toList[p + 1]? = some b1) (h2 : c.data.toList[p + 2]? = some b2) (e : b0.toNat = 178) : (Decoder.instr p) c p = .ok (.getstatic (b1.toNat * 256 + b2.toNat), p + 3) := by
  have u0 := dk_u1 h0
  rw [e] at u0
  unfold Decoder.instr
  show Except.bind ((Reader.u1 : Decoder Nat) c p) _ = _
  rw [u0]
  show Except.bind ((Reader.u2 : Decoder Nat) c (p + 1)) _ = _
  rw [dk_u2 h1 h2]
  rfl
theorem dk_invokespecial {c : ByteArray} {p : Nat} {b0 b1 b2 : UInt8} (h0 : c.data.toList[p]? = some b0) (h1 : c.data.toList[p + 1]? = some b1) (h2 : c.data.toList[p + 2]? = some b2) (e : b0.toNat = 183) : (Decoder.instr p) c p = .ok (.invokespecial (b1.toNat * 256 + b2.toNat), p + 3) := by
  have u0 := dk_u1 h0
  rw [e] at u0
  unfold Decoder.instr
  show Except.bind ((Reader.u1 : Decoder Nat) c p) _ = _
  rw [u0]
  show Except.bind ((Reader.u2 : Decoder Nat) c (p + 1)) _ = _
  rw [dk_u2 h1 h2]
  rfl
theorem dk_invokestatic {c : ByteArray} {p : Nat} {b0 b1 b2 : UInt8} (h0 : c.data.toList[p]? = some b0) (h1 : c.data.toList[p + 1]? = some b1) (h2 : c.data.toList[p + 2]? = some b2) (e : b0.toNat = 184) : (Decoder.instr p) c p = .ok (.invokestatic (b1.toNat * 256 + b2.toNat), p + 3) := by
  have u0 := dk_u1 h0
  rw [e] at u0
  unfold Decoder.instr
  show Except.bind ((Reader.u1 : Decoder Nat) c p) _ = _
  rw [u0]
  show Except.bind ((Reader.u2 : Decoder Nat) c (p + 1)) _ = _
  rw [dk_u2 h1 h2]
  rfl
theorem dk_invokevirtual {c : ByteArray} {p : Nat} {b0 b1 b2 : UInt8} (h0 : c.data.toList[p]? = some b0) (h1 : c.data.toList[p + 1]? = some b1) (h2 : c.data.toList[p + 2]? = some b2) (e : b0.toNat = 182) : (Decoder.instr p) c p = .ok (.invokevirtual (b1.toNat * 256 + b2.toNat), p + 3) := by
  have u0 := dk_u1 h0
  rw [e] at u0
  unfold Decoder.instr
  show Except.bind ((Reader.u1 : Decoder Nat) c p) _ = _
  rw [u0]
  show Except.bind ((Reader.u2 : Decoder Nat) c (p + 1)) _ = _
  rw [dk_u2 h1 h2]
  rfl
theorem dk_ldc2_w {c : ByteArray} {p : Nat} {b0 b1 b2 : UInt8} (h0 : c.data.toList[p]? = some b0) (h1 : c.data.toList[p + 1]? = some b1) (h2 : c.data.toList[p + 2]? = some b2) (e : b0.toNat = 20) : (Decoder.instr p) c p = .ok (.ldc2_w (b1.toNat * 256 + b2.toNat), p + 3) := by
  have u0 := dk_u1 h0
  rw [e] at u0
  unfold Decoder.instr
  show Except.bind ((Reader.u1 : Decoder Nat) c p) _ = _
  rw [u0]
  show Except.bind ((Reader.u2 : Decoder Nat) c (p + 1)) _ = _
  rw [dk_u2 h1 h2]
  rfl
theorem dk_ldc_w {c : ByteArray} {p : Nat} {b0 b1 b2 : UInt8} (h0 : c.data.toList[p]? = some b0) (h1 : c.data.toList[p + 1]? = some b1) (h2 : c.data.toList[p + 2]? = some b2) (e : b0.toNat = 19) : (Decoder.instr p) c p = .ok (.ldc_w (b1.toNat * 256 + b2.toNat), p + 3) := by
  have u0 := dk_u1 h0
  rw [e] at u0
  unfold Decoder.instr
  show Except.bind ((Reader.u1 : Decoder Nat) c p) _ = _
  rw [u0]
  show Except.bind ((Reader.u2 : Decoder Nat) c (p + 1)) _ = _
  rw [dk_u2 h1 h2]
  rfl
theorem dk_new {c : ByteArray} {p : Nat} {b0 b1 b2 : UInt8} (h0 : c.data.toList[p]? = some b0) (h1 : c.data.toList[p + 1]? = some b1) (h2 : c.data.toList[p + 2]? = some b2) (e : b0.toNat = 187) : (Decoder.instr p) c p = .ok (.new (b1.toNat * 256 + b2.toNat), p + 3) := by
  have u0 := dk_u1 h0
  rw [e] at u0
  unfold Decoder.instr
  show Except.bind ((Reader.u1 : Decoder Nat) c p) _ = _
  rw [u0]
  show Except.bind ((Reader.u2 : Decoder Nat) c (p + 1)) _ = _
  rw [dk_u2 h1 h2]
  rfl
theorem dk_putfield {c : ByteArray} {p : Nat} {b0 b1 b2 : UInt8} (h0 : c.data.toList[p]? = some b0) (h1 : c.data.toList[p + 1]? = some b1) (h2 : c.data.toList[p + 2]? = some b2) (e : b0.toNat = 181) : (Decoder.instr p) c p = .ok (.putfield (b1.toNat * 256 + b2.toNat), p + 3) := by
  have u0 := dk_u1 h0
  rw [e] at u0
  unfold Decoder.instr
  show Except.bind ((Reader.u1 : Decoder Nat) c p) _ = _
  rw [u0]
  show Except.bind ((Reader.u2 : Decoder Nat) c (p + 1)) _ = _
  rw [dk_u2 h1 h2]
  rfl
theorem dk_goto {c : ByteArray} {p : Nat} {b0 b1 b2 : UInt8} (h0 : c.data.toList[p]? = some b0) (h1 : c.data.toList[p + 1]? = some b1) (h2 : c.data.toList[p + 2]? = some b2) (e : b0.toNat = 167) : (Decoder.instr p) c p = .ok (.goto (Reader.signed 16 (b1.toNat * 256 + b2.toNat)), p + 3) := by
  have u0 := dk_u1 h0
  rw [e] at u0
  unfold Decoder.instr
  show Except.bind ((Reader.u1 : Decoder Nat) c p) _ = _
  rw [u0]
  show Except.bind ((Reader.s2 : Decoder Int) c (p + 1)) _ = _
  rw [dk_s2 h1 h2]
  rfl
theorem dk_ifnonnull {c : ByteArray} {p : Nat} {b0 b1 b2 : UInt8} (h0 : c.data.toList[p]? = some b0) (h1 : c.data.toList[p + 1]? = some b1) (h2 : c.data.toList[p + 2]? = some b2) (e : b0.toNat = 199) : (Decoder.instr p) c p = .ok (.ifnonnull (Reader.signed 16 (b1.toNat * 256 + b2.toNat)), p + 3) := by
  have u0 := dk_u1 h0
  rw [e] at u0
  unfold Decoder.instr
  show Except.bind ((Reader.u1 : Decoder Nat) c p) _ = _
  rw [u0]
  show Except.bind ((Reader.s2 : Decoder Int) c (p + 1)) _ = _
  rw [dk_s2 h1 h2]
  rfl
theorem dk_ifnull {c : ByteArray} {p : Nat} {b0 b1 b2 : UInt8} (h0 : c.data.toList[p]? = some b0) (h1 : c.data.toList[p + 1]? = some b1) (h2 : c.data.toList[p + 2]? = some b2) (e : b0.toNat = 198) : (Decoder.instr p) c p = .ok (.ifnull (Reader.signed 16 (b1.toNat * 256 + b2.toNat)), p + 3) := by
  have u0 := dk_u1 h0
  rw [e] at u0
  unfold Decoder.instr
  show Except.bind ((Reader.u1 : Decoder Nat) c p) _ = _
  rw [u0]
  show Except.bind ((Reader.s2 : Decoder Int) c (p + 1)) _ = _
  rw [dk_s2 h1 h2]
  rfl
theorem dk_sipush {c : ByteArray} {p : Nat} {b0 b1 b2 : UInt8} (h0 : c.data.toList[p]? = some b0) (h1 : c.data.toList[p + 1]? = some b1) (h2 : c.data.toList[p + 2]? = some b2) (e : b0.toNat = 17) : (Decoder.instr p) c p = .ok (.sipush (Reader.signed 16 (b1.toNat * 256 + b2.toNat)), p + 3) := by
  have u0 := dk_u1 h0
  rw [e] at u0
  unfold Decoder.instr
  show Except.bind ((Reader.u1 : Decoder Nat) c p) _ = _
  rw [u0]
  show Except.bind ((Reader.s2 : Decoder Int) c (p + 1)) _ = _
  rw [dk_s2 h1 h2]
  rfl
theorem dk_iconst0 {c : ByteArray} {p : Nat} {b0 : UInt8} (h0 : c.data.toList[p]? = some b0) (e : b0.toNat = 2) : (Decoder.instr p) c p = .ok (.iconst (-1), p + 1) := by
  have u0 := dk_u1 h0
  rw [e] at u0
  unfold Decoder.instr
  show Except.bind ((Reader.u1 : Decoder Nat) c p) _ = _
  rw [u0]
  rfl
theorem dk_iconst1 {c : ByteArray} {p : Nat} {b0 : UInt8} (h0 : c.data.toList[p]? = some b0) (e : b0.toNat = 3) : (Decoder.instr p) c p = .ok (.iconst (0), p + 1) := by
  have u0 := dk_u1 h0
  rw [e] at u0
  unfold Decoder.instr
  show Except.bind ((Reader.u1 : Decoder Nat) c p) _ = _
  rw [u0]
  rfl
theorem dk_iconst2 {c : ByteArray} {p : Nat} {b0 : UInt8} (h0 : c.data.toList[p]? = some b0) (e : b0.toNat = 4) : (Decoder.instr p) c p = .ok (.iconst (1), p + 1) := by
  have u0 := dk_u1 h0
  rw [e] at u0
  unfold Decoder.instr
  show Except.bind ((Reader.u1 : Decoder Nat) c p) _ = _
  rw [u0]
  rfl
theorem dk_iconst3 {c : ByteArray} {p : Nat} {b0 : UInt8} (h0 : c.data.toList[p]? = some b0) (e : b0.toNat = 5) : (Decoder.instr p) c p = .ok (.iconst (2), p + 1) := by
  have u0 := dk_u1 h0
  rw [e] at u0
  unfold Decoder.instr
  show Except.bind ((Reader.u1 : Decoder Nat) c p) _ = _
  rw [u0]
  rfl
theorem dk_iconst4 {c : ByteArray} {p : Nat} {b0 : UInt8} (h0 : c.data.toList[p]? = some b0) (e : b0.toNat = 6) : (Decoder.instr p) c p = .ok (.iconst (3), p + 1) := by
  have u0 := dk_u1 h0
  rw [e] at u0
  unfold Decoder.instr
  show Except.bind ((Reader.u1 : Decoder Nat) c p) _ = _
  rw [u0]
  rfl
theorem dk_iconst5 {c : ByteArray} {p : Nat} {b0 : UInt8} (h0 : c.data.toList[p]? = some b0) (e : b0.toNat = 7) : (Decoder.instr p) c p = .ok (.iconst (4), p + 1) := by
  have u0 := dk_u1 h0
  rw [e] at u0
  unfold Decoder.instr
  show Except.bind ((Reader.u1 : Decoder Nat) c p) _ = _
  rw [u0]
  rfl
theorem dk_iconst6 {c : ByteArray} {p : Nat} {b0 : UInt8} (h0 : c.data.toList[p]? = some b0) (e : b0.toNat = 8) : (Decoder.instr p) c p = .ok (.iconst (5), p + 1) := by
  have u0 := dk_u1 h0
  rw [e] at u0
  unfold Decoder.instr
  show Except.bind ((Reader.u1 : Decoder Nat) c p) _ = _
  rw [u0]
  rfl
theorem dk_iinc {c : ByteArray} {p : Nat} {b0 b1 b2 : UInt8} (h0 : c.data.toList[p]? = some b0) (h1 : c.data.toList[p + 1]? = some b1) (h2 : c.data.toList[p + 2]? = some b2) (e : b0.toNat = 132) : (Decoder.instr p) c p = .ok (.iinc b1.toNat (Reader.signed 8 b2.toNat), p + 3) := by
  have u0 := dk_u1 h0
  rw [e] at u0
  unfold Decoder.instr
  show Except.bind ((Reader.u1 : Decoder Nat) c p) _ = _
  rw [u0]
  show Except.bind ((Reader.u1 : Decoder Nat) c (p + 1)) _ = _
  rw [dk_u1 h1]
  show Except.bind ((Reader.s1 : Decoder Int) c (p + 2)) _ = _
  rw [dk_s1 h2]
  rfl
theorem dk_ifCond_eq {c : ByteArray} {p : Nat} {b0 b1 b2 : UInt8} (h0 : c.data.toList[p]? = some b0) (h1 : c.data.toList[p + 1]? = some b1) (h2 : c.data.toList[p + 2]? = some b2) (e : b0.toNat = 153) : (Decoder.instr p) c p = .ok (.ifCond .eq (Reader.signed 16 (b1.toNat * 256 + b2.toNat)), p + 3) := by
  have u0 := dk_u1 h0
  rw [e] at u0
  unfold Decoder.instr
  show Except.bind ((Reader.u1 : Decoder Nat) c p) _ = _
  rw [u0]
  show Except.bind ((Reader.s2 : Decoder Int) c (p + 1)) _ = _
  rw [dk_s2 h1 h2]
  rfl
theorem dk_ifCond_ne {c : ByteArray} {p : Nat} {b0 b1 b2 : UInt8} (h0 : c.data.toList[p]? = some b0) (h1 : c.data.toList[p + 1]? = some b1) (h2 : c.data.toList[p + 2]? = some b2) (e : b0.toNat = 154) : (Decoder.instr p) c p = .ok (.ifCond .ne (Reader.signed 16 (b1.toNat * 256 + b2.toNat)), p + 3) := by
  have u0 := dk_u1 h0
  rw [e] at u0
  unfold Decoder.instr
  show Except.bind ((Reader.u1 : Decoder Nat) c p) _ = _
  rw [u0]
  show Except.bind ((Reader.s2 : Decoder Int) c (p + 1)) _ = _
  rw [dk_s2 h1 h2]
  rfl
theorem dk_ifCond_lt {c : ByteArray} {p : Nat} {b0 b1 b2 : UInt8} (h0 : c.data.toList[p]? = some b0) (h1 : c.data.toList[p + 1]? = some b1) (h2 : c.data.toList[p + 2]? = some b2) (e : b0.toNat = 155) : (Decoder.instr p) c p = .ok (.ifCond .lt (Reader.signed 16 (b1.toNat * 256 + b2.toNat)), p + 3) := by
  have u0 := dk_u1 h0
  rw [e] at u0
  unfold Decoder.instr
  show Except.bind ((Reader.u1 : Decoder Nat) c p) _ = _
  rw [u0]
  show Except.bind ((Reader.s2 : Decoder Int) c (p + 1)) _ = _
  rw [dk_s2 h1 h2]
  rfl
theorem dk_ifCond_ge {c : ByteArray} {p : Nat} {b0 b1 b2 : UInt8} (h0 : c.data.toList[p]? = some b0) (h1 : c.data.toList[p + 1]? = some b1) (h2 : c.data.toList[p + 2]? = some b2) (e : b0.toNat = 156) : (Decoder.instr p) c p = .ok (.ifCond .ge (Reader.signed 16 (b1.toNat * 256 + b2.toNat)), p + 3) := by
  have u0 := dk_u1 h0
  rw [e] at u0
  unfold Decoder.instr
  show Except.bind ((Reader.u1 : Decoder Nat) c p) _ = _
  rw [u0]
  show Except.bind ((Reader.s2 : Decoder Int) c (p + 1)) _ = _
  rw [dk_s2 h1 h2]
  rfl
theorem dk_ifCond_gt {c : ByteArray} {p : Nat} {b0 b1 b2 : UInt8} (h0 : c.data.toList[p]? = some b0) (h1 : c.data.toList[p + 1]? = some b1) (h2 : c.data.toList[p + 2]? = some b2) (e : b0.toNat = 157) : (Decoder.instr p) c p = .ok (.ifCond .gt (Reader.signed 16 (b1.toNat * 256 + b2.toNat)), p + 3) := by
  have u0 := dk_u1 h0
  rw [e] at u0
  unfold Decoder.instr
  show Except.bind ((Reader.u1 : Decoder Nat) c p) _ = _
  rw [u0]
  show Except.bind ((Reader.s2 : Decoder Int) c (p + 1)) _ = _
  rw [dk_s2 h1 h2]
  rfl
theorem dk_ifCond_le {c : ByteArray} {p : Nat} {b0 b1 b2 : UInt8} (h0 : c.data.toList[p]? = some b0) (h1 : c.data.toList[p + 1]? = some b1) (h2 : c.data.toList[p + 2]? = some b2) (e : b0.toNat = 158) : (Decoder.instr p) c p = .ok (.ifCond .le (Reader.signed 16 (b1.toNat * 256 + b2.toNat)), p + 3) := by
  have u0 := dk_u1 h0
  rw [e] at u0
  unfold Decoder.instr
  show Except.bind ((Reader.u1 : Decoder Nat) c p) _ = _
  rw [u0]
  show Except.bind ((Reader.s2 : Decoder Int) c (p + 1)) _ = _
  rw [dk_s2 h1 h2]
  rfl
theorem dk_if_icmp_eq {c : ByteArray} {p : Nat} {b0 b1 b2 : UInt8} (h0 : c.data.toList[p]? = some b0) (h1 : c.data.toList[p + 1]? = some b1) (h2 : c.data.toList[p + 2]? = some b2) (e : b0.toNat = 159) : (Decoder.instr p) c p = .ok (.if_icmp .eq (Reader.signed 16 (b1.toNat * 256 + b2.toNat)), p + 3) := by
  have u0 := dk_u1 h0
  rw [e] at u0
  unfold Decoder.instr
  show Except.bind ((Reader.u1 : Decoder Nat) c p) _ = _
  rw [u0]
  show Except.bind ((Reader.s2 : Decoder Int) c (p + 1)) _ = _
  rw [dk_s2 h1 h2]
  rfl
theorem dk_if_icmp_ne {c : ByteArray} {p : Nat} {b0 b1 b2 : UInt8} (h0 : c.data.toList[p]? = some b0) (h1 : c.data.toList[p + 1]? = some b1) (h2 : c.data.toList[p + 2]? = some b2) (e : b0.toNat = 160) : (Decoder.instr p) c p = .ok (.if_icmp .ne (Reader.signed 16 (b1.toNat * 256 + b2.toNat)), p + 3) := by
  have u0 := dk_u1 h0
  rw [e] at u0
  unfold Decoder.instr
  show Except.bind ((Reader.u1 : Decoder Nat) c p) _ = _
  rw [u0]
  show Except.bind ((Reader.s2 : Decoder Int) c (p + 1)) _ = _
  rw [dk_s2 h1 h2]
  rfl
theorem dk_if_icmp_lt {c : ByteArray} {p : Nat} {b0 b1 b2 : UInt8} (h0 : c.data.toList[p]? = some b0) (h1 : c.data.toList[p + 1]? = some b1) (h2 : c.data.toList[p + 2]? = some b2) (e : b0.toNat = 161) : (Decoder.instr p) c p = .ok (.if_icmp .lt (Reader.signed 16 (b1.toNat * 256 + b2.toNat)), p + 3) := by
  have u0 := dk_u1 h0
  rw [e] at u0
  unfold Decoder.instr
  show Except.bind ((Reader.u1 : Decoder Nat) c p) _ = _
  rw [u0]
  show Except.bind ((Reader.s2 : Decoder Int) c (p + 1)) _ = _
  rw [dk_s2 h1 h2]
  rfl
theorem dk_if_icmp_ge {c : ByteArray} {p : Nat} {b0 b1 b2 : UInt8} (h0 : c.data.toList[p]? = some b0) (h1 : c.data.toList[p + 1]? = some b1) (h2 : c.data.toList[p + 2]? = some b2) (e : b0.toNat = 162) : (Decoder.instr p) c p = .ok (.if_icmp .ge (Reader.signed 16 (b1.toNat * 256 + b2.toNat)), p + 3) := by
  have u0 := dk_u1 h0
  rw [e] at u0
  unfold Decoder.instr
  show Except.bind ((Reader.u1 : Decoder Nat) c p) _ = _
  rw [u0]
  show Except.bind ((Reader.s2 : Decoder Int) c (p + 1)) _ = _
  rw [dk_s2 h1 h2]
  rfl
theorem dk_if_icmp_gt {c : ByteArray} {p : Nat} {b0 b1 b2 : UInt8} (h0 : c.data.toList[p]? = some b0) (h1 : c.data.toList[p + 1]? = some b1) (h2 : c.data.toList[p + 2]? = some b2) (e : b0.toNat = 163) : (Decoder.instr p) c p = .ok (.if_icmp .gt (Reader.signed 16 (b1.toNat * 256 + b2.toNat)), p + 3) := by
  have u0 := dk_u1 h0
  rw [e] at u0
  unfold Decoder.instr
  show Except.bind ((Reader.u1 : Decoder Nat) c p) _ = _
  rw [u0]
  show Except.bind ((Reader.s2 : Decoder Int) c (p + 1)) _ = _
  rw [dk_s2 h1 h2]
  rfl
theorem dk_if_icmp_le {c : ByteArray} {p : Nat} {b0 b1 b2 : UInt8} (h0 : c.data.toList[p]? = some b0) (h1 : c.data.toList[p + 1]? = some b1) (h2 : c.data.toList[p + 2]? = some b2) (e : b0.toNat = 164) : (Decoder.instr p) c p = .ok (.if_icmp .le (Reader.signed 16 (b1.toNat * 256 + b2.toNat)), p + 3) := by
  have u0 := dk_u1 h0
  rw [e] at u0
  unfold Decoder.instr
  show Except.bind ((Reader.u1 : Decoder Nat) c p) _ = _
  rw [u0]
  show Except.bind ((Reader.s2 : Decoder Int) c (p + 1)) _ = _
  rw [dk_s2 h1 h2]
  rfl
theorem dk_if_acmp_eq {c : ByteArray} {p : Nat} {b0 b1 b2 : UInt8} (h0 : c.data.toList[p]? = some b0) (h1 : c.data.toList[p + 1]? = some b1) (h2 : c.data.toList[p + 2]? = some b2) (e : b0.toNat = 165) : (Decoder.instr p) c p = .ok (.if_acmp .eq (Reader.signed 16 (b1.toNat * 256 + b2.toNat)), p + 3) := by
  have u0 := dk_u1 h0
  rw [e] at u0
  unfold Decoder.instr
  show Except.bind ((Reader.u1 : Decoder Nat) c p) _ = _
  rw [u0]
  show Except.bind ((Reader.s2 : Decoder Int) c (p + 1)) _ = _
  rw [dk_s2 h1 h2]
  rfl
theorem dk_if_acmp_ne {c : ByteArray} {p : Nat} {b0 b1 b2 : UInt8} (h0 : c.data.toList[p]? = some b0) (h1 : c.data.toList[p + 1]? = some b1) (h2 : c.data.toList[p + 2]? = some b2) (e : b0.toNat = 166) : (Decoder.instr p) c p = .ok (.if_acmp .ne (Reader.signed 16 (b1.toNat * 256 + b2.toNat)), p + 3) := by
  have u0 := dk_u1 h0
  rw [e] at u0
  unfold Decoder.instr
  show Except.bind ((Reader.u1 : Decoder Nat) c p) _ = _
  rw [u0]
  show Except.bind ((Reader.s2 : Decoder Int) c (p + 1)) _ = _
  rw [dk_s2 h1 h2]
  rfl
theorem dk_dcmp_l {c : ByteArray} {p : Nat} {b0 : UInt8} (h0 : c.data.toList[p]? = some b0) (e : b0.toNat = 151) : (Decoder.instr p) c p = .ok (.dcmp .l, p + 1) := by
  have u0 := dk_u1 h0
  rw [e] at u0
  unfold Decoder.instr
  show Except.bind ((Reader.u1 : Decoder Nat) c p) _ = _
  rw [u0]
  rfl
theorem dk_dcmp_g {c : ByteArray} {p : Nat} {b0 : UInt8} (h0 : c.data.toList[p]? = some b0) (e : b0.toNat = 152) : (Decoder.instr p) c p = .ok (.dcmp .g, p + 1) := by
  have u0 := dk_u1 h0
  rw [e] at u0
  unfold Decoder.instr
  show Except.bind ((Reader.u1 : Decoder Nat) c p) _ = _
  rw [u0]
  rfl
def ck (i : Instr) (n : Nat) (l : List UInt8) : Bool := match i, l with
  | .aaload, b0 :: _ => b0.toNat == 50 && n == 1
  | .aastore, b0 :: _ => b0.toNat == 83 && n == 1
  | .aconst_null, b0 :: _ => b0.toNat == 1 && n == 1
  | .areturn, b0 :: _ => b0.toNat == 176 && n == 1
  | .arraylength, b0 :: _ => b0.toNat == 190 && n == 1
  | .athrow, b0 :: _ => b0.toNat == 191 && n == 1
  | .baload, b0 :: _ => b0.toNat == 51 && n == 1
  | .bastore, b0 :: _ => b0.toNat == 84 && n == 1
  | .d2i, b0 :: _ => b0.toNat == 142 && n == 1
  | .dadd, b0 :: _ => b0.toNat == 99 && n == 1
  | .daload, b0 :: _ => b0.toNat == 49 && n == 1
  | .dastore, b0 :: _ => b0.toNat == 82 && n == 1
  | .ddiv, b0 :: _ => b0.toNat == 111 && n == 1
  | .dmul, b0 :: _ => b0.toNat == 107 && n == 1
  | .dreturn, b0 :: _ => b0.toNat == 175 && n == 1
  | .dsub, b0 :: _ => b0.toNat == 103 && n == 1
  | .dup, b0 :: _ => b0.toNat == 89 && n == 1
  | .dup2, b0 :: _ => b0.toNat == 92 && n == 1
  | .dup_x1, b0 :: _ => b0.toNat == 90 && n == 1
  | .i2b, b0 :: _ => b0.toNat == 145 && n == 1
  | .i2c, b0 :: _ => b0.toNat == 146 && n == 1
  | .i2d, b0 :: _ => b0.toNat == 135 && n == 1
  | .i2l, b0 :: _ => b0.toNat == 133 && n == 1
  | .iadd, b0 :: _ => b0.toNat == 96 && n == 1
  | .iaload, b0 :: _ => b0.toNat == 46 && n == 1
  | .iand, b0 :: _ => b0.toNat == 126 && n == 1
  | .iastore, b0 :: _ => b0.toNat == 79 && n == 1
  | .idiv, b0 :: _ => b0.toNat == 108 && n == 1
  | .imul, b0 :: _ => b0.toNat == 104 && n == 1
  | .ineg, b0 :: _ => b0.toNat == 116 && n == 1
  | .ior, b0 :: _ => b0.toNat == 128 && n == 1
  | .irem, b0 :: _ => b0.toNat == 112 && n == 1
  | .ireturn, b0 :: _ => b0.toNat == 172 && n == 1
  | .ishl, b0 :: _ => b0.toNat == 120 && n == 1
  | .ishr, b0 :: _ => b0.toNat == 122 && n == 1
  | .isub, b0 :: _ => b0.toNat == 100 && n == 1
  | .iushr, b0 :: _ => b0.toNat == 124 && n == 1
  | .ixor, b0 :: _ => b0.toNat == 130 && n == 1
  | .ladd, b0 :: _ => b0.toNat == 97 && n == 1
  | .laload, b0 :: _ => b0.toNat == 47 && n == 1
  | .lastore, b0 :: _ => b0.toNat == 80 && n == 1
  | .lcmp, b0 :: _ => b0.toNat == 148 && n == 1
  | .lreturn, b0 :: _ => b0.toNat == 173 && n == 1
  | .pop, b0 :: _ => b0.toNat == 87 && n == 1
  | .return_, b0 :: _ => b0.toNat == 177 && n == 1
  | .aload_n k, b0 :: _ => b0.toNat == 42 + k.val && n == 1
  | .astore_n k, b0 :: _ => b0.toNat == 75 + k.val && n == 1
  | .dconst k, b0 :: _ => b0.toNat == 14 + k.val && n == 1
  | .dload_n k, b0 :: _ => b0.toNat == 38 + k.val && n == 1
  | .dstore_n k, b0 :: _ => b0.toNat == 71 + k.val && n == 1
  | .iload_n k, b0 :: _ => b0.toNat == 26 + k.val && n == 1
  | .istore_n k, b0 :: _ => b0.toNat == 59 + k.val && n == 1
  | .lconst k, b0 :: _ => b0.toNat == 9 + k.val && n == 1
  | .lload_n k, b0 :: _ => b0.toNat == 30 + k.val && n == 1
  | .aload k, b0 :: b1 :: _ => b0.toNat == 25 && b1.toNat == k && n == 2
  | .astore k, b0 :: b1 :: _ => b0.toNat == 58 && b1.toNat == k && n == 2
  | .dload k, b0 :: b1 :: _ => b0.toNat == 24 && b1.toNat == k && n == 2
  | .dstore k, b0 :: b1 :: _ => b0.toNat == 57 && b1.toNat == k && n == 2
  | .iload k, b0 :: b1 :: _ => b0.toNat == 21 && b1.toNat == k && n == 2
  | .istore k, b0 :: b1 :: _ => b0.toNat == 54 && b1.toNat == k && n == 2
  | .ldc k, b0 :: b1 :: _ => b0.toNat == 18 && b1.toNat == k && n == 2
  | .lload k, b0 :: b1 :: _ => b0.toNat == 22 && b1.toNat == k && n == 2
  | .lstore k, b0 :: b1 :: _ => b0.toNat == 55 && b1.toNat == k && n == 2
  | .bipush k, b0 :: b1 :: _ => b0.toNat == 16 && Reader.signed 8 b1.toNat == k && n == 2
  | .anewarray k, b0 :: b1 :: b2 :: _ => b0.toNat == 189 && b1.toNat * 256 + b2.toNat == k && n == 3
  | .checkcast k, b0 :: b1 :: b2 :: _ => b0.toNat == 192 && b1.toNat * 256 + b2.toNat == k && n == 3
  | .getfield k, b0 :: b1 :: b2 :: _ => b0.toNat == 180 && b1.toNat * 256 + b2.toNat == k && n == 3
  | .getstatic k, b0 :: b1 :: b2 :: _ => b0.toNat == 178 && b1.toNat * 256 + b2.toNat == k && n == 3
  | .invokespecial k, b0 :: b1 :: b2 :: _ => b0.toNat == 183 && b1.toNat * 256 + b2.toNat == k && n == 3
  | .invokestatic k, b0 :: b1 :: b2 :: _ => b0.toNat == 184 && b1.toNat * 256 + b2.toNat == k && n == 3
  | .invokevirtual k, b0 :: b1 :: b2 :: _ => b0.toNat == 182 && b1.toNat * 256 + b2.toNat == k && n == 3
  | .ldc2_w k, b0 :: b1 :: b2 :: _ => b0.toNat == 20 && b1.toNat * 256 + b2.toNat == k && n == 3
  | .ldc_w k, b0 :: b1 :: b2 :: _ => b0.toNat == 19 && b1.toNat * 256 + b2.toNat == k && n == 3
  | .new k, b0 :: b1 :: b2 :: _ => b0.toNat == 187 && b1.toNat * 256 + b2.toNat == k && n == 3
  | .putfield k, b0 :: b1 :: b2 :: _ => b0.toNat == 181 && b1.toNat * 256 + b2.toNat == k && n == 3
  | .goto k, b0 :: b1 :: b2 :: _ => b0.toNat == 167 && Reader.signed 16 (b1.toNat * 256 + b2.toNat) == k && n == 3
  | .ifnonnull k, b0 :: b1 :: b2 :: _ => b0.toNat == 199 && Reader.signed 16 (b1.toNat * 256 + b2.toNat) == k && n == 3
  | .ifnull k, b0 :: b1 :: b2 :: _ => b0.toNat == 198 && Reader.signed 16 (b1.toNat * 256 + b2.toNat) == k && n == 3
  | .sipush k, b0 :: b1 :: b2 :: _ => b0.toNat == 17 && Reader.signed 16 (b1.toNat * 256 + b2.toNat) == k && n == 3
  | .iconst k, b0 :: _ => (2 ≤ b0.toNat && b0.toNat ≤ 8) && (b0.toNat : Int) - 3 == k && n == 1
  | .iinc k z, b0 :: b1 :: b2 :: _ => b0.toNat == 132 && b1.toNat == k && Reader.signed 8 b2.toNat == z && n == 3
  | .ifCond .eq k, b0 :: b1 :: b2 :: _ => b0.toNat == 153 && Reader.signed 16 (b1.toNat * 256 + b2.toNat) == k && n == 3
  | .ifCond .ne k, b0 :: b1 :: b2 :: _ => b0.toNat == 154 && Reader.signed 16 (b1.toNat * 256 + b2.toNat) == k && n == 3
  | .ifCond .lt k, b0 :: b1 :: b2 :: _ => b0.toNat == 155 && Reader.signed 16 (b1.toNat * 256 + b2.toNat) == k && n == 3
  | .ifCond .ge k, b0 :: b1 :: b2 :: _ => b0.toNat == 156 && Reader.signed 16 (b1.toNat * 256 + b2.toNat) == k && n == 3
  | .ifCond .gt k, b0 :: b1 :: b2 :: _ => b0.toNat == 157 && Reader.signed 16 (b1.toNat * 256 + b2.toNat) == k && n == 3
  | .ifCond .le k, b0 :: b1 :: b2 :: _ => b0.toNat == 158 && Reader.signed 16 (b1.toNat * 256 + b2.toNat) == k && n == 3
  | .if_icmp .eq k, b0 :: b1 :: b2 :: _ => b0.toNat == 159 && Reader.signed 16 (b1.toNat * 256 + b2.toNat) == k && n == 3
  | .if_icmp .ne k, b0 :: b1 :: b2 :: _ => b0.toNat == 160 && Reader.signed 16 (b1.toNat * 256 + b2.toNat) == k && n == 3
  | .if_icmp .lt k, b0 :: b1 :: b2 :: _ => b0.toNat == 161 && Reader.signed 16 (b1.toNat * 256 + b2.toNat) == k && n == 3
  | .if_icmp .ge k, b0 :: b1 :: b2 :: _ => b0.toNat == 162 && Reader.signed 16 (b1.toNat * 256 + b2.toNat) == k && n == 3
  | .if_icmp .gt k, b0 :: b1 :: b2 :: _ => b0.toNat == 163 && Reader.signed 16 (b1.toNat * 256 + b2.toNat) == k && n == 3
  | .if_icmp .le k, b0 :: b1 :: b2 :: _ => b0.toNat == 164 && Reader.signed 16 (b1.toNat * 256 + b2.toNat) == k && n == 3
  | .if_acmp .eq k, b0 :: b1 :: b2 :: _ => b0.toNat == 165 && Reader.signed 16 (b1.toNat * 256 + b2.toNat) == k && n == 3
  | .if_acmp .ne k, b0 :: b1 :: b2 :: _ => b0.toNat == 166 && Reader.signed 16 (b1.toNat * 256 + b2.toNat) == k && n == 3
  | .dcmp .l, b0 :: _ => b0.toNat == 151 && n == 1
  | .dcmp .g, b0 :: _ => b0.toNat == 152 && n == 1
  | _, _ => false
theorem ck_g {c : ByteArray} {p : Nat} {l : List UInt8} (hl : c.data.toList.drop p = l) (j : Nat) : c.data.toList[p + j]? = l[j]? := by rw [← hl, List.getElem?_drop]
set_option maxHeartbeats 4000000 in
theorem ck_ok {c : ByteArray} {p n : Nat} {i : Instr} (h : ck i n (c.data.toList.drop p) = true) : decode c p = .ok (i, n) := by
  generalize hl : c.data.toList.drop p = l at h
  cases i with
  | aaload  =>
    match l, hl, h with
    | [], _, h => exact absurd h (by simp [ck])
    | b0 :: _, hl, h =>
      have g0 := ck_g hl 0
      simp only [ck, Bool.and_eq_true, beq_iff_eq, decide_eq_true_eq] at h
      obtain ⟨e, rfl⟩ := h
      exact dk_dec (dk_aaload g0 e)
  | aastore  =>
    match l, hl, h with
    | [], _, h => exact absurd h (by simp [ck])
    | b0 :: _, hl, h =>
      have g0 := ck_g hl 0
      simp only [ck, Bool.and_eq_true, beq_iff_eq, decide_eq_true_eq] at h
      obtain ⟨e, rfl⟩ := h
      exact dk_dec (dk_aastore g0 e)
  | aconst_null  =>
    match l, hl, h with
    | [], _, h => exact absurd h (by simp [ck])
    | b0 :: _, hl, h =>
      have g0 := ck_g hl 0
      simp only [ck, Bool.and_eq_true, beq_iff_eq, decide_eq_true_eq] at h
      obtain ⟨e, rfl⟩ := h
      exact dk_dec (dk_aconst_null g0 e)
  | areturn  =>
    match l, hl, h with
    | [], _, h => exact absurd h (by simp [ck])
    | b0 :: _, hl, h =>
      have g0 := ck_g hl 0
      simp only [ck, Bool.and_eq_true, beq_iff_eq, decide_eq_true_eq] at h
      obtain ⟨e, rfl⟩ := h
      exact dk_dec (dk_areturn g0 e)
  | arraylength  =>
    match l, hl, h with
    | [], _, h => exact absurd h (by simp [ck])
    | b0 :: _, hl, h =>
      have g0 := ck_g hl 0
      simp only [ck, Bool.and_eq_true, beq_iff_eq, decide_eq_true_eq] at h
      obtain ⟨e, rfl⟩ := h
      exact dk_dec (dk_arraylength g0 e)
  | athrow  =>
    match l, hl, h with
    | [], _, h => exact absurd h (by simp [ck])
    | b0 :: _, hl, h =>
      have g0 := ck_g hl 0
      simp only [ck, Bool.and_eq_true, beq_iff_eq, decide_eq_true_eq] at h
      obtain ⟨e, rfl⟩ := h
      exact dk_dec (dk_athrow g0 e)
  | baload  =>
    match l, hl, h with
    | [], _, h => exact absurd h (by simp [ck])
    | b0 :: _, hl, h =>
      have g0 := ck_g hl 0
      simp only [ck, Bool.and_eq_true, beq_iff_eq, decide_eq_true_eq] at h
      obtain ⟨e, rfl⟩ := h
      exact dk_dec (dk_baload g0 e)
  | bastore  =>
    match l, hl, h with
    | [], _, h => exact absurd h (by simp [ck])
    | b0 :: _, hl, h =>
      have g0 := ck_g hl 0
      simp only [ck, Bool.and_eq_true, beq_iff_eq, decide_eq_true_eq] at h
      obtain ⟨e, rfl⟩ := h
      exact dk_dec (dk_bastore g0 e)
  | d2i  =>
    match l, hl, h with
    | [], _, h => exact absurd h (by simp [ck])
    | b0 :: _, hl, h =>
      have g0 := ck_g hl 0
      simp only [ck, Bool.and_eq_true, beq_iff_eq, decide_eq_true_eq] at h
      obtain ⟨e, rfl⟩ := h
      exact dk_dec (dk_d2i g0 e)
  | dadd  =>
    match l, hl, h with
    | [], _, h => exact absurd h (by simp [ck])
    | b0 :: _, hl, h =>
      have g0 := ck_g hl 0
      simp only [ck, Bool.and_eq_true, beq_iff_eq, decide_eq_true_eq] at h
      obtain ⟨e, rfl⟩ := h
      exact dk_dec (dk_dadd g0 e)
  | daload  =>
    match l, hl, h with
    | [], _, h => exact absurd h (by simp [ck])
    | b0 :: _, hl, h =>
      have g0 := ck_g hl 0
      simp only [ck, Bool.and_eq_true, beq_iff_eq, decide_eq_true_eq] at h
      obtain ⟨e, rfl⟩ := h
      exact dk_dec (dk_daload g0 e)
  | dastore  =>
    match l, hl, h with
    | [], _, h => exact absurd h (by simp [ck])
    | b0 :: _, hl, h =>
      have g0 := ck_g hl 0
      simp only [ck, Bool.and_eq_true, beq_iff_eq, decide_eq_true_eq] at h
      obtain ⟨e, rfl⟩ := h
      exact dk_dec (dk_dastore g0 e)
  | ddiv  =>
    match l, hl, h with
    | [], _, h => exact absurd h (by simp [ck])
    | b0 :: _, hl, h =>
      have g0 := ck_g hl 0
      simp only [ck, Bool.and_eq_true, beq_iff_eq, decide_eq_true_eq] at h
      obtain ⟨e, rfl⟩ := h
      exact dk_dec (dk_ddiv g0 e)
  | dmul  =>
    match l, hl, h with
    | [], _, h => exact absurd h (by simp [ck])
    | b0 :: _, hl, h =>
      have g0 := ck_g hl 0
      simp only [ck, Bool.and_eq_true, beq_iff_eq, decide_eq_true_eq] at h
      obtain ⟨e, rfl⟩ := h
      exact dk_dec (dk_dmul g0 e)
  | dreturn  =>
    match l, hl, h with
    | [], _, h => exact absurd h (by simp [ck])
    | b0 :: _, hl, h =>
      have g0 := ck_g hl 0
      simp only [ck, Bool.and_eq_true, beq_iff_eq, decide_eq_true_eq] at h
      obtain ⟨e, rfl⟩ := h
      exact dk_dec (dk_dreturn g0 e)
  | dsub  =>
    match l, hl, h with
    | [], _, h => exact absurd h (by simp [ck])
    | b0 :: _, hl, h =>
      have g0 := ck_g hl 0
      simp only [ck, Bool.and_eq_true, beq_iff_eq, decide_eq_true_eq] at h
      obtain ⟨e, rfl⟩ := h
      exact dk_dec (dk_dsub g0 e)
  | dup  =>
    match l, hl, h with
    | [], _, h => exact absurd h (by simp [ck])
    | b0 :: _, hl, h =>
      have g0 := ck_g hl 0
      simp only [ck, Bool.and_eq_true, beq_iff_eq, decide_eq_true_eq] at h
      obtain ⟨e, rfl⟩ := h
      exact dk_dec (dk_dup g0 e)
  | dup2  =>
    match l, hl, h with
    | [], _, h => exact absurd h (by simp [ck])
    | b0 :: _, hl, h =>
      have g0 := ck_g hl 0
      simp only [ck, Bool.and_eq_true, beq_iff_eq, decide_eq_true_eq] at h
      obtain ⟨e, rfl⟩ := h
      exact dk_dec (dk_dup2 g0 e)
  | dup_x1  =>
    match l, hl, h with
    | [], _, h => exact absurd h (by simp [ck])
    | b0 :: _, hl, h =>
      have g0 := ck_g hl 0
      simp only [ck, Bool.and_eq_true, beq_iff_eq, decide_eq_true_eq] at h
      obtain ⟨e, rfl⟩ := h
      exact dk_dec (dk_dup_x1 g0 e)
  | i2b  =>
    match l, hl, h with
    | [], _, h => exact absurd h (by simp [ck])
    | b0 :: _, hl, h =>
      have g0 := ck_g hl 0
      simp only [ck, Bool.and_eq_true, beq_iff_eq, decide_eq_true_eq] at h
      obtain ⟨e, rfl⟩ := h
      exact dk_dec (dk_i2b g0 e)
  | i2c  =>
    match l, hl, h with
    | [], _, h => exact absurd h (by simp [ck])
    | b0 :: _, hl, h =>
      have g0 := ck_g hl 0
      simp only [ck, Bool.and_eq_true, beq_iff_eq, decide_eq_true_eq] at h
      obtain ⟨e, rfl⟩ := h
      exact dk_dec (dk_i2c g0 e)
  | i2d  =>
    match l, hl, h with
    | [], _, h => exact absurd h (by simp [ck])
    | b0 :: _, hl, h =>
      have g0 := ck_g hl 0
      simp only [ck, Bool.and_eq_true, beq_iff_eq, decide_eq_true_eq] at h
      obtain ⟨e, rfl⟩ := h
      exact dk_dec (dk_i2d g0 e)
  | i2l  =>
    match l, hl, h with
    | [], _, h => exact absurd h (by simp [ck])
    | b0 :: _, hl, h =>
      have g0 := ck_g hl 0
      simp only [ck, Bool.and_eq_true, beq_iff_eq, decide_eq_true_eq] at h
      obtain ⟨e, rfl⟩ := h
      exact dk_dec (dk_i2l g0 e)
  | iadd  =>
    match l, hl, h with
    | [], _, h => exact absurd h (by simp [ck])
    | b0 :: _, hl, h =>
      have g0 := ck_g hl 0
      simp only [ck, Bool.and_eq_true, beq_iff_eq, decide_eq_true_eq] at h
      obtain ⟨e, rfl⟩ := h
      exact dk_dec (dk_iadd g0 e)
  | iaload  =>
    match l, hl, h with
    | [], _, h => exact absurd h (by simp [ck])
    | b0 :: _, hl, h =>
      have g0 := ck_g hl 0
      simp only [ck, Bool.and_eq_true, beq_iff_eq, decide_eq_true_eq] at h
      obtain ⟨e, rfl⟩ := h
      exact dk_dec (dk_iaload g0 e)
  | iand  =>
    match l, hl, h with
    | [], _, h => exact absurd h (by simp [ck])
    | b0 :: _, hl, h =>
      have g0 := ck_g hl 0
      simp only [ck, Bool.and_eq_true, beq_iff_eq, decide_eq_true_eq] at h
      obtain ⟨e, rfl⟩ := h
      exact dk_dec (dk_iand g0 e)
  | iastore  =>
    match l, hl, h with
    | [], _, h => exact absurd h (by simp [ck])
    | b0 :: _, hl, h =>
      have g0 := ck_g hl 0
      simp only [ck, Bool.and_eq_true, beq_iff_eq, decide_eq_true_eq] at h
      obtain ⟨e, rfl⟩ := h
      exact dk_dec (dk_iastore g0 e)
  | idiv  =>
    match l, hl, h with
    | [], _, h => exact absurd h (by simp [ck])
    | b0 :: _, hl, h =>
      have g0 := ck_g hl 0
      simp only [ck, Bool.and_eq_true, beq_iff_eq, decide_eq_true_eq] at h
      obtain ⟨e, rfl⟩ := h
      exact dk_dec (dk_idiv g0 e)
  | imul  =>
    match l, hl, h with
    | [], _, h => exact absurd h (by simp [ck])
    | b0 :: _, hl, h =>
      have g0 := ck_g hl 0
      simp only [ck, Bool.and_eq_true, beq_iff_eq, decide_eq_true_eq] at h
      obtain ⟨e, rfl⟩ := h
      exact dk_dec (dk_imul g0 e)
  | ineg  =>
    match l, hl, h with
    | [], _, h => exact absurd h (by simp [ck])
    | b0 :: _, hl, h =>
      have g0 := ck_g hl 0
      simp only [ck, Bool.and_eq_true, beq_iff_eq, decide_eq_true_eq] at h
      obtain ⟨e, rfl⟩ := h
      exact dk_dec (dk_ineg g0 e)
  | ior  =>
    match l, hl, h with
    | [], _, h => exact absurd h (by simp [ck])
    | b0 :: _, hl, h =>
      have g0 := ck_g hl 0
      simp only [ck, Bool.and_eq_true, beq_iff_eq, decide_eq_true_eq] at h
      obtain ⟨e, rfl⟩ := h
      exact dk_dec (dk_ior g0 e)
  | irem  =>
    match l, hl, h with
    | [], _, h => exact absurd h (by simp [ck])
    | b0 :: _, hl, h =>
      have g0 := ck_g hl 0
      simp only [ck, Bool.and_eq_true, beq_iff_eq, decide_eq_true_eq] at h
      obtain ⟨e, rfl⟩ := h
      exact dk_dec (dk_irem g0 e)
  | ireturn  =>
    match l, hl, h with
    | [], _, h => exact absurd h (by simp [ck])
    | b0 :: _, hl, h =>
      have g0 := ck_g hl 0
      simp only [ck, Bool.and_eq_true, beq_iff_eq, decide_eq_true_eq] at h
      obtain ⟨e, rfl⟩ := h
      exact dk_dec (dk_ireturn g0 e)
  | ishl  =>
    match l, hl, h with
    | [], _, h => exact absurd h (by simp [ck])
    | b0 :: _, hl, h =>
      have g0 := ck_g hl 0
      simp only [ck, Bool.and_eq_true, beq_iff_eq, decide_eq_true_eq] at h
      obtain ⟨e, rfl⟩ := h
      exact dk_dec (dk_ishl g0 e)
  | ishr  =>
    match l, hl, h with
    | [], _, h => exact absurd h (by simp [ck])
    | b0 :: _, hl, h =>
      have g0 := ck_g hl 0
      simp only [ck, Bool.and_eq_true, beq_iff_eq, decide_eq_true_eq] at h
      obtain ⟨e, rfl⟩ := h
      exact dk_dec (dk_ishr g0 e)
  | isub  =>
    match l, hl, h with
    | [], _, h => exact absurd h (by simp [ck])
    | b0 :: _, hl, h =>
      have g0 := ck_g hl 0
      simp only [ck, Bool.and_eq_true, beq_iff_eq, decide_eq_true_eq] at h
      obtain ⟨e, rfl⟩ := h
      exact dk_dec (dk_isub g0 e)
  | iushr  =>
    match l, hl, h with
    | [], _, h => exact absurd h (by simp [ck])
    | b0 :: _, hl, h =>
      have g0 := ck_g hl 0
      simp only [ck, Bool.and_eq_true, beq_iff_eq, decide_eq_true_eq] at h
      obtain ⟨e, rfl⟩ := h
      exact dk_dec (dk_iushr g0 e)
  | ixor  =>
    match l, hl, h with
    | [], _, h => exact absurd h (by simp [ck])
    | b0 :: _, hl, h =>
      have g0 := ck_g hl 0
      simp only [ck, Bool.and_eq_true, beq_iff_eq, decide_eq_true_eq] at h
      obtain ⟨e, rfl⟩ := h
      exact dk_dec (dk_ixor g0 e)
  | ladd  =>
    match l, hl, h with
    | [], _, h => exact absurd h (by simp [ck])
    | b0 :: _, hl, h =>
      have g0 := ck_g hl 0
      simp only [ck, Bool.and_eq_true, beq_iff_eq, decide_eq_true_eq] at h
      obtain ⟨e, rfl⟩ := h
      exact dk_dec (dk_ladd g0 e)
  | laload  =>
    match l, hl, h with
    | [], _, h => exact absurd h (by simp [ck])
    | b0 :: _, hl, h =>
      have g0 := ck_g hl 0
      simp only [ck, Bool.and_eq_true, beq_iff_eq, decide_eq_true_eq] at h
      obtain ⟨e, rfl⟩ := h
      exact dk_dec (dk_laload g0 e)
  | lastore  =>
    match l, hl, h with
    | [], _, h => exact absurd h (by simp [ck])
    | b0 :: _, hl, h =>
      have g0 := ck_g hl 0
      simp only [ck, Bool.and_eq_true, beq_iff_eq, decide_eq_true_eq] at h
      obtain ⟨e, rfl⟩ := h
      exact dk_dec (dk_lastore g0 e)
  | lcmp  =>
    match l, hl, h with
    | [], _, h => exact absurd h (by simp [ck])
    | b0 :: _, hl, h =>
      have g0 := ck_g hl 0
      simp only [ck, Bool.and_eq_true, beq_iff_eq, decide_eq_true_eq] at h
      obtain ⟨e, rfl⟩ := h
      exact dk_dec (dk_lcmp g0 e)
  | lreturn  =>
    match l, hl, h with
    | [], _, h => exact absurd h (by simp [ck])
    | b0 :: _, hl, h =>
      have g0 := ck_g hl 0
      simp only [ck, Bool.and_eq_true, beq_iff_eq, decide_eq_true_eq] at h
      obtain ⟨e, rfl⟩ := h
      exact dk_dec (dk_lreturn g0 e)
  | pop  =>
    match l, hl, h with
    | [], _, h => exact absurd h (by simp [ck])
    | b0 :: _, hl, h =>
      have g0 := ck_g hl 0
      simp only [ck, Bool.and_eq_true, beq_iff_eq, decide_eq_true_eq] at h
      obtain ⟨e, rfl⟩ := h
      exact dk_dec (dk_pop g0 e)
  | return_  =>
    match l, hl, h with
    | [], _, h => exact absurd h (by simp [ck])
    | b0 :: _, hl, h =>
      have g0 := ck_g hl 0
      simp only [ck, Bool.and_eq_true, beq_iff_eq, decide_eq_true_eq] at h
      obtain ⟨e, rfl⟩ := h
      exact dk_dec (dk_return_ g0 e)
  | aload_n k =>
    match l, hl, h with
    | [], _, h => exact absurd h (by simp [ck])
    | b0 :: _, hl, h =>
      have g0 := ck_g hl 0
      simp only [ck, Bool.and_eq_true, beq_iff_eq, decide_eq_true_eq] at h
      obtain ⟨e, rfl⟩ := h
      match k, e with
      | 0, e => exact dk_dec (dk_aload_n0 g0 e)
      | 1, e => exact dk_dec (dk_aload_n1 g0 e)
      | 2, e => exact dk_dec (dk_aload_n2 g0 e)
      | 3, e => exact dk_dec (dk_aload_n3 g0 e)
  | astore_n k =>
    match l, hl, h with
    | [], _, h => exact absurd h (by simp [ck])
    | b0 :: _, hl, h =>
      have g0 := ck_g hl 0
      simp only [ck, Bool.and_eq_true, beq_iff_eq, decide_eq_true_eq] at h
      obtain ⟨e, rfl⟩ := h
      match k, e with
      | 0, e => exact dk_dec (dk_astore_n0 g0 e)
      | 1, e => exact dk_dec (dk_astore_n1 g0 e)
      | 2, e => exact dk_dec (dk_astore_n2 g0 e)
      | 3, e => exact dk_dec (dk_astore_n3 g0 e)
  | dconst k =>
    match l, hl, h with
    | [], _, h => exact absurd h (by simp [ck])
    | b0 :: _, hl, h =>
      have g0 := ck_g hl 0
      simp only [ck, Bool.and_eq_true, beq_iff_eq, decide_eq_true_eq] at h
      obtain ⟨e, rfl⟩ := h
      match k, e with
      | 0, e => exact dk_dec (dk_dconst0 g0 e)
      | 1, e => exact dk_dec (dk_dconst1 g0 e)
  | dload_n k =>
    match l, hl, h with
    | [], _, h => exact absurd h (by simp [ck])
    | b0 :: _, hl, h =>
      have g0 := ck_g hl 0
      simp only [ck, Bool.and_eq_true, beq_iff_eq, decide_eq_true_eq] at h
      obtain ⟨e, rfl⟩ := h
      match k, e with
      | 0, e => exact dk_dec (dk_dload_n0 g0 e)
      | 1, e => exact dk_dec (dk_dload_n1 g0 e)
      | 2, e => exact dk_dec (dk_dload_n2 g0 e)
      | 3, e => exact dk_dec (dk_dload_n3 g0 e)
  | dstore_n k =>
    match l, hl, h with
    | [], _, h => exact absurd h (by simp [ck])
    | b0 :: _, hl, h =>
      have g0 := ck_g hl 0
      simp only [ck, Bool.and_eq_true, beq_iff_eq, decide_eq_true_eq] at h
      obtain ⟨e, rfl⟩ := h
      match k, e with
      | 0, e => exact dk_dec (dk_dstore_n0 g0 e)
      | 1, e => exact dk_dec (dk_dstore_n1 g0 e)
      | 2, e => exact dk_dec (dk_dstore_n2 g0 e)
      | 3, e => exact dk_dec (dk_dstore_n3 g0 e)
  | iload_n k =>
    match l, hl, h with
    | [], _, h => exact absurd h (by simp [ck])
    | b0 :: _, hl, h =>
      have g0 := ck_g hl 0
      simp only [ck, Bool.and_eq_true, beq_iff_eq, decide_eq_true_eq] at h
      obtain ⟨e, rfl⟩ := h
      match k, e with
      | 0, e => exact dk_dec (dk_iload_n0 g0 e)
      | 1, e => exact dk_dec (dk_iload_n1 g0 e)
      | 2, e => exact dk_dec (dk_iload_n2 g0 e)
      | 3, e => exact dk_dec (dk_iload_n3 g0 e)
  | istore_n k =>
    match l, hl, h with
    | [], _, h => exact absurd h (by simp [ck])
    | b0 :: _, hl, h =>
      have g0 := ck_g hl 0
      simp only [ck, Bool.and_eq_true, beq_iff_eq, decide_eq_true_eq] at h
      obtain ⟨e, rfl⟩ := h
      match k, e with
      | 0, e => exact dk_dec (dk_istore_n0 g0 e)
      | 1, e => exact dk_dec (dk_istore_n1 g0 e)
      | 2, e => exact dk_dec (dk_istore_n2 g0 e)
      | 3, e => exact dk_dec (dk_istore_n3 g0 e)
  | lconst k =>
    match l, hl, h with
    | [], _, h => exact absurd h (by simp [ck])
    | b0 :: _, hl, h =>
      have g0 := ck_g hl 0
      simp only [ck, Bool.and_eq_true, beq_iff_eq, decide_eq_true_eq] at h
      obtain ⟨e, rfl⟩ := h
      match k, e with
      | 0, e => exact dk_dec (dk_lconst0 g0 e)
      | 1, e => exact dk_dec (dk_lconst1 g0 e)
  | lload_n k =>
    match l, hl, h with
    | [], _, h => exact absurd h (by simp [ck])
    | b0 :: _, hl, h =>
      have g0 := ck_g hl 0
      simp only [ck, Bool.and_eq_true, beq_iff_eq, decide_eq_true_eq] at h
      obtain ⟨e, rfl⟩ := h
      match k, e with
      | 0, e => exact dk_dec (dk_lload_n0 g0 e)
      | 1, e => exact dk_dec (dk_lload_n1 g0 e)
      | 2, e => exact dk_dec (dk_lload_n2 g0 e)
      | 3, e => exact dk_dec (dk_lload_n3 g0 e)
  | aload k =>
    match l, hl, h with
    | [], _, h => exact absurd h (by simp [ck])
    | [_], _, h => exact absurd h (by simp [ck])
    | b0 :: b1 :: _, hl, h =>
      have g0 := ck_g hl 0
      have g1 := ck_g hl 1
      simp only [ck, Bool.and_eq_true, beq_iff_eq, decide_eq_true_eq] at h
      obtain ⟨⟨e, rfl⟩, rfl⟩ := h
      exact dk_dec (dk_aload g0 g1 e)
  | astore k =>
    match l, hl, h with
    | [], _, h => exact absurd h (by simp [ck])
    | [_], _, h => exact absurd h (by simp [ck])
    | b0 :: b1 :: _, hl, h =>
      have g0 := ck_g hl 0
      have g1 := ck_g hl 1
      simp only [ck, Bool.and_eq_true, beq_iff_eq, decide_eq_true_eq] at h
      obtain ⟨⟨e, rfl⟩, rfl⟩ := h
      exact dk_dec (dk_astore g0 g1 e)
  | dload k =>
    match l, hl, h with
    | [], _, h => exact absurd h (by simp [ck])
    | [_], _, h => exact absurd h (by simp [ck])
    | b0 :: b1 :: _, hl, h =>
      have g0 := ck_g hl 0
      have g1 := ck_g hl 1
      simp only [ck, Bool.and_eq_true, beq_iff_eq, decide_eq_true_eq] at h
      obtain ⟨⟨e, rfl⟩, rfl⟩ := h
      exact dk_dec (dk_dload g0 g1 e)
  | dstore k =>
    match l, hl, h with
    | [], _, h => exact absurd h (by simp [ck])
    | [_], _, h => exact absurd h (by simp [ck])
    | b0 :: b1 :: _, hl, h =>
      have g0 := ck_g hl 0
      have g1 := ck_g hl 1
      simp only [ck, Bool.and_eq_true, beq_iff_eq, decide_eq_true_eq] at h
      obtain ⟨⟨e, rfl⟩, rfl⟩ := h
      exact dk_dec (dk_dstore g0 g1 e)
  | iload k =>
    match l, hl, h with
    | [], _, h => exact absurd h (by simp [ck])
    | [_], _, h => exact absurd h (by simp [ck])
    | b0 :: b1 :: _, hl, h =>
      have g0 := ck_g hl 0
      have g1 := ck_g hl 1
      simp only [ck, Bool.and_eq_true, beq_iff_eq, decide_eq_true_eq] at h
      obtain ⟨⟨e, rfl⟩, rfl⟩ := h
      exact dk_dec (dk_iload g0 g1 e)
  | istore k =>
    match l, hl, h with
    | [], _, h => exact absurd h (by simp [ck])
    | [_], _, h => exact absurd h (by simp [ck])
    | b0 :: b1 :: _, hl, h =>
      have g0 := ck_g hl 0
      have g1 := ck_g hl 1
      simp only [ck, Bool.and_eq_true, beq_iff_eq, decide_eq_true_eq] at h
      obtain ⟨⟨e, rfl⟩, rfl⟩ := h
      exact dk_dec (dk_istore g0 g1 e)
  | ldc k =>
    match l, hl, h with
    | [], _, h => exact absurd h (by simp [ck])
    | [_], _, h => exact absurd h (by simp [ck])
    | b0 :: b1 :: _, hl, h =>
      have g0 := ck_g hl 0
      have g1 := ck_g hl 1
      simp only [ck, Bool.and_eq_true, beq_iff_eq, decide_eq_true_eq] at h
      obtain ⟨⟨e, rfl⟩, rfl⟩ := h
      exact dk_dec (dk_ldc g0 g1 e)
  | lload k =>
    match l, hl, h with
    | [], _, h => exact absurd h (by simp [ck])
    | [_], _, h => exact absurd h (by simp [ck])
    | b0 :: b1 :: _, hl, h =>
      have g0 := ck_g hl 0
      have g1 := ck_g hl 1
      simp only [ck, Bool.and_eq_true, beq_iff_eq, decide_eq_true_eq] at h
      obtain ⟨⟨e, rfl⟩, rfl⟩ := h
      exact dk_dec (dk_lload g0 g1 e)
  | lstore k =>
    match l, hl, h with
    | [], _, h => exact absurd h (by simp [ck])
    | [_], _, h => exact absurd h (by simp [ck])
    | b0 :: b1 :: _, hl, h =>
      have g0 := ck_g hl 0
      have g1 := ck_g hl 1
      simp only [ck, Bool.and_eq_true, beq_iff_eq, decide_eq_true_eq] at h
      obtain ⟨⟨e, rfl⟩, rfl⟩ := h
      exact dk_dec (dk_lstore g0 g1 e)
  | bipush k =>
    match l, hl, h with
    | [], _, h => exact absurd h (by simp [ck])
    | [_], _, h => exact absurd h (by simp [ck])
    | b0 :: b1 :: _, hl, h =>
      have g0 := ck_g hl 0
      have g1 := ck_g hl 1
      simp only [ck, Bool.and_eq_true, beq_iff_eq, decide_eq_true_eq] at h
      obtain ⟨⟨e, rfl⟩, rfl⟩ := h
      exact dk_dec (dk_bipush g0 g1 e)
  | anewarray k =>
    match l, hl, h with
    | [], _, h => exact absurd h (by simp [ck])
    | [_], _, h => exact absurd h (by simp [ck])
    | [_, _], _, h => exact absurd h (by simp [ck])
    | b0 :: b1 :: b2 :: _, hl, h =>
      have g0 := ck_g hl 0
      have g1 := ck_g hl 1
      have g2 := ck_g hl 2
      simp only [ck, Bool.and_eq_true, beq_iff_eq, decide_eq_true_eq] at h
      obtain ⟨⟨e, rfl⟩, rfl⟩ := h
      exact dk_dec (dk_anewarray g0 g1 g2 e)
  | checkcast k =>
    match l, hl, h with
    | [], _, h => exact absurd h (by simp [ck])
    | [_], _, h => exact absurd h (by simp [ck])
    | [_, _], _, h => exact absurd h (by simp [ck])
    | b0 :: b1 :: b2 :: _, hl, h =>
      have g0 := ck_g hl 0
      have g1 := ck_g hl 1
      have g2 := ck_g hl 2
      simp only [ck, Bool.and_eq_true, beq_iff_eq, decide_eq_true_eq] at h
      obtain ⟨⟨e, rfl⟩, rfl⟩ := h
      exact dk_dec (dk_checkcast g0 g1 g2 e)
  | getfield k =>
    match l, hl, h with
    | [], _, h => exact absurd h (by simp [ck])
    | [_], _, h => exact absurd h (by simp [ck])
    | [_, _], _, h => exact absurd h (by simp [ck])
    | b0 :: b1 :: b2 :: _, hl, h =>
      have g0 := ck_g hl 0
      have g1 := ck_g hl 1
      have g2 := ck_g hl 2
      simp only [ck, Bool.and_eq_true, beq_iff_eq, decide_eq_true_eq] at h
      obtain ⟨⟨e, rfl⟩, rfl⟩ := h
      exact dk_dec (dk_getfield g0 g1 g2 e)
  | getstatic k =>
    match l, hl, h with
    | [], _, h => exact absurd h (by simp [ck])
    | [_], _, h => exact absurd h (by simp [ck])
    | [_, _], _, h => exact absurd h (by simp [ck])
    | b0 :: b1 :: b2 :: _, hl, h =>
      have g0 := ck_g hl 0
      have g1 := ck_g hl 1
      have g2 := ck_g hl 2
      simp only [ck, Bool.and_eq_true, beq_iff_eq, decide_eq_true_eq] at h
      obtain ⟨⟨e, rfl⟩, rfl⟩ := h
      exact dk_dec (dk_getstatic g0 g1 g2 e)
  | invokespecial k =>
    match l, hl, h with
    | [], _, h => exact absurd h (by simp [ck])
    | [_], _, h => exact absurd h (by simp [ck])
    | [_, _], _, h => exact absurd h (by simp [ck])
    | b0 :: b1 :: b2 :: _, hl, h =>
      have g0 := ck_g hl 0
      have g1 := ck_g hl 1
      have g2 := ck_g hl 2
      simp only [ck, Bool.and_eq_true, beq_iff_eq, decide_eq_true_eq] at h
      obtain ⟨⟨e, rfl⟩, rfl⟩ := h
      exact dk_dec (dk_invokespecial g0 g1 g2 e)
  | invokestatic k =>
    match l, hl, h with
    | [], _, h => exact absurd h (by simp [ck])
    | [_], _, h => exact absurd h (by simp [ck])
    | [_, _], _, h => exact absurd h (by simp [ck])
    | b0 :: b1 :: b2 :: _, hl, h =>
      have g0 := ck_g hl 0
      have g1 := ck_g hl 1
      have g2 := ck_g hl 2
      simp only [ck, Bool.and_eq_true, beq_iff_eq, decide_eq_true_eq] at h
      obtain ⟨⟨e, rfl⟩, rfl⟩ := h
      exact dk_dec (dk_invokestatic g0 g1 g2 e)
  | invokevirtual k =>
    match l, hl, h with
    | [], _, h => exact absurd h (by simp [ck])
    | [_], _, h => exact absurd h (by simp [ck])
    | [_, _], _, h => exact absurd h (by simp [ck])
    | b0 :: b1 :: b2 :: _, hl, h =>
      have g0 := ck_g hl 0
      have g1 := ck_g hl 1
      have g2 := ck_g hl 2
      simp only [ck, Bool.and_eq_true, beq_iff_eq, decide_eq_true_eq] at h
      obtain ⟨⟨e, rfl⟩, rfl⟩ := h
      exact dk_dec (dk_invokevirtual g0 g1 g2 e)
  | ldc2_w k =>
    match l, hl, h with
    | [], _, h => exact absurd h (by simp [ck])
    | [_], _, h => exact absurd h (by simp [ck])
    | [_, _], _, h => exact absurd h (by simp [ck])
    | b0 :: b1 :: b2 :: _, hl, h =>
      have g0 := ck_g hl 0
      have g1 := ck_g hl 1
      have g2 := ck_g hl 2
      simp only [ck, Bool.and_eq_true, beq_iff_eq, decide_eq_true_eq] at h
      obtain ⟨⟨e, rfl⟩, rfl⟩ := h
      exact dk_dec (dk_ldc2_w g0 g1 g2 e)
  | ldc_w k =>
    match l, hl, h with
    | [], _, h => exact absurd h (by simp [ck])
    | [_], _, h => exact absurd h (by simp [ck])
    | [_, _], _, h => exact absurd h (by simp [ck])
    | b0 :: b1 :: b2 :: _, hl, h =>
      have g0 := ck_g hl 0
      have g1 := ck_g hl 1
      have g2 := ck_g hl 2
      simp only [ck, Bool.and_eq_true, beq_iff_eq, decide_eq_true_eq] at h
      obtain ⟨⟨e, rfl⟩, rfl⟩ := h
      exact dk_dec (dk_ldc_w g0 g1 g2 e)
  | new k =>
    match l, hl, h with
    | [], _, h => exact absurd h (by simp [ck])
    | [_], _, h => exact absurd h (by simp [ck])
    | [_, _], _, h => exact absurd h (by simp [ck])
    | b0 :: b1 :: b2 :: _, hl, h =>
      have g0 := ck_g hl 0
      have g1 := ck_g hl 1
      have g2 := ck_g hl 2
      simp only [ck, Bool.and_eq_true, beq_iff_eq, decide_eq_true_eq] at h
      obtain ⟨⟨e, rfl⟩, rfl⟩ := h
      exact dk_dec (dk_new g0 g1 g2 e)
  | putfield k =>
    match l, hl, h with
    | [], _, h => exact absurd h (by simp [ck])
    | [_], _, h => exact absurd h (by simp [ck])
    | [_, _], _, h => exact absurd h (by simp [ck])
    | b0 :: b1 :: b2 :: _, hl, h =>
      have g0 := ck_g hl 0
      have g1 := ck_g hl 1
      have g2 := ck_g hl 2
      simp only [ck, Bool.and_eq_true, beq_iff_eq, decide_eq_true_eq] at h
      obtain ⟨⟨e, rfl⟩, rfl⟩ := h
      exact dk_dec (dk_putfield g0 g1 g2 e)
  | goto k =>
    match l, hl, h with
    | [], _, h => exact absurd h (by simp [ck])
    | [_], _, h => exact absurd h (by simp [ck])
    | [_, _], _, h => exact absurd h (by simp [ck])
    | b0 :: b1 :: b2 :: _, hl, h =>
      have g0 := ck_g hl 0
      have g1 := ck_g hl 1
      have g2 := ck_g hl 2
      simp only [ck, Bool.and_eq_true, beq_iff_eq, decide_eq_true_eq] at h
      obtain ⟨⟨e, rfl⟩, rfl⟩ := h
      exact dk_dec (dk_goto g0 g1 g2 e)
  | ifnonnull k =>
    match l, hl, h with
    | [], _, h => exact absurd h (by simp [ck])
    | [_], _, h => exact absurd h (by simp [ck])
    | [_, _], _, h => exact absurd h (by simp [ck])
    | b0 :: b1 :: b2 :: _, hl, h =>
      have g0 := ck_g hl 0
      have g1 := ck_g hl 1
      have g2 := ck_g hl 2
      simp only [ck, Bool.and_eq_true, beq_iff_eq, decide_eq_true_eq] at h
      obtain ⟨⟨e, rfl⟩, rfl⟩ := h
      exact dk_dec (dk_ifnonnull g0 g1 g2 e)
  | ifnull k =>
    match l, hl, h with
    | [], _, h => exact absurd h (by simp [ck])
    | [_], _, h => exact absurd h (by simp [ck])
    | [_, _], _, h => exact absurd h (by simp [ck])
    | b0 :: b1 :: b2 :: _, hl, h =>
      have g0 := ck_g hl 0
      have g1 := ck_g hl 1
      have g2 := ck_g hl 2
      simp only [ck, Bool.and_eq_true, beq_iff_eq, decide_eq_true_eq] at h
      obtain ⟨⟨e, rfl⟩, rfl⟩ := h
      exact dk_dec (dk_ifnull g0 g1 g2 e)
  | sipush k =>
    match l, hl, h with
    | [], _, h => exact absurd h (by simp [ck])
    | [_], _, h => exact absurd h (by simp [ck])
    | [_, _], _, h => exact absurd h (by simp [ck])
    | b0 :: b1 :: b2 :: _, hl, h =>
      have g0 := ck_g hl 0
      have g1 := ck_g hl 1
      have g2 := ck_g hl 2
      simp only [ck, Bool.and_eq_true, beq_iff_eq, decide_eq_true_eq] at h
      obtain ⟨⟨e, rfl⟩, rfl⟩ := h
      exact dk_dec (dk_sipush g0 g1 g2 e)
  | iconst k =>
    match l, hl, h with
    | [], _, h => exact absurd h (by simp [ck])
    | b0 :: _, hl, h =>
      have g0 := ck_g hl 0
      simp only [ck, Bool.and_eq_true, beq_iff_eq, decide_eq_true_eq] at h
      obtain ⟨⟨⟨e1, e2⟩, e3⟩, rfl⟩ := h
      have e4 : b0.toNat = 2 ∨ b0.toNat = 3 ∨ b0.toNat = 4 ∨ b0.toNat = 5 ∨ b0.toNat = 6 ∨ b0.toNat = 7 ∨ b0.toNat = 8 := by omega
      rcases e4 with e | e | e | e | e | e | e <;> rw [e] at e3 <;> subst e3
      · exact dk_dec (dk_iconst0 g0 e)
      · exact dk_dec (dk_iconst1 g0 e)
      · exact dk_dec (dk_iconst2 g0 e)
      · exact dk_dec (dk_iconst3 g0 e)
      · exact dk_dec (dk_iconst4 g0 e)
      · exact dk_dec (dk_iconst5 g0 e)
      · exact dk_dec (dk_iconst6 g0 e)
  | iinc k z =>
    match l, hl, h with
    | [], _, h => exact absurd h (by simp [ck])
    | [_], _, h => exact absurd h (by simp [ck])
    | [_, _], _, h => exact absurd h (by simp [ck])
    | b0 :: b1 :: b2 :: _, hl, h =>
      have g0 := ck_g hl 0
      have g1 := ck_g hl 1
      have g2 := ck_g hl 2
      simp only [ck, Bool.and_eq_true, beq_iff_eq, decide_eq_true_eq] at h
      obtain ⟨⟨⟨e, rfl⟩, rfl⟩, rfl⟩ := h
      exact dk_dec (dk_iinc g0 g1 g2 e)
  | ifCond q k =>
    cases q with
    | eq =>
      match l, hl, h with
      | [], _, h => exact absurd h (by simp [ck])
      | [_], _, h => exact absurd h (by simp [ck])
      | [_, _], _, h => exact absurd h (by simp [ck])
      | b0 :: b1 :: b2 :: _, hl, h =>
        have g0 := ck_g hl 0
        have g1 := ck_g hl 1
        have g2 := ck_g hl 2
        simp only [ck, Bool.and_eq_true, beq_iff_eq, decide_eq_true_eq] at h
        obtain ⟨⟨e, rfl⟩, rfl⟩ := h
        exact dk_dec (dk_ifCond_eq g0 g1 g2 e)
    | ne =>
      match l, hl, h with
      | [], _, h => exact absurd h (by simp [ck])
      | [_], _, h => exact absurd h (by simp [ck])
      | [_, _], _, h => exact absurd h (by simp [ck])
      | b0 :: b1 :: b2 :: _, hl, h =>
        have g0 := ck_g hl 0
        have g1 := ck_g hl 1
        have g2 := ck_g hl 2
        simp only [ck, Bool.and_eq_true, beq_iff_eq, decide_eq_true_eq] at h
        obtain ⟨⟨e, rfl⟩, rfl⟩ := h
        exact dk_dec (dk_ifCond_ne g0 g1 g2 e)
    | lt =>
      match l, hl, h with
      | [], _, h => exact absurd h (by simp [ck])
      | [_], _, h => exact absurd h (by simp [ck])
      | [_, _], _, h => exact absurd h (by simp [ck])
      | b0 :: b1 :: b2 :: _, hl, h =>
        have g0 := ck_g hl 0
        have g1 := ck_g hl 1
        have g2 := ck_g hl 2
        simp only [ck, Bool.and_eq_true, beq_iff_eq, decide_eq_true_eq] at h
        obtain ⟨⟨e, rfl⟩, rfl⟩ := h
        exact dk_dec (dk_ifCond_lt g0 g1 g2 e)
    | ge =>
      match l, hl, h with
      | [], _, h => exact absurd h (by simp [ck])
      | [_], _, h => exact absurd h (by simp [ck])
      | [_, _], _, h => exact absurd h (by simp [ck])
      | b0 :: b1 :: b2 :: _, hl, h =>
        have g0 := ck_g hl 0
        have g1 := ck_g hl 1
        have g2 := ck_g hl 2
        simp only [ck, Bool.and_eq_true, beq_iff_eq, decide_eq_true_eq] at h
        obtain ⟨⟨e, rfl⟩, rfl⟩ := h
        exact dk_dec (dk_ifCond_ge g0 g1 g2 e)
    | gt =>
      match l, hl, h with
      | [], _, h => exact absurd h (by simp [ck])
      | [_], _, h => exact absurd h (by simp [ck])
      | [_, _], _, h => exact absurd h (by simp [ck])
      | b0 :: b1 :: b2 :: _, hl, h =>
        have g0 := ck_g hl 0
        have g1 := ck_g hl 1
        have g2 := ck_g hl 2
        simp only [ck, Bool.and_eq_true, beq_iff_eq, decide_eq_true_eq] at h
        obtain ⟨⟨e, rfl⟩, rfl⟩ := h
        exact dk_dec (dk_ifCond_gt g0 g1 g2 e)
    | le =>
      match l, hl, h with
      | [], _, h => exact absurd h (by simp [ck])
      | [_], _, h => exact absurd h (by simp [ck])
      | [_, _], _, h => exact absurd h (by simp [ck])
      | b0 :: b1 :: b2 :: _, hl, h =>
        have g0 := ck_g hl 0
        have g1 := ck_g hl 1
        have g2 := ck_g hl 2
        simp only [ck, Bool.and_eq_true, beq_iff_eq, decide_eq_true_eq] at h
        obtain ⟨⟨e, rfl⟩, rfl⟩ := h
        exact dk_dec (dk_ifCond_le g0 g1 g2 e)
  | if_icmp q k =>
    cases q with
    | eq =>
      match l, hl, h with
      | [], _, h => exact absurd h (by simp [ck])
      | [_], _, h => exact absurd h (by simp [ck])
      | [_, _], _, h => exact absurd h (by simp [ck])
      | b0 :: b1 :: b2 :: _, hl, h =>
        have g0 := ck_g hl 0
        have g1 := ck_g hl 1
        have g2 := ck_g hl 2
        simp only [ck, Bool.and_eq_true, beq_iff_eq, decide_eq_true_eq] at h
        obtain ⟨⟨e, rfl⟩, rfl⟩ := h
        exact dk_dec (dk_if_icmp_eq g0 g1 g2 e)
    | ne =>
      match l, hl, h with
      | [], _, h => exact absurd h (by simp [ck])
      | [_], _, h => exact absurd h (by simp [ck])
      | [_, _], _, h => exact absurd h (by simp [ck])
      | b0 :: b1 :: b2 :: _, hl, h =>
        have g0 := ck_g hl 0
        have g1 := ck_g hl 1
        have g2 := ck_g hl 2
        simp only [ck, Bool.and_eq_true, beq_iff_eq, decide_eq_true_eq] at h
        obtain ⟨⟨e, rfl⟩, rfl⟩ := h
        exact dk_dec (dk_if_icmp_ne g0 g1 g2 e)
    | lt =>
      match l, hl, h with
      | [], _, h => exact absurd h (by simp [ck])
      | [_], _, h => exact absurd h (by simp [ck])
      | [_, _], _, h => exact absurd h (by simp [ck])
      | b0 :: b1 :: b2 :: _, hl, h =>
        have g0 := ck_g hl 0
        have g1 := ck_g hl 1
        have g2 := ck_g hl 2
        simp only [ck, Bool.and_eq_true, beq_iff_eq, decide_eq_true_eq] at h
        obtain ⟨⟨e, rfl⟩, rfl⟩ := h
        exact dk_dec (dk_if_icmp_lt g0 g1 g2 e)
    | ge =>
      match l, hl, h with
      | [], _, h => exact absurd h (by simp [ck])
      | [_], _, h => exact absurd h (by simp [ck])
      | [_, _], _, h => exact absurd h (by simp [ck])
      | b0 :: b1 :: b2 :: _, hl, h =>
        have g0 := ck_g hl 0
        have g1 := ck_g hl 1
        have g2 := ck_g hl 2
        simp only [ck, Bool.and_eq_true, beq_iff_eq, decide_eq_true_eq] at h
        obtain ⟨⟨e, rfl⟩, rfl⟩ := h
        exact dk_dec (dk_if_icmp_ge g0 g1 g2 e)
    | gt =>
      match l, hl, h with
      | [], _, h => exact absurd h (by simp [ck])
      | [_], _, h => exact absurd h (by simp [ck])
      | [_, _], _, h => exact absurd h (by simp [ck])
      | b0 :: b1 :: b2 :: _, hl, h =>
        have g0 := ck_g hl 0
        have g1 := ck_g hl 1
        have g2 := ck_g hl 2
        simp only [ck, Bool.and_eq_true, beq_iff_eq, decide_eq_true_eq] at h
        obtain ⟨⟨e, rfl⟩, rfl⟩ := h
        exact dk_dec (dk_if_icmp_gt g0 g1 g2 e)
    | le =>
      match l, hl, h with
      | [], _, h => exact absurd h (by simp [ck])
      | [_], _, h => exact absurd h (by simp [ck])
      | [_, _], _, h => exact absurd h (by simp [ck])
      | b0 :: b1 :: b2 :: _, hl, h =>
        have g0 := ck_g hl 0
        have g1 := ck_g hl 1
        have g2 := ck_g hl 2
        simp only [ck, Bool.and_eq_true, beq_iff_eq, decide_eq_true_eq] at h
        obtain ⟨⟨e, rfl⟩, rfl⟩ := h
        exact dk_dec (dk_if_icmp_le g0 g1 g2 e)
  | if_acmp q k =>
    cases q with
    | eq =>
      match l, hl, h with
      | [], _, h => exact absurd h (by simp [ck])
      | [_], _, h => exact absurd h (by simp [ck])
      | [_, _], _, h => exact absurd h (by simp [ck])
      | b0 :: b1 :: b2 :: _, hl, h =>
        have g0 := ck_g hl 0
        have g1 := ck_g hl 1
        have g2 := ck_g hl 2
        simp only [ck, Bool.and_eq_true, beq_iff_eq, decide_eq_true_eq] at h
        obtain ⟨⟨e, rfl⟩, rfl⟩ := h
        exact dk_dec (dk_if_acmp_eq g0 g1 g2 e)
    | ne =>
      match l, hl, h with
      | [], _, h => exact absurd h (by simp [ck])
      | [_], _, h => exact absurd h (by simp [ck])
      | [_, _], _, h => exact absurd h (by simp [ck])
      | b0 :: b1 :: b2 :: _, hl, h =>
        have g0 := ck_g hl 0
        have g1 := ck_g hl 1
        have g2 := ck_g hl 2
        simp only [ck, Bool.and_eq_true, beq_iff_eq, decide_eq_true_eq] at h
        obtain ⟨⟨e, rfl⟩, rfl⟩ := h
        exact dk_dec (dk_if_acmp_ne g0 g1 g2 e)
  | dcmp q =>
    cases q with
    | l =>
      match l, hl, h with
      | [], _, h => exact absurd h (by simp [ck])
      | b0 :: _, hl, h =>
        have g0 := ck_g hl 0
        simp only [ck, Bool.and_eq_true, beq_iff_eq, decide_eq_true_eq] at h
        obtain ⟨e, rfl⟩ := h
        exact dk_dec (dk_dcmp_l g0 e)
    | g =>
      match l, hl, h with
      | [], _, h => exact absurd h (by simp [ck])
      | b0 :: _, hl, h =>
        have g0 := ck_g hl 0
        simp only [ck, Bool.and_eq_true, beq_iff_eq, decide_eq_true_eq] at h
        obtain ⟨e, rfl⟩ := h
        exact dk_dec (dk_dcmp_g g0 e)
  | _ => exact absurd h (by simp [ck])
def dc_T (c : ByteArray) (t : List (Nat × Instr × Nat)) : Bool := t.all (fun q => ck q.2.1 q.2.2 (c.data.toList.drop q.1))
theorem dc {c : ByteArray} {t : List (Nat × Instr × Nat)} (h : dc_T c t = true) (i : Nat) {pc len : Nat} {ins : Instr} (hi : t[i]? = some (pc, ins, len)) : decode c pc = .ok (ins, len) :=
  ck_ok (List.all_eq_true.mp h _ (List.mem_of_getElem? hi))
end
section
abbrev tbX0_init : List (Nat × Instr × Nat) := [(0, .aload_n 0, 1), (1, .invokespecial 3, 3), (4, .aload_n 0, 1), (5, .bipush 10, 2), (7, .anewarray 9, 3), (10, .putfield 11, 3), (13, .aload_n 0, 1), (14, .iconst 0, 1), (15, .putfield 17, 3), (18, .aload_n 0, 1), (19, .iconst 0, 1), (20, .putfield 21, 3), (23, .iconst 0, 1), (24, .istore_n 1, 1), (25, .iload_n 1, 1), (26, .bipush 10, 2), (28, .if_icmp .ge 22, 3), (31, .aload_n 0, 1), (32, .getfield 11, 3), (35, .iload_n 1, 1), (36, .new 9, 3), (39, .dup, 1), (40, .invokespecial 24, 3), (43, .aastore, 1), (44, .iinc 1 1, 3), (47, .goto (-22), 3), (50, .return_, 1)]
theorem tbX0_init_k : dc_T cX0_init tbX0_init = true := by decide +kernel
abbrev tbX0_forgetAll : List (Nat × Instr × Nat) := [(0, .aload_n 0, 1), (1, .iconst 0, 1), (2, .putfield 21, 3), (5, .return_, 1)]
theorem tbX0_forgetAll_k : dc_T cX0_forgetAll tbX0_forgetAll = true := by decide +kernel
abbrev tbX0_remember : List (Nat × Instr × Nat) := [(0, .aload_n 0, 1), (1, .getfield 21, 3), (4, .bipush 10, 2), (6, .if_icmp .ne 26, 3), (9, .aload_n 0, 1), (10, .aload_n 0, 1), (11, .getfield 17, 3), (14, .iconst 1, 1), (15, .iadd, 1), (16, .bipush 10, 2), (18, .irem, 1), (19, .putfield 17, 3), (22, .aload_n 0, 1), (23, .dup, 1), (24, .getfield 21, 3), (27, .iconst 1, 1), (28, .isub, 1), (29, .putfield 21, 3), (32, .aload_n 0, 1), (33, .getfield 11, 3), (36, .aload_n 0, 1), (37, .getfield 17, 3), (40, .aload_n 0, 1), (41, .getfield 21, 3), (44, .iadd, 1), (45, .bipush 10, 2), (47, .irem, 1), (48, .aaload, 1), (49, .aload_n 1, 1), (50, .invokevirtual 25, 3), (53, .aload_n 0, 1), (54, .dup, 1), (55, .getfield 21, 3), (58, .iconst 1, 1), (59, .iadd, 1), (60, .putfield 21, 3), (63, .return_, 1)]
theorem tbX0_remember_k : dc_T cX0_remember tbX0_remember = true := by decide +kernel
abbrev tbX0_takeBack : List (Nat × Instr × Nat) := [(0, .aload_n 0, 1), (1, .getfield 21, 3), (4, .ifCond .ne 5, 3), (7, .iconst 0, 1), (8, .ireturn, 1), (9, .aload_n 0, 1), (10, .dup, 1), (11, .getfield 21, 3), (14, .iconst 1, 1), (15, .isub, 1), (16, .putfield 21, 3), (19, .aload_n 1, 1), (20, .aload_n 0, 1), (21, .getfield 11, 3), (24, .aload_n 0, 1), (25, .getfield 17, 3), (28, .aload_n 0, 1), (29, .getfield 21, 3), (32, .iadd, 1), (33, .bipush 10, 2), (35, .irem, 1), (36, .aaload, 1), (37, .invokevirtual 25, 3), (40, .iconst 1, 1), (41, .ireturn, 1)]
theorem tbX0_takeBack_k : dc_T cX0_takeBack tbX0_takeBack = true := by decide +kernel
theorem dX1_init_12 : decode cX1_init 12 = .ok (.newarray .int, 2) := by decide +kernel
theorem dX1_init_40 : decode cX1_init 40 = .ok (.newarray .int, 2) := by decide +kernel
theorem dX1_init_68 : decode cX1_init 68 = .ok (.newarray .int, 2) := by decide +kernel
theorem dX1_init_76 : decode cX1_init 76 = .ok (.newarray .int, 2) := by decide +kernel
theorem dX1_init_94 : decode cX1_init 94 = .ok (.newarray .int, 2) := by decide +kernel
theorem dX1_init_102 : decode cX1_init 102 = .ok (.newarray .int, 2) := by decide +kernel
theorem dX1_init_110 : decode cX1_init 110 = .ok (.newarray .int, 2) := by decide +kernel
abbrev tbX1_init_0 : List (Nat × Instr × Nat) := [(0, .aload_n 0, 1), (1, .invokespecial 3, 3), (4, .aload_n 0, 1), (5, .iconst 0, 1), (6, .putfield 9, 3), (9, .aload_n 0, 1), (10, .bipush 9, 2), (14, .putfield 15, 3), (17, .aload_n 0, 1), (18, .iconst 0, 1), (19, .putfield 19, 3), (22, .aload_n 0, 1), (23, .iconst 0, 1), (24, .putfield 22, 3), (27, .aload_n 0, 1), (28, .iconst 0, 1), (29, .putfield 25, 3), (32, .aload_n 0, 1), (33, .iconst 0, 1), (34, .putfield 28, 3), (37, .aload_n 0, 1), (38, .bipush 10, 2), (42, .putfield 31, 3), (45, .aload_n 0, 1), (46, .iconst 0, 1), (47, .putfield 34, 3), (50, .aload_n 0, 1), (51, .iconst 0, 1), (52, .putfield 37, 3), (55, .aload_n 0, 1), (56, .iconst 0, 1), (57, .putfield 40, 3), (60, .aload_n 0, 1), (61, .iconst 0, 1), (62, .putfield 43, 3), (65, .aload_n 0, 1), (66, .bipush 8, 2), (70, .putfield 46, 3), (73, .aload_n 0, 1), (74, .bipush 8, 2)]
theorem tbX1_init_0_k : dc_T cX1_init tbX1_init_0 = true := by decide +kernel
abbrev tbX1_init_1 : List (Nat × Instr × Nat) := [(78, .putfield 49, 3), (81, .aload_n 0, 1), (82, .iconst 0, 1), (83, .putfield 52, 3), (86, .aload_n 0, 1), (87, .iconst 0, 1), (88, .putfield 55, 3), (91, .aload_n 0, 1), (92, .bipush 8, 2), (96, .putfield 58, 3), (99, .aload_n 0, 1), (100, .bipush 8, 2), (104, .putfield 61, 3), (107, .aload_n 0, 1), (108, .bipush 8, 2), (112, .putfield 64, 3), (115, .aload_n 0, 1), (116, .invokevirtual 67, 3), (119, .return_, 1)]
theorem tbX1_init_1_k : dc_T cX1_init tbX1_init_1 = true := by decide +kernel
abbrev tbX1_clear_0 : List (Nat × Instr × Nat) := [(0, .aload_n 0, 1), (1, .iconst 0, 1), (2, .putfield 9, 3), (5, .aload_n 0, 1), (6, .iconst 0, 1), (7, .putfield 19, 3), (10, .aload_n 0, 1), (11, .iconst 0, 1), (12, .putfield 43, 3), (15, .aload_n 0, 1), (16, .bipush 10, 2), (18, .bipush 10, 2), (20, .bipush 40, 2), (22, .invokevirtual 70, 3), (25, .aload_n 0, 1), (26, .iconst 0, 1), (27, .sipush 300, 3), (30, .sipush 600, 3), (33, .invokevirtual 74, 3), (36, .aload_n 0, 1), (37, .iconst 1, 1), (38, .sipush 300, 3), (41, .sipush 600, 3), (44, .invokevirtual 74, 3), (47, .aload_n 0, 1), (48, .iconst 2, 1), (49, .sipush 200, 3), (52, .sipush 400, 3), (55, .invokevirtual 74, 3), (58, .aload_n 0, 1), (59, .iconst 3, 1), (60, .iconst 0, 1), (61, .sipush 9999, 3), (64, .invokevirtual 74, 3), (67, .aload_n 0, 1), (68, .iconst 4, 1), (69, .iconst 0, 1), (70, .iconst 0, 1), (71, .invokevirtual 74, 3), (74, .aload_n 0, 1)]
theorem tbX1_clear_0_k : dc_T cX1_clear tbX1_clear_0 = true := by decide +kernel
abbrev tbX1_clear_1 : List (Nat × Instr × Nat) := [(75, .iconst 1, 1), (76, .iconst 1, 1), (77, .iconst 1, 1), (78, .invokevirtual 77, 3), (81, .aload_n 0, 1), (82, .invokevirtual 80, 3), (85, .return_, 1)]
theorem tbX1_clear_1_k : dc_T cX1_clear tbX1_clear_1 = true := by decide +kernel
abbrev tbX1_copyFrom_0 : List (Nat × Instr × Nat) := [(0, .aload_n 0, 1), (1, .aload_n 1, 1), (2, .getfield 9, 3), (5, .putfield 9, 3), (8, .aload_n 1, 1), (9, .getfield 15, 3), (12, .iconst 0, 1), (13, .aload_n 0, 1), (14, .getfield 15, 3), (17, .iconst 0, 1), (18, .bipush 9, 2), (20, .invokestatic 83, 3), (23, .aload_n 0, 1), (24, .aload_n 1, 1), (25, .getfield 19, 3), (28, .putfield 19, 3), (31, .aload_n 0, 1), (32, .aload_n 1, 1), (33, .getfield 22, 3), (36, .aload_n 1, 1), (37, .getfield 25, 3), (40, .aload_n 1, 1), (41, .getfield 28, 3), (44, .invokevirtual 70, 3), (47, .aload_n 1, 1), (48, .getfield 31, 3), (51, .iconst 0, 1), (52, .aload_n 0, 1), (53, .getfield 31, 3), (56, .iconst 0, 1), (57, .bipush 10, 2), (59, .invokestatic 83, 3), (62, .aload_n 0, 1), (63, .aload_n 1, 1), (64, .getfield 34, 3), (67, .aload_n 1, 1), (68, .getfield 37, 3), (71, .aload_n 1, 1), (72, .getfield 40, 3), (75, .invokevirtual 77, 3)]
theorem tbX1_copyFrom_0_k : dc_T cX1_copyFrom tbX1_copyFrom_0 = true := by decide +kernel
abbrev tbX1_copyFrom_1 : List (Nat × Instr × Nat) := [(78, .aload_n 0, 1), (79, .aload_n 1, 1), (80, .getfield 43, 3), (83, .putfield 43, 3), (86, .aload_n 1, 1), (87, .getfield 46, 3), (90, .iconst 0, 1), (91, .aload_n 0, 1), (92, .getfield 46, 3), (95, .iconst 0, 1), (96, .bipush 8, 2), (98, .invokestatic 83, 3), (101, .aload_n 1, 1), (102, .getfield 49, 3), (105, .iconst 0, 1), (106, .aload_n 0, 1), (107, .getfield 49, 3), (110, .iconst 0, 1), (111, .bipush 8, 2), (113, .invokestatic 83, 3), (116, .aload_n 0, 1), (117, .aload_n 1, 1), (118, .getfield 52, 3), (121, .putfield 52, 3), (124, .aload_n 0, 1), (125, .aload_n 1, 1), (126, .getfield 55, 3), (129, .putfield 55, 3), (132, .aload_n 1, 1), (133, .getfield 58, 3), (136, .iconst 0, 1), (137, .aload_n 0, 1), (138, .getfield 58, 3), (141, .iconst 0, 1), (142, .bipush 8, 2), (144, .invokestatic 83, 3), (147, .aload_n 1, 1), (148, .getfield 61, 3), (151, .iconst 0, 1), (152, .aload_n 0, 1)]
theorem tbX1_copyFrom_1_k : dc_T cX1_copyFrom tbX1_copyFrom_1 = true := by decide +kernel
abbrev tbX1_copyFrom_2 : List (Nat × Instr × Nat) := [(153, .getfield 61, 3), (156, .iconst 0, 1), (157, .bipush 8, 2), (159, .invokestatic 83, 3), (162, .aload_n 1, 1), (163, .getfield 64, 3), (166, .iconst 0, 1), (167, .aload_n 0, 1), (168, .getfield 64, 3), (171, .iconst 0, 1), (172, .bipush 8, 2), (174, .invokestatic 83, 3), (177, .return_, 1)]
theorem tbX1_copyFrom_2_k : dc_T cX1_copyFrom tbX1_copyFrom_2 = true := by decide +kernel
abbrev tbX1_putSheet : List (Nat × Instr × Nat) := [(0, .aload_n 0, 1), (1, .iload_n 1, 1), (2, .putfield 22, 3), (5, .aload_n 0, 1), (6, .iload_n 2, 1), (7, .putfield 25, 3), (10, .aload_n 0, 1), (11, .iload_n 3, 1), (12, .putfield 28, 3), (15, .return_, 1)]
theorem tbX1_putSheet_k : dc_T cX1_putSheet tbX1_putSheet = true := by decide +kernel
abbrev tbX1_putTool : List (Nat × Instr × Nat) := [(0, .iload_n 1, 1), (1, .ifCond .lt 28, 3), (4, .iload_n 1, 1), (5, .iconst 5, 1), (6, .if_icmp .ge 23, 3), (9, .aload_n 0, 1), (10, .getfield 31, 3), (13, .iconst 2, 1), (14, .iload_n 1, 1), (15, .imul, 1), (16, .iload_n 2, 1), (17, .iastore, 1), (18, .aload_n 0, 1), (19, .getfield 31, 3), (22, .iconst 2, 1), (23, .iload_n 1, 1), (24, .imul, 1), (25, .iconst 1, 1), (26, .iadd, 1), (27, .iload_n 3, 1), (28, .iastore, 1), (29, .return_, 1)]
theorem tbX1_putTool_k : dc_T cX1_putTool tbX1_putTool = true := by decide +kernel
abbrev tbX1_putCosts : List (Nat × Instr × Nat) := [(0, .aload_n 0, 1), (1, .iload_n 1, 1), (2, .putfield 34, 3), (5, .aload_n 0, 1), (6, .iload_n 2, 1), (7, .putfield 37, 3), (10, .aload_n 0, 1), (11, .iload_n 3, 1), (12, .putfield 40, 3), (15, .return_, 1)]
theorem tbX1_putCosts_k : dc_T cX1_putCosts tbX1_putCosts = true := by decide +kernel
abbrev tbX1_addBack : List (Nat × Instr × Nat) := [(0, .aload_n 0, 1), (1, .getfield 43, 3), (4, .bipush 8, 2), (6, .if_icmp .ge 33, 3), (9, .aload_n 0, 1), (10, .getfield 46, 3), (13, .aload_n 0, 1), (14, .getfield 43, 3), (17, .iload_n 1, 1), (18, .iastore, 1), (19, .aload_n 0, 1), (20, .getfield 49, 3), (23, .aload_n 0, 1), (24, .getfield 43, 3), (27, .iload_n 2, 1), (28, .iastore, 1), (29, .aload_n 0, 1), (30, .dup, 1), (31, .getfield 43, 3), (34, .iconst 1, 1), (35, .iadd, 1), (36, .putfield 43, 3), (39, .return_, 1)]
theorem tbX1_addBack_k : dc_T cX1_addBack tbX1_addBack = true := by decide +kernel
abbrev tbX1_lastBackRatio : List (Nat × Instr × Nat) := [(0, .aload_n 0, 1), (1, .getfield 43, 3), (4, .ifCond .le 17, 3), (7, .aload_n 0, 1), (8, .getfield 46, 3), (11, .aload_n 0, 1), (12, .getfield 43, 3), (15, .iconst 1, 1), (16, .isub, 1), (17, .iaload, 1), (18, .goto 4, 3), (21, .iconst (-1), 1), (22, .ireturn, 1)]
theorem tbX1_lastBackRatio_k : dc_T cX1_lastBackRatio tbX1_lastBackRatio = true := by decide +kernel
abbrev tbX1_addLeg : List (Nat × Instr × Nat) := [(0, .aload_n 0, 1), (1, .getfield 9, 3), (4, .bipush 9, 2), (6, .if_icmp .ge 51, 3), (9, .aload_n 0, 1), (10, .getfield 15, 3), (13, .aload_n 0, 1), (14, .getfield 9, 3), (17, .iload_n 1, 1), (18, .iastore, 1), (19, .aload_n 0, 1), (20, .getfield 9, 3), (23, .ifCond .le 24, 3), (26, .iload_n 2, 1), (27, .ifCond .eq 20, 3), (30, .aload_n 0, 1), (31, .dup, 1), (32, .getfield 19, 3), (35, .iconst 1, 1), (36, .aload_n 0, 1), (37, .getfield 9, 3), (40, .iconst 1, 1), (41, .isub, 1), (42, .ishl, 1), (43, .ior, 1), (44, .putfield 19, 3), (47, .aload_n 0, 1), (48, .dup, 1), (49, .getfield 9, 3), (52, .iconst 1, 1), (53, .iadd, 1), (54, .putfield 9, 3), (57, .return_, 1)]
theorem tbX1_addLeg_k : dc_T cX1_addLeg tbX1_addLeg = true := by decide +kernel
abbrev tbX1_bendCount : List (Nat × Instr × Nat) := [(0, .aload_n 0, 1), (1, .getfield 9, 3), (4, .ifCond .le 12, 3), (7, .aload_n 0, 1), (8, .getfield 9, 3), (11, .iconst 1, 1), (12, .isub, 1), (13, .goto 4, 3), (16, .iconst 0, 1), (17, .ireturn, 1)]
theorem tbX1_bendCount_k : dc_T cX1_bendCount tbX1_bendCount = true := by decide +kernel
abbrev tbX1_allBends : List (Nat × Instr × Nat) := [(0, .iconst 1, 1), (1, .aload_n 0, 1), (2, .invokevirtual 89, 3), (5, .ishl, 1), (6, .iconst 1, 1), (7, .isub, 1), (8, .ireturn, 1)]
theorem tbX1_allBends_k : dc_T cX1_allBends tbX1_allBends = true := by decide +kernel
abbrev tbX1_goesUp : List (Nat × Instr × Nat) := [(0, .aload_n 0, 1), (1, .getfield 19, 3), (4, .iload_n 1, 1), (5, .ishr, 1), (6, .iconst 1, 1), (7, .iand, 1), (8, .ifCond .eq 7, 3), (11, .iconst 1, 1), (12, .goto 4, 3), (15, .iconst 0, 1), (16, .ireturn, 1)]
theorem tbX1_goesUp_k : dc_T cX1_goesUp tbX1_goesUp = true := by decide +kernel
abbrev tbX1_sumOfLegs : List (Nat × Instr × Nat) := [(0, .iconst 0, 1), (1, .istore_n 2, 1), (2, .iconst 0, 1), (3, .istore_n 3, 1), (4, .iload_n 3, 1), (5, .iload_n 1, 1), (6, .if_icmp .ge 24, 3), (9, .iload_n 3, 1), (10, .bipush 9, 2), (12, .if_icmp .ge 18, 3), (15, .iload_n 2, 1), (16, .aload_n 0, 1), (17, .getfield 15, 3), (20, .iload_n 3, 1), (21, .iaload, 1), (22, .iadd, 1), (23, .istore_n 2, 1), (24, .iinc 3 1, 3), (27, .goto (-23), 3), (30, .iload_n 2, 1), (31, .ireturn, 1)]
theorem tbX1_sumOfLegs_k : dc_T cX1_sumOfLegs tbX1_sumOfLegs = true := by decide +kernel
abbrev tbX1_isSameFromOtherEnd_0 : List (Nat × Instr × Nat) := [(0, .iconst 0, 1), (1, .istore_n 1, 1), (2, .iload_n 1, 1), (3, .aload_n 0, 1), (4, .getfield 9, 3), (7, .if_icmp .ge 39, 3), (10, .iload_n 1, 1), (11, .bipush 9, 2), (13, .if_icmp .ge 33, 3), (16, .aload_n 0, 1), (17, .getfield 15, 3), (20, .iload_n 1, 1), (21, .iaload, 1), (22, .aload_n 0, 1), (23, .getfield 15, 3), (26, .aload_n 0, 1), (27, .getfield 9, 3), (30, .iconst 1, 1), (31, .isub, 1), (32, .iload_n 1, 1), (33, .isub, 1), (34, .iaload, 1), (35, .if_icmp .eq 5, 3), (38, .iconst 0, 1), (39, .ireturn, 1), (40, .iinc 1 1, 3), (43, .goto (-41), 3), (46, .iconst 0, 1), (47, .istore_n 1, 1), (48, .iload_n 1, 1), (49, .aload_n 0, 1), (50, .invokevirtual 89, 3), (53, .if_icmp .ge 31, 3), (56, .aload_n 0, 1), (57, .iload_n 1, 1), (58, .invokevirtual 93, 3), (61, .aload_n 0, 1), (62, .aload_n 0, 1), (63, .invokevirtual 89, 3), (66, .iconst 1, 1)]
theorem tbX1_isSameFromOtherEnd_0_k : dc_T cX1_isSameFromOtherEnd tbX1_isSameFromOtherEnd_0 = true := by decide +kernel
abbrev tbX1_isSameFromOtherEnd_1 : List (Nat × Instr × Nat) := [(67, .isub, 1), (68, .iload_n 1, 1), (69, .isub, 1), (70, .invokevirtual 93, 3), (73, .if_icmp .eq 5, 3), (76, .iconst 0, 1), (77, .ireturn, 1), (78, .iinc 1 1, 3), (81, .goto (-33), 3), (84, .iconst 1, 1), (85, .ireturn, 1)]
theorem tbX1_isSameFromOtherEnd_1_k : dc_T cX1_isSameFromOtherEnd tbX1_isSameFromOtherEnd_1 = true := by decide +kernel
abbrev tbX1_deductionOfBend : List (Nat × Instr × Nat) := [(0, .ldc2_w 97, 3), (3, .aload_n 0, 1), (4, .getfield 25, 3), (7, .aload_n 0, 1), (8, .getfield 22, 3), (11, .iadd, 1), (12, .i2d, 1), (13, .dmul, 1), (14, .ldc2_w 99, 3), (17, .aload_n 0, 1), (18, .getfield 25, 3), (21, .i2d, 1), (22, .aload_n 0, 1), (23, .getfield 28, 3), (26, .i2d, 1), (27, .ldc2_w 101, 3), (30, .ddiv, 1), (31, .aload_n 0, 1), (32, .getfield 22, 3), (35, .i2d, 1), (36, .dmul, 1), (37, .dadd, 1), (38, .dmul, 1), (39, .dsub, 1), (40, .dreturn, 1)]
theorem tbX1_deductionOfBend_k : dc_T cX1_deductionOfBend tbX1_deductionOfBend = true := by decide +kernel
abbrev tbX1_ratioOfSheet : List (Nat × Instr × Nat) := [(0, .aload_n 0, 1), (1, .getfield 22, 3), (4, .ifCond .le 21, 3), (7, .ldc2_w 103, 3), (10, .aload_n 0, 1), (11, .getfield 25, 3), (14, .i2d, 1), (15, .dmul, 1), (16, .aload_n 0, 1), (17, .getfield 22, 3), (20, .i2d, 1), (21, .ddiv, 1), (22, .goto 4, 3), (25, .dconst 0, 1), (26, .dreturn, 1)]
theorem tbX1_ratioOfSheet_k : dc_T cX1_ratioOfSheet tbX1_ratioOfSheet = true := by decide +kernel
abbrev tbX1_springBackAt_0 : List (Nat × Instr × Nat) := [(0, .aload_n 0, 1), (1, .getfield 43, 3), (4, .ifCond .ne 5, 3), (7, .dconst 0, 1), (8, .dreturn, 1), (9, .dload_n 1, 1), (10, .aload_n 0, 1), (11, .getfield 46, 3), (14, .iconst 0, 1), (15, .iaload, 1), (16, .i2d, 1), (17, .dcmp .g, 1), (18, .ifCond .gt 11, 3), (21, .aload_n 0, 1), (22, .getfield 49, 3), (25, .iconst 0, 1), (26, .iaload, 1), (27, .i2d, 1), (28, .dreturn, 1), (29, .iconst 1, 1), (30, .istore_n 3, 1), (31, .iload_n 3, 1), (32, .aload_n 0, 1), (33, .getfield 43, 3), (36, .if_icmp .ge 37, 3), (39, .iload_n 3, 1), (40, .bipush 8, 2), (42, .if_icmp .ge 31, 3), (45, .dload_n 1, 1), (46, .aload_n 0, 1), (47, .getfield 46, 3), (50, .iload_n 3, 1), (51, .iaload, 1), (52, .i2d, 1), (53, .dcmp .g, 1), (54, .ifCond .gt 13, 3), (57, .aload_n 0, 1), (58, .iload_n 3, 1), (59, .iconst 1, 1), (60, .isub, 1)]
theorem tbX1_springBackAt_0_k : dc_T cX1_springBackAt tbX1_springBackAt_0 = true := by decide +kernel
abbrev tbX1_springBackAt_1 : List (Nat × Instr × Nat) := [(61, .iload_n 3, 1), (62, .dload_n 1, 1), (63, .invokevirtual 105, 3), (66, .dreturn, 1), (67, .iinc 3 1, 3), (70, .goto (-39), 3), (73, .aload_n 0, 1), (74, .getfield 49, 3), (77, .aload_n 0, 1), (78, .getfield 43, 3), (81, .iconst 1, 1), (82, .isub, 1), (83, .iaload, 1), (84, .i2d, 1), (85, .dreturn, 1)]
theorem tbX1_springBackAt_1_k : dc_T cX1_springBackAt tbX1_springBackAt_1 = true := by decide +kernel
abbrev tbX1_springBackBetween_0 : List (Nat × Instr × Nat) := [(0, .aload_n 0, 1), (1, .getfield 46, 3), (4, .iload_n 2, 1), (5, .iaload, 1), (6, .aload_n 0, 1), (7, .getfield 46, 3), (10, .iload_n 1, 1), (11, .iaload, 1), (12, .isub, 1), (13, .i2d, 1), (14, .dstore 5, 2), (16, .dload 5, 2), (18, .dconst 0, 1), (19, .dcmp .g, 1), (20, .ifCond .gt 11, 3), (23, .aload_n 0, 1), (24, .getfield 49, 3), (27, .iload_n 1, 1), (28, .iaload, 1), (29, .i2d, 1), (30, .dreturn, 1), (31, .aload_n 0, 1), (32, .getfield 49, 3), (35, .iload_n 2, 1), (36, .iaload, 1), (37, .aload_n 0, 1), (38, .getfield 49, 3), (41, .iload_n 1, 1), (42, .iaload, 1), (43, .isub, 1), (44, .i2d, 1), (45, .dstore 7, 2), (47, .aload_n 0, 1), (48, .getfield 49, 3), (51, .iload_n 1, 1), (52, .iaload, 1), (53, .i2d, 1), (54, .dload 7, 2), (56, .dload_n 3, 1), (57, .aload_n 0, 1)]
theorem tbX1_springBackBetween_0_k : dc_T cX1_springBackBetween tbX1_springBackBetween_0 = true := by decide +kernel
abbrev tbX1_springBackBetween_1 : List (Nat × Instr × Nat) := [(58, .getfield 46, 3), (61, .iload_n 1, 1), (62, .iaload, 1), (63, .i2d, 1), (64, .dsub, 1), (65, .dmul, 1), (66, .dload 5, 2), (68, .ddiv, 1), (69, .dadd, 1), (70, .dreturn, 1)]
theorem tbX1_springBackBetween_1_k : dc_T cX1_springBackBetween tbX1_springBackBetween_1 = true := by decide +kernel
abbrev tbX1_dropSteps : List (Nat × Instr × Nat) := [(0, .aload_n 0, 1), (1, .iconst 0, 1), (2, .putfield 52, 3), (5, .aload_n 0, 1), (6, .iconst 0, 1), (7, .putfield 55, 3), (10, .return_, 1)]
theorem tbX1_dropSteps_k : dc_T cX1_dropSteps tbX1_dropSteps = true := by decide +kernel
abbrev tbX1_addStep : List (Nat × Instr × Nat) := [(0, .aload_n 0, 1), (1, .getfield 55, 3), (4, .bipush 8, 2), (6, .if_icmp .ge 57, 3), (9, .aload_n 0, 1), (10, .getfield 58, 3), (13, .aload_n 0, 1), (14, .getfield 55, 3), (17, .iload_n 1, 1), (18, .iastore, 1), (19, .aload_n 0, 1), (20, .getfield 61, 3), (23, .aload_n 0, 1), (24, .getfield 55, 3), (27, .iload_n 2, 1), (28, .iastore, 1), (29, .aload_n 0, 1), (30, .getfield 64, 3), (33, .aload_n 0, 1), (34, .getfield 55, 3), (37, .iload_n 3, 1), (38, .iastore, 1), (39, .aload_n 0, 1), (40, .dup, 1), (41, .getfield 55, 3), (44, .iconst 1, 1), (45, .iadd, 1), (46, .putfield 55, 3), (49, .aload_n 0, 1), (50, .dup, 1), (51, .getfield 52, 3), (54, .iconst 1, 1), (55, .iload_n 1, 1), (56, .iconst 1, 1), (57, .ishr, 1), (58, .ishl, 1), (59, .ior, 1), (60, .putfield 52, 3), (63, .return_, 1)]
theorem tbX1_addStep_k : dc_T cX1_addStep tbX1_addStep = true := by decide +kernel
abbrev tbX1_lastCode : List (Nat × Instr × Nat) := [(0, .aload_n 0, 1), (1, .getfield 55, 3), (4, .ifCond .le 17, 3), (7, .aload_n 0, 1), (8, .getfield 58, 3), (11, .aload_n 0, 1), (12, .getfield 55, 3), (15, .iconst 1, 1), (16, .isub, 1), (17, .iaload, 1), (18, .goto 4, 3), (21, .iconst (-1), 1), (22, .ireturn, 1)]
theorem tbX1_lastCode_k : dc_T cX1_lastCode tbX1_lastCode = true := by decide +kernel
abbrev tbX1_lastGauge : List (Nat × Instr × Nat) := [(0, .aload_n 0, 1), (1, .getfield 55, 3), (4, .ifCond .le 17, 3), (7, .aload_n 0, 1), (8, .getfield 61, 3), (11, .aload_n 0, 1), (12, .getfield 55, 3), (15, .iconst 1, 1), (16, .isub, 1), (17, .iaload, 1), (18, .goto 4, 3), (21, .iconst (-1), 1), (22, .ireturn, 1)]
theorem tbX1_lastGauge_k : dc_T cX1_lastGauge tbX1_lastGauge = true := by decide +kernel
abbrev tbX1_sumOfCosts : List (Nat × Instr × Nat) := [(0, .iconst 0, 1), (1, .istore_n 1, 1), (2, .iconst 0, 1), (3, .istore_n 2, 1), (4, .iload_n 2, 1), (5, .aload_n 0, 1), (6, .getfield 55, 3), (9, .if_icmp .ge 24, 3), (12, .iload_n 2, 1), (13, .bipush 8, 2), (15, .if_icmp .ge 18, 3), (18, .iload_n 1, 1), (19, .aload_n 0, 1), (20, .getfield 64, 3), (23, .iload_n 2, 1), (24, .iaload, 1), (25, .iadd, 1), (26, .istore_n 1, 1), (27, .iinc 2 1, 3), (30, .goto (-26), 3), (33, .iload_n 1, 1), (34, .ireturn, 1)]
theorem tbX1_sumOfCosts_k : dc_T cX1_sumOfCosts tbX1_sumOfCosts = true := by decide +kernel
abbrev tbX1_priceBetween_0 : List (Nat × Instr × Nat) := [(0, .iload_n 1, 1), (1, .iconst (-1), 1), (2, .if_icmp .ne 5, 3), (5, .iconst 0, 1), (6, .ireturn, 1), (7, .iconst 0, 1), (8, .istore 5, 2), (10, .aload_n 0, 1), (11, .iload_n 1, 1), (12, .iconst 1, 1), (13, .ishr, 1), (14, .invokevirtual 93, 3), (17, .aload_n 0, 1), (18, .iload_n 3, 1), (19, .iconst 1, 1), (20, .ishr, 1), (21, .invokevirtual 93, 3), (24, .if_icmp .eq 12, 3), (27, .iload 5, 2), (29, .aload_n 0, 1), (30, .getfield 34, 3), (33, .iadd, 1), (34, .istore 5, 2), (36, .iload_n 1, 1), (37, .iconst 1, 1), (38, .iand, 1), (39, .iload_n 3, 1), (40, .iconst 1, 1), (41, .iand, 1), (42, .if_icmp .eq 12, 3), (45, .iload 5, 2), (47, .aload_n 0, 1), (48, .getfield 37, 3), (51, .iadd, 1), (52, .istore 5, 2), (54, .iload_n 2, 1), (55, .iload 4, 2), (57, .if_icmp .eq 12, 3), (60, .iload 5, 2), (62, .aload_n 0, 1)]
theorem tbX1_priceBetween_0_k : dc_T cX1_priceBetween tbX1_priceBetween_0 = true := by decide +kernel
abbrev tbX1_priceBetween_1 : List (Nat × Instr × Nat) := [(63, .getfield 40, 3), (66, .iadd, 1), (67, .istore 5, 2), (69, .iload 5, 2), (71, .ireturn, 1)]
theorem tbX1_priceBetween_1_k : dc_T cX1_priceBetween tbX1_priceBetween_1 = true := by decide +kernel
abbrev tbX1_bendsLike_0 : List (Nat × Instr × Nat) := [(0, .aload_n 0, 1), (1, .getfield 9, 3), (4, .aload_n 1, 1), (5, .getfield 9, 3), (8, .if_icmp .ne 14, 3), (11, .aload_n 0, 1), (12, .getfield 19, 3), (15, .aload_n 1, 1), (16, .getfield 19, 3), (19, .if_icmp .eq 5, 3), (22, .iconst 0, 1), (23, .ireturn, 1), (24, .iconst 0, 1), (25, .istore_n 2, 1), (26, .iload_n 2, 1), (27, .aload_n 0, 1), (28, .getfield 9, 3), (31, .if_icmp .ge 32, 3), (34, .iload_n 2, 1), (35, .bipush 9, 2), (37, .if_icmp .ge 26, 3), (40, .aload_n 0, 1), (41, .getfield 15, 3), (44, .iload_n 2, 1), (45, .iaload, 1), (46, .aload_n 1, 1), (47, .getfield 15, 3), (50, .iload_n 2, 1), (51, .iaload, 1), (52, .if_icmp .eq 5, 3), (55, .iconst 0, 1), (56, .ireturn, 1), (57, .iinc 2 1, 3), (60, .goto (-34), 3), (63, .iconst 0, 1), (64, .istore_n 2, 1), (65, .iload_n 2, 1), (66, .bipush 10, 2), (68, .if_icmp .ge 26, 3), (71, .aload_n 0, 1)]
theorem tbX1_bendsLike_0_k : dc_T cX1_bendsLike tbX1_bendsLike_0 = true := by decide +kernel
abbrev tbX1_bendsLike_1 : List (Nat × Instr × Nat) := [(72, .getfield 31, 3), (75, .iload_n 2, 1), (76, .iaload, 1), (77, .aload_n 1, 1), (78, .getfield 31, 3), (81, .iload_n 2, 1), (82, .iaload, 1), (83, .if_icmp .eq 5, 3), (86, .iconst 0, 1), (87, .ireturn, 1), (88, .iinc 2 1, 3), (91, .goto (-26), 3), (94, .iconst 1, 1), (95, .ireturn, 1)]
theorem tbX1_bendsLike_1_k : dc_T cX1_bendsLike tbX1_bendsLike_1 = true := by decide +kernel
abbrev tbX1_goesOnLike : List (Nat × Instr × Nat) := [(0, .aload_n 0, 1), (1, .getfield 52, 3), (4, .aload_n 1, 1), (5, .getfield 52, 3), (8, .if_icmp .ne 62, 3), (11, .aload_n 0, 1), (12, .invokevirtual 109, 3), (15, .aload_n 1, 1), (16, .invokevirtual 109, 3), (19, .if_icmp .ne 51, 3), (22, .aload_n 0, 1), (23, .invokevirtual 112, 3), (26, .aload_n 1, 1), (27, .invokevirtual 112, 3), (30, .if_icmp .ne 40, 3), (33, .aload_n 0, 1), (34, .getfield 34, 3), (37, .aload_n 1, 1), (38, .getfield 34, 3), (41, .if_icmp .ne 29, 3), (44, .aload_n 0, 1), (45, .getfield 37, 3), (48, .aload_n 1, 1), (49, .getfield 37, 3), (52, .if_icmp .ne 18, 3), (55, .aload_n 0, 1), (56, .getfield 40, 3), (59, .aload_n 1, 1), (60, .getfield 40, 3), (63, .if_icmp .ne 7, 3), (66, .iconst 1, 1), (67, .goto 4, 3), (70, .iconst 0, 1), (71, .ireturn, 1)]
theorem tbX1_goesOnLike_k : dc_T cX1_goesOnLike tbX1_goesOnLike = true := by decide +kernel
theorem dX2_init_7 : decode cX2_init 7 = .ok (.newarray .int, 2) := by decide +kernel
theorem dX2_init_15 : decode cX2_init 15 = .ok (.newarray .int, 2) := by decide +kernel
theorem dX2_init_23 : decode cX2_init 23 = .ok (.newarray .int, 2) := by decide +kernel
theorem dX2_init_31 : decode cX2_init 31 = .ok (.newarray .int, 2) := by decide +kernel
theorem dX2_init_39 : decode cX2_init 39 = .ok (.newarray .int, 2) := by decide +kernel
theorem dX2_init_47 : decode cX2_init 47 = .ok (.newarray .int, 2) := by decide +kernel
abbrev tbX2_init : List (Nat × Instr × Nat) := [(0, .aload_n 0, 1), (1, .invokespecial 3, 3), (4, .aload_n 0, 1), (5, .bipush 9, 2), (9, .putfield 9, 3), (12, .aload_n 0, 1), (13, .bipush 9, 2), (17, .putfield 15, 3), (20, .aload_n 0, 1), (21, .bipush 9, 2), (25, .putfield 18, 3), (28, .aload_n 0, 1), (29, .bipush 9, 2), (33, .putfield 21, 3), (36, .aload_n 0, 1), (37, .bipush 9, 2), (41, .putfield 24, 3), (44, .aload_n 0, 1), (45, .bipush 9, 2), (49, .putfield 27, 3), (52, .aload_n 0, 1), (53, .iconst 0, 1), (54, .putfield 30, 3), (57, .aload_n 0, 1), (58, .iconst 0, 1), (59, .putfield 34, 3), (62, .aload_n 0, 1), (63, .iconst 0, 1), (64, .putfield 37, 3), (67, .return_, 1)]
theorem tbX2_init_k : dc_T cX2_init tbX2_init = true := by decide +kernel
abbrev tbX2_layFinished : List (Nat × Instr × Nat) := [(0, .aload_n 0, 1), (1, .aload_n 1, 1), (2, .getfield 40, 3), (5, .putfield 30, 3), (8, .aload_n 0, 1), (9, .aload_n 1, 1), (10, .iconst 0, 1), (11, .iconst 1, 1), (12, .iconst 1, 1), (13, .iconst 3, 1), (14, .aload_n 1, 1), (15, .invokevirtual 43, 3), (18, .aload_n 1, 1), (19, .getfield 47, 3), (22, .invokevirtual 50, 3), (25, .return_, 1)]
theorem tbX2_layFinished_k : dc_T cX2_layFinished tbX2_layFinished = true := by decide +kernel
abbrev tbX2_layStep_0 : List (Nat × Instr × Nat) := [(0, .iload_n 3, 1), (1, .iconst 1, 1), (2, .ishr, 1), (3, .istore 4, 2), (5, .aload_n 1, 1), (6, .iload 4, 2), (8, .invokevirtual 54, 3), (11, .ifCond .eq 10, 3), (14, .aload_n 1, 1), (15, .getfield 47, 3), (18, .goto 9, 3), (21, .aload_n 1, 1), (22, .getfield 47, 3), (25, .iconst (-1), 1), (26, .ixor, 1), (27, .istore 5, 2), (29, .aload_n 0, 1), (30, .aload_n 1, 1), (31, .getfield 40, 3), (34, .putfield 30, 3), (37, .iload_n 3, 1), (38, .iconst 1, 1), (39, .iand, 1), (40, .ifCond .ne 45, 3), (43, .aload_n 0, 1), (44, .iconst 0, 1), (45, .putfield 34, 3), (48, .aload_n 0, 1), (49, .iload 4, 2), (51, .putfield 37, 3), (54, .aload_n 0, 1), (55, .aload_n 1, 1), (56, .iload 4, 2), (58, .iconst (-1), 1), (59, .iconst 3, 1), (60, .iconst 1, 1), (61, .iload_n 2, 1), (62, .iload 5, 2), (64, .invokevirtual 50, 3), (67, .aload_n 0, 1)]
theorem tbX2_layStep_0_k : dc_T cX2_layStep tbX2_layStep_0 = true := by decide +kernel
abbrev tbX2_layStep_1 : List (Nat × Instr × Nat) := [(68, .aload_n 1, 1), (69, .iload 4, 2), (71, .iconst 1, 1), (72, .iadd, 1), (73, .iconst 1, 1), (74, .iconst 0, 1), (75, .iconst 3, 1), (76, .iload_n 2, 1), (77, .iload 5, 2), (79, .invokevirtual 50, 3), (82, .goto 49, 3), (85, .aload_n 0, 1), (86, .iload 4, 2), (88, .iconst 1, 1), (89, .iadd, 1), (90, .putfield 34, 3), (93, .aload_n 0, 1), (94, .aload_n 0, 1), (95, .getfield 30, 3), (98, .iconst 1, 1), (99, .isub, 1), (100, .putfield 37, 3), (103, .aload_n 0, 1), (104, .aload_n 1, 1), (105, .iload 4, 2), (107, .iconst 1, 1), (108, .iadd, 1), (109, .iconst 1, 1), (110, .iconst 3, 1), (111, .iconst 1, 1), (112, .iload_n 2, 1), (113, .iload 5, 2), (115, .invokevirtual 50, 3), (118, .aload_n 0, 1), (119, .aload_n 1, 1), (120, .iload 4, 2), (122, .iconst (-1), 1), (123, .iconst 0, 1), (124, .iconst 3, 1), (125, .iload_n 2, 1)]
theorem tbX2_layStep_1_k : dc_T cX2_layStep tbX2_layStep_1 = true := by decide +kernel
abbrev tbX2_layStep_2 : List (Nat × Instr × Nat) := [(126, .iload 5, 2), (128, .invokevirtual 50, 3), (131, .return_, 1)]
theorem tbX2_layStep_2_k : dc_T cX2_layStep tbX2_layStep_2 = true := by decide +kernel
abbrev tbX2_walk_0 : List (Nat × Instr × Nat) := [(0, .iconst 0, 1), (1, .istore 8, 2), (3, .iconst 0, 1), (4, .istore 9, 2), (6, .iload 4, 2), (8, .istore 10, 2), (10, .iload_n 2, 1), (11, .istore 11, 2), (13, .iload 11, 2), (15, .ifCond .lt 266, 3), (18, .iload 11, 2), (20, .aload_n 0, 1), (21, .getfield 30, 3), (24, .if_icmp .ge 257, 3), (27, .iload 11, 2), (29, .bipush 9, 2), (31, .if_icmp .ge 250, 3), (34, .aload_n 1, 1), (35, .getfield 58, 3), (38, .iload 11, 2), (40, .iaload, 1), (41, .istore 12, 2), (43, .aload_n 0, 1), (44, .getfield 9, 3), (47, .iload 11, 2), (49, .iload 8, 2), (51, .iload 10, 2), (53, .iconst 1, 1), (54, .if_icmp .ne 8, 3), (57, .iload 12, 2), (59, .goto 16, 3), (62, .iload 10, 2), (64, .iconst 3, 1), (65, .if_icmp .ne 9, 3), (68, .iload 12, 2), (70, .ineg, 1), (71, .goto 4, 3), (74, .iconst 0, 1), (75, .iadd, 1), (76, .iastore, 1)]
theorem tbX2_walk_0_k : dc_T cX2_walk tbX2_walk_0 = true := by decide +kernel
abbrev tbX2_walk_1 : List (Nat × Instr × Nat) := [(77, .aload_n 0, 1), (78, .getfield 15, 3), (81, .iload 11, 2), (83, .iload 9, 2), (85, .iload 10, 2), (87, .ifCond .ne 8, 3), (90, .iload 12, 2), (92, .goto 16, 3), (95, .iload 10, 2), (97, .iconst 2, 1), (98, .if_icmp .ne 9, 3), (101, .iload 12, 2), (103, .ineg, 1), (104, .goto 4, 3), (107, .iconst 0, 1), (108, .iadd, 1), (109, .iastore, 1), (110, .aload_n 0, 1), (111, .getfield 18, 3), (114, .iload 11, 2), (116, .iload 8, 2), (118, .aload_n 0, 1), (119, .getfield 9, 3), (122, .iload 11, 2), (124, .iaload, 1), (125, .invokestatic 61, 3), (128, .iastore, 1), (129, .aload_n 0, 1), (130, .getfield 21, 3), (133, .iload 11, 2), (135, .iload 8, 2), (137, .aload_n 0, 1), (138, .getfield 9, 3), (141, .iload 11, 2), (143, .iaload, 1), (144, .invokestatic 67, 3), (147, .iastore, 1), (148, .aload_n 0, 1), (149, .getfield 24, 3), (152, .iload 11, 2)]
theorem tbX2_walk_1_k : dc_T cX2_walk tbX2_walk_1 = true := by decide +kernel
abbrev tbX2_walk_2 : List (Nat × Instr × Nat) := [(154, .iload 9, 2), (156, .aload_n 0, 1), (157, .getfield 15, 3), (160, .iload 11, 2), (162, .iaload, 1), (163, .invokestatic 61, 3), (166, .iastore, 1), (167, .aload_n 0, 1), (168, .getfield 27, 3), (171, .iload 11, 2), (173, .iload 9, 2), (175, .aload_n 0, 1), (176, .getfield 15, 3), (179, .iload 11, 2), (181, .iaload, 1), (182, .invokestatic 67, 3), (185, .iastore, 1), (186, .aload_n 0, 1), (187, .getfield 9, 3), (190, .iload 11, 2), (192, .iaload, 1), (193, .istore 8, 2), (195, .aload_n 0, 1), (196, .getfield 15, 3), (199, .iload 11, 2), (201, .iaload, 1), (202, .istore 9, 2), (204, .iload_n 3, 1), (205, .ifCond .le 8, 3), (208, .iload 11, 2), (210, .goto 7, 3), (213, .iload 11, 2), (215, .iconst 1, 1), (216, .isub, 1), (217, .istore 13, 2), (219, .iload 13, 2), (221, .ifCond .lt 51, 3), (224, .iload 6, 2), (226, .iload 13, 2), (228, .ishr, 1)]
theorem tbX2_walk_2_k : dc_T cX2_walk tbX2_walk_2 = true := by decide +kernel
abbrev tbX2_walk_3 : List (Nat × Instr × Nat) := [(229, .iconst 1, 1), (230, .iand, 1), (231, .ifCond .eq 41, 3), (234, .iload 7, 2), (236, .iload 13, 2), (238, .ishr, 1), (239, .iconst 1, 1), (240, .iand, 1), (241, .ifCond .eq 7, 3), (244, .iconst 1, 1), (245, .goto 4, 3), (248, .iconst 0, 1), (249, .istore 14, 2), (251, .iload 10, 2), (253, .iload 14, 2), (255, .ifCond .eq 8, 3), (258, .iload 5, 2), (260, .goto 7, 3), (263, .iconst 4, 1), (264, .iload 5, 2), (266, .isub, 1), (267, .iadd, 1), (268, .iconst 3, 1), (269, .iand, 1), (270, .istore 10, 2), (272, .iload 11, 2), (274, .iload_n 3, 1), (275, .iadd, 1), (276, .istore 11, 2), (278, .goto (-265), 3), (281, .return_, 1)]
theorem tbX2_walk_3_k : dc_T cX2_walk tbX2_walk_3 = true := by decide +kernel
abbrev tbX2_isClamped : List (Nat × Instr × Nat) := [(0, .iload_n 1, 1), (1, .aload_n 0, 1), (2, .getfield 34, 3), (5, .if_icmp .lt 15, 3), (8, .iload_n 1, 1), (9, .aload_n 0, 1), (10, .getfield 37, 3), (13, .if_icmp .gt 7, 3), (16, .iconst 1, 1), (17, .goto 4, 3), (20, .iconst 0, 1), (21, .ireturn, 1)]
theorem tbX2_isClamped_k : dc_T cX2_isClamped tbX2_isClamped = true := by decide +kernel
abbrev tbX2_reachToBack : List (Nat × Instr × Nat) := [(0, .iconst 0, 1), (1, .istore_n 1, 1), (2, .iconst 0, 1), (3, .istore_n 2, 1), (4, .iload_n 2, 1), (5, .aload_n 0, 1), (6, .getfield 30, 3), (9, .if_icmp .ge 35, 3), (12, .iload_n 2, 1), (13, .bipush 9, 2), (15, .if_icmp .ge 29, 3), (18, .aload_n 0, 1), (19, .iload_n 2, 1), (20, .invokevirtual 70, 3), (23, .ifCond .eq 15, 3), (26, .iload_n 1, 1), (27, .aload_n 0, 1), (28, .getfield 9, 3), (31, .iload_n 2, 1), (32, .iaload, 1), (33, .ineg, 1), (34, .invokestatic 67, 3), (37, .istore_n 1, 1), (38, .iinc 2 1, 3), (41, .goto (-37), 3), (44, .iload_n 1, 1), (45, .ireturn, 1)]
theorem tbX2_reachToBack_k : dc_T cX2_reachToBack tbX2_reachToBack = true := by decide +kernel
abbrev tbX2_topOfFreeSide : List (Nat × Instr × Nat) := [(0, .iconst 0, 1), (1, .istore_n 1, 1), (2, .iconst 0, 1), (3, .istore_n 2, 1), (4, .iload_n 2, 1), (5, .aload_n 0, 1), (6, .getfield 30, 3), (9, .if_icmp .ge 34, 3), (12, .iload_n 2, 1), (13, .bipush 9, 2), (15, .if_icmp .ge 28, 3), (18, .aload_n 0, 1), (19, .iload_n 2, 1), (20, .invokevirtual 70, 3), (23, .ifCond .ne 14, 3), (26, .iload_n 1, 1), (27, .aload_n 0, 1), (28, .getfield 15, 3), (31, .iload_n 2, 1), (32, .iaload, 1), (33, .invokestatic 67, 3), (36, .istore_n 1, 1), (37, .iinc 2 1, 3), (40, .goto (-36), 3), (43, .iload_n 1, 1), (44, .ireturn, 1)]
theorem tbX2_topOfFreeSide_k : dc_T cX2_topOfFreeSide tbX2_topOfFreeSide = true := by decide +kernel
abbrev tbX2_extent : List (Nat × Instr × Nat) := [(0, .iconst 0, 1), (1, .istore_n 2, 1), (2, .iconst 0, 1), (3, .istore_n 3, 1), (4, .iconst 0, 1), (5, .istore 4, 2), (7, .iload 4, 2), (9, .iload_n 1, 1), (10, .if_icmp .ge 34, 3), (13, .iload 4, 2), (15, .aload_n 0, 1), (16, .arraylength, 1), (17, .if_icmp .ge 27, 3), (20, .iload_n 2, 1), (21, .aload_n 0, 1), (22, .iload 4, 2), (24, .iaload, 1), (25, .invokestatic 61, 3), (28, .istore_n 2, 1), (29, .iload_n 3, 1), (30, .aload_n 0, 1), (31, .iload 4, 2), (33, .iaload, 1), (34, .invokestatic 67, 3), (37, .istore_n 3, 1), (38, .iinc 4 1, 3), (41, .goto (-34), 3), (44, .iload_n 3, 1), (45, .iload_n 2, 1), (46, .isub, 1), (47, .ireturn, 1)]
theorem tbX2_extent_k : dc_T cX2_extent tbX2_extent = true := by decide +kernel
abbrev tbX2_legsHitting_0 : List (Nat × Instr × Nat) := [(0, .aload_n 1, 1), (1, .getfield 73, 3), (4, .astore_n 2, 1), (5, .iconst 0, 1), (6, .istore_n 3, 1), (7, .iconst 0, 1), (8, .istore 4, 2), (10, .iload 4, 2), (12, .aload_n 0, 1), (13, .getfield 30, 3), (16, .if_icmp .ge 98, 3), (19, .iload 4, 2), (21, .bipush 9, 2), (23, .if_icmp .ge 91, 3), (26, .aload_n 0, 1), (27, .iload 4, 2), (29, .aload_n 2, 1), (30, .iconst 0, 1), (31, .iaload, 1), (32, .ineg, 1), (33, .iconst 0, 1), (34, .iconst 0, 1), (35, .aload_n 2, 1), (36, .iconst 1, 1), (37, .iaload, 1), (38, .invokevirtual 76, 3), (41, .ifCond .ne 48, 3), (44, .aload_n 0, 1), (45, .iload 4, 2), (47, .aload_n 2, 1), (48, .iconst 2, 1), (49, .iaload, 1), (50, .ineg, 1), (51, .iconst 0, 1), (52, .aload_n 2, 1), (53, .iconst 3, 1), (54, .iaload, 1), (55, .ineg, 1), (56, .iconst 0, 1), (57, .invokevirtual 76, 3)]
theorem tbX2_legsHitting_0_k : dc_T cX2_legsHitting tbX2_legsHitting_0 = true := by decide +kernel
abbrev tbX2_legsHitting_1 : List (Nat × Instr × Nat) := [(60, .ifCond .ne 29, 3), (63, .aload_n 0, 1), (64, .iload 4, 2), (66, .invokevirtual 70, 3), (69, .ifCond .ne 24, 3), (72, .aload_n 0, 1), (73, .iload 4, 2), (75, .iconst 0, 1), (76, .aload_n 2, 1), (77, .iconst 4, 1), (78, .iaload, 1), (79, .iconst 0, 1), (80, .aload_n 2, 1), (81, .iconst 5, 1), (82, .iaload, 1), (83, .invokevirtual 76, 3), (86, .ifCond .eq 7, 3), (89, .iconst 1, 1), (90, .goto 4, 3), (93, .iconst 0, 1), (94, .istore 5, 2), (96, .iload 5, 2), (98, .ifCond .eq 10, 3), (101, .iload_n 3, 1), (102, .iconst 1, 1), (103, .iload 4, 2), (105, .ishl, 1), (106, .ior, 1), (107, .istore_n 3, 1), (108, .iinc 4 1, 3), (111, .goto (-101), 3), (114, .iload_n 3, 1), (115, .ireturn, 1)]
theorem tbX2_legsHitting_1_k : dc_T cX2_legsHitting tbX2_legsHitting_1 = true := by decide +kernel
abbrev tbX2_enters : List (Nat × Instr × Nat) := [(0, .iload_n 2, 1), (1, .iload_n 3, 1), (2, .if_icmp .ge 10, 3), (5, .iload 4, 2), (7, .iload 5, 2), (9, .if_icmp .lt 5, 3), (12, .iconst 0, 1), (13, .ireturn, 1), (14, .aload_n 0, 1), (15, .getfield 18, 3), (18, .iload_n 1, 1), (19, .iaload, 1), (20, .iload_n 3, 1), (21, .if_icmp .ge 39, 3), (24, .aload_n 0, 1), (25, .getfield 21, 3), (28, .iload_n 1, 1), (29, .iaload, 1), (30, .iload_n 2, 1), (31, .if_icmp .le 29, 3), (34, .aload_n 0, 1), (35, .getfield 24, 3), (38, .iload_n 1, 1), (39, .iaload, 1), (40, .iload 5, 2), (42, .if_icmp .ge 18, 3), (45, .aload_n 0, 1), (46, .getfield 27, 3), (49, .iload_n 1, 1), (50, .iaload, 1), (51, .iload 4, 2), (53, .if_icmp .le 7, 3), (56, .iconst 1, 1), (57, .goto 4, 3), (60, .iconst 0, 1), (61, .ireturn, 1)]
theorem tbX2_enters_k : dc_T cX2_enters tbX2_enters = true := by decide +kernel
abbrev tbX2_crossesItself : List (Nat × Instr × Nat) := [(0, .iconst 2, 1), (1, .istore_n 1, 1), (2, .iload_n 1, 1), (3, .aload_n 0, 1), (4, .getfield 30, 3), (7, .if_icmp .ge 41, 3), (10, .iload_n 1, 1), (11, .bipush 9, 2), (13, .if_icmp .ge 35, 3), (16, .iconst 0, 1), (17, .istore_n 2, 1), (18, .iload_n 2, 1), (19, .iload_n 1, 1), (20, .iconst 1, 1), (21, .isub, 1), (22, .if_icmp .ge 20, 3), (25, .aload_n 0, 1), (26, .iload_n 1, 1), (27, .iload_n 2, 1), (28, .invokevirtual 80, 3), (31, .ifCond .eq 5, 3), (34, .iconst 1, 1), (35, .ireturn, 1), (36, .iinc 2 1, 3), (39, .goto (-21), 3), (42, .iinc 1 1, 3), (45, .goto (-43), 3), (48, .iconst 0, 1), (49, .ireturn, 1)]
theorem tbX2_crossesItself_k : dc_T cX2_crossesItself tbX2_crossesItself = true := by decide +kernel
abbrev tbX2_touch : List (Nat × Instr × Nat) := [(0, .aload_n 0, 1), (1, .getfield 18, 3), (4, .iload_n 1, 1), (5, .iaload, 1), (6, .aload_n 0, 1), (7, .getfield 21, 3), (10, .iload_n 2, 1), (11, .iaload, 1), (12, .if_icmp .gt 52, 3), (15, .aload_n 0, 1), (16, .getfield 18, 3), (19, .iload_n 2, 1), (20, .iaload, 1), (21, .aload_n 0, 1), (22, .getfield 21, 3), (25, .iload_n 1, 1), (26, .iaload, 1), (27, .if_icmp .gt 37, 3), (30, .aload_n 0, 1), (31, .getfield 24, 3), (34, .iload_n 1, 1), (35, .iaload, 1), (36, .aload_n 0, 1), (37, .getfield 27, 3), (40, .iload_n 2, 1), (41, .iaload, 1), (42, .if_icmp .gt 22, 3), (45, .aload_n 0, 1), (46, .getfield 24, 3), (49, .iload_n 2, 1), (50, .iaload, 1), (51, .aload_n 0, 1), (52, .getfield 27, 3), (55, .iload_n 1, 1), (56, .iaload, 1), (57, .if_icmp .gt 7, 3), (60, .iconst 1, 1), (61, .goto 4, 3), (64, .iconst 0, 1), (65, .ireturn, 1)]
theorem tbX2_touch_k : dc_T cX2_touch tbX2_touch = true := by decide +kernel
abbrev tbX2_reasonFor_0 : List (Nat × Instr × Nat) := [(0, .iload_n 3, 1), (1, .iconst 1, 1), (2, .ishr, 1), (3, .istore 4, 2), (5, .iload_n 3, 1), (6, .iconst 1, 1), (7, .iand, 1), (8, .ifCond .ne 10, 3), (11, .iload 4, 2), (13, .iconst 1, 1), (14, .iadd, 1), (15, .goto 5, 3), (18, .iload 4, 2), (20, .istore 5, 2), (22, .iload_n 2, 1), (23, .iload 4, 2), (25, .ishr, 1), (26, .iconst 1, 1), (27, .iand, 1), (28, .ifCond .eq 5, 3), (31, .iconst 1, 1), (32, .ireturn, 1), (33, .iload 5, 2), (35, .ifCond .lt 27, 3), (38, .iload 5, 2), (40, .bipush 9, 2), (42, .if_icmp .ge 20, 3), (45, .aload_n 1, 1), (46, .getfield 58, 3), (49, .iload 5, 2), (51, .iaload, 1), (52, .aload_n 1, 1), (53, .getfield 73, 3), (56, .bipush 8, 2), (58, .iaload, 1), (59, .if_icmp .ge 5, 3), (62, .iconst 2, 1), (63, .ireturn, 1), (64, .aload_n 0, 1), (65, .aload_n 1, 1)]
theorem tbX2_reasonFor_0_k : dc_T cX2_reasonFor tbX2_reasonFor_0 = true := by decide +kernel
abbrev tbX2_reasonFor_1 : List (Nat × Instr × Nat) := [(66, .iload_n 2, 1), (67, .iload_n 3, 1), (68, .invokevirtual 84, 3), (71, .aload_n 0, 1), (72, .invokevirtual 88, 3), (75, .istore 6, 2), (77, .iload 6, 2), (79, .aload_n 1, 1), (80, .getfield 73, 3), (83, .bipush 6, 2), (85, .iaload, 1), (86, .if_icmp .lt 15, 3), (89, .iload 6, 2), (91, .aload_n 1, 1), (92, .getfield 73, 3), (95, .bipush 7, 2), (97, .iaload, 1), (98, .if_icmp .le 5, 3), (101, .iconst 3, 1), (102, .ireturn, 1), (103, .aload_n 0, 1), (104, .aload_n 1, 1), (105, .invokevirtual 91, 3), (108, .istore 7, 2), (110, .iconst 2, 1), (111, .aload_n 0, 1), (112, .getfield 37, 3), (115, .ishl, 1), (116, .iconst 1, 1), (117, .aload_n 0, 1), (118, .getfield 34, 3), (121, .ishl, 1), (122, .isub, 1), (123, .istore 8, 2), (125, .iload 7, 2), (127, .iload 8, 2), (129, .iand, 1), (130, .ifCond .eq 5, 3), (133, .iconst 4, 1), (134, .ireturn, 1)]
theorem tbX2_reasonFor_1_k : dc_T cX2_reasonFor tbX2_reasonFor_1 = true := by decide +kernel
abbrev tbX2_reasonFor_2 : List (Nat × Instr × Nat) := [(135, .iload 7, 2), (137, .ifCond .eq 5, 3), (140, .iconst 5, 1), (141, .ireturn, 1), (142, .aload_n 0, 1), (143, .invokevirtual 95, 3), (146, .ifCond .eq 8, 3), (149, .bipush 6, 2), (151, .goto 4, 3), (154, .iconst 0, 1), (155, .ireturn, 1)]
theorem tbX2_reasonFor_2_k : dc_T cX2_reasonFor tbX2_reasonFor_2 = true := by decide +kernel
abbrev tbX2_possibleSteps : List (Nat × Instr × Nat) := [(0, .iconst 0, 1), (1, .istore_n 3, 1), (2, .iconst 0, 1), (3, .istore 4, 2), (5, .iload 4, 2), (7, .iconst 2, 1), (8, .aload_n 1, 1), (9, .invokevirtual 99, 3), (12, .imul, 1), (13, .if_icmp .ge 27, 3), (16, .aload_n 0, 1), (17, .aload_n 1, 1), (18, .iload_n 2, 1), (19, .iload 4, 2), (21, .invokevirtual 102, 3), (24, .ifCond .ne 10, 3), (27, .iload_n 3, 1), (28, .iconst 1, 1), (29, .iload 4, 2), (31, .ishl, 1), (32, .ior, 1), (33, .istore_n 3, 1), (34, .iinc 4 1, 3), (37, .goto (-32), 3), (40, .iload_n 3, 1), (41, .ireturn, 1)]
theorem tbX2_possibleSteps_k : dc_T cX2_possibleSteps tbX2_possibleSteps = true := by decide +kernel
theorem dX3_init_17 : decode cX3_init 17 = .ok (.newarray .int, 2) := by decide +kernel
theorem dX3_init_58 : decode cX3_init 58 = .ok (.newarray .int, 2) := by decide +kernel
theorem dX3_init_67 : decode cX3_init 67 = .ok (.newarray .boolean, 2) := by decide +kernel
theorem dX3_init_76 : decode cX3_init 76 = .ok (.newarray .long, 2) := by decide +kernel
theorem dX3_init_85 : decode cX3_init 85 = .ok (.newarray .int, 2) := by decide +kernel
theorem dX3_init_94 : decode cX3_init 94 = .ok (.newarray .int, 2) := by decide +kernel
theorem dX3_init_103 : decode cX3_init 103 = .ok (.newarray .int, 2) := by decide +kernel
abbrev tbX3_init_0 : List (Nat × Instr × Nat) := [(0, .aload_n 0, 1), (1, .invokespecial 3, 3), (4, .aload_n 0, 1), (5, .iconst (-1), 1), (6, .putfield 9, 3), (9, .aload_n 0, 1), (10, .iconst (-1), 1), (11, .putfield 15, 3), (14, .aload_n 0, 1), (15, .bipush 8, 2), (19, .putfield 18, 3), (22, .aload_n 0, 1), (23, .iconst (-1), 1), (24, .putfield 22, 3), (27, .aload_n 0, 1), (28, .new 25, 3), (31, .dup, 1), (32, .invokespecial 27, 3), (35, .putfield 28, 3), (38, .aload_n 0, 1), (39, .new 32, 3), (42, .dup, 1), (43, .invokespecial 34, 3), (46, .putfield 35, 3), (49, .aload_n 0, 1), (50, .iconst 0, 1), (51, .putfield 39, 3), (54, .aload_n 0, 1), (55, .sipush 256, 3), (60, .putfield 43, 3), (63, .aload_n 0, 1), (64, .sipush 256, 3), (69, .putfield 46, 3), (72, .aload_n 0, 1), (73, .sipush 256, 3), (78, .putfield 50, 3), (81, .aload_n 0, 1), (82, .sipush 4096, 3), (87, .putfield 54, 3), (90, .aload_n 0, 1)]
theorem tbX3_init_0_k : dc_T cX3_init tbX3_init_0 = true := by decide +kernel
abbrev tbX3_init_1 : List (Nat × Instr × Nat) := [(91, .sipush 4096, 3), (96, .putfield 57, 3), (99, .aload_n 0, 1), (100, .sipush 4096, 3), (105, .putfield 60, 3), (108, .aload_n 0, 1), (109, .invokevirtual 63, 3), (112, .return_, 1)]
theorem tbX3_init_1_k : dc_T cX3_init tbX3_init_1 = true := by decide +kernel
abbrev tbX3_prepare : List (Nat × Instr × Nat) := [(0, .aload_n 0, 1), (1, .getfield 39, 3), (4, .ifCond .eq 26, 3), (7, .aload_n 1, 1), (8, .aload_n 0, 1), (9, .getfield 35, 3), (12, .invokevirtual 66, 3), (15, .ifCond .eq 15, 3), (18, .aload_n 1, 1), (19, .aload_n 0, 1), (20, .getfield 35, 3), (23, .invokevirtual 70, 3), (26, .ifCond .eq 4, 3), (29, .return_, 1), (30, .aload_n 0, 1), (31, .aload_n 1, 1), (32, .invokevirtual 73, 3), (35, .aload_n 0, 1), (36, .aload_n 1, 1), (37, .invokevirtual 77, 3), (40, .aload_n 0, 1), (41, .aload_n 1, 1), (42, .invokevirtual 80, 3), (45, .aload_n 0, 1), (46, .aload_n 1, 1), (47, .invokevirtual 83, 3), (50, .aload_n 0, 1), (51, .iconst 1, 1), (52, .putfield 39, 3), (55, .return_, 1)]
theorem tbX3_prepare_k : dc_T cX3_prepare tbX3_prepare = true := by decide +kernel
abbrev tbX3_reachesAll : List (Nat × Instr × Nat) := [(0, .aload_n 0, 1), (1, .aload_n 1, 1), (2, .invokevirtual 73, 3), (5, .aload_n 0, 1), (6, .getfield 46, 3), (9, .aload_n 1, 1), (10, .invokevirtual 86, 3), (13, .baload, 1), (14, .ireturn, 1)]
theorem tbX3_reachesAll_k : dc_T cX3_reachesAll tbX3_reachesAll = true := by decide +kernel
abbrev tbX3_ordersFrom : List (Nat × Instr × Nat) := [(0, .iload_n 1, 1), (1, .ifCond .lt 23, 3), (4, .iload_n 1, 1), (5, .sipush 256, 3), (8, .if_icmp .ge 16, 3), (11, .aload_n 0, 1), (12, .getfield 46, 3), (15, .iload_n 1, 1), (16, .baload, 1), (17, .ifCond .eq 7, 3), (20, .iconst 1, 1), (21, .goto 4, 3), (24, .iconst 0, 1), (25, .istore_n 2, 1), (26, .iload_n 2, 1), (27, .ifCond .eq 12, 3), (30, .aload_n 0, 1), (31, .getfield 50, 3), (34, .iload_n 1, 1), (35, .laload, 1), (36, .goto 4, 3), (39, .lconst 0, 1), (40, .lreturn, 1)]
theorem tbX3_ordersFrom_k : dc_T cX3_ordersFrom tbX3_ordersFrom = true := by decide +kernel
abbrev tbX3_stepsAtTheEnd_0 : List (Nat × Instr × Nat) := [(0, .aload_n 1, 1), (1, .invokevirtual 86, 3), (4, .istore_n 2, 1), (5, .iconst 0, 1), (6, .istore_n 3, 1), (7, .iconst 0, 1), (8, .istore 4, 2), (10, .iload 4, 2), (12, .aload_n 1, 1), (13, .invokevirtual 90, 3), (16, .if_icmp .ge 58, 3), (19, .iload 4, 2), (21, .bipush 8, 2), (23, .if_icmp .ge 51, 3), (26, .iload_n 2, 1), (27, .iconst 1, 1), (28, .iload 4, 2), (30, .ishl, 1), (31, .iconst (-1), 1), (32, .ixor, 1), (33, .iand, 1), (34, .istore 5, 2), (36, .aload_n 1, 1), (37, .getfield 93, 3), (40, .iload 4, 2), (42, .ishr, 1), (43, .iconst 1, 1), (44, .iand, 1), (45, .ifCond .ne 23, 3), (48, .aload_n 0, 1), (49, .getfield 46, 3), (52, .iload 5, 2), (54, .baload, 1), (55, .ifCond .eq 13, 3), (58, .iload_n 3, 1), (59, .aload_n 0, 1), (60, .getfield 43, 3), (63, .iload 5, 2), (65, .iaload, 1), (66, .ior, 1)]
theorem tbX3_stepsAtTheEnd_0_k : dc_T cX3_stepsAtTheEnd tbX3_stepsAtTheEnd_0 = true := by decide +kernel
abbrev tbX3_stepsAtTheEnd_1 : List (Nat × Instr × Nat) := [(67, .istore_n 3, 1), (68, .iinc 4 1, 3), (71, .goto (-61), 3), (74, .iload_n 3, 1), (75, .ireturn, 1)]
theorem tbX3_stepsAtTheEnd_1_k : dc_T cX3_stepsAtTheEnd tbX3_stepsAtTheEnd_1 = true := by decide +kernel
abbrev tbX3_mostBendsFrom : List (Nat × Instr × Nat) := [(0, .iconst 0, 1), (1, .istore_n 2, 1), (2, .iconst 0, 1), (3, .istore_n 3, 1), (4, .iload_n 3, 1), (5, .sipush 256, 3), (8, .if_icmp .ge 27, 3), (11, .aload_n 0, 1), (12, .getfield 46, 3), (15, .iload_n 3, 1), (16, .baload, 1), (17, .ifCond .eq 12, 3), (20, .iload_n 2, 1), (21, .iload_n 3, 1), (22, .invokestatic 96, 3), (25, .invokestatic 102, 3), (28, .istore_n 2, 1), (29, .iinc 3 1, 3), (32, .goto (-28), 3), (35, .iload_n 2, 1), (36, .aload_n 1, 1), (37, .getfield 93, 3), (40, .invokestatic 96, 3), (43, .isub, 1), (44, .ireturn, 1)]
theorem tbX3_mostBendsFrom_k : dc_T cX3_mostBendsFrom tbX3_mostBendsFrom = true := by decide +kernel
abbrev tbX3_forgetSteps : List (Nat × Instr × Nat) := [(0, .iconst 0, 1), (1, .istore_n 1, 1), (2, .iload_n 1, 1), (3, .sipush 256, 3), (6, .if_icmp .ge 16, 3), (9, .aload_n 0, 1), (10, .getfield 43, 3), (13, .iload_n 1, 1), (14, .iconst (-1), 1), (15, .iastore, 1), (16, .iinc 1 1, 3), (19, .goto (-17), 3), (22, .return_, 1)]
theorem tbX3_forgetSteps_k : dc_T cX3_forgetSteps tbX3_forgetSteps = true := by decide +kernel
abbrev tbX3_reachSets_0 : List (Nat × Instr × Nat) := [(0, .aload_n 1, 1), (1, .aload_n 0, 1), (2, .getfield 35, 3), (5, .invokevirtual 66, 3), (8, .ifCond .ne 7, 3), (11, .aload_n 0, 1), (12, .invokevirtual 63, 3), (15, .aload_n 0, 1), (16, .getfield 35, 3), (19, .aload_n 1, 1), (20, .invokevirtual 108, 3), (23, .aload_n 0, 1), (24, .iconst 0, 1), (25, .putfield 39, 3), (28, .iconst 0, 1), (29, .istore_n 2, 1), (30, .iload_n 2, 1), (31, .sipush 256, 3), (34, .if_icmp .ge 28, 3), (37, .aload_n 0, 1), (38, .getfield 46, 3), (41, .iload_n 2, 1), (42, .iload_n 2, 1), (43, .aload_n 1, 1), (44, .getfield 93, 3), (47, .if_icmp .ne 7, 3), (50, .iconst 1, 1), (51, .goto 4, 3), (54, .iconst 0, 1), (55, .bastore, 1), (56, .iinc 2 1, 3), (59, .goto (-29), 3), (62, .aload_n 1, 1), (63, .getfield 93, 3), (66, .istore_n 2, 1), (67, .iload_n 2, 1), (68, .sipush 256, 3), (71, .if_icmp .ge 83, 3), (74, .aload_n 0, 1), (75, .getfield 46, 3)]
theorem tbX3_reachSets_0_k : dc_T cX3_reachSets tbX3_reachSets_0 = true := by decide +kernel
abbrev tbX3_reachSets_1 : List (Nat × Instr × Nat) := [(78, .iload_n 2, 1), (79, .baload, 1), (80, .ifCond .eq 25, 3), (83, .aload_n 0, 1), (84, .getfield 43, 3), (87, .iload_n 2, 1), (88, .iaload, 1), (89, .iconst (-1), 1), (90, .if_icmp .ne 15, 3), (93, .aload_n 0, 1), (94, .getfield 43, 3), (97, .iload_n 2, 1), (98, .aload_n 0, 1), (99, .aload_n 1, 1), (100, .iload_n 2, 1), (101, .invokevirtual 111, 3), (104, .iastore, 1), (105, .iconst 0, 1), (106, .istore_n 3, 1), (107, .iload_n 3, 1), (108, .bipush 16, 2), (110, .if_icmp .ge 38, 3), (113, .aload_n 0, 1), (114, .getfield 46, 3), (117, .iload_n 2, 1), (118, .baload, 1), (119, .ifCond .eq 23, 3), (122, .aload_n 0, 1), (123, .iload_n 2, 1), (124, .iload_n 3, 1), (125, .invokevirtual 115, 3), (128, .ifCond .eq 14, 3), (131, .aload_n 0, 1), (132, .getfield 46, 3), (135, .iload_n 2, 1), (136, .iload_n 3, 1), (137, .invokestatic 119, 3), (140, .iconst 1, 1), (141, .bastore, 1), (142, .iinc 3 1, 3)]
theorem tbX3_reachSets_1_k : dc_T cX3_reachSets tbX3_reachSets_1 = true := by decide +kernel
abbrev tbX3_reachSets_2 : List (Nat × Instr × Nat) := [(145, .goto (-38), 3), (148, .iinc 2 1, 3), (151, .goto (-84), 3), (154, .return_, 1)]
theorem tbX3_reachSets_2_k : dc_T cX3_reachSets tbX3_reachSets_2 = true := by decide +kernel
abbrev tbX3_findSteps_0 : List (Nat × Instr × Nat) := [(0, .iconst 0, 1), (1, .istore_n 3, 1), (2, .iconst 0, 1), (3, .istore 4, 2), (5, .iload 4, 2), (7, .iconst 2, 1), (8, .aload_n 1, 1), (9, .invokevirtual 90, 3), (12, .imul, 1), (13, .if_icmp .ge 56, 3), (16, .iload 4, 2), (18, .bipush 16, 2), (20, .if_icmp .ge 49, 3), (23, .aload_n 0, 1), (24, .getfield 28, 3), (27, .aload_n 1, 1), (28, .iload_n 2, 1), (29, .iload 4, 2), (31, .invokevirtual 122, 3), (34, .ifCond .ne 29, 3), (37, .iload_n 3, 1), (38, .iconst 1, 1), (39, .iload 4, 2), (41, .ishl, 1), (42, .ior, 1), (43, .istore_n 3, 1), (44, .aload_n 0, 1), (45, .getfield 54, 3), (48, .iload_n 2, 1), (49, .bipush 16, 2), (51, .imul, 1), (52, .iload 4, 2), (54, .iadd, 1), (55, .aload_n 0, 1), (56, .getfield 28, 3), (59, .invokevirtual 126, 3), (62, .iastore, 1), (63, .iinc 4 1, 3), (66, .goto (-61), 3), (69, .iload_n 3, 1)]
theorem tbX3_findSteps_0_k : dc_T cX3_findSteps tbX3_findSteps_0 = true := by decide +kernel
abbrev tbX3_findSteps_1 : List (Nat × Instr × Nat) := [(70, .ireturn, 1)]
theorem tbX3_findSteps_1_k : dc_T cX3_findSteps tbX3_findSteps_1 = true := by decide +kernel
abbrev tbX3_isOpen : List (Nat × Instr × Nat) := [(0, .aload_n 0, 1), (1, .getfield 43, 3), (4, .iload_n 1, 1), (5, .iaload, 1), (6, .iload_n 2, 1), (7, .ishr, 1), (8, .iconst 1, 1), (9, .iand, 1), (10, .ifCond .eq 7, 3), (13, .iconst 1, 1), (14, .goto 4, 3), (17, .iconst 0, 1), (18, .ireturn, 1)]
theorem tbX3_isOpen_k : dc_T cX3_isOpen tbX3_isOpen = true := by decide +kernel
abbrev tbX3_setBehind : List (Nat × Instr × Nat) := [(0, .iload_n 0, 1), (1, .iconst 1, 1), (2, .iload_n 1, 1), (3, .iconst 1, 1), (4, .ishr, 1), (5, .ishl, 1), (6, .ior, 1), (7, .ireturn, 1)]
theorem tbX3_setBehind_k : dc_T cX3_setBehind tbX3_setBehind = true := by decide +kernel
abbrev tbX3_countOrders_0 : List (Nat × Instr × Nat) := [(0, .aload_n 1, 1), (1, .invokevirtual 86, 3), (4, .istore_n 2, 1), (5, .sipush 255, 3), (8, .istore_n 3, 1), (9, .iload_n 3, 1), (10, .ifCond .lt 80, 3), (13, .aload_n 0, 1), (14, .getfield 50, 3), (17, .iload_n 3, 1), (18, .iload_n 3, 1), (19, .iload_n 2, 1), (20, .if_icmp .ne 7, 3), (23, .lconst 1, 1), (24, .goto 4, 3), (27, .lconst 0, 1), (28, .lastore, 1), (29, .iconst 0, 1), (30, .istore 4, 2), (32, .iload 4, 2), (34, .bipush 16, 2), (36, .if_icmp .ge 48, 3), (39, .aload_n 0, 1), (40, .getfield 46, 3), (43, .iload_n 3, 1), (44, .baload, 1), (45, .ifCond .eq 33, 3), (48, .aload_n 0, 1), (49, .iload_n 3, 1), (50, .iload 4, 2), (52, .invokevirtual 115, 3), (55, .ifCond .eq 23, 3), (58, .aload_n 0, 1), (59, .getfield 50, 3), (62, .iload_n 3, 1), (63, .dup2, 1), (64, .laload, 1), (65, .aload_n 0, 1), (66, .getfield 50, 3), (69, .iload_n 3, 1)]
theorem tbX3_countOrders_0_k : dc_T cX3_countOrders tbX3_countOrders_0 = true := by decide +kernel
abbrev tbX3_countOrders_1 : List (Nat × Instr × Nat) := [(70, .iload 4, 2), (72, .invokestatic 119, 3), (75, .laload, 1), (76, .ladd, 1), (77, .lastore, 1), (78, .iinc 4 1, 3), (81, .goto (-49), 3), (84, .iinc 3 (-1), 3), (87, .goto (-78), 3), (90, .return_, 1)]
theorem tbX3_countOrders_1_k : dc_T cX3_countOrders tbX3_countOrders_1 = true := by decide +kernel
abbrev tbX3_reckonCosts_0 : List (Nat × Instr × Nat) := [(0, .sipush 255, 3), (3, .istore_n 2, 1), (4, .iload_n 2, 1), (5, .aload_n 1, 1), (6, .getfield 93, 3), (9, .if_icmp .le 24, 3), (12, .aload_n 0, 1), (13, .getfield 46, 3), (16, .iload_n 2, 1), (17, .baload, 1), (18, .ifCond .eq 9, 3), (21, .aload_n 0, 1), (22, .aload_n 1, 1), (23, .iload_n 2, 1), (24, .invokevirtual 129, 3), (27, .iinc 2 (-1), 3), (30, .goto (-26), 3), (33, .aload_n 0, 1), (34, .aload_n 0, 1), (35, .aload_n 1, 1), (36, .aload_n 1, 1), (37, .getfield 93, 3), (40, .aload_n 1, 1), (41, .invokevirtual 133, 3), (44, .aload_n 1, 1), (45, .invokevirtual 136, 3), (48, .iconst 1, 1), (49, .invokevirtual 139, 3), (52, .putfield 9, 3), (55, .aload_n 0, 1), (56, .aload_n 0, 1), (57, .aload_n 1, 1), (58, .aload_n 1, 1), (59, .getfield 93, 3), (62, .aload_n 1, 1), (63, .invokevirtual 133, 3), (66, .aload_n 1, 1), (67, .invokevirtual 136, 3), (70, .iconst 0, 1), (71, .invokevirtual 139, 3)]
theorem tbX3_reckonCosts_0_k : dc_T cX3_reckonCosts tbX3_reckonCosts_0 = true := by decide +kernel
abbrev tbX3_reckonCosts_1 : List (Nat × Instr × Nat) := [(74, .putfield 15, 3), (77, .return_, 1)]
theorem tbX3_reckonCosts_1_k : dc_T cX3_reckonCosts tbX3_reckonCosts_1 = true := by decide +kernel
abbrev tbX3_reckonCostsBehind_0 : List (Nat × Instr × Nat) := [(0, .iconst 0, 1), (1, .istore_n 3, 1), (2, .iload_n 3, 1), (3, .bipush 16, 2), (5, .if_icmp .ge 102, 3), (8, .iload_n 2, 1), (9, .iconst 1, 1), (10, .iload_n 3, 1), (11, .iconst 1, 1), (12, .ishr, 1), (13, .ishl, 1), (14, .iconst (-1), 1), (15, .ixor, 1), (16, .iand, 1), (17, .istore 4, 2), (19, .iload 4, 2), (21, .iload_n 2, 1), (22, .if_icmp .eq 79, 3), (25, .aload_n 0, 1), (26, .getfield 46, 3), (29, .iload 4, 2), (31, .baload, 1), (32, .ifCond .eq 69, 3), (35, .aload_n 0, 1), (36, .iload 4, 2), (38, .iload_n 3, 1), (39, .invokevirtual 115, 3), (42, .ifCond .eq 59, 3), (45, .aload_n 0, 1), (46, .getfield 54, 3), (49, .iload 4, 2), (51, .bipush 16, 2), (53, .imul, 1), (54, .iload_n 3, 1), (55, .iadd, 1), (56, .iaload, 1), (57, .istore 5, 2), (59, .aload_n 0, 1), (60, .getfield 57, 3), (63, .iload_n 2, 1)]
theorem tbX3_reckonCostsBehind_0_k : dc_T cX3_reckonCostsBehind tbX3_reckonCostsBehind_0 = true := by decide +kernel
abbrev tbX3_reckonCostsBehind_1 : List (Nat × Instr × Nat) := [(64, .bipush 16, 2), (66, .imul, 1), (67, .iload_n 3, 1), (68, .iadd, 1), (69, .aload_n 0, 1), (70, .aload_n 1, 1), (71, .iload_n 2, 1), (72, .iload_n 3, 1), (73, .iload 5, 2), (75, .iconst 1, 1), (76, .invokevirtual 139, 3), (79, .iastore, 1), (80, .aload_n 0, 1), (81, .getfield 60, 3), (84, .iload_n 2, 1), (85, .bipush 16, 2), (87, .imul, 1), (88, .iload_n 3, 1), (89, .iadd, 1), (90, .aload_n 0, 1), (91, .aload_n 1, 1), (92, .iload_n 2, 1), (93, .iload_n 3, 1), (94, .iload 5, 2), (96, .iconst 0, 1), (97, .invokevirtual 139, 3), (100, .iastore, 1), (101, .iinc 3 1, 3), (104, .goto (-102), 3), (107, .return_, 1)]
theorem tbX3_reckonCostsBehind_1_k : dc_T cX3_reckonCostsBehind tbX3_reckonCostsBehind_1 = true := by decide +kernel
abbrev tbX3_costOnward_0 : List (Nat × Instr × Nat) := [(0, .iload_n 2, 1), (1, .aload_n 1, 1), (2, .invokevirtual 86, 3), (5, .if_icmp .ne 5, 3), (8, .iconst 0, 1), (9, .ireturn, 1), (10, .iconst (-1), 1), (11, .istore 6, 2), (13, .iconst 0, 1), (14, .istore 7, 2), (16, .iload 7, 2), (18, .bipush 16, 2), (20, .if_icmp .ge 74, 3), (23, .aload_n 0, 1), (24, .aload_n 1, 1), (25, .iload_n 2, 1), (26, .iload_n 3, 1), (27, .iload 4, 2), (29, .iload 7, 2), (31, .iload 5, 2), (33, .invokevirtual 143, 3), (36, .istore 8, 2), (38, .iload 6, 2), (40, .iconst (-1), 1), (41, .if_icmp .eq 25, 3), (44, .iload 5, 2), (46, .ifCond .eq 13, 3), (49, .iload 8, 2), (51, .iload 6, 2), (53, .if_icmp .ge 17, 3), (56, .goto 10, 3), (59, .iload 8, 2), (61, .iload 6, 2), (63, .if_icmp .le 7, 3), (66, .iconst 1, 1), (67, .goto 4, 3), (70, .iconst 0, 1), (71, .istore 9, 2), (73, .iload 8, 2), (75, .iconst (-1), 1)]
theorem tbX3_costOnward_0_k : dc_T cX3_costOnward tbX3_costOnward_0 = true := by decide +kernel
abbrev tbX3_costOnward_1 : List (Nat × Instr × Nat) := [(76, .if_icmp .eq 12, 3), (79, .iload 9, 2), (81, .ifCond .eq 7, 3), (84, .iload 8, 2), (86, .istore 6, 2), (88, .iinc 7 1, 3), (91, .goto (-75), 3), (94, .iload 6, 2), (96, .ireturn, 1)]
theorem tbX3_costOnward_1_k : dc_T cX3_costOnward tbX3_costOnward_1 = true := by decide +kernel
abbrev tbX3_costThrough_0 : List (Nat × Instr × Nat) := [(0, .aload_n 0, 1), (1, .iload_n 2, 1), (2, .iload 5, 2), (4, .invokevirtual 115, 3), (7, .ifCond .ne 5, 3), (10, .iconst (-1), 1), (11, .ireturn, 1), (12, .iload_n 2, 1), (13, .iload 5, 2), (15, .invokestatic 119, 3), (18, .bipush 16, 2), (20, .imul, 1), (21, .iload 5, 2), (23, .iadd, 1), (24, .istore 7, 2), (26, .iload 6, 2), (28, .ifCond .eq 13, 3), (31, .aload_n 0, 1), (32, .getfield 57, 3), (35, .iload 7, 2), (37, .iaload, 1), (38, .goto 10, 3), (41, .aload_n 0, 1), (42, .getfield 60, 3), (45, .iload 7, 2), (47, .iaload, 1), (48, .istore 8, 2), (50, .iload 8, 2), (52, .iconst (-1), 1), (53, .if_icmp .ne 5, 3), (56, .iconst (-1), 1), (57, .ireturn, 1), (58, .iload 8, 2), (60, .aload_n 1, 1), (61, .iload_n 3, 1), (62, .iload 4, 2), (64, .iload 5, 2), (66, .aload_n 0, 1), (67, .getfield 54, 3), (70, .iload_n 2, 1)]
theorem tbX3_costThrough_0_k : dc_T cX3_costThrough tbX3_costThrough_0 = true := by decide +kernel
abbrev tbX3_costThrough_1 : List (Nat × Instr × Nat) := [(71, .bipush 16, 2), (73, .imul, 1), (74, .iload 5, 2), (76, .iadd, 1), (77, .iaload, 1), (78, .invokevirtual 147, 3), (81, .iadd, 1), (82, .ireturn, 1)]
theorem tbX3_costThrough_1_k : dc_T cX3_costThrough tbX3_costThrough_1 = true := by decide +kernel
abbrev tbX3_choosePlan_0 : List (Nat × Instr × Nat) := [(0, .aload_n 1, 1), (1, .getfield 93, 3), (4, .istore_n 2, 1), (5, .aload_n 1, 1), (6, .invokevirtual 133, 3), (9, .istore_n 3, 1), (10, .aload_n 1, 1), (11, .invokevirtual 136, 3), (14, .istore 4, 2), (16, .aload_n 0, 1), (17, .getfield 9, 3), (20, .istore 5, 2), (22, .aload_n 0, 1), (23, .iload 5, 2), (25, .iconst (-1), 1), (26, .if_icmp .ne 7, 3), (29, .iconst (-1), 1), (30, .goto 4, 3), (33, .iconst 0, 1), (34, .putfield 22, 3), (37, .iconst 0, 1), (38, .istore 6, 2), (40, .iload 6, 2), (42, .bipush 8, 2), (44, .if_icmp .ge 89, 3), (47, .iload 5, 2), (49, .iconst (-1), 1), (50, .if_icmp .eq 83, 3), (53, .aload_n 0, 1), (54, .aload_n 1, 1), (55, .iload_n 2, 1), (56, .iload_n 3, 1), (57, .iload 4, 2), (59, .iload 5, 2), (61, .invokevirtual 151, 3), (64, .istore 7, 2), (66, .iload 7, 2), (68, .iconst (-1), 1), (69, .if_icmp .eq 58, 3), (72, .aload_n 0, 1)]
theorem tbX3_choosePlan_0_k : dc_T cX3_choosePlan tbX3_choosePlan_0 = true := by decide +kernel
abbrev tbX3_choosePlan_1 : List (Nat × Instr × Nat) := [(73, .getfield 18, 3), (76, .iload 6, 2), (78, .iload 7, 2), (80, .iastore, 1), (81, .aload_n 0, 1), (82, .iload 6, 2), (84, .iconst 1, 1), (85, .iadd, 1), (86, .putfield 22, 3), (89, .iload 7, 2), (91, .istore_n 3, 1), (92, .aload_n 0, 1), (93, .getfield 54, 3), (96, .iload_n 2, 1), (97, .bipush 16, 2), (99, .imul, 1), (100, .iload 7, 2), (102, .iadd, 1), (103, .iaload, 1), (104, .istore 4, 2), (106, .iload_n 2, 1), (107, .iload 7, 2), (109, .invokestatic 119, 3), (112, .istore_n 2, 1), (113, .aload_n 0, 1), (114, .getfield 57, 3), (117, .iload_n 2, 1), (118, .bipush 16, 2), (120, .imul, 1), (121, .iload 7, 2), (123, .iadd, 1), (124, .iaload, 1), (125, .istore 5, 2), (127, .iinc 6 1, 3), (130, .goto (-90), 3), (133, .return_, 1)]
theorem tbX3_choosePlan_1_k : dc_T cX3_choosePlan tbX3_choosePlan_1 = true := by decide +kernel
abbrev tbX3_smallestStep : List (Nat × Instr × Nat) := [(0, .iconst 0, 1), (1, .istore 6, 2), (3, .iload 6, 2), (5, .bipush 16, 2), (7, .if_icmp .ge 29, 3), (10, .aload_n 0, 1), (11, .aload_n 1, 1), (12, .iload_n 2, 1), (13, .iload_n 3, 1), (14, .iload 4, 2), (16, .iload 6, 2), (18, .iconst 1, 1), (19, .invokevirtual 143, 3), (22, .iload 5, 2), (24, .if_icmp .ne 6, 3), (27, .iload 6, 2), (29, .ireturn, 1), (30, .iinc 6 1, 3), (33, .goto (-30), 3), (36, .iconst (-1), 1), (37, .ireturn, 1)]
theorem tbX3_smallestStep_k : dc_T cX3_smallestStep tbX3_smallestStep = true := by decide +kernel
theorem dX4_init_16 : decode cX4_init 16 = .ok (.newarray .byte, 2) := by decide +kernel
theorem dX4_init_48 : decode cX4_init 48 = .ok (.newarray .int, 2) := by decide +kernel
abbrev tbX4_init : List (Nat × Instr × Nat) := [(0, .aload_n 0, 1), (1, .invokespecial 3, 3), (4, .aload_n 0, 1), (5, .iconst 0, 1), (6, .putfield 9, 3), (9, .aload_n 0, 1), (10, .iconst (-1), 1), (11, .putfield 15, 3), (14, .aload_n 0, 1), (15, .iconst 0, 1), (18, .putfield 18, 3), (21, .aload_n 0, 1), (22, .iconst 0, 1), (23, .putfield 22, 3), (26, .aload_n 0, 1), (27, .iconst 0, 1), (28, .putfield 25, 3), (31, .aload_n 0, 1), (32, .iconst 0, 1), (33, .putfield 28, 3), (36, .aload_n 0, 1), (37, .iconst 0, 1), (38, .putfield 31, 3), (41, .aload_n 0, 1), (42, .iconst 0, 1), (43, .putfield 34, 3), (46, .aload_n 0, 1), (47, .iconst 3, 1), (50, .putfield 39, 3), (53, .return_, 1)]
theorem tbX4_init_k : dc_T cX4_init tbX4_init = true := by decide +kernel
abbrev tbX4_readText_0 : List (Nat × Instr × Nat) := [(0, .aload_n 0, 1), (1, .aload_n 1, 1), (2, .putfield 18, 3), (5, .aload_n 0, 1), (6, .iload_n 2, 1), (7, .aload_n 1, 1), (8, .arraylength, 1), (9, .if_icmp .gt 7, 3), (12, .iload_n 2, 1), (13, .goto 5, 3), (16, .aload_n 1, 1), (17, .arraylength, 1), (18, .putfield 22, 3), (21, .aload_n 0, 1), (22, .iconst 0, 1), (23, .putfield 28, 3), (26, .aload_n 0, 1), (27, .iconst 0, 1), (28, .putfield 9, 3), (31, .aload_n 0, 1), (32, .iconst (-1), 1), (33, .putfield 15, 3), (36, .aload_n 3, 1), (37, .invokevirtual 43, 3), (40, .aload_n 0, 1), (41, .invokevirtual 48, 3), (44, .iconst 0, 1), (45, .istore 4, 2), (47, .iload 4, 2), (49, .sipush 600, 3), (52, .if_icmp .ge 32, 3), (55, .aload_n 0, 1), (56, .getfield 31, 3), (59, .ifCond .eq 25, 3), (62, .aload_n 0, 1), (63, .getfield 9, 3), (66, .ifCond .ne 18, 3), (69, .aload_n 0, 1), (70, .aload_n 3, 1), (71, .invokevirtual 51, 3)]
theorem tbX4_readText_0_k : dc_T cX4_readText tbX4_readText_0 = true := by decide +kernel
abbrev tbX4_readText_1 : List (Nat × Instr × Nat) := [(74, .aload_n 0, 1), (75, .invokevirtual 48, 3), (78, .iinc 4 1, 3), (81, .goto (-34), 3), (84, .aload_n 0, 1), (85, .getfield 9, 3), (88, .ifCond .ne 7, 3), (91, .iconst 1, 1), (92, .goto 4, 3), (95, .iconst 0, 1), (96, .ireturn, 1)]
theorem tbX4_readText_1_k : dc_T cX4_readText tbX4_readText_1 = true := by decide +kernel
abbrev tbX4_readStatement_0 : List (Nat × Instr × Nat) := [(0, .aload_n 0, 1), (1, .getfield 31, 3), (4, .iconst 2, 1), (5, .if_icmp .ne 26, 3), (8, .aload_n 0, 1), (9, .getfield 18, 3), (12, .aload_n 0, 1), (13, .getfield 25, 3), (16, .aload_n 0, 1), (17, .getfield 28, 3), (20, .aload_n 0, 1), (21, .getfield 25, 3), (24, .isub, 1), (25, .invokestatic 55, 3), (28, .goto 4, 3), (31, .aconst_null, 1), (32, .astore_n 2, 1), (33, .aload_n 2, 1), (34, .ifnonnull 12, 3), (37, .aload_n 0, 1), (38, .iconst 2, 1), (39, .iconst 2, 1), (40, .invokevirtual 59, 3), (43, .goto 8, 3), (46, .aload_n 2, 1), (47, .aload_n 1, 1), (48, .invokestatic 63, 3), (51, .istore_n 3, 1), (52, .iconst 0, 1), (53, .istore 4, 2), (55, .iload 4, 2), (57, .iconst 3, 1), (58, .if_icmp .ge 58, 3), (61, .aload_n 0, 1), (62, .getfield 39, 3), (65, .iload 4, 2), (67, .iconst 0, 1), (68, .iastore, 1), (69, .iload_n 3, 1), (70, .ifCond .ne 40, 3)]
theorem tbX4_readStatement_0_k : dc_T cX4_readStatement tbX4_readStatement_0 = true := by decide +kernel
abbrev tbX4_readStatement_1 : List (Nat × Instr × Nat) := [(73, .aload_n 2, 1), (74, .ifnull 36, 3), (77, .iload 4, 2), (79, .aload_n 2, 1), (80, .invokevirtual 67, 3), (83, .if_icmp .ge 27, 3), (86, .aload_n 0, 1), (87, .invokevirtual 48, 3), (90, .aload_n 0, 1), (91, .aload_n 2, 1), (92, .iload 4, 2), (94, .aload_n 1, 1), (95, .invokevirtual 71, 3), (98, .istore_n 3, 1), (99, .aload_n 0, 1), (100, .getfield 39, 3), (103, .iload 4, 2), (105, .aload_n 0, 1), (106, .getfield 34, 3), (109, .iastore, 1), (110, .iinc 4 1, 3), (113, .goto (-58), 3), (116, .iload_n 3, 1), (117, .ifCond .ne 14, 3), (120, .aload_n 0, 1), (121, .invokevirtual 48, 3), (124, .aload_n 0, 1), (125, .iconst 4, 1), (126, .iconst 0, 1), (127, .invokevirtual 59, 3), (130, .istore_n 3, 1), (131, .iload_n 3, 1), (132, .ifCond .ne 16, 3), (135, .aload_n 2, 1), (136, .ifnull 12, 3), (139, .aload_n 0, 1), (140, .aload_n 2, 1), (141, .aload_n 1, 1), (142, .invokevirtual 75, 3), (145, .goto 16, 3)]
theorem tbX4_readStatement_1_k : dc_T cX4_readStatement tbX4_readStatement_1 = true := by decide +kernel
abbrev tbX4_readStatement_2 : List (Nat × Instr × Nat) := [(148, .aload_n 0, 1), (149, .iload_n 3, 1), (150, .putfield 9, 3), (153, .aload_n 0, 1), (154, .aload_n 0, 1), (155, .getfield 25, 3), (158, .putfield 15, 3), (161, .return_, 1)]
theorem tbX4_readStatement_2_k : dc_T cX4_readStatement tbX4_readStatement_2 = true := by decide +kernel
abbrev tbX4_errorIfNot : List (Nat × Instr × Nat) := [(0, .aload_n 0, 1), (1, .getfield 31, 3), (4, .iconst 1, 1), (5, .if_icmp .ne 5, 3), (8, .iconst 1, 1), (9, .ireturn, 1), (10, .aload_n 0, 1), (11, .getfield 31, 3), (14, .iload_n 1, 1), (15, .if_icmp .eq 7, 3), (18, .iconst 2, 1), (19, .goto 4, 3), (22, .iload_n 2, 1), (23, .ireturn, 1)]
theorem tbX4_errorIfNot_k : dc_T cX4_errorIfNot tbX4_errorIfNot = true := by decide +kernel
abbrev tbX4_errorOfWord_0 : List (Nat × Instr × Nat) := [(0, .aload_n 0, 1), (1, .getstatic 79, 3), (4, .if_acmp .ne 14, 3), (7, .aload_n 1, 1), (8, .getfield 83, 3), (11, .ifCond .le 7, 3), (14, .iconst 1, 1), (15, .goto 4, 3), (18, .iconst 0, 1), (19, .istore_n 2, 1), (20, .aload_n 0, 1), (21, .invokevirtual 86, 3), (24, .ifCond .eq 14, 3), (27, .aload_n 1, 1), (28, .getfield 83, 3), (31, .ifCond .ne 7, 3), (34, .iconst 1, 1), (35, .goto 4, 3), (38, .iconst 0, 1), (39, .istore_n 3, 1), (40, .iload_n 2, 1), (41, .ifCond .ne 7, 3), (44, .iload_n 3, 1), (45, .ifCond .eq 5, 3), (48, .iconst 4, 1), (49, .ireturn, 1), (50, .aload_n 0, 1), (51, .invokevirtual 86, 3), (54, .ifCond .eq 16, 3), (57, .aload_n 1, 1), (58, .invokevirtual 90, 3), (61, .bipush 8, 2), (63, .if_icmp .lt 7, 3), (66, .iconst 1, 1), (67, .goto 4, 3), (70, .iconst 0, 1), (71, .istore 4, 2), (73, .aload_n 0, 1), (74, .getstatic 93, 3), (77, .if_acmp .ne 16, 3)]
theorem tbX4_errorOfWord_0_k : dc_T cX4_errorOfWord tbX4_errorOfWord_0 = true := by decide +kernel
abbrev tbX4_errorOfWord_1 : List (Nat × Instr × Nat) := [(80, .aload_n 1, 1), (81, .getfield 96, 3), (84, .bipush 8, 2), (86, .if_icmp .lt 7, 3), (89, .iconst 1, 1), (90, .goto 4, 3), (93, .iconst 0, 1), (94, .istore 5, 2), (96, .iload 4, 2), (98, .ifCond .ne 8, 3), (101, .iload 5, 2), (103, .ifCond .eq 7, 3), (106, .iconst 5, 1), (107, .goto 4, 3), (110, .iconst 0, 1), (111, .ireturn, 1)]
theorem tbX4_errorOfWord_1_k : dc_T cX4_errorOfWord tbX4_errorOfWord_1 = true := by decide +kernel
abbrev tbX4_errorOfNumber_0 : List (Nat × Instr × Nat) := [(0, .aload_n 0, 1), (1, .iconst 3, 1), (2, .iconst 0, 1), (3, .invokevirtual 59, 3), (6, .istore 4, 2), (8, .iload 4, 2), (10, .ifCond .eq 6, 3), (13, .iload 4, 2), (15, .ireturn, 1), (16, .iload_n 2, 1), (17, .ifCond .ne 15, 3), (20, .aload_n 1, 1), (21, .iconst 0, 1), (22, .aload_n 0, 1), (23, .getfield 34, 3), (26, .invokevirtual 99, 3), (29, .goto 18, 3), (32, .aload_n 1, 1), (33, .aload_n 0, 1), (34, .getfield 39, 3), (37, .iconst 0, 1), (38, .iaload, 1), (39, .iload_n 2, 1), (40, .aload_n 0, 1), (41, .getfield 34, 3), (44, .invokevirtual 103, 3), (47, .istore 5, 2), (49, .aload_n 1, 1), (50, .getstatic 93, 3), (53, .if_acmp .ne 21, 3), (56, .iload_n 2, 1), (57, .ifCond .ne 17, 3), (60, .aload_n 0, 1), (61, .getfield 34, 3), (64, .aload_n 3, 1), (65, .invokevirtual 107, 3), (68, .if_icmp .gt 6, 3), (71, .iconst 0, 1), (72, .istore 5, 2), (74, .iload 5, 2)]
theorem tbX4_errorOfNumber_0_k : dc_T cX4_errorOfNumber tbX4_errorOfNumber_0 = true := by decide +kernel
abbrev tbX4_errorOfNumber_1 : List (Nat × Instr × Nat) := [(76, .ifCond .eq 7, 3), (79, .iconst 0, 1), (80, .goto 4, 3), (83, .iconst 3, 1), (84, .ireturn, 1)]
theorem tbX4_errorOfNumber_1_k : dc_T cX4_errorOfNumber tbX4_errorOfNumber_1 = true := by decide +kernel
abbrev tbX4_accept_0 : List (Nat × Instr × Nat) := [(0, .aload_n 1, 1), (1, .invokevirtual 110, 3), (4, .istore_n 3, 1), (5, .iload_n 3, 1), (6, .iconst (-1), 1), (7, .if_icmp .eq 23, 3), (10, .aload_n 2, 1), (11, .iload_n 3, 1), (12, .aload_n 0, 1), (13, .getfield 39, 3), (16, .iconst 0, 1), (17, .iaload, 1), (18, .aload_n 0, 1), (19, .getfield 39, 3), (22, .iconst 1, 1), (23, .iaload, 1), (24, .invokevirtual 113, 3), (27, .goto 115, 3), (30, .aload_n 1, 1), (31, .getstatic 117, 3), (34, .if_acmp .ne 28, 3), (37, .aload_n 2, 1), (38, .aload_n 0, 1), (39, .getfield 39, 3), (42, .iconst 0, 1), (43, .iaload, 1), (44, .aload_n 0, 1), (45, .getfield 39, 3), (48, .iconst 1, 1), (49, .iaload, 1), (50, .aload_n 0, 1), (51, .getfield 39, 3), (54, .iconst 2, 1), (55, .iaload, 1), (56, .invokevirtual 120, 3), (59, .goto 83, 3), (62, .aload_n 1, 1), (63, .getstatic 123, 3), (66, .if_acmp .ne 28, 3), (69, .aload_n 2, 1)]
theorem tbX4_accept_0_k : dc_T cX4_accept tbX4_accept_0 = true := by decide +kernel
abbrev tbX4_accept_1 : List (Nat × Instr × Nat) := [(70, .aload_n 0, 1), (71, .getfield 39, 3), (74, .iconst 0, 1), (75, .iaload, 1), (76, .aload_n 0, 1), (77, .getfield 39, 3), (80, .iconst 1, 1), (81, .iaload, 1), (82, .aload_n 0, 1), (83, .getfield 39, 3), (86, .iconst 2, 1), (87, .iaload, 1), (88, .invokevirtual 126, 3), (91, .goto 51, 3), (94, .aload_n 1, 1), (95, .getstatic 93, 3), (98, .if_acmp .ne 22, 3), (101, .aload_n 2, 1), (102, .aload_n 0, 1), (103, .getfield 39, 3), (106, .iconst 0, 1), (107, .iaload, 1), (108, .aload_n 0, 1), (109, .getfield 39, 3), (112, .iconst 1, 1), (113, .iaload, 1), (114, .invokevirtual 129, 3), (117, .goto 25, 3), (120, .aload_n 2, 1), (121, .aload_n 0, 1), (122, .getfield 39, 3), (125, .iconst 0, 1), (126, .iaload, 1), (127, .aload_n 1, 1), (128, .getstatic 133, 3), (131, .if_acmp .ne 7, 3), (134, .iconst 1, 1), (135, .goto 4, 3), (138, .iconst 0, 1), (139, .invokevirtual 136, 3)]
theorem tbX4_accept_1_k : dc_T cX4_accept tbX4_accept_1 = true := by decide +kernel
abbrev tbX4_accept_2 : List (Nat × Instr × Nat) := [(142, .return_, 1)]
theorem tbX4_accept_2_k : dc_T cX4_accept tbX4_accept_2 = true := by decide +kernel
abbrev tbX4_nextToken_0 : List (Nat × Instr × Nat) := [(0, .aload_n 0, 1), (1, .aload_n 0, 1), (2, .getfield 28, 3), (5, .putfield 25, 3), (8, .aload_n 0, 1), (9, .getfield 25, 3), (12, .aload_n 0, 1), (13, .getfield 22, 3), (16, .if_icmp .ge 31, 3), (19, .aload_n 0, 1), (20, .getfield 18, 3), (23, .aload_n 0, 1), (24, .getfield 25, 3), (27, .baload, 1), (28, .invokestatic 140, 3), (31, .ifCond .eq 16, 3), (34, .aload_n 0, 1), (35, .dup, 1), (36, .getfield 25, 3), (39, .iconst 1, 1), (40, .iadd, 1), (41, .putfield 25, 3), (44, .goto (-36), 3), (47, .aload_n 0, 1), (48, .aload_n 0, 1), (49, .getfield 25, 3), (52, .putfield 28, 3), (55, .aload_n 0, 1), (56, .iconst 0, 1), (57, .putfield 34, 3), (60, .aload_n 0, 1), (61, .getfield 25, 3), (64, .aload_n 0, 1), (65, .getfield 22, 3), (68, .if_icmp .lt 11, 3), (71, .aload_n 0, 1), (72, .iconst 0, 1), (73, .putfield 31, 3), (76, .goto 80, 3), (79, .aload_n 0, 1)]
theorem tbX4_nextToken_0_k : dc_T cX4_nextToken tbX4_nextToken_0 = true := by decide +kernel
abbrev tbX4_nextToken_1 : List (Nat × Instr × Nat) := [(80, .getfield 18, 3), (83, .aload_n 0, 1), (84, .getfield 25, 3), (87, .baload, 1), (88, .invokestatic 144, 3), (91, .ifCond .eq 10, 3), (94, .aload_n 0, 1), (95, .invokevirtual 147, 3), (98, .goto 58, 3), (101, .aload_n 0, 1), (102, .getfield 18, 3), (105, .aload_n 0, 1), (106, .getfield 25, 3), (109, .baload, 1), (110, .invokestatic 150, 3), (113, .ifCond .eq 10, 3), (116, .aload_n 0, 1), (117, .invokevirtual 153, 3), (120, .goto 36, 3), (123, .aload_n 0, 1), (124, .aload_n 0, 1), (125, .getfield 18, 3), (128, .aload_n 0, 1), (129, .getfield 25, 3), (132, .baload, 1), (133, .bipush 59, 2), (135, .if_icmp .ne 7, 3), (138, .iconst 4, 1), (139, .goto 4, 3), (142, .iconst 1, 1), (143, .putfield 31, 3), (146, .aload_n 0, 1), (147, .dup, 1), (148, .getfield 28, 3), (151, .iconst 1, 1), (152, .iadd, 1), (153, .putfield 28, 3), (156, .return_, 1)]
theorem tbX4_nextToken_1_k : dc_T cX4_nextToken tbX4_nextToken_1 = true := by decide +kernel
abbrev tbX4_takeWord : List (Nat × Instr × Nat) := [(0, .aload_n 0, 1), (1, .getfield 28, 3), (4, .aload_n 0, 1), (5, .getfield 22, 3), (8, .if_icmp .ge 31, 3), (11, .aload_n 0, 1), (12, .getfield 18, 3), (15, .aload_n 0, 1), (16, .getfield 28, 3), (19, .baload, 1), (20, .invokestatic 144, 3), (23, .ifCond .eq 16, 3), (26, .aload_n 0, 1), (27, .dup, 1), (28, .getfield 28, 3), (31, .iconst 1, 1), (32, .iadd, 1), (33, .putfield 28, 3), (36, .goto (-36), 3), (39, .aload_n 0, 1), (40, .aload_n 0, 1), (41, .getfield 28, 3), (44, .aload_n 0, 1), (45, .getfield 25, 3), (48, .isub, 1), (49, .bipush 6, 2), (51, .if_icmp .gt 7, 3), (54, .iconst 2, 1), (55, .goto 4, 3), (58, .iconst 1, 1), (59, .putfield 31, 3), (62, .return_, 1)]
theorem tbX4_takeWord_k : dc_T cX4_takeWord tbX4_takeWord = true := by decide +kernel
abbrev tbX4_takeNumber_0 : List (Nat × Instr × Nat) := [(0, .aload_n 0, 1), (1, .getfield 28, 3), (4, .aload_n 0, 1), (5, .getfield 22, 3), (8, .if_icmp .ge 68, 3), (11, .aload_n 0, 1), (12, .getfield 18, 3), (15, .aload_n 0, 1), (16, .getfield 28, 3), (19, .baload, 1), (20, .invokestatic 150, 3), (23, .ifCond .eq 53, 3), (26, .aload_n 0, 1), (27, .getfield 28, 3), (30, .aload_n 0, 1), (31, .getfield 25, 3), (34, .isub, 1), (35, .iconst 4, 1), (36, .if_icmp .ge 27, 3), (39, .aload_n 0, 1), (40, .bipush 10, 2), (42, .aload_n 0, 1), (43, .getfield 34, 3), (46, .imul, 1), (47, .aload_n 0, 1), (48, .getfield 18, 3), (51, .aload_n 0, 1), (52, .getfield 28, 3), (55, .baload, 1), (56, .bipush 48, 2), (58, .isub, 1), (59, .iadd, 1), (60, .putfield 34, 3), (63, .aload_n 0, 1), (64, .dup, 1), (65, .getfield 28, 3), (68, .iconst 1, 1), (69, .iadd, 1), (70, .putfield 28, 3), (73, .goto (-73), 3)]
theorem tbX4_takeNumber_0_k : dc_T cX4_takeNumber tbX4_takeNumber_0 = true := by decide +kernel
abbrev tbX4_takeNumber_1 : List (Nat × Instr × Nat) := [(76, .aload_n 0, 1), (77, .aload_n 0, 1), (78, .getfield 28, 3), (81, .aload_n 0, 1), (82, .getfield 25, 3), (85, .isub, 1), (86, .iconst 4, 1), (87, .if_icmp .gt 7, 3), (90, .iconst 3, 1), (91, .goto 4, 3), (94, .iconst 1, 1), (95, .putfield 31, 3), (98, .return_, 1)]
theorem tbX4_takeNumber_1_k : dc_T cX4_takeNumber tbX4_takeNumber_1 = true := by decide +kernel
abbrev tbX4_isSpace : List (Nat × Instr × Nat) := [(0, .iload_n 0, 1), (1, .bipush 32, 2), (3, .if_icmp .eq 9, 3), (6, .iload_n 0, 1), (7, .bipush 10, 2), (9, .if_icmp .ne 7, 3), (12, .iconst 1, 1), (13, .goto 4, 3), (16, .iconst 0, 1), (17, .ireturn, 1)]
theorem tbX4_isSpace_k : dc_T cX4_isSpace tbX4_isSpace = true := by decide +kernel
abbrev tbX4_isLetter : List (Nat × Instr × Nat) := [(0, .iload_n 0, 1), (1, .bipush 97, 2), (3, .if_icmp .lt 13, 3), (6, .iload_n 0, 1), (7, .bipush 122, 2), (9, .if_icmp .gt 7, 3), (12, .iconst 1, 1), (13, .goto 4, 3), (16, .iconst 0, 1), (17, .ireturn, 1)]
theorem tbX4_isLetter_k : dc_T cX4_isLetter tbX4_isLetter = true := by decide +kernel
abbrev tbX4_isDigit : List (Nat × Instr × Nat) := [(0, .iload_n 0, 1), (1, .bipush 48, 2), (3, .if_icmp .lt 13, 3), (6, .iload_n 0, 1), (7, .bipush 57, 2), (9, .if_icmp .gt 7, 3), (12, .iconst 1, 1), (13, .goto 4, 3), (16, .iconst 0, 1), (17, .ireturn, 1)]
theorem tbX4_isDigit_k : dc_T cX4_isDigit tbX4_isDigit = true := by decide +kernel
abbrev tbX5_find : List (Nat × Instr × Nat) := [(0, .iconst 0, 1), (1, .istore_n 3, 1), (2, .iload_n 3, 1), (3, .getstatic 75, 3), (6, .arraylength, 1), (7, .if_icmp .ge 29, 3), (10, .getstatic 75, 3), (13, .iload_n 3, 1), (14, .aaload, 1), (15, .aload_n 0, 1), (16, .iload_n 1, 1), (17, .iload_n 2, 1), (18, .invokevirtual 78, 3), (21, .ifCond .eq 9, 3), (24, .getstatic 75, 3), (27, .iload_n 3, 1), (28, .aaload, 1), (29, .areturn, 1), (30, .iinc 3 1, 3), (33, .goto (-31), 3), (36, .aconst_null, 1), (37, .areturn, 1)]
theorem tbX5_find_k : dc_T cX5_find tbX5_find = true := by decide +kernel
abbrev tbX5_isSpelled : List (Nat × Instr × Nat) := [(0, .iload_n 3, 1), (1, .aload_n 0, 1), (2, .getfield 58, 3), (5, .invokevirtual 82, 3), (8, .if_icmp .ne 15, 3), (11, .iload_n 2, 1), (12, .ifCond .lt 11, 3), (15, .iload_n 2, 1), (16, .iload_n 3, 1), (17, .iadd, 1), (18, .aload_n 1, 1), (19, .arraylength, 1), (20, .if_icmp .le 5, 3), (23, .iconst 0, 1), (24, .ireturn, 1), (25, .iconst 0, 1), (26, .istore 4, 2), (28, .iload 4, 2), (30, .iload_n 3, 1), (31, .if_icmp .ge 29, 3), (34, .aload_n 1, 1), (35, .iload_n 2, 1), (36, .iload 4, 2), (38, .iadd, 1), (39, .baload, 1), (40, .aload_n 0, 1), (41, .getfield 58, 3), (44, .iload 4, 2), (46, .invokevirtual 88, 3), (49, .if_icmp .eq 5, 3), (52, .iconst 0, 1), (53, .ireturn, 1), (54, .iinc 4 1, 3), (57, .goto (-29), 3), (60, .iconst 1, 1), (61, .ireturn, 1)]
theorem tbX5_isSpelled_k : dc_T cX5_isSpelled tbX5_isSpelled = true := by decide +kernel
theorem dX5_ofTool_1 : decode cX5_ofTool 1 = .ok (.tableswitch 55 0 4 #[35, 39, 43, 47, 51], 35) := by decide +kernel
abbrev tbX5_ofTool : List (Nat × Instr × Nat) := [(0, .iload_n 0, 1), (36, .getstatic 21, 3), (39, .areturn, 1), (40, .getstatic 24, 3), (43, .areturn, 1), (44, .getstatic 27, 3), (47, .areturn, 1), (48, .getstatic 30, 3), (51, .areturn, 1), (52, .getstatic 33, 3), (55, .areturn, 1), (56, .aconst_null, 1), (57, .areturn, 1)]
theorem tbX5_ofTool_k : dc_T cX5_ofTool tbX5_ofTool = true := by decide +kernel
abbrev tbX5_toolNumber : List (Nat × Instr × Nat) := [(0, .iconst 0, 1), (1, .istore_n 1, 1), (2, .iload_n 1, 1), (3, .iconst 5, 1), (4, .if_icmp .ge 19, 3), (7, .iload_n 1, 1), (8, .invokestatic 92, 3), (11, .aload_n 0, 1), (12, .if_acmp .ne 5, 3), (15, .iload_n 1, 1), (16, .ireturn, 1), (17, .iinc 1 1, 3), (20, .goto (-18), 3), (23, .iconst (-1), 1), (24, .ireturn, 1)]
theorem tbX5_toolNumber_k : dc_T cX5_toolNumber tbX5_toolNumber = true := by decide +kernel
abbrev tbX5_numberCount : List (Nat × Instr × Nat) := [(0, .aload_n 0, 1), (1, .getfield 72, 3), (4, .ifCond .le 7, 3), (7, .iconst 3, 1), (8, .goto 15, 3), (11, .aload_n 0, 1), (12, .getfield 69, 3), (15, .ifCond .le 7, 3), (18, .iconst 2, 1), (19, .goto 4, 3), (22, .iconst 1, 1), (23, .ireturn, 1)]
theorem tbX5_numberCount_k : dc_T cX5_numberCount tbX5_numberCount = true := by decide +kernel
theorem dX5_allows_1 : decode cX5_allows 1 = .ok (.lookupswitch 67 #[(0, 27), (1, 49)], 27) := by decide +kernel
abbrev tbX5_allows : List (Nat × Instr × Nat) := [(0, .iload_n 1, 1), (28, .iload_n 2, 1), (29, .aload_n 0, 1), (30, .getfield 62, 3), (33, .if_icmp .lt 15, 3), (36, .iload_n 2, 1), (37, .aload_n 0, 1), (38, .getfield 66, 3), (41, .if_icmp .gt 7, 3), (44, .iconst 1, 1), (45, .goto 4, 3), (48, .iconst 0, 1), (49, .ireturn, 1), (50, .iload_n 2, 1), (51, .ifCond .lt 15, 3), (54, .iload_n 2, 1), (55, .aload_n 0, 1), (56, .getfield 69, 3), (59, .if_icmp .gt 7, 3), (62, .iconst 1, 1), (63, .goto 4, 3), (66, .iconst 0, 1), (67, .ireturn, 1), (68, .iload_n 2, 1), (69, .ifCond .lt 15, 3), (72, .iload_n 2, 1), (73, .aload_n 0, 1), (74, .getfield 72, 3), (77, .if_icmp .gt 7, 3), (80, .iconst 1, 1), (81, .goto 4, 3), (84, .iconst 0, 1), (85, .ireturn, 1)]
theorem tbX5_allows_k : dc_T cX5_allows tbX5_allows = true := by decide +kernel
abbrev tbX5_allowsBehind : List (Nat × Instr × Nat) := [(0, .aload_n 0, 1), (1, .iload_n 2, 1), (2, .iload_n 3, 1), (3, .invokevirtual 96, 3), (6, .ifCond .eq 19, 3), (9, .aload_n 0, 1), (10, .getstatic 30, 3), (13, .if_acmp .ne 8, 3), (16, .iload_n 3, 1), (17, .iload_n 1, 1), (18, .if_icmp .lt 7, 3), (21, .iconst 1, 1), (22, .goto 4, 3), (25, .iconst 0, 1), (26, .ireturn, 1)]
theorem tbX5_allowsBehind_k : dc_T cX5_allowsBehind tbX5_allowsBehind = true := by decide +kernel
abbrev tbX5_isBend : List (Nat × Instr × Nat) := [(0, .aload_n 0, 1), (1, .getstatic 12, 3), (4, .if_acmp .eq 10, 3), (7, .aload_n 0, 1), (8, .getstatic 15, 3), (11, .if_acmp .ne 7, 3), (14, .iconst 1, 1), (15, .goto 4, 3), (18, .iconst 0, 1), (19, .ireturn, 1)]
theorem tbX5_isBend_k : dc_T cX5_isBend tbX5_isBend = true := by decide +kernel
theorem dX6_init_8 : decode cX6_init 8 = .ok (.newarray .byte, 2) := by decide +kernel
abbrev tbX6_init_0 : List (Nat × Instr × Nat) := [(0, .aload_n 0, 1), (1, .invokespecial 3, 3), (4, .aload_n 0, 1), (5, .sipush 600, 3), (10, .putfield 9, 3), (13, .aload_n 0, 1), (14, .iconst 0, 1), (15, .putfield 13, 3), (18, .aload_n 0, 1), (19, .new 17, 3), (22, .dup, 1), (23, .invokespecial 19, 3), (26, .putfield 20, 3), (29, .aload_n 0, 1), (30, .new 24, 3), (33, .dup, 1), (34, .invokespecial 26, 3), (37, .putfield 27, 3), (40, .aload_n 0, 1), (41, .new 24, 3), (44, .dup, 1), (45, .invokespecial 26, 3), (48, .putfield 31, 3), (51, .aload_n 0, 1), (52, .new 34, 3), (55, .dup, 1), (56, .invokespecial 36, 3), (59, .putfield 37, 3), (62, .aload_n 0, 1), (63, .new 41, 3), (66, .dup, 1), (67, .invokespecial 43, 3), (70, .putfield 44, 3), (73, .aload_n 0, 1), (74, .new 48, 3), (77, .dup, 1), (78, .invokespecial 50, 3), (81, .putfield 51, 3), (84, .aload_n 0, 1), (85, .new 55, 3)]
theorem tbX6_init_0_k : dc_T cX6_init tbX6_init_0 = true := by decide +kernel
abbrev tbX6_init_1 : List (Nat × Instr × Nat) := [(88, .dup, 1), (89, .invokespecial 57, 3), (92, .putfield 58, 3), (95, .return_, 1)]
theorem tbX6_init_1_k : dc_T cX6_init tbX6_init_1 = true := by decide +kernel
abbrev tbX6_feed : List (Nat × Instr × Nat) := [(0, .aload_n 0, 1), (1, .getfield 13, 3), (4, .bipush 20, 2), (6, .iadd, 1), (7, .sipush 600, 3), (10, .if_icmp .le 6, 3), (13, .bipush (-2), 2), (15, .ireturn, 1), (16, .aload_n 0, 1), (17, .iload_n 1, 1), (18, .invokevirtual 62, 3), (21, .aload_n 0, 1), (22, .iload_n 2, 1), (23, .invokevirtual 62, 3), (26, .aload_n 0, 1), (27, .iload_n 3, 1), (28, .invokevirtual 62, 3), (31, .aload_n 0, 1), (32, .iload 4, 2), (34, .invokevirtual 62, 3), (37, .aload_n 0, 1), (38, .iload 5, 2), (40, .invokevirtual 62, 3), (43, .aload_n 0, 1), (44, .getfield 13, 3), (47, .ireturn, 1)]
theorem tbX6_feed_k : dc_T cX6_feed tbX6_feed = true := by decide +kernel
abbrev tbX6_append : List (Nat × Instr × Nat) := [(0, .bipush 24, 2), (2, .istore_n 2, 1), (3, .iload_n 2, 1), (4, .ifCond .lt 42, 3), (7, .aload_n 0, 1), (8, .getfield 13, 3), (11, .sipush 600, 3), (14, .if_icmp .ge 26, 3), (17, .aload_n 0, 1), (18, .getfield 9, 3), (21, .aload_n 0, 1), (22, .getfield 13, 3), (25, .iload_n 1, 1), (26, .iload_n 2, 1), (27, .ishr, 1), (28, .i2b, 1), (29, .bastore, 1), (30, .aload_n 0, 1), (31, .dup, 1), (32, .getfield 13, 3), (35, .iconst 1, 1), (36, .iadd, 1), (37, .putfield 13, 3), (40, .iinc 2 (-8), 3), (43, .goto (-40), 3), (46, .return_, 1)]
theorem tbX6_append_k : dc_T cX6_append tbX6_append = true := by decide +kernel
abbrev tbX6_load : List (Nat × Instr × Nat) := [(0, .iload_n 1, 1), (1, .ifCond .lt 11, 3), (4, .iload_n 1, 1), (5, .aload_n 0, 1), (6, .getfield 13, 3), (9, .if_icmp .le 13, 3), (12, .new 66, 3), (15, .dup, 1), (16, .ldc 68, 2), (18, .invokespecial 70, 3), (21, .athrow, 1), (22, .aload_n 0, 1), (23, .iconst 0, 1), (24, .putfield 13, 3), (27, .aload_n 0, 1), (28, .getfield 20, 3), (31, .aload_n 0, 1), (32, .getfield 9, 3), (35, .iload_n 1, 1), (36, .aload_n 0, 1), (37, .getfield 31, 3), (40, .invokevirtual 73, 3), (43, .ifCond .ne 6, 3), (46, .bipush (-3), 2), (48, .ireturn, 1), (49, .aload_n 0, 1), (50, .getfield 27, 3), (53, .aload_n 0, 1), (54, .getfield 31, 3), (57, .invokevirtual 77, 3), (60, .aload_n 0, 1), (61, .getfield 37, 3), (64, .invokevirtual 81, 3), (67, .aload_n 0, 1), (68, .getfield 27, 3), (71, .invokevirtual 84, 3), (74, .ireturn, 1)]
theorem tbX6_load_k : dc_T cX6_load tbX6_load = true := by decide +kernel
abbrev tbX6_errorKind : List (Nat × Instr × Nat) := [(0, .aload_n 0, 1), (1, .getfield 20, 3), (4, .getfield 88, 3), (7, .ireturn, 1)]
theorem tbX6_errorKind_k : dc_T cX6_errorKind tbX6_errorKind = true := by decide +kernel
abbrev tbX6_errorPosition : List (Nat × Instr × Nat) := [(0, .aload_n 0, 1), (1, .getfield 20, 3), (4, .getfield 91, 3), (7, .ireturn, 1)]
theorem tbX6_errorPosition_k : dc_T cX6_errorPosition tbX6_errorPosition = true := by decide +kernel
abbrev tbX6_bends : List (Nat × Instr × Nat) := [(0, .aload_n 0, 1), (1, .getfield 27, 3), (4, .invokevirtual 84, 3), (7, .ireturn, 1)]
theorem tbX6_bends_k : dc_T cX6_bends tbX6_bends = true := by decide +kernel
abbrev tbX6_legs : List (Nat × Instr × Nat) := [(0, .aload_n 0, 1), (1, .getfield 27, 3), (4, .getfield 94, 3), (7, .ireturn, 1)]
theorem tbX6_legs_k : dc_T cX6_legs tbX6_legs = true := by decide +kernel
abbrev tbX6_leg : List (Nat × Instr × Nat) := [(0, .aload_n 0, 1), (1, .iload_n 1, 1), (2, .invokevirtual 97, 3), (5, .aload_n 0, 1), (6, .getfield 27, 3), (9, .getfield 100, 3), (12, .iload_n 1, 1), (13, .iaload, 1), (14, .ireturn, 1)]
theorem tbX6_leg_k : dc_T cX6_leg tbX6_leg = true := by decide +kernel
abbrev tbX6_isUp : List (Nat × Instr × Nat) := [(0, .aload_n 0, 1), (1, .iload_n 1, 1), (2, .invokevirtual 104, 3), (5, .aload_n 0, 1), (6, .getfield 27, 3), (9, .iload_n 1, 1), (10, .invokevirtual 107, 3), (13, .ireturn, 1)]
theorem tbX6_isUp_k : dc_T cX6_isUp tbX6_isUp = true := by decide +kernel
abbrev tbX6_deduction : List (Nat × Instr × Nat) := [(0, .aload_n 0, 1), (1, .getfield 27, 3), (4, .invokevirtual 111, 3), (7, .dreturn, 1)]
theorem tbX6_deduction_k : dc_T cX6_deduction tbX6_deduction = true := by decide +kernel
abbrev tbX6_flatLength : List (Nat × Instr × Nat) := [(0, .aload_n 0, 1), (1, .getfield 27, 3), (4, .getfield 94, 3), (7, .ifCond .ne 5, 3), (10, .dconst 0, 1), (11, .dreturn, 1), (12, .aload_n 0, 1), (13, .getfield 27, 3), (16, .aload_n 0, 1), (17, .getfield 27, 3), (20, .getfield 94, 3), (23, .invokevirtual 115, 3), (26, .i2d, 1), (27, .aload_n 0, 1), (28, .getfield 27, 3), (31, .invokevirtual 84, 3), (34, .i2d, 1), (35, .aload_n 0, 1), (36, .getfield 27, 3), (39, .invokevirtual 111, 3), (42, .dmul, 1), (43, .dsub, 1), (44, .dreturn, 1)]
theorem tbX6_flatLength_k : dc_T cX6_flatLength tbX6_flatLength = true := by decide +kernel
abbrev tbX6_linePlace : List (Nat × Instr × Nat) := [(0, .aload_n 0, 1), (1, .iload_n 1, 1), (2, .invokevirtual 104, 3), (5, .aload_n 0, 1), (6, .getfield 27, 3), (9, .iload_n 1, 1), (10, .iconst 1, 1), (11, .iadd, 1), (12, .invokevirtual 115, 3), (15, .i2d, 1), (16, .iload_n 1, 1), (17, .i2d, 1), (18, .ldc2_w 119, 3), (21, .dadd, 1), (22, .aload_n 0, 1), (23, .getfield 27, 3), (26, .invokevirtual 111, 3), (29, .dmul, 1), (30, .dsub, 1), (31, .dreturn, 1)]
theorem tbX6_linePlace_k : dc_T cX6_linePlace tbX6_linePlace = true := by decide +kernel
abbrev tbX6_ratio : List (Nat × Instr × Nat) := [(0, .aload_n 0, 1), (1, .getfield 27, 3), (4, .invokevirtual 121, 3), (7, .dreturn, 1)]
theorem tbX6_ratio_k : dc_T cX6_ratio tbX6_ratio = true := by decide +kernel
abbrev tbX6_springBack : List (Nat × Instr × Nat) := [(0, .aload_n 0, 1), (1, .getfield 27, 3), (4, .aload_n 0, 1), (5, .getfield 27, 3), (8, .invokevirtual 121, 3), (11, .invokevirtual 124, 3), (14, .dreturn, 1)]
theorem tbX6_springBack_k : dc_T cX6_springBack tbX6_springBack = true := by decide +kernel
abbrev tbX6_springBackFor : List (Nat × Instr × Nat) := [(0, .dload_n 1, 1), (1, .dconst 0, 1), (2, .dcmp .l, 1), (3, .ifCond .lt 15, 3), (6, .dload_n 1, 1), (7, .ldc2_w 128, 3), (10, .dcmp .g, 1), (11, .ifCond .gt 7, 3), (14, .iconst 1, 1), (15, .goto 4, 3), (18, .iconst 0, 1), (19, .istore_n 3, 1), (20, .iload_n 3, 1), (21, .ifCond .ne 13, 3), (24, .new 66, 3), (27, .dup, 1), (28, .ldc 130, 2), (30, .invokespecial 70, 3), (33, .athrow, 1), (34, .aload_n 0, 1), (35, .getfield 27, 3), (38, .dload_n 1, 1), (39, .invokevirtual 124, 3), (42, .dreturn, 1)]
theorem tbX6_springBackFor_k : dc_T cX6_springBackFor tbX6_springBackFor = true := by decide +kernel
abbrev tbX6_swingAngle : List (Nat × Instr × Nat) := [(0, .sipush 900, 3), (3, .aload_n 0, 1), (4, .getfield 27, 3), (7, .aload_n 0, 1), (8, .getfield 27, 3), (11, .invokevirtual 121, 3), (14, .invokevirtual 124, 3), (17, .d2i, 1), (18, .iadd, 1), (19, .ireturn, 1)]
theorem tbX6_swingAngle_k : dc_T cX6_swingAngle tbX6_swingAngle = true := by decide +kernel
abbrev tbX6_tool : List (Nat × Instr × Nat) := [(0, .iload_n 1, 1), (1, .invokestatic 132, 3), (4, .astore_n 3, 1), (5, .aload_n 3, 1), (6, .ifnull 15, 3), (9, .iload_n 2, 1), (10, .ifCond .lt 11, 3), (13, .iload_n 2, 1), (14, .aload_n 3, 1), (15, .invokevirtual 138, 3), (18, .if_icmp .lt 13, 3), (21, .new 66, 3), (24, .dup, 1), (25, .ldc 141, 2), (27, .invokespecial 70, 3), (30, .athrow, 1), (31, .aload_n 0, 1), (32, .getfield 27, 3), (35, .getfield 143, 3), (38, .iconst 2, 1), (39, .iload_n 1, 1), (40, .imul, 1), (41, .iload_n 2, 1), (42, .iadd, 1), (43, .iaload, 1), (44, .ireturn, 1)]
theorem tbX6_tool_k : dc_T cX6_tool tbX6_tool = true := by decide +kernel
abbrev tbX6_finishedWidth : List (Nat × Instr × Nat) := [(0, .aload_n 0, 1), (1, .getfield 44, 3), (4, .aload_n 0, 1), (5, .getfield 27, 3), (8, .invokevirtual 146, 3), (11, .aload_n 0, 1), (12, .getfield 44, 3), (15, .getfield 149, 3), (18, .aload_n 0, 1), (19, .getfield 27, 3), (22, .getfield 94, 3), (25, .invokestatic 152, 3), (28, .ireturn, 1)]
theorem tbX6_finishedWidth_k : dc_T cX6_finishedWidth tbX6_finishedWidth = true := by decide +kernel
abbrev tbX6_finishedHeight : List (Nat × Instr × Nat) := [(0, .aload_n 0, 1), (1, .getfield 44, 3), (4, .aload_n 0, 1), (5, .getfield 27, 3), (8, .invokevirtual 146, 3), (11, .aload_n 0, 1), (12, .getfield 44, 3), (15, .getfield 156, 3), (18, .aload_n 0, 1), (19, .getfield 27, 3), (22, .getfield 94, 3), (25, .invokestatic 152, 3), (28, .ireturn, 1)]
theorem tbX6_finishedHeight_k : dc_T cX6_finishedHeight tbX6_finishedHeight = true := by decide +kernel
abbrev tbX6_isFinishedCrossed : List (Nat × Instr × Nat) := [(0, .aload_n 0, 1), (1, .getfield 44, 3), (4, .aload_n 0, 1), (5, .getfield 27, 3), (8, .invokevirtual 146, 3), (11, .aload_n 0, 1), (12, .getfield 44, 3), (15, .invokevirtual 159, 3), (18, .ireturn, 1)]
theorem tbX6_isFinishedCrossed_k : dc_T cX6_isFinishedCrossed tbX6_isFinishedCrossed = true := by decide +kernel
abbrev tbX6_finishedCorner : List (Nat × Instr × Nat) := [(0, .aload_n 0, 1), (1, .iload_n 1, 1), (2, .invokevirtual 97, 3), (5, .iload_n 2, 1), (6, .iconst 1, 1), (7, .invokestatic 163, 3), (10, .aload_n 0, 1), (11, .getfield 44, 3), (14, .aload_n 0, 1), (15, .getfield 27, 3), (18, .invokevirtual 146, 3), (21, .iload_n 2, 1), (22, .ifCond .ne 15, 3), (25, .aload_n 0, 1), (26, .getfield 44, 3), (29, .getfield 149, 3), (32, .iload_n 1, 1), (33, .iaload, 1), (34, .goto 12, 3), (37, .aload_n 0, 1), (38, .getfield 44, 3), (41, .getfield 156, 3), (44, .iload_n 1, 1), (45, .iaload, 1), (46, .ireturn, 1)]
theorem tbX6_finishedCorner_k : dc_T cX6_finishedCorner tbX6_finishedCorner = true := by decide +kernel
abbrev tbX6_isSymmetric : List (Nat × Instr × Nat) := [(0, .aload_n 0, 1), (1, .getfield 27, 3), (4, .invokevirtual 167, 3), (7, .ireturn, 1)]
theorem tbX6_isSymmetric_k : dc_T cX6_isSymmetric tbX6_isSymmetric = true := by decide +kernel
abbrev tbX6_longestLeg : List (Nat × Instr × Nat) := [(0, .iconst (-1), 1), (1, .istore_n 1, 1), (2, .iconst 0, 1), (3, .istore_n 2, 1), (4, .iload_n 2, 1), (5, .aload_n 0, 1), (6, .getfield 27, 3), (9, .getfield 94, 3), (12, .if_icmp .ge 43, 3), (15, .iload_n 2, 1), (16, .bipush 9, 2), (18, .if_icmp .ge 37, 3), (21, .iload_n 1, 1), (22, .iconst (-1), 1), (23, .if_icmp .eq 24, 3), (26, .aload_n 0, 1), (27, .getfield 27, 3), (30, .getfield 100, 3), (33, .iload_n 2, 1), (34, .iaload, 1), (35, .aload_n 0, 1), (36, .getfield 27, 3), (39, .getfield 100, 3), (42, .iload_n 1, 1), (43, .iaload, 1), (44, .if_icmp .le 5, 3), (47, .iload_n 2, 1), (48, .istore_n 1, 1), (49, .iinc 2 1, 3), (52, .goto (-48), 3), (55, .iload_n 1, 1), (56, .ireturn, 1)]
theorem tbX6_longestLeg_k : dc_T cX6_longestLeg tbX6_longestLeg = true := by decide +kernel
abbrev tbX6_made : List (Nat × Instr × Nat) := [(0, .aload_n 0, 1), (1, .getfield 27, 3), (4, .getfield 170, 3), (7, .ireturn, 1)]
theorem tbX6_made_k : dc_T cX6_made tbX6_made = true := by decide +kernel
abbrev tbX6_steps : List (Nat × Instr × Nat) := [(0, .aload_n 0, 1), (1, .getfield 27, 3), (4, .getfield 173, 3), (7, .ireturn, 1)]
theorem tbX6_steps_k : dc_T cX6_steps tbX6_steps = true := by decide +kernel
theorem dX6_step_37 : decode cX6_step 37 = .ok (.tableswitch 61 0 2 #[27, 39, 51], 27) := by decide +kernel
abbrev tbX6_step_0 : List (Nat × Instr × Nat) := [(0, .iload_n 1, 1), (1, .ifCond .lt 20, 3), (4, .iload_n 1, 1), (5, .aload_n 0, 1), (6, .getfield 27, 3), (9, .getfield 173, 3), (12, .if_icmp .ge 9, 3), (15, .iload_n 1, 1), (16, .bipush 8, 2), (18, .if_icmp .lt 13, 3), (21, .new 176, 3), (24, .dup, 1), (25, .ldc 178, 2), (27, .invokespecial 180, 3), (30, .athrow, 1), (31, .iload_n 2, 1), (32, .iconst 3, 1), (33, .invokestatic 163, 3), (36, .iload_n 2, 1), (64, .aload_n 0, 1), (65, .getfield 27, 3), (68, .getfield 181, 3), (71, .iload_n 1, 1), (72, .iaload, 1), (73, .iconst 1, 1), (74, .ishr, 1), (75, .ireturn, 1), (76, .aload_n 0, 1), (77, .getfield 27, 3), (80, .getfield 181, 3), (83, .iload_n 1, 1), (84, .iaload, 1), (85, .iconst 1, 1), (86, .iand, 1), (87, .ireturn, 1), (88, .aload_n 0, 1), (89, .getfield 27, 3), (92, .getfield 184, 3), (95, .iload_n 1, 1), (96, .iaload, 1)]
theorem tbX6_step_0_k : dc_T cX6_step tbX6_step_0 = true := by decide +kernel
abbrev tbX6_step_1 : List (Nat × Instr × Nat) := [(97, .ireturn, 1), (98, .aload_n 0, 1), (99, .getfield 27, 3), (102, .getfield 187, 3), (105, .iload_n 1, 1), (106, .iaload, 1), (107, .ireturn, 1)]
theorem tbX6_step_1_k : dc_T cX6_step tbX6_step_1 = true := by decide +kernel
abbrev tbX6_costSoFar : List (Nat × Instr × Nat) := [(0, .aload_n 0, 1), (1, .getfield 27, 3), (4, .invokevirtual 190, 3), (7, .ireturn, 1)]
theorem tbX6_costSoFar_k : dc_T cX6_costSoFar tbX6_costSoFar = true := by decide +kernel
abbrev tbX6_reason : List (Nat × Instr × Nat) := [(0, .aload_n 0, 1), (1, .iload_n 1, 1), (2, .iload_n 2, 1), (3, .invokevirtual 193, 3), (6, .aload_n 0, 1), (7, .iconst 2, 1), (8, .iload_n 1, 1), (9, .imul, 1), (10, .iload_n 2, 1), (11, .iadd, 1), (12, .invokevirtual 196, 3), (15, .ireturn, 1)]
theorem tbX6_reason_k : dc_T cX6_reason tbX6_reason = true := by decide +kernel
abbrev tbX6_gauge : List (Nat × Instr × Nat) := [(0, .aload_n 0, 1), (1, .iload_n 1, 1), (2, .iload_n 2, 1), (3, .invokevirtual 193, 3), (6, .aload_n 0, 1), (7, .iconst 2, 1), (8, .iload_n 1, 1), (9, .imul, 1), (10, .iload_n 2, 1), (11, .iadd, 1), (12, .invokevirtual 199, 3), (15, .ireturn, 1)]
theorem tbX6_gauge_k : dc_T cX6_gauge tbX6_gauge = true := by decide +kernel
abbrev tbX6_corner : List (Nat × Instr × Nat) := [(0, .aload_n 0, 1), (1, .iload_n 1, 1), (2, .invokevirtual 104, 3), (5, .aload_n 0, 1), (6, .iload_n 3, 1), (7, .invokevirtual 97, 3), (10, .iload_n 2, 1), (11, .iconst 1, 1), (12, .invokestatic 163, 3), (15, .iload 4, 2), (17, .iconst 1, 1), (18, .invokestatic 163, 3), (21, .aload_n 0, 1), (22, .getfield 44, 3), (25, .aload_n 0, 1), (26, .getfield 27, 3), (29, .aload_n 0, 1), (30, .getfield 27, 3), (33, .getfield 170, 3), (36, .iconst 2, 1), (37, .iload_n 1, 1), (38, .imul, 1), (39, .iload_n 2, 1), (40, .iadd, 1), (41, .invokevirtual 202, 3), (44, .iload 4, 2), (46, .ifCond .ne 15, 3), (49, .aload_n 0, 1), (50, .getfield 44, 3), (53, .getfield 149, 3), (56, .iload_n 3, 1), (57, .iaload, 1), (58, .goto 12, 3), (61, .aload_n 0, 1), (62, .getfield 44, 3), (65, .getfield 156, 3), (68, .iload_n 3, 1), (69, .iaload, 1), (70, .ireturn, 1)]
theorem tbX6_corner_k : dc_T cX6_corner tbX6_corner = true := by decide +kernel
abbrev tbX6_top : List (Nat × Instr × Nat) := [(0, .aload_n 0, 1), (1, .iload_n 1, 1), (2, .iload_n 2, 1), (3, .invokevirtual 193, 3), (6, .aload_n 0, 1), (7, .getfield 44, 3), (10, .aload_n 0, 1), (11, .getfield 27, 3), (14, .aload_n 0, 1), (15, .getfield 27, 3), (18, .getfield 170, 3), (21, .iconst 2, 1), (22, .iload_n 1, 1), (23, .imul, 1), (24, .iload_n 2, 1), (25, .iadd, 1), (26, .invokevirtual 202, 3), (29, .aload_n 0, 1), (30, .getfield 44, 3), (33, .invokevirtual 206, 3), (36, .ireturn, 1)]
theorem tbX6_top_k : dc_T cX6_top tbX6_top = true := by decide +kernel
abbrev tbX6_hitting : List (Nat × Instr × Nat) := [(0, .aload_n 0, 1), (1, .iload_n 1, 1), (2, .iload_n 2, 1), (3, .invokevirtual 193, 3), (6, .aload_n 0, 1), (7, .getfield 44, 3), (10, .aload_n 0, 1), (11, .getfield 27, 3), (14, .aload_n 0, 1), (15, .getfield 27, 3), (18, .getfield 170, 3), (21, .iconst 2, 1), (22, .iload_n 1, 1), (23, .imul, 1), (24, .iload_n 2, 1), (25, .iadd, 1), (26, .invokevirtual 202, 3), (29, .aload_n 0, 1), (30, .getfield 44, 3), (33, .aload_n 0, 1), (34, .getfield 27, 3), (37, .invokevirtual 209, 3), (40, .ireturn, 1)]
theorem tbX6_hitting_k : dc_T cX6_hitting tbX6_hitting = true := by decide +kernel
abbrev tbX6_refused : List (Nat × Instr × Nat) := [(0, .iload_n 1, 1), (1, .iconst 1, 1), (2, .if_icmp .lt 9, 3), (5, .iload_n 1, 1), (6, .bipush 6, 2), (8, .if_icmp .le 13, 3), (11, .new 66, 3), (14, .dup, 1), (15, .ldc 213, 2), (17, .invokespecial 70, 3), (20, .athrow, 1), (21, .iconst 0, 1), (22, .istore_n 2, 1), (23, .iconst 0, 1), (24, .istore_n 3, 1), (25, .iload_n 3, 1), (26, .iconst 2, 1), (27, .aload_n 0, 1), (28, .getfield 27, 3), (31, .invokevirtual 84, 3), (34, .imul, 1), (35, .if_icmp .ge 21, 3), (38, .aload_n 0, 1), (39, .iload_n 3, 1), (40, .invokevirtual 196, 3), (43, .iload_n 1, 1), (44, .if_icmp .ne 6, 3), (47, .iinc 2 1, 3), (50, .iinc 3 1, 3), (53, .goto (-28), 3), (56, .iload_n 2, 1), (57, .ireturn, 1)]
theorem tbX6_refused_k : dc_T cX6_refused tbX6_refused = true := by decide +kernel
abbrev tbX6_possible : List (Nat × Instr × Nat) := [(0, .aload_n 0, 1), (1, .getfield 44, 3), (4, .aload_n 0, 1), (5, .getfield 27, 3), (8, .aload_n 0, 1), (9, .getfield 27, 3), (12, .getfield 170, 3), (15, .invokevirtual 215, 3), (18, .ireturn, 1)]
theorem tbX6_possible_k : dc_T cX6_possible tbX6_possible = true := by decide +kernel
abbrev tbX6_stuck_0 : List (Nat × Instr × Nat) := [(0, .aload_n 0, 1), (1, .getfield 44, 3), (4, .aload_n 0, 1), (5, .getfield 27, 3), (8, .aload_n 0, 1), (9, .getfield 27, 3), (12, .getfield 170, 3), (15, .invokevirtual 215, 3), (18, .istore_n 1, 1), (19, .iconst 0, 1), (20, .istore_n 2, 1), (21, .iconst 0, 1), (22, .istore_n 3, 1), (23, .iload_n 3, 1), (24, .aload_n 0, 1), (25, .getfield 27, 3), (28, .invokevirtual 84, 3), (31, .if_icmp .ge 48, 3), (34, .aload_n 0, 1), (35, .getfield 27, 3), (38, .getfield 170, 3), (41, .iload_n 3, 1), (42, .ishr, 1), (43, .iconst 1, 1), (44, .iand, 1), (45, .ifCond .eq 7, 3), (48, .iconst 1, 1), (49, .goto 4, 3), (52, .iconst 0, 1), (53, .istore 4, 2), (55, .iload 4, 2), (57, .ifCond .ne 16, 3), (60, .iload_n 1, 1), (61, .iconst 2, 1), (62, .iload_n 3, 1), (63, .imul, 1), (64, .ishr, 1), (65, .iconst 3, 1), (66, .iand, 1), (67, .ifCond .ne 6, 3)]
theorem tbX6_stuck_0_k : dc_T cX6_stuck tbX6_stuck_0 = true := by decide +kernel
abbrev tbX6_stuck_1 : List (Nat × Instr × Nat) := [(70, .iinc 2 1, 3), (73, .iinc 3 1, 3), (76, .goto (-53), 3), (79, .iload_n 2, 1), (80, .ireturn, 1)]
theorem tbX6_stuck_1_k : dc_T cX6_stuck tbX6_stuck_1 = true := by decide +kernel
abbrev tbX6_costOf : List (Nat × Instr × Nat) := [(0, .aload_n 0, 1), (1, .iload_n 1, 1), (2, .iload_n 2, 1), (3, .invokevirtual 193, 3), (6, .aload_n 0, 1), (7, .iconst 2, 1), (8, .iload_n 1, 1), (9, .imul, 1), (10, .iload_n 2, 1), (11, .iadd, 1), (12, .invokevirtual 219, 3), (15, .ireturn, 1)]
theorem tbX6_costOf_k : dc_T cX6_costOf tbX6_costOf = true := by decide +kernel
abbrev tbX6_reasonNow : List (Nat × Instr × Nat) := [(0, .aload_n 0, 1), (1, .getfield 44, 3), (4, .aload_n 0, 1), (5, .getfield 27, 3), (8, .aload_n 0, 1), (9, .getfield 27, 3), (12, .getfield 170, 3), (15, .iload_n 1, 1), (16, .invokevirtual 222, 3), (19, .ireturn, 1)]
theorem tbX6_reasonNow_k : dc_T cX6_reasonNow tbX6_reasonNow = true := by decide +kernel
abbrev tbX6_gaugeNow : List (Nat × Instr × Nat) := [(0, .aload_n 0, 1), (1, .getfield 44, 3), (4, .aload_n 0, 1), (5, .getfield 27, 3), (8, .aload_n 0, 1), (9, .getfield 27, 3), (12, .getfield 170, 3), (15, .iload_n 1, 1), (16, .invokevirtual 202, 3), (19, .aload_n 0, 1), (20, .getfield 44, 3), (23, .invokevirtual 226, 3), (26, .ireturn, 1)]
theorem tbX6_gaugeNow_k : dc_T cX6_gaugeNow tbX6_gaugeNow = true := by decide +kernel
abbrev tbX6_costNow : List (Nat × Instr × Nat) := [(0, .aload_n 0, 1), (1, .getfield 27, 3), (4, .aload_n 0, 1), (5, .getfield 27, 3), (8, .invokevirtual 229, 3), (11, .aload_n 0, 1), (12, .getfield 27, 3), (15, .invokevirtual 232, 3), (18, .iload_n 1, 1), (19, .aload_n 0, 1), (20, .iload_n 1, 1), (21, .invokevirtual 199, 3), (24, .invokevirtual 235, 3), (27, .ireturn, 1)]
theorem tbX6_costNow_k : dc_T cX6_costNow tbX6_costNow = true := by decide +kernel
abbrev tbX6_orders : List (Nat × Instr × Nat) := [(0, .aload_n 0, 1), (1, .getfield 51, 3), (4, .aload_n 0, 1), (5, .getfield 27, 3), (8, .invokevirtual 239, 3), (11, .aload_n 0, 1), (12, .getfield 51, 3), (15, .aload_n 0, 1), (16, .getfield 27, 3), (19, .getfield 170, 3), (22, .invokevirtual 242, 3), (25, .lreturn, 1)]
theorem tbX6_orders_k : dc_T cX6_orders tbX6_orders = true := by decide +kernel
abbrev tbX6_leastCost : List (Nat × Instr × Nat) := [(0, .aload_n 0, 1), (1, .getfield 51, 3), (4, .aload_n 0, 1), (5, .getfield 27, 3), (8, .invokevirtual 239, 3), (11, .aload_n 0, 1), (12, .getfield 51, 3), (15, .getfield 246, 3), (18, .ireturn, 1)]
theorem tbX6_leastCost_k : dc_T cX6_leastCost tbX6_leastCost = true := by decide +kernel
abbrev tbX6_plannedSteps : List (Nat × Instr × Nat) := [(0, .aload_n 0, 1), (1, .getfield 51, 3), (4, .aload_n 0, 1), (5, .getfield 27, 3), (8, .invokevirtual 239, 3), (11, .aload_n 0, 1), (12, .getfield 51, 3), (15, .getfield 249, 3), (18, .ireturn, 1)]
theorem tbX6_plannedSteps_k : dc_T cX6_plannedSteps tbX6_plannedSteps = true := by decide +kernel
abbrev tbX6_planned : List (Nat × Instr × Nat) := [(0, .aload_n 0, 1), (1, .getfield 51, 3), (4, .aload_n 0, 1), (5, .getfield 27, 3), (8, .invokevirtual 239, 3), (11, .iload_n 1, 1), (12, .ifCond .lt 20, 3), (15, .iload_n 1, 1), (16, .aload_n 0, 1), (17, .getfield 51, 3), (20, .getfield 249, 3), (23, .if_icmp .ge 9, 3), (26, .iload_n 1, 1), (27, .bipush 8, 2), (29, .if_icmp .lt 13, 3), (32, .new 176, 3), (35, .dup, 1), (36, .ldc 252, 2), (38, .invokespecial 180, 3), (41, .athrow, 1), (42, .aload_n 0, 1), (43, .getfield 51, 3), (46, .getfield 254, 3), (49, .iload_n 1, 1), (50, .iaload, 1), (51, .ireturn, 1)]
theorem tbX6_planned_k : dc_T cX6_planned tbX6_planned = true := by decide +kernel
abbrev tbX6_greatestCost : List (Nat × Instr × Nat) := [(0, .aload_n 0, 1), (1, .getfield 51, 3), (4, .aload_n 0, 1), (5, .getfield 27, 3), (8, .invokevirtual 239, 3), (11, .aload_n 0, 1), (12, .getfield 51, 3), (15, .getfield 257, 3), (18, .ireturn, 1)]
theorem tbX6_greatestCost_k : dc_T cX6_greatestCost tbX6_greatestCost = true := by decide +kernel
abbrev tbX6_ordersWith : List (Nat × Instr × Nat) := [(0, .aload_n 0, 1), (1, .iload_n 1, 1), (2, .iload_n 2, 1), (3, .invokevirtual 193, 3), (6, .aload_n 0, 1), (7, .iconst 2, 1), (8, .iload_n 1, 1), (9, .imul, 1), (10, .iload_n 2, 1), (11, .iadd, 1), (12, .invokevirtual 196, 3), (15, .ifCond .eq 5, 3), (18, .lconst 0, 1), (19, .lreturn, 1), (20, .aload_n 0, 1), (21, .getfield 51, 3), (24, .aload_n 0, 1), (25, .getfield 27, 3), (28, .invokevirtual 239, 3), (31, .aload_n 0, 1), (32, .getfield 51, 3), (35, .aload_n 0, 1), (36, .getfield 27, 3), (39, .getfield 170, 3), (42, .iconst 1, 1), (43, .iload_n 1, 1), (44, .ishl, 1), (45, .ior, 1), (46, .invokevirtual 242, 3), (49, .lreturn, 1)]
theorem tbX6_ordersWith_k : dc_T cX6_ordersWith tbX6_ordersWith = true := by decide +kernel
abbrev tbX6_lastSteps : List (Nat × Instr × Nat) := [(0, .aload_n 0, 1), (1, .getfield 51, 3), (4, .aload_n 0, 1), (5, .getfield 27, 3), (8, .invokevirtual 239, 3), (11, .aload_n 0, 1), (12, .getfield 51, 3), (15, .aload_n 0, 1), (16, .getfield 27, 3), (19, .invokevirtual 260, 3), (22, .ireturn, 1)]
theorem tbX6_lastSteps_k : dc_T cX6_lastSteps tbX6_lastSteps = true := by decide +kernel
abbrev tbX6_mostBends : List (Nat × Instr × Nat) := [(0, .aload_n 0, 1), (1, .getfield 51, 3), (4, .aload_n 0, 1), (5, .getfield 27, 3), (8, .invokevirtual 239, 3), (11, .aload_n 0, 1), (12, .getfield 51, 3), (15, .aload_n 0, 1), (16, .getfield 27, 3), (19, .invokevirtual 263, 3), (22, .ireturn, 1)]
theorem tbX6_mostBends_k : dc_T cX6_mostBends tbX6_mostBends = true := by decide +kernel
abbrev tbX6_greatestBeam_0 : List (Nat × Instr × Nat) := [(0, .aload_n 0, 1), (1, .getfield 31, 3), (4, .aload_n 0, 1), (5, .getfield 27, 3), (8, .invokevirtual 77, 3), (11, .iconst (-1), 1), (12, .istore_n 1, 1), (13, .bipush 16, 2), (15, .istore_n 2, 1), (16, .iload_n 2, 1), (17, .ifCond .le 49, 3), (20, .iload_n 1, 1), (21, .iload_n 2, 1), (22, .iadd, 1), (23, .istore_n 3, 1), (24, .aload_n 0, 1), (25, .getfield 31, 3), (28, .getfield 143, 3), (31, .iconst 1, 1), (32, .bipush 100, 2), (34, .iload_n 3, 1), (35, .imul, 1), (36, .iastore, 1), (37, .iload_n 3, 1), (38, .bipush 20, 2), (40, .if_icmp .gt 19, 3), (43, .aload_n 0, 1), (44, .getfield 51, 3), (47, .aload_n 0, 1), (48, .getfield 31, 3), (51, .invokevirtual 266, 3), (54, .ifCond .eq 5, 3), (57, .iload_n 3, 1), (58, .istore_n 1, 1), (59, .iload_n 2, 1), (60, .iconst 1, 1), (61, .ishr, 1), (62, .istore_n 2, 1), (63, .goto (-47), 3), (66, .iload_n 1, 1)]
theorem tbX6_greatestBeam_0_k : dc_T cX6_greatestBeam tbX6_greatestBeam_0 = true := by decide +kernel
abbrev tbX6_greatestBeam_1 : List (Nat × Instr × Nat) := [(67, .iconst (-1), 1), (68, .if_icmp .ne 7, 3), (71, .iconst (-1), 1), (72, .goto 7, 3), (75, .bipush 100, 2), (77, .iload_n 1, 1), (78, .imul, 1), (79, .ireturn, 1)]
theorem tbX6_greatestBeam_1_k : dc_T cX6_greatestBeam tbX6_greatestBeam_1 = true := by decide +kernel
abbrev tbX6_costIfTurned : List (Nat × Instr × Nat) := [(0, .aload_n 0, 1), (1, .iload_n 1, 1), (2, .invokevirtual 104, 3), (5, .aload_n 0, 1), (6, .invokevirtual 270, 3), (9, .aload_n 0, 1), (10, .getfield 31, 3), (13, .aload_n 0, 1), (14, .getfield 27, 3), (17, .invokevirtual 77, 3), (20, .aload_n 0, 1), (21, .getfield 31, 3), (24, .dup, 1), (25, .getfield 273, 3), (28, .iconst 1, 1), (29, .iload_n 1, 1), (30, .ishl, 1), (31, .ixor, 1), (32, .putfield 273, 3), (35, .aload_n 0, 1), (36, .getfield 51, 3), (39, .aload_n 0, 1), (40, .getfield 31, 3), (43, .invokevirtual 239, 3), (46, .aload_n 0, 1), (47, .getfield 51, 3), (50, .getfield 246, 3), (53, .ireturn, 1)]
theorem tbX6_costIfTurned_k : dc_T cX6_costIfTurned tbX6_costIfTurned = true := by decide +kernel
abbrev tbX6_fold : List (Nat × Instr × Nat) := [(0, .aload_n 0, 1), (1, .iload_n 1, 1), (2, .iload_n 2, 1), (3, .invokevirtual 193, 3), (6, .aload_n 0, 1), (7, .iconst 2, 1), (8, .iload_n 1, 1), (9, .imul, 1), (10, .iload_n 2, 1), (11, .iadd, 1), (12, .invokevirtual 196, 3), (15, .ifCond .eq 14, 3), (18, .new 276, 3), (21, .dup, 1), (22, .ldc_w 278, 3), (25, .invokespecial 280, 3), (28, .athrow, 1), (29, .aload_n 0, 1), (30, .iconst 2, 1), (31, .iload_n 1, 1), (32, .imul, 1), (33, .iload_n 2, 1), (34, .iadd, 1), (35, .invokevirtual 281, 3), (38, .ireturn, 1)]
theorem tbX6_fold_k : dc_T cX6_fold tbX6_fold = true := by decide +kernel
abbrev tbX6_foldNext : List (Nat × Instr × Nat) := [(0, .aload_n 0, 1), (1, .getfield 51, 3), (4, .aload_n 0, 1), (5, .getfield 27, 3), (8, .invokevirtual 239, 3), (11, .aload_n 0, 1), (12, .getfield 51, 3), (15, .getfield 249, 3), (18, .iconst 1, 1), (19, .if_icmp .ge 14, 3), (22, .new 276, 3), (25, .dup, 1), (26, .ldc_w 284, 3), (29, .invokespecial 280, 3), (32, .athrow, 1), (33, .aload_n 0, 1), (34, .getfield 51, 3), (37, .getfield 254, 3), (40, .iconst 0, 1), (41, .iaload, 1), (42, .istore_n 1, 1), (43, .aload_n 0, 1), (44, .iload_n 1, 1), (45, .invokevirtual 281, 3), (48, .pop, 1), (49, .iload_n 1, 1), (50, .ireturn, 1)]
theorem tbX6_foldNext_k : dc_T cX6_foldNext tbX6_foldNext = true := by decide +kernel
abbrev tbX6_makeStep : List (Nat × Instr × Nat) := [(0, .aload_n 0, 1), (1, .iload_n 1, 1), (2, .invokevirtual 219, 3), (5, .istore_n 2, 1), (6, .aload_n 0, 1), (7, .getfield 37, 3), (10, .aload_n 0, 1), (11, .getfield 27, 3), (14, .invokevirtual 286, 3), (17, .aload_n 0, 1), (18, .getfield 27, 3), (21, .iload_n 1, 1), (22, .aload_n 0, 1), (23, .iload_n 1, 1), (24, .invokevirtual 199, 3), (27, .iload_n 2, 1), (28, .invokevirtual 289, 3), (31, .iload_n 2, 1), (32, .ireturn, 1)]
theorem tbX6_makeStep_k : dc_T cX6_makeStep tbX6_makeStep = true := by decide +kernel
abbrev tbX6_unfold : List (Nat × Instr × Nat) := [(0, .aload_n 0, 1), (1, .getfield 37, 3), (4, .aload_n 0, 1), (5, .getfield 27, 3), (8, .invokevirtual 286, 3), (11, .aload_n 0, 1), (12, .getfield 27, 3), (15, .getfield 173, 3), (18, .istore_n 1, 1), (19, .aload_n 0, 1), (20, .getfield 27, 3), (23, .invokevirtual 293, 3), (26, .iload_n 1, 1), (27, .ireturn, 1)]
theorem tbX6_unfold_k : dc_T cX6_unfold tbX6_unfold = true := by decide +kernel
abbrev tbX6_setLeg : List (Nat × Instr × Nat) := [(0, .aload_n 0, 1), (1, .iload_n 1, 1), (2, .invokevirtual 97, 3), (5, .getstatic 296, 3), (8, .iconst 0, 1), (9, .iload_n 2, 1), (10, .invokevirtual 300, 3), (13, .ifCond .ne 14, 3), (16, .new 66, 3), (19, .dup, 1), (20, .ldc_w 304, 3), (23, .invokespecial 70, 3), (26, .athrow, 1), (27, .aload_n 0, 1), (28, .invokevirtual 270, 3), (31, .aload_n 0, 1), (32, .getfield 37, 3), (35, .aload_n 0, 1), (36, .getfield 27, 3), (39, .invokevirtual 286, 3), (42, .aload_n 0, 1), (43, .getfield 27, 3), (46, .getfield 100, 3), (49, .iload_n 1, 1), (50, .iaload, 1), (51, .istore_n 3, 1), (52, .aload_n 0, 1), (53, .getfield 27, 3), (56, .getfield 100, 3), (59, .iload_n 1, 1), (60, .iload_n 2, 1), (61, .iastore, 1), (62, .iload_n 3, 1), (63, .ireturn, 1)]
theorem tbX6_setLeg_k : dc_T cX6_setLeg tbX6_setLeg = true := by decide +kernel
abbrev tbX6_setDirection : List (Nat × Instr × Nat) := [(0, .aload_n 0, 1), (1, .iload_n 1, 1), (2, .invokevirtual 104, 3), (5, .aload_n 0, 1), (6, .invokevirtual 270, 3), (9, .aload_n 0, 1), (10, .getfield 37, 3), (13, .aload_n 0, 1), (14, .getfield 27, 3), (17, .invokevirtual 286, 3), (20, .aload_n 0, 1), (21, .getfield 27, 3), (24, .iload_n 1, 1), (25, .invokevirtual 107, 3), (28, .istore_n 3, 1), (29, .iload_n 3, 1), (30, .iload_n 2, 1), (31, .if_icmp .eq 18, 3), (34, .aload_n 0, 1), (35, .getfield 27, 3), (38, .dup, 1), (39, .getfield 273, 3), (42, .iconst 1, 1), (43, .iload_n 1, 1), (44, .ishl, 1), (45, .ixor, 1), (46, .putfield 273, 3), (49, .iload_n 3, 1), (50, .ireturn, 1)]
theorem tbX6_setDirection_k : dc_T cX6_setDirection tbX6_setDirection = true := by decide +kernel
abbrev tbX6_setTool_0 : List (Nat × Instr × Nat) := [(0, .iload_n 1, 1), (1, .invokestatic 132, 3), (4, .astore 4, 2), (6, .aload 4, 2), (8, .ifnull 24, 3), (11, .aload 4, 2), (13, .iconst 0, 1), (14, .iload_n 2, 1), (15, .invokevirtual 300, 3), (18, .ifCond .eq 14, 3), (21, .aload 4, 2), (23, .iload_n 2, 1), (24, .iconst 1, 1), (25, .iload_n 3, 1), (26, .invokevirtual 306, 3), (29, .ifCond .ne 14, 3), (32, .new 66, 3), (35, .dup, 1), (36, .ldc_w 310, 3), (39, .invokespecial 70, 3), (42, .athrow, 1), (43, .aload_n 0, 1), (44, .getfield 37, 3), (47, .aload_n 0, 1), (48, .getfield 27, 3), (51, .invokevirtual 286, 3), (54, .aload_n 0, 1), (55, .getfield 27, 3), (58, .getfield 143, 3), (61, .iconst 2, 1), (62, .iload_n 1, 1), (63, .imul, 1), (64, .iaload, 1), (65, .istore 5, 2), (67, .aload_n 0, 1), (68, .getfield 27, 3), (71, .iload_n 1, 1), (72, .iload_n 2, 1), (73, .iload_n 3, 1), (74, .invokevirtual 312, 3)]
theorem tbX6_setTool_0_k : dc_T cX6_setTool tbX6_setTool_0 = true := by decide +kernel
abbrev tbX6_setTool_1 : List (Nat × Instr × Nat) := [(77, .iload 5, 2), (79, .ireturn, 1)]
theorem tbX6_setTool_1_k : dc_T cX6_setTool tbX6_setTool_1 = true := by decide +kernel
abbrev tbX6_setSheet : List (Nat × Instr × Nat) := [(0, .getstatic 315, 3), (3, .iconst 0, 1), (4, .iload_n 1, 1), (5, .invokevirtual 300, 3), (8, .ifCond .eq 25, 3), (11, .getstatic 315, 3), (14, .iconst 1, 1), (15, .iload_n 2, 1), (16, .invokevirtual 300, 3), (19, .ifCond .eq 14, 3), (22, .getstatic 315, 3), (25, .iconst 2, 1), (26, .iload_n 3, 1), (27, .invokevirtual 300, 3), (30, .ifCond .ne 14, 3), (33, .new 66, 3), (36, .dup, 1), (37, .ldc_w 318, 3), (40, .invokespecial 70, 3), (43, .athrow, 1), (44, .aload_n 0, 1), (45, .getfield 37, 3), (48, .aload_n 0, 1), (49, .getfield 27, 3), (52, .invokevirtual 286, 3), (55, .aload_n 0, 1), (56, .getfield 27, 3), (59, .getfield 320, 3), (62, .istore 4, 2), (64, .aload_n 0, 1), (65, .getfield 27, 3), (68, .iload_n 1, 1), (69, .iload_n 2, 1), (70, .iload_n 3, 1), (71, .invokevirtual 323, 3), (74, .iload 4, 2), (76, .ireturn, 1)]
theorem tbX6_setSheet_k : dc_T cX6_setSheet tbX6_setSheet = true := by decide +kernel
abbrev tbX6_setCost : List (Nat × Instr × Nat) := [(0, .getstatic 326, 3), (3, .iconst 0, 1), (4, .iload_n 1, 1), (5, .invokevirtual 300, 3), (8, .ifCond .eq 25, 3), (11, .getstatic 326, 3), (14, .iconst 1, 1), (15, .iload_n 2, 1), (16, .invokevirtual 300, 3), (19, .ifCond .eq 14, 3), (22, .getstatic 326, 3), (25, .iconst 2, 1), (26, .iload_n 3, 1), (27, .invokevirtual 300, 3), (30, .ifCond .ne 14, 3), (33, .new 66, 3), (36, .dup, 1), (37, .ldc_w 329, 3), (40, .invokespecial 70, 3), (43, .athrow, 1), (44, .aload_n 0, 1), (45, .getfield 37, 3), (48, .aload_n 0, 1), (49, .getfield 27, 3), (52, .invokevirtual 286, 3), (55, .aload_n 0, 1), (56, .getfield 27, 3), (59, .getfield 331, 3), (62, .istore 4, 2), (64, .aload_n 0, 1), (65, .getfield 27, 3), (68, .iload_n 1, 1), (69, .iload_n 2, 1), (70, .iload_n 3, 1), (71, .invokevirtual 334, 3), (74, .iload 4, 2), (76, .ireturn, 1)]
theorem tbX6_setCost_k : dc_T cX6_setCost tbX6_setCost = true := by decide +kernel
abbrev tbX6_undo : List (Nat × Instr × Nat) := [(0, .aload_n 0, 1), (1, .getfield 37, 3), (4, .aload_n 0, 1), (5, .getfield 27, 3), (8, .invokevirtual 337, 3), (11, .ifCond .eq 13, 3), (14, .aload_n 0, 1), (15, .getfield 37, 3), (18, .getfield 340, 3), (21, .goto 4, 3), (24, .iconst (-1), 1), (25, .ireturn, 1)]
theorem tbX6_undo_k : dc_T cX6_undo tbX6_undo = true := by decide +kernel
abbrev tbX6_write_0 : List (Nat × Instr × Nat) := [(0, .aload_n 0, 1), (1, .getfield 58, 3), (4, .iconst 0, 1), (5, .invokevirtual 343, 3), (8, .iconst 0, 1), (9, .istore_n 1, 1), (10, .iload_n 1, 1), (11, .aload_n 0, 1), (12, .getfield 27, 3), (15, .getfield 94, 3), (18, .if_icmp .ge 43, 3), (21, .iload_n 1, 1), (22, .bipush 9, 2), (24, .if_icmp .ge 37, 3), (27, .iload_n 1, 1), (28, .ifCond .le 10, 3), (31, .aload_n 0, 1), (32, .iload_n 1, 1), (33, .iconst 1, 1), (34, .isub, 1), (35, .invokevirtual 346, 3), (38, .aload_n 0, 1), (39, .getfield 58, 3), (42, .aload_n 0, 1), (43, .getfield 27, 3), (46, .getfield 100, 3), (49, .iload_n 1, 1), (50, .iaload, 1), (51, .invokevirtual 349, 3), (54, .pop, 1), (55, .iinc 1 1, 3), (58, .goto (-48), 3), (61, .aload_n 0, 1), (62, .getfield 27, 3), (65, .getfield 173, 3), (68, .ifCond .le 29, 3), (71, .aload_n 0, 1), (72, .getfield 58, 3), (75, .ldc_w 352, 3), (78, .invokevirtual 354, 3)]
theorem tbX6_write_0_k : dc_T cX6_write tbX6_write_0 = true := by decide +kernel
abbrev tbX6_write_1 : List (Nat × Instr × Nat) := [(81, .pop, 1), (82, .aload_n 0, 1), (83, .getfield 58, 3), (86, .aload_n 0, 1), (87, .getfield 27, 3), (90, .invokevirtual 190, 3), (93, .invokevirtual 349, 3), (96, .pop, 1), (97, .aload_n 0, 1), (98, .getfield 58, 3), (101, .invokevirtual 357, 3), (104, .ireturn, 1)]
theorem tbX6_write_1_k : dc_T cX6_write tbX6_write_1 = true := by decide +kernel
abbrev tbX6_writeBend : List (Nat × Instr × Nat) := [(0, .aload_n 0, 1), (1, .getfield 58, 3), (4, .aload_n 0, 1), (5, .getfield 27, 3), (8, .iload_n 1, 1), (9, .invokevirtual 107, 3), (12, .ifCond .eq 8, 3), (15, .bipush 94, 2), (17, .goto 5, 3), (20, .bipush 118, 2), (22, .invokevirtual 360, 3), (25, .pop, 1), (26, .aload_n 0, 1), (27, .getfield 27, 3), (30, .getfield 170, 3), (33, .iload_n 1, 1), (34, .ishr, 1), (35, .iconst 1, 1), (36, .iand, 1), (37, .ifCond .eq 13, 3), (40, .aload_n 0, 1), (41, .getfield 58, 3), (44, .bipush 42, 2), (46, .invokevirtual 360, 3), (49, .pop, 1), (50, .return_, 1)]
theorem tbX6_writeBend_k : dc_T cX6_writeBend tbX6_writeBend = true := by decide +kernel
abbrev tbX6_written : List (Nat × Instr × Nat) := [(0, .iload_n 1, 1), (1, .ifCond .lt 14, 3), (4, .iload_n 1, 1), (5, .aload_n 0, 1), (6, .getfield 58, 3), (9, .invokevirtual 357, 3), (12, .if_icmp .lt 14, 3), (15, .new 176, 3), (18, .dup, 1), (19, .ldc_w 363, 3), (22, .invokespecial 180, 3), (25, .athrow, 1), (26, .aload_n 0, 1), (27, .getfield 58, 3), (30, .iload_n 1, 1), (31, .invokevirtual 365, 3), (34, .ireturn, 1)]
theorem tbX6_written_k : dc_T cX6_written tbX6_written = true := by decide +kernel
abbrev tbX6_requireBend : List (Nat × Instr × Nat) := [(0, .iload_n 1, 1), (1, .ifCond .lt 20, 3), (4, .iload_n 1, 1), (5, .aload_n 0, 1), (6, .getfield 27, 3), (9, .invokevirtual 84, 3), (12, .if_icmp .ge 9, 3), (15, .iload_n 1, 1), (16, .bipush 8, 2), (18, .if_icmp .lt 14, 3), (21, .new 176, 3), (24, .dup, 1), (25, .ldc_w 369, 3), (28, .invokespecial 180, 3), (31, .athrow, 1), (32, .return_, 1)]
theorem tbX6_requireBend_k : dc_T cX6_requireBend tbX6_requireBend = true := by decide +kernel
abbrev tbX6_requireLeg : List (Nat × Instr × Nat) := [(0, .iload_n 1, 1), (1, .ifCond .lt 20, 3), (4, .iload_n 1, 1), (5, .aload_n 0, 1), (6, .getfield 27, 3), (9, .getfield 94, 3), (12, .if_icmp .ge 9, 3), (15, .iload_n 1, 1), (16, .bipush 9, 2), (18, .if_icmp .lt 14, 3), (21, .new 176, 3), (24, .dup, 1), (25, .ldc_w 371, 3), (28, .invokespecial 180, 3), (31, .athrow, 1), (32, .return_, 1)]
theorem tbX6_requireLeg_k : dc_T cX6_requireLeg tbX6_requireLeg = true := by decide +kernel
abbrev tbX6_requireChoice : List (Nat × Instr × Nat) := [(0, .iload_n 0, 1), (1, .ifCond .lt 8, 3), (4, .iload_n 0, 1), (5, .iload_n 1, 1), (6, .if_icmp .le 14, 3), (9, .new 66, 3), (12, .dup, 1), (13, .ldc_w 373, 3), (16, .invokespecial 70, 3), (19, .athrow, 1), (20, .return_, 1)]
theorem tbX6_requireChoice_k : dc_T cX6_requireChoice tbX6_requireChoice = true := by decide +kernel
abbrev tbX6_requireStep : List (Nat × Instr × Nat) := [(0, .aload_n 0, 1), (1, .iload_n 1, 1), (2, .invokevirtual 104, 3), (5, .iload_n 2, 1), (6, .iconst 1, 1), (7, .invokestatic 163, 3), (10, .return_, 1)]
theorem tbX6_requireStep_k : dc_T cX6_requireStep tbX6_requireStep = true := by decide +kernel
abbrev tbX6_requireFlat : List (Nat × Instr × Nat) := [(0, .aload_n 0, 1), (1, .getfield 27, 3), (4, .getfield 173, 3), (7, .ifCond .le 14, 3), (10, .new 276, 3), (13, .dup, 1), (14, .ldc_w 375, 3), (17, .invokespecial 280, 3), (20, .athrow, 1), (21, .return_, 1)]
theorem tbX6_requireFlat_k : dc_T cX6_requireFlat tbX6_requireFlat = true := by decide +kernel
theorem dX7_init_7 : decode cX7_init 7 = .ok (.newarray .int, 2) := by decide +kernel
theorem dX7_init_15 : decode cX7_init 15 = .ok (.newarray .int, 2) := by decide +kernel
theorem dX7_init_23 : decode cX7_init 23 = .ok (.newarray .int, 2) := by decide +kernel
theorem dX7_init_32 : decode cX7_init 32 = .ok (.newarray .int, 2) := by decide +kernel
theorem dX7_init_41 : decode cX7_init 41 = .ok (.newarray .int, 2) := by decide +kernel
theorem dX7_init_54 : decode cX7_init 54 = .ok (.newarray .int, 2) := by decide +kernel
theorem dX7_init_62 : decode cX7_init 62 = .ok (.newarray .int, 2) := by decide +kernel
theorem dX7_init_70 : decode cX7_init 70 = .ok (.newarray .int, 2) := by decide +kernel
theorem dX7_init_78 : decode cX7_init 78 = .ok (.newarray .int, 2) := by decide +kernel
theorem dX7_init_87 : decode cX7_init 87 = .ok (.newarray .boolean, 2) := by decide +kernel
theorem dX7_init_96 : decode cX7_init 96 = .ok (.newarray .int, 2) := by decide +kernel
theorem dX7_init_105 : decode cX7_init 105 = .ok (.newarray .long, 2) := by decide +kernel
theorem dX7_init_114 : decode cX7_init 114 = .ok (.newarray .int, 2) := by decide +kernel
theorem dX7_init_123 : decode cX7_init 123 = .ok (.newarray .int, 2) := by decide +kernel
theorem dX7_init_132 : decode cX7_init 132 = .ok (.newarray .boolean, 2) := by decide +kernel
theorem dX7_init_140 : decode cX7_init 140 = .ok (.newarray .int, 2) := by decide +kernel
abbrev tbX7_init_0 : List (Nat × Instr × Nat) := [(0, .aload_n 0, 1), (1, .invokespecial 1, 3), (4, .aload_n 0, 1), (5, .bipush 86, 2), (9, .putfield 7, 3), (12, .aload_n 0, 1), (13, .bipush 86, 2), (17, .putfield 13, 3), (20, .aload_n 0, 1), (21, .bipush 86, 2), (25, .putfield 16, 3), (28, .aload_n 0, 1), (29, .sipush 860, 3), (34, .putfield 19, 3), (37, .aload_n 0, 1), (38, .sipush 600, 3), (43, .putfield 22, 3), (46, .aload_n 0, 1), (47, .iconst (-1), 1), (48, .putfield 25, 3), (51, .aload_n 0, 1), (52, .bipush 9, 2), (56, .putfield 29, 3), (59, .aload_n 0, 1), (60, .bipush 9, 2), (64, .putfield 32, 3), (67, .aload_n 0, 1), (68, .bipush 9, 2), (72, .putfield 35, 3), (75, .aload_n 0, 1), (76, .bipush 9, 2), (80, .putfield 38, 3), (83, .aload_n 0, 1), (84, .sipush 4096, 3), (89, .putfield 41, 3), (92, .aload_n 0, 1), (93, .sipush 4096, 3), (98, .putfield 45, 3), (101, .aload_n 0, 1), (102, .sipush 256, 3)]
theorem tbX7_init_0_k : dc_T cX7_init tbX7_init_0 = true := by decide +kernel
abbrev tbX7_init_1 : List (Nat × Instr × Nat) := [(107, .putfield 48, 3), (110, .aload_n 0, 1), (111, .sipush 4352, 3), (116, .putfield 52, 3), (119, .aload_n 0, 1), (120, .sipush 4352, 3), (125, .putfield 55, 3), (128, .aload_n 0, 1), (129, .sipush 256, 3), (134, .putfield 58, 3), (137, .aload_n 0, 1), (138, .bipush 120, 2), (142, .putfield 61, 3), (145, .aload_n 0, 1), (146, .invokevirtual 64, 3), (149, .aload_n 0, 1), (150, .getfield 13, 3), (153, .aload_n 0, 1), (154, .getfield 7, 3), (157, .invokestatic 67, 3), (160, .return_, 1)]
theorem tbX7_init_1_k : dc_T cX7_init tbX7_init_1 = true := by decide +kernel
abbrev tbX7_thrown : List (Nat × Instr × Nat) := [(0, .aload_n 0, 1), (1, .getfield 71, 3), (4, .ireturn, 1)]
theorem tbX7_thrown_k : dc_T cX7_thrown tbX7_thrown = true := by decide +kernel
abbrev tbX7_between : List (Nat × Instr × Nat) := [(0, .lload_n 0, 1), (1, .lload_n 2, 1), (2, .lcmp, 1), (3, .ifCond .lt 14, 3), (6, .lload_n 0, 1), (7, .lload 4, 2), (9, .lcmp, 1), (10, .ifCond .gt 7, 3), (13, .iconst 1, 1), (14, .goto 4, 3), (17, .iconst 0, 1), (18, .ireturn, 1)]
theorem tbX7_between_k : dc_T cX7_between tbX7_between = true := by decide +kernel
abbrev tbX7_good : List (Nat × Instr × Nat) := [(0, .aload_n 0, 1), (1, .iload_n 1, 1), (2, .ifCond .eq 7, 3), (5, .iconst 0, 1), (6, .goto 4, 3), (9, .iconst 1, 1), (10, .putfield 71, 3), (13, .iload_n 1, 1), (14, .ireturn, 1)]
theorem tbX7_good_k : dc_T cX7_good tbX7_good = true := by decide +kernel
abbrev tbX7_good_ : List (Nat × Instr × Nat) := [(0, .aload_n 0, 1), (1, .iload_n 1, 1), (2, .ifCond .ne 7, 3), (5, .iconst 1, 1), (6, .goto 12, 3), (9, .iload_n 2, 1), (10, .ifCond .ne 7, 3), (13, .iconst 2, 1), (14, .goto 4, 3), (17, .iconst 0, 1), (18, .putfield 71, 3), (21, .aload_n 0, 1), (22, .getfield 71, 3), (25, .ifCond .ne 7, 3), (28, .iconst 1, 1), (29, .goto 4, 3), (32, .iconst 0, 1), (33, .ireturn, 1)]
theorem tbX7_good__k : dc_T cX7_good_ tbX7_good_ = true := by decide +kernel
abbrev tbX7_good__ : List (Nat × Instr × Nat) := [(0, .aload_n 0, 1), (1, .iload_n 1, 1), (2, .ifCond .ne 7, 3), (5, .iconst 1, 1), (6, .goto 20, 3), (9, .iload_n 2, 1), (10, .ifCond .ne 7, 3), (13, .iconst 2, 1), (14, .goto 12, 3), (17, .iload_n 3, 1), (18, .ifCond .ne 7, 3), (21, .iconst 3, 1), (22, .goto 4, 3), (25, .iconst 0, 1), (26, .putfield 71, 3), (29, .aload_n 0, 1), (30, .getfield 71, 3), (33, .ifCond .ne 7, 3), (36, .iconst 1, 1), (37, .goto 4, 3), (40, .iconst 0, 1), (41, .ireturn, 1)]
theorem tbX7_good___k : dc_T cX7_good__ tbX7_good__ = true := by decide +kernel
abbrev tbX7_copy : List (Nat × Instr × Nat) := [(0, .iconst 0, 1), (1, .istore_n 2, 1), (2, .iload_n 2, 1), (3, .bipush 86, 2), (5, .if_icmp .ge 15, 3), (8, .aload_n 1, 1), (9, .iload_n 2, 1), (10, .aload_n 0, 1), (11, .iload_n 2, 1), (12, .iaload, 1), (13, .iastore, 1), (14, .iinc 2 1, 3), (17, .goto (-15), 3), (20, .return_, 1)]
theorem tbX7_copy_k : dc_T cX7_copy tbX7_copy = true := by decide +kernel
abbrev tbX7_has : List (Nat × Instr × Nat) := [(0, .iload_n 0, 1), (1, .iload_n 1, 1), (2, .ishr, 1), (3, .iconst 1, 1), (4, .iand, 1), (5, .iconst 1, 1), (6, .if_icmp .ne 7, 3), (9, .iconst 1, 1), (10, .goto 4, 3), (13, .iconst 0, 1), (14, .ireturn, 1)]
theorem tbX7_has_k : dc_T cX7_has tbX7_has = true := by decide +kernel
abbrev tbX7_remember_0 : List (Nat × Instr × Nat) := [(0, .aload_n 0, 1), (1, .getfield 74, 3), (4, .bipush 10, 2), (6, .if_icmp .ne 44, 3), (9, .bipush 86, 2), (11, .istore_n 1, 1), (12, .iload_n 1, 1), (13, .sipush 860, 3), (16, .if_icmp .ge 24, 3), (19, .aload_n 0, 1), (20, .getfield 19, 3), (23, .iload_n 1, 1), (24, .bipush 86, 2), (26, .isub, 1), (27, .aload_n 0, 1), (28, .getfield 19, 3), (31, .iload_n 1, 1), (32, .iaload, 1), (33, .iastore, 1), (34, .iinc 1 1, 3), (37, .goto (-25), 3), (40, .aload_n 0, 1), (41, .dup, 1), (42, .getfield 74, 3), (45, .iconst 1, 1), (46, .isub, 1), (47, .putfield 74, 3), (50, .iconst 0, 1), (51, .istore_n 1, 1), (52, .iload_n 1, 1), (53, .bipush 86, 2), (55, .if_icmp .ge 29, 3), (58, .aload_n 0, 1), (59, .getfield 19, 3), (62, .bipush 86, 2), (64, .aload_n 0, 1), (65, .getfield 74, 3), (68, .imul, 1), (69, .iload_n 1, 1), (70, .iadd, 1)]
theorem tbX7_remember_0_k : dc_T cX7_remember tbX7_remember_0 = true := by decide +kernel
abbrev tbX7_remember_1 : List (Nat × Instr × Nat) := [(71, .aload_n 0, 1), (72, .getfield 7, 3), (75, .iload_n 1, 1), (76, .iaload, 1), (77, .iastore, 1), (78, .iinc 1 1, 3), (81, .goto (-29), 3), (84, .aload_n 0, 1), (85, .dup, 1), (86, .getfield 74, 3), (89, .iconst 1, 1), (90, .iadd, 1), (91, .putfield 74, 3), (94, .return_, 1)]
theorem tbX7_remember_1_k : dc_T cX7_remember tbX7_remember_1 = true := by decide +kernel
abbrev tbX7_undo : List (Nat × Instr × Nat) := [(0, .aload_n 0, 1), (1, .iconst 0, 1), (2, .putfield 71, 3), (5, .aload_n 0, 1), (6, .getfield 74, 3), (9, .ifCond .ne 5, 3), (12, .iconst (-1), 1), (13, .ireturn, 1), (14, .aload_n 0, 1), (15, .dup, 1), (16, .getfield 74, 3), (19, .iconst 1, 1), (20, .isub, 1), (21, .putfield 74, 3), (24, .iconst 0, 1), (25, .istore_n 1, 1), (26, .iload_n 1, 1), (27, .bipush 86, 2), (29, .if_icmp .ge 29, 3), (32, .aload_n 0, 1), (33, .getfield 7, 3), (36, .iload_n 1, 1), (37, .aload_n 0, 1), (38, .getfield 19, 3), (41, .bipush 86, 2), (43, .aload_n 0, 1), (44, .getfield 74, 3), (47, .imul, 1), (48, .iload_n 1, 1), (49, .iadd, 1), (50, .iaload, 1), (51, .iastore, 1), (52, .iinc 1 1, 3), (55, .goto (-29), 3), (58, .aload_n 0, 1), (59, .getfield 74, 3), (62, .ireturn, 1)]
theorem tbX7_undo_k : dc_T cX7_undo tbX7_undo = true := by decide +kernel
abbrev tbX7_append : List (Nat × Instr × Nat) := [(0, .bipush 24, 2), (2, .istore_n 2, 1), (3, .iload_n 2, 1), (4, .ifCond .lt 35, 3), (7, .aload_n 0, 1), (8, .getfield 22, 3), (11, .aload_n 0, 1), (12, .getfield 77, 3), (15, .iload_n 1, 1), (16, .iload_n 2, 1), (17, .iushr, 1), (18, .sipush 255, 3), (21, .iand, 1), (22, .iastore, 1), (23, .aload_n 0, 1), (24, .dup, 1), (25, .getfield 77, 3), (28, .iconst 1, 1), (29, .iadd, 1), (30, .putfield 77, 3), (33, .iinc 2 (-8), 3), (36, .goto (-33), 3), (39, .return_, 1)]
theorem tbX7_append_k : dc_T cX7_append tbX7_append = true := by decide +kernel
abbrev tbX7_feed : List (Nat × Instr × Nat) := [(0, .aload_n 0, 1), (1, .iconst 0, 1), (2, .putfield 71, 3), (5, .aload_n 0, 1), (6, .getfield 77, 3), (9, .bipush 20, 2), (11, .iadd, 1), (12, .sipush 600, 3), (15, .if_icmp .le 6, 3), (18, .bipush (-2), 2), (20, .ireturn, 1), (21, .aload_n 0, 1), (22, .iload_n 1, 1), (23, .invokevirtual 80, 3), (26, .aload_n 0, 1), (27, .iload_n 2, 1), (28, .invokevirtual 80, 3), (31, .aload_n 0, 1), (32, .iload_n 3, 1), (33, .invokevirtual 80, 3), (36, .aload_n 0, 1), (37, .iload 4, 2), (39, .invokevirtual 80, 3), (42, .aload_n 0, 1), (43, .iload 5, 2), (45, .invokevirtual 80, 3), (48, .aload_n 0, 1), (49, .getfield 77, 3), (52, .ireturn, 1)]
theorem tbX7_feed_k : dc_T cX7_feed tbX7_feed = true := by decide +kernel
abbrev tbX7_byteAt : List (Nat × Instr × Nat) := [(0, .iload_n 1, 1), (1, .aload_n 0, 1), (2, .getfield 84, 3), (5, .if_icmp .ge 12, 3), (8, .aload_n 0, 1), (9, .getfield 22, 3), (12, .iload_n 1, 1), (13, .iaload, 1), (14, .goto 4, 3), (17, .iconst (-1), 1), (18, .ireturn, 1)]
theorem tbX7_byteAt_k : dc_T cX7_byteAt tbX7_byteAt = true := by decide +kernel
abbrev tbX7_isLetter : List (Nat × Instr × Nat) := [(0, .iload_n 0, 1), (1, .bipush 97, 2), (3, .if_icmp .lt 13, 3), (6, .iload_n 0, 1), (7, .bipush 122, 2), (9, .if_icmp .gt 7, 3), (12, .iconst 1, 1), (13, .goto 4, 3), (16, .iconst 0, 1), (17, .ireturn, 1)]
theorem tbX7_isLetter_k : dc_T cX7_isLetter tbX7_isLetter = true := by decide +kernel
abbrev tbX7_isDigit : List (Nat × Instr × Nat) := [(0, .iload_n 0, 1), (1, .bipush 48, 2), (3, .if_icmp .lt 13, 3), (6, .iload_n 0, 1), (7, .bipush 57, 2), (9, .if_icmp .gt 7, 3), (12, .iconst 1, 1), (13, .goto 4, 3), (16, .iconst 0, 1), (17, .ireturn, 1)]
theorem tbX7_isDigit_k : dc_T cX7_isDigit tbX7_isDigit = true := by decide +kernel
abbrev tbX7_advance_0 : List (Nat × Instr × Nat) := [(0, .aload_n 0, 1), (1, .aload_n 0, 1), (2, .getfield 87, 3), (5, .invokevirtual 90, 3), (8, .bipush 32, 2), (10, .if_icmp .eq 16, 3), (13, .aload_n 0, 1), (14, .aload_n 0, 1), (15, .getfield 87, 3), (18, .invokevirtual 90, 3), (21, .bipush 10, 2), (23, .if_icmp .ne 16, 3), (26, .aload_n 0, 1), (27, .dup, 1), (28, .getfield 87, 3), (31, .iconst 1, 1), (32, .iadd, 1), (33, .putfield 87, 3), (36, .goto (-36), 3), (39, .aload_n 0, 1), (40, .aload_n 0, 1), (41, .getfield 87, 3), (44, .putfield 94, 3), (47, .aload_n 0, 1), (48, .aload_n 0, 1), (49, .getfield 87, 3), (52, .invokevirtual 90, 3), (55, .istore_n 1, 1), (56, .iload_n 1, 1), (57, .iconst (-1), 1), (58, .if_icmp .ne 11, 3), (61, .aload_n 0, 1), (62, .iconst 0, 1), (63, .putfield 97, 3), (66, .goto 195, 3), (69, .iload_n 1, 1), (70, .invokestatic 100, 3), (73, .ifCond .eq 56, 3), (76, .aload_n 0, 1), (77, .aload_n 0, 1)]
theorem tbX7_advance_0_k : dc_T cX7_advance tbX7_advance_0 = true := by decide +kernel
abbrev tbX7_advance_1 : List (Nat × Instr × Nat) := [(78, .getfield 87, 3), (81, .invokevirtual 90, 3), (84, .invokestatic 100, 3), (87, .ifCond .eq 16, 3), (90, .aload_n 0, 1), (91, .dup, 1), (92, .getfield 87, 3), (95, .iconst 1, 1), (96, .iadd, 1), (97, .putfield 87, 3), (100, .goto (-24), 3), (103, .aload_n 0, 1), (104, .aload_n 0, 1), (105, .getfield 87, 3), (108, .aload_n 0, 1), (109, .getfield 94, 3), (112, .isub, 1), (113, .bipush 6, 2), (115, .if_icmp .le 7, 3), (118, .iconst 1, 1), (119, .goto 4, 3), (122, .iconst 2, 1), (123, .putfield 97, 3), (126, .goto 135, 3), (129, .iload_n 1, 1), (130, .invokestatic 104, 3), (133, .ifCond .eq 103, 3), (136, .aload_n 0, 1), (137, .iconst 0, 1), (138, .putfield 107, 3), (141, .aload_n 0, 1), (142, .aload_n 0, 1), (143, .getfield 87, 3), (146, .invokevirtual 90, 3), (149, .invokestatic 104, 3), (152, .ifCond .eq 59, 3), (155, .aload_n 0, 1), (156, .aload_n 0, 1), (157, .getfield 87, 3), (160, .aload_n 0, 1)]
theorem tbX7_advance_1_k : dc_T cX7_advance tbX7_advance_1 = true := by decide +kernel
abbrev tbX7_advance_2 : List (Nat × Instr × Nat) := [(161, .getfield 94, 3), (164, .isub, 1), (165, .iconst 4, 1), (166, .if_icmp .ge 25, 3), (169, .bipush 10, 2), (171, .aload_n 0, 1), (172, .getfield 107, 3), (175, .imul, 1), (176, .aload_n 0, 1), (177, .aload_n 0, 1), (178, .getfield 87, 3), (181, .invokevirtual 90, 3), (184, .iadd, 1), (185, .bipush 48, 2), (187, .isub, 1), (188, .goto 7, 3), (191, .aload_n 0, 1), (192, .getfield 107, 3), (195, .putfield 107, 3), (198, .aload_n 0, 1), (199, .dup, 1), (200, .getfield 87, 3), (203, .iconst 1, 1), (204, .iadd, 1), (205, .putfield 87, 3), (208, .goto (-67), 3), (211, .aload_n 0, 1), (212, .aload_n 0, 1), (213, .getfield 87, 3), (216, .aload_n 0, 1), (217, .getfield 94, 3), (220, .isub, 1), (221, .iconst 4, 1), (222, .if_icmp .le 7, 3), (225, .iconst 1, 1), (226, .goto 4, 3), (229, .iconst 3, 1), (230, .putfield 97, 3), (233, .goto 28, 3), (236, .aload_n 0, 1)]
theorem tbX7_advance_2_k : dc_T cX7_advance tbX7_advance_2 = true := by decide +kernel
abbrev tbX7_advance_3 : List (Nat × Instr × Nat) := [(237, .dup, 1), (238, .getfield 87, 3), (241, .iconst 1, 1), (242, .iadd, 1), (243, .putfield 87, 3), (246, .aload_n 0, 1), (247, .iload_n 1, 1), (248, .bipush 59, 2), (250, .if_icmp .ne 7, 3), (253, .iconst 4, 1), (254, .goto 4, 3), (257, .iconst 1, 1), (258, .putfield 97, 3), (261, .iconst 1, 1), (262, .ireturn, 1)]
theorem tbX7_advance_3_k : dc_T cX7_advance tbX7_advance_3 = true := by decide +kernel
abbrev tbX7_isWord : List (Nat × Instr × Nat) := [(0, .aload_n 0, 1), (1, .getfield 97, 3), (4, .iconst 2, 1), (5, .if_icmp .ne 19, 3), (8, .aload_n 0, 1), (9, .getfield 87, 3), (12, .aload_n 0, 1), (13, .getfield 94, 3), (16, .isub, 1), (17, .aload_n 1, 1), (18, .invokevirtual 110, 3), (21, .if_icmp .eq 5, 3), (24, .iconst 0, 1), (25, .ireturn, 1), (26, .iconst 0, 1), (27, .istore_n 2, 1), (28, .iload_n 2, 1), (29, .aload_n 1, 1), (30, .invokevirtual 110, 3), (33, .if_icmp .ge 30, 3), (36, .aload_n 0, 1), (37, .getfield 22, 3), (40, .aload_n 0, 1), (41, .getfield 94, 3), (44, .iload_n 2, 1), (45, .iadd, 1), (46, .iaload, 1), (47, .aload_n 1, 1), (48, .iload_n 2, 1), (49, .invokevirtual 115, 3), (52, .if_icmp .eq 5, 3), (55, .iconst 0, 1), (56, .ireturn, 1), (57, .iinc 2 1, 3), (60, .goto (-32), 3), (63, .iconst 1, 1), (64, .ireturn, 1)]
theorem tbX7_isWord_k : dc_T cX7_isWord tbX7_isWord = true := by decide +kernel
abbrev tbX7_fail : List (Nat × Instr × Nat) := [(0, .aload_n 0, 1), (1, .aload_n 0, 1), (2, .getfield 97, 3), (5, .iconst 1, 1), (6, .if_icmp .ne 7, 3), (9, .iconst 1, 1), (10, .goto 4, 3), (13, .iload_n 1, 1), (14, .putfield 119, 3), (17, .aload_n 0, 1), (18, .aload_n 0, 1), (19, .getfield 94, 3), (22, .putfield 122, 3), (25, .iconst 0, 1), (26, .ireturn, 1)]
theorem tbX7_fail_k : dc_T cX7_fail tbX7_fail = true := by decide +kernel
abbrev tbX7_number : List (Nat × Instr × Nat) := [(0, .aload_n 0, 1), (1, .getfield 97, 3), (4, .iconst 3, 1), (5, .if_icmp .eq 9, 3), (8, .aload_n 0, 1), (9, .iconst 2, 1), (10, .invokevirtual 125, 3), (13, .ireturn, 1), (14, .aload_n 0, 1), (15, .getfield 107, 3), (18, .i2l, 1), (19, .iload_n 2, 1), (20, .i2l, 1), (21, .iload_n 3, 1), (22, .i2l, 1), (23, .invokestatic 128, 3), (26, .ifCond .ne 9, 3), (29, .aload_n 0, 1), (30, .iconst 3, 1), (31, .invokevirtual 125, 3), (34, .ireturn, 1), (35, .aload_n 0, 1), (36, .getfield 13, 3), (39, .iload_n 1, 1), (40, .aload_n 0, 1), (41, .getfield 107, 3), (44, .iastore, 1), (45, .aload_n 0, 1), (46, .invokevirtual 132, 3), (49, .ireturn, 1)]
theorem tbX7_number_k : dc_T cX7_number tbX7_number = true := by decide +kernel
abbrev tbX7_closed : List (Nat × Instr × Nat) := [(0, .aload_n 0, 1), (1, .getfield 97, 3), (4, .iconst 4, 1), (5, .if_icmp .eq 9, 3), (8, .aload_n 0, 1), (9, .iconst 2, 1), (10, .invokevirtual 125, 3), (13, .ireturn, 1), (14, .aload_n 0, 1), (15, .invokevirtual 132, 3), (18, .ireturn, 1)]
theorem tbX7_closed_k : dc_T cX7_closed tbX7_closed = true := by decide +kernel
abbrev tbX7_lay : List (Nat × Instr × Nat) := [(0, .aload_n 0, 1), (1, .getfield 13, 3), (4, .iload_n 1, 1), (5, .iload_n 2, 1), (6, .iastore, 1), (7, .aload_n 0, 1), (8, .getfield 13, 3), (11, .iload_n 1, 1), (12, .iconst 1, 1), (13, .iadd, 1), (14, .iload_n 3, 1), (15, .iastore, 1), (16, .aload_n 0, 1), (17, .getfield 13, 3), (20, .iload_n 1, 1), (21, .iconst 2, 1), (22, .iadd, 1), (23, .iload 4, 2), (25, .iastore, 1), (26, .return_, 1)]
theorem tbX7_lay_k : dc_T cX7_lay tbX7_lay = true := by decide +kernel
abbrev tbX7_reset_0 : List (Nat × Instr × Nat) := [(0, .iconst 0, 1), (1, .istore_n 1, 1), (2, .iload_n 1, 1), (3, .bipush 86, 2), (5, .if_icmp .ge 16, 3), (8, .aload_n 0, 1), (9, .getfield 13, 3), (12, .iload_n 1, 1), (13, .iconst 0, 1), (14, .iastore, 1), (15, .iinc 1 1, 3), (18, .goto (-16), 3), (21, .aload_n 0, 1), (22, .bipush 36, 2), (24, .bipush 10, 2), (26, .bipush 10, 2), (28, .bipush 40, 2), (30, .invokevirtual 136, 3), (33, .aload_n 0, 1), (34, .bipush 39, 2), (36, .sipush 300, 3), (39, .sipush 600, 3), (42, .sipush 300, 3), (45, .invokevirtual 136, 3), (48, .aload_n 0, 1), (49, .bipush 42, 2), (51, .sipush 600, 3), (54, .sipush 200, 3), (57, .sipush 400, 3), (60, .invokevirtual 136, 3), (63, .aload_n 0, 1), (64, .bipush 45, 2), (66, .iconst 0, 1), (67, .sipush 9999, 3), (70, .iconst 0, 1), (71, .invokevirtual 136, 3), (74, .aload_n 0, 1), (75, .bipush 49, 2), (77, .iconst 1, 1), (78, .iconst 1, 1)]
theorem tbX7_reset_0_k : dc_T cX7_reset tbX7_reset_0 = true := by decide +kernel
abbrev tbX7_reset_1 : List (Nat × Instr × Nat) := [(79, .iconst 1, 1), (80, .invokevirtual 136, 3), (83, .return_, 1)]
theorem tbX7_reset_1_k : dc_T cX7_reset tbX7_reset_1 = true := by decide +kernel
abbrev tbX7_sheetStatement : List (Nat × Instr × Nat) := [(0, .aload_n 0, 1), (1, .invokevirtual 132, 3), (4, .pop, 1), (5, .aload_n 0, 1), (6, .bipush 36, 2), (8, .iconst 1, 1), (9, .bipush 60, 2), (11, .invokevirtual 140, 3), (14, .ifCond .eq 32, 3), (17, .aload_n 0, 1), (18, .bipush 37, 2), (20, .iconst 0, 1), (21, .sipush 200, 3), (24, .invokevirtual 140, 3), (27, .ifCond .eq 19, 3), (30, .aload_n 0, 1), (31, .bipush 38, 2), (33, .iconst 0, 1), (34, .bipush 100, 2), (36, .invokevirtual 140, 3), (39, .ifCond .eq 7, 3), (42, .iconst 1, 1), (43, .goto 4, 3), (46, .iconst 0, 1), (47, .ireturn, 1)]
theorem tbX7_sheetStatement_k : dc_T cX7_sheetStatement tbX7_sheetStatement = true := by decide +kernel
abbrev tbX7_legStatement : List (Nat × Instr × Nat) := [(0, .aload_n 0, 1), (1, .getfield 13, 3), (4, .iconst 1, 1), (5, .iaload, 1), (6, .ifCond .le 9, 3), (9, .aload_n 0, 1), (10, .iconst 4, 1), (11, .invokevirtual 125, 3), (14, .ireturn, 1), (15, .aload_n 0, 1), (16, .invokevirtual 132, 3), (19, .pop, 1), (20, .aload_n 0, 1), (21, .iconst 2, 1), (22, .iconst 1, 1), (23, .sipush 9999, 3), (26, .invokevirtual 140, 3), (29, .ifCond .ne 5, 3), (32, .iconst 0, 1), (33, .ireturn, 1), (34, .aload_n 0, 1), (35, .getfield 13, 3), (38, .iconst 1, 1), (39, .iconst 1, 1), (40, .iastore, 1), (41, .iconst 1, 1), (42, .ireturn, 1)]
theorem tbX7_legStatement_k : dc_T cX7_legStatement tbX7_legStatement = true := by decide +kernel
abbrev tbX7_bendStatement_0 : List (Nat × Instr × Nat) := [(0, .aload_n 0, 1), (1, .getfield 13, 3), (4, .iconst 1, 1), (5, .iaload, 1), (6, .ifCond .ne 9, 3), (9, .aload_n 0, 1), (10, .iconst 4, 1), (11, .invokevirtual 125, 3), (14, .ireturn, 1), (15, .aload_n 0, 1), (16, .getfield 13, 3), (19, .iconst 0, 1), (20, .iaload, 1), (21, .istore_n 2, 1), (22, .iload_n 2, 1), (23, .bipush 8, 2), (25, .if_icmp .ne 9, 3), (28, .aload_n 0, 1), (29, .iconst 5, 1), (30, .invokevirtual 125, 3), (33, .ireturn, 1), (34, .aload_n 0, 1), (35, .invokevirtual 132, 3), (38, .pop, 1), (39, .aload_n 0, 1), (40, .iconst 2, 1), (41, .iload_n 2, 1), (42, .iadd, 1), (43, .iconst 1, 1), (44, .iadd, 1), (45, .iconst 1, 1), (46, .sipush 9999, 3), (49, .invokevirtual 140, 3), (52, .ifCond .ne 5, 3), (55, .iconst 0, 1), (56, .ireturn, 1), (57, .aload_n 0, 1), (58, .getfield 13, 3), (61, .bipush 11, 2), (63, .iload_n 2, 1)]
theorem tbX7_bendStatement_0_k : dc_T cX7_bendStatement tbX7_bendStatement_0 = true := by decide +kernel
abbrev tbX7_bendStatement_1 : List (Nat × Instr × Nat) := [(64, .iadd, 1), (65, .iload_n 1, 1), (66, .ifCond .eq 7, 3), (69, .iconst 1, 1), (70, .goto 4, 3), (73, .iconst 0, 1), (74, .iastore, 1), (75, .aload_n 0, 1), (76, .getfield 13, 3), (79, .iconst 0, 1), (80, .dup2, 1), (81, .iaload, 1), (82, .iconst 1, 1), (83, .iadd, 1), (84, .iastore, 1), (85, .aload_n 0, 1), (86, .getfield 13, 3), (89, .iconst 1, 1), (90, .dup2, 1), (91, .iaload, 1), (92, .iconst 1, 1), (93, .iadd, 1), (94, .iastore, 1), (95, .iconst 1, 1), (96, .ireturn, 1)]
theorem tbX7_bendStatement_1_k : dc_T cX7_bendStatement tbX7_bendStatement_1 = true := by decide +kernel
abbrev tbX7_backStatement_0 : List (Nat × Instr × Nat) := [(0, .aload_n 0, 1), (1, .getfield 13, 3), (4, .bipush 19, 2), (6, .iaload, 1), (7, .istore_n 1, 1), (8, .iload_n 1, 1), (9, .bipush 8, 2), (11, .if_icmp .ne 9, 3), (14, .aload_n 0, 1), (15, .iconst 5, 1), (16, .invokevirtual 125, 3), (19, .ireturn, 1), (20, .aload_n 0, 1), (21, .invokevirtual 132, 3), (24, .pop, 1), (25, .iload_n 1, 1), (26, .ifCond .ne 7, 3), (29, .iconst 0, 1), (30, .goto 18, 3), (33, .aload_n 0, 1), (34, .getfield 13, 3), (37, .bipush 20, 2), (39, .iconst 2, 1), (40, .iload_n 1, 1), (41, .imul, 1), (42, .iadd, 1), (43, .iconst 2, 1), (44, .isub, 1), (45, .iaload, 1), (46, .iconst 1, 1), (47, .iadd, 1), (48, .istore_n 2, 1), (49, .aload_n 0, 1), (50, .bipush 20, 2), (52, .iconst 2, 1), (53, .iload_n 1, 1), (54, .imul, 1), (55, .iadd, 1), (56, .iload_n 2, 1), (57, .sipush 999, 3)]
theorem tbX7_backStatement_0_k : dc_T cX7_backStatement tbX7_backStatement_0 = true := by decide +kernel
abbrev tbX7_backStatement_1 : List (Nat × Instr × Nat) := [(60, .invokevirtual 140, 3), (63, .ifCond .eq 22, 3), (66, .aload_n 0, 1), (67, .bipush 20, 2), (69, .iconst 2, 1), (70, .iload_n 1, 1), (71, .imul, 1), (72, .iadd, 1), (73, .iconst 1, 1), (74, .iadd, 1), (75, .iconst 0, 1), (76, .sipush 300, 3), (79, .invokevirtual 140, 3), (82, .ifCond .ne 5, 3), (85, .iconst 0, 1), (86, .ireturn, 1), (87, .aload_n 0, 1), (88, .getfield 13, 3), (91, .bipush 19, 2), (93, .dup2, 1), (94, .iaload, 1), (95, .iconst 1, 1), (96, .iadd, 1), (97, .iastore, 1), (98, .iconst 1, 1), (99, .ireturn, 1)]
theorem tbX7_backStatement_1_k : dc_T cX7_backStatement tbX7_backStatement_1 = true := by decide +kernel
abbrev tbX7_toolStatement : List (Nat × Instr × Nat) := [(0, .aload_n 0, 1), (1, .invokevirtual 132, 3), (4, .pop, 1), (5, .bipush 39, 2), (7, .iconst 2, 1), (8, .iload_n 1, 1), (9, .imul, 1), (10, .iadd, 1), (11, .istore_n 2, 1), (12, .aload_n 0, 1), (13, .iload_n 2, 1), (14, .iconst 0, 1), (15, .sipush 9999, 3), (18, .invokevirtual 140, 3), (21, .ifCond .ne 5, 3), (24, .iconst 0, 1), (25, .ireturn, 1), (26, .iload_n 1, 1), (27, .iconst 4, 1), (28, .if_icmp .eq 31, 3), (31, .aload_n 0, 1), (32, .iload_n 2, 1), (33, .iconst 1, 1), (34, .iadd, 1), (35, .iload_n 1, 1), (36, .iconst 3, 1), (37, .if_icmp .ne 12, 3), (40, .aload_n 0, 1), (41, .getfield 13, 3), (44, .iload_n 2, 1), (45, .iaload, 1), (46, .goto 4, 3), (49, .iconst 0, 1), (50, .sipush 9999, 3), (53, .invokevirtual 140, 3), (56, .ifCond .eq 7, 3), (59, .iconst 1, 1), (60, .goto 4, 3), (63, .iconst 0, 1), (64, .ireturn, 1)]
theorem tbX7_toolStatement_k : dc_T cX7_toolStatement tbX7_toolStatement = true := by decide +kernel
abbrev tbX7_costStatement : List (Nat × Instr × Nat) := [(0, .aload_n 0, 1), (1, .invokevirtual 132, 3), (4, .pop, 1), (5, .aload_n 0, 1), (6, .bipush 49, 2), (8, .iconst 0, 1), (9, .bipush 99, 2), (11, .invokevirtual 140, 3), (14, .ifCond .eq 31, 3), (17, .aload_n 0, 1), (18, .bipush 50, 2), (20, .iconst 0, 1), (21, .bipush 99, 2), (23, .invokevirtual 140, 3), (26, .ifCond .eq 19, 3), (29, .aload_n 0, 1), (30, .bipush 51, 2), (32, .iconst 0, 1), (33, .bipush 99, 2), (35, .invokevirtual 140, 3), (38, .ifCond .eq 7, 3), (41, .iconst 1, 1), (42, .goto 4, 3), (45, .iconst 0, 1), (46, .ireturn, 1)]
theorem tbX7_costStatement_k : dc_T cX7_costStatement tbX7_costStatement = true := by decide +kernel
abbrev tbX7_toolHere : List (Nat × Instr × Nat) := [(0, .aload_n 0, 1), (1, .ldc 144, 2), (3, .invokevirtual 146, 3), (6, .ifCond .eq 5, 3), (9, .iconst 0, 1), (10, .ireturn, 1), (11, .aload_n 0, 1), (12, .ldc 150, 2), (14, .invokevirtual 146, 3), (17, .ifCond .eq 5, 3), (20, .iconst 1, 1), (21, .ireturn, 1), (22, .aload_n 0, 1), (23, .ldc 152, 2), (25, .invokevirtual 146, 3), (28, .ifCond .eq 5, 3), (31, .iconst 2, 1), (32, .ireturn, 1), (33, .aload_n 0, 1), (34, .ldc 154, 2), (36, .invokevirtual 146, 3), (39, .ifCond .eq 5, 3), (42, .iconst 3, 1), (43, .ireturn, 1), (44, .aload_n 0, 1), (45, .ldc 156, 2), (47, .invokevirtual 146, 3), (50, .ifCond .eq 7, 3), (53, .iconst 4, 1), (54, .goto 4, 3), (57, .iconst (-1), 1), (58, .ireturn, 1)]
theorem tbX7_toolHere_k : dc_T cX7_toolHere tbX7_toolHere = true := by decide +kernel
abbrev tbX7_statement_0 : List (Nat × Instr × Nat) := [(0, .aload_n 0, 1), (1, .ldc 158, 2), (3, .invokevirtual 146, 3), (6, .ifCond .eq 8, 3), (9, .aload_n 0, 1), (10, .invokevirtual 160, 3), (13, .ireturn, 1), (14, .aload_n 0, 1), (15, .ldc 163, 2), (17, .invokevirtual 146, 3), (20, .ifCond .eq 8, 3), (23, .aload_n 0, 1), (24, .invokevirtual 165, 3), (27, .ireturn, 1), (28, .aload_n 0, 1), (29, .ldc 168, 2), (31, .invokevirtual 146, 3), (34, .ifCond .ne 12, 3), (37, .aload_n 0, 1), (38, .ldc 170, 2), (40, .invokevirtual 146, 3), (43, .ifCond .eq 14, 3), (46, .aload_n 0, 1), (47, .aload_n 0, 1), (48, .ldc 168, 2), (50, .invokevirtual 146, 3), (53, .invokevirtual 172, 3), (56, .ireturn, 1), (57, .aload_n 0, 1), (58, .ldc 176, 2), (60, .invokevirtual 146, 3), (63, .ifCond .eq 8, 3), (66, .aload_n 0, 1), (67, .invokevirtual 178, 3), (70, .ireturn, 1), (71, .aload_n 0, 1), (72, .ldc 181, 2), (74, .invokevirtual 146, 3), (77, .ifCond .eq 8, 3), (80, .aload_n 0, 1)]
theorem tbX7_statement_0_k : dc_T cX7_statement tbX7_statement_0 = true := by decide +kernel
abbrev tbX7_statement_1 : List (Nat × Instr × Nat) := [(81, .invokevirtual 183, 3), (84, .ireturn, 1), (85, .aload_n 0, 1), (86, .invokevirtual 186, 3), (89, .istore_n 1, 1), (90, .iload_n 1, 1), (91, .iconst (-1), 1), (92, .if_icmp .ne 11, 3), (95, .aload_n 0, 1), (96, .iconst 2, 1), (97, .invokevirtual 125, 3), (100, .goto 8, 3), (103, .aload_n 0, 1), (104, .iload_n 1, 1), (105, .invokevirtual 189, 3), (108, .ireturn, 1)]
theorem tbX7_statement_1_k : dc_T cX7_statement tbX7_statement_1 = true := by decide +kernel
abbrev tbX7_load_0 : List (Nat × Instr × Nat) := [(0, .aload_n 0, 1), (1, .iload_n 1, 1), (2, .i2l, 1), (3, .lconst 0, 1), (4, .aload_n 0, 1), (5, .getfield 77, 3), (8, .i2l, 1), (9, .invokestatic 128, 3), (12, .ifCond .eq 7, 3), (15, .iconst 0, 1), (16, .goto 4, 3), (19, .iconst 1, 1), (20, .putfield 71, 3), (23, .aload_n 0, 1), (24, .getfield 71, 3), (27, .ifCond .le 5, 3), (30, .iconst 0, 1), (31, .ireturn, 1), (32, .aload_n 0, 1), (33, .iload_n 1, 1), (34, .putfield 84, 3), (37, .aload_n 0, 1), (38, .iconst 0, 1), (39, .putfield 77, 3), (42, .aload_n 0, 1), (43, .iconst 0, 1), (44, .putfield 87, 3), (47, .aload_n 0, 1), (48, .iconst 0, 1), (49, .putfield 119, 3), (52, .aload_n 0, 1), (53, .iconst (-1), 1), (54, .putfield 122, 3), (57, .aload_n 0, 1), (58, .invokevirtual 64, 3), (61, .aload_n 0, 1), (62, .invokevirtual 132, 3), (65, .pop, 1), (66, .iconst 1, 1), (67, .istore_n 2, 1)]
theorem tbX7_load_0_k : dc_T cX7_load tbX7_load_0 = true := by decide +kernel
abbrev tbX7_load_1 : List (Nat × Instr × Nat) := [(68, .iload_n 2, 1), (69, .ifCond .eq 33, 3), (72, .aload_n 0, 1), (73, .getfield 97, 3), (76, .ifCond .eq 26, 3), (79, .aload_n 0, 1), (80, .invokevirtual 192, 3), (83, .ifCond .eq 14, 3), (86, .aload_n 0, 1), (87, .invokevirtual 195, 3), (90, .ifCond .eq 7, 3), (93, .iconst 1, 1), (94, .goto 4, 3), (97, .iconst 0, 1), (98, .istore_n 2, 1), (99, .goto (-31), 3), (102, .aload_n 0, 1), (103, .aload_n 0, 1), (104, .getfield 119, 3), (107, .putfield 198, 3), (110, .aload_n 0, 1), (111, .aload_n 0, 1), (112, .getfield 122, 3), (115, .putfield 25, 3), (118, .iload_n 2, 1), (119, .ifCond .ne 6, 3), (122, .bipush (-3), 2), (124, .ireturn, 1), (125, .aload_n 0, 1), (126, .getfield 13, 3), (129, .aload_n 0, 1), (130, .getfield 7, 3), (133, .invokestatic 67, 3), (136, .aload_n 0, 1), (137, .iconst 0, 1), (138, .putfield 74, 3), (141, .aload_n 0, 1), (142, .getfield 7, 3), (145, .iconst 0, 1), (146, .iaload, 1)]
theorem tbX7_load_1_k : dc_T cX7_load tbX7_load_1 = true := by decide +kernel
abbrev tbX7_load_2 : List (Nat × Instr × Nat) := [(147, .ireturn, 1)]
theorem tbX7_load_2_k : dc_T cX7_load tbX7_load_2 = true := by decide +kernel
abbrev tbX7_errorKind : List (Nat × Instr × Nat) := [(0, .aload_n 0, 1), (1, .iconst 0, 1), (2, .putfield 71, 3), (5, .aload_n 0, 1), (6, .getfield 198, 3), (9, .ireturn, 1)]
theorem tbX7_errorKind_k : dc_T cX7_errorKind tbX7_errorKind = true := by decide +kernel
abbrev tbX7_errorPosition : List (Nat × Instr × Nat) := [(0, .aload_n 0, 1), (1, .iconst 0, 1), (2, .putfield 71, 3), (5, .aload_n 0, 1), (6, .getfield 25, 3), (9, .ireturn, 1)]
theorem tbX7_errorPosition_k : dc_T cX7_errorPosition tbX7_errorPosition = true := by decide +kernel
abbrev tbX7_isBend : List (Nat × Instr × Nat) := [(0, .iload_n 1, 1), (1, .i2l, 1), (2, .lconst 0, 1), (3, .aload_n 0, 1), (4, .getfield 7, 3), (7, .iconst 0, 1), (8, .iaload, 1), (9, .iconst 1, 1), (10, .isub, 1), (11, .i2l, 1), (12, .invokestatic 128, 3), (15, .ireturn, 1)]
theorem tbX7_isBend_k : dc_T cX7_isBend tbX7_isBend = true := by decide +kernel
abbrev tbX7_isLeg : List (Nat × Instr × Nat) := [(0, .iload_n 1, 1), (1, .i2l, 1), (2, .lconst 0, 1), (3, .aload_n 0, 1), (4, .getfield 7, 3), (7, .iconst 1, 1), (8, .iaload, 1), (9, .iconst 1, 1), (10, .isub, 1), (11, .i2l, 1), (12, .invokestatic 128, 3), (15, .ireturn, 1)]
theorem tbX7_isLeg_k : dc_T cX7_isLeg tbX7_isLeg = true := by decide +kernel
abbrev tbX7_isSide : List (Nat × Instr × Nat) := [(0, .iload_n 0, 1), (1, .i2l, 1), (2, .lconst 0, 1), (3, .lconst 1, 1), (4, .invokestatic 128, 3), (7, .ireturn, 1)]
theorem tbX7_isSide_k : dc_T cX7_isSide tbX7_isSide = true := by decide +kernel
abbrev tbX7_tellNow : List (Nat × Instr × Nat) := [(0, .aload_n 0, 1), (1, .iconst 0, 1), (2, .putfield 71, 3), (5, .aload_n 0, 1), (6, .getfield 7, 3), (9, .iload_n 1, 1), (10, .iaload, 1), (11, .ireturn, 1)]
theorem tbX7_tellNow_k : dc_T cX7_tellNow tbX7_tellNow = true := by decide +kernel
abbrev tbX7_bends : List (Nat × Instr × Nat) := [(0, .aload_n 0, 1), (1, .iconst 0, 1), (2, .invokevirtual 201, 3), (5, .ireturn, 1)]
theorem tbX7_bends_k : dc_T cX7_bends tbX7_bends = true := by decide +kernel
abbrev tbX7_legs : List (Nat × Instr × Nat) := [(0, .aload_n 0, 1), (1, .iconst 1, 1), (2, .invokevirtual 201, 3), (5, .ireturn, 1)]
theorem tbX7_legs_k : dc_T cX7_legs tbX7_legs = true := by decide +kernel
abbrev tbX7_leg : List (Nat × Instr × Nat) := [(0, .aload_n 0, 1), (1, .aload_n 0, 1), (2, .iload_n 1, 1), (3, .invokevirtual 204, 3), (6, .invokevirtual 207, 3), (9, .ifCond .eq 14, 3), (12, .aload_n 0, 1), (13, .getfield 7, 3), (16, .iconst 2, 1), (17, .iload_n 1, 1), (18, .iadd, 1), (19, .iaload, 1), (20, .goto 4, 3), (23, .iconst 0, 1), (24, .ireturn, 1)]
theorem tbX7_leg_k : dc_T cX7_leg tbX7_leg = true := by decide +kernel
abbrev tbX7_isUp : List (Nat × Instr × Nat) := [(0, .aload_n 0, 1), (1, .aload_n 0, 1), (2, .iload_n 1, 1), (3, .invokevirtual 210, 3), (6, .invokevirtual 207, 3), (9, .ifCond .eq 20, 3), (12, .aload_n 0, 1), (13, .getfield 7, 3), (16, .bipush 11, 2), (18, .iload_n 1, 1), (19, .iadd, 1), (20, .iaload, 1), (21, .iconst 1, 1), (22, .if_icmp .ne 7, 3), (25, .iconst 1, 1), (26, .goto 4, 3), (29, .iconst 0, 1), (30, .ireturn, 1)]
theorem tbX7_isUp_k : dc_T cX7_isUp tbX7_isUp = true := by decide +kernel
abbrev tbX7_sumOfLegs : List (Nat × Instr × Nat) := [(0, .iconst 0, 1), (1, .istore_n 2, 1), (2, .iconst 0, 1), (3, .istore_n 3, 1), (4, .iload_n 3, 1), (5, .iload_n 1, 1), (6, .if_icmp .ge 20, 3), (9, .iload_n 2, 1), (10, .aload_n 0, 1), (11, .getfield 7, 3), (14, .iconst 2, 1), (15, .iload_n 3, 1), (16, .iadd, 1), (17, .iaload, 1), (18, .iadd, 1), (19, .istore_n 2, 1), (20, .iinc 3 1, 3), (23, .goto (-19), 3), (26, .iload_n 2, 1), (27, .ireturn, 1)]
theorem tbX7_sumOfLegs_k : dc_T cX7_sumOfLegs tbX7_sumOfLegs = true := by decide +kernel
abbrev tbX7_deductionNow : List (Nat × Instr × Nat) := [(0, .aload_n 0, 1), (1, .getfield 7, 3), (4, .bipush 36, 2), (6, .iaload, 1), (7, .i2d, 1), (8, .dstore_n 1, 1), (9, .aload_n 0, 1), (10, .getfield 7, 3), (13, .bipush 37, 2), (15, .iaload, 1), (16, .i2d, 1), (17, .dstore_n 3, 1), (18, .aload_n 0, 1), (19, .getfield 7, 3), (22, .bipush 38, 2), (24, .iaload, 1), (25, .i2d, 1), (26, .dstore 5, 2), (28, .ldc2_w 213, 3), (31, .dload_n 3, 1), (32, .dload_n 1, 1), (33, .dadd, 1), (34, .dmul, 1), (35, .ldc2_w 215, 3), (38, .dload_n 3, 1), (39, .dload 5, 2), (41, .ldc2_w 217, 3), (44, .ddiv, 1), (45, .dload_n 1, 1), (46, .dmul, 1), (47, .dadd, 1), (48, .dmul, 1), (49, .dsub, 1), (50, .dreturn, 1)]
theorem tbX7_deductionNow_k : dc_T cX7_deductionNow tbX7_deductionNow = true := by decide +kernel
abbrev tbX7_deduction : List (Nat × Instr × Nat) := [(0, .aload_n 0, 1), (1, .iconst 0, 1), (2, .putfield 71, 3), (5, .aload_n 0, 1), (6, .invokevirtual 219, 3), (9, .dreturn, 1)]
theorem tbX7_deduction_k : dc_T cX7_deduction tbX7_deduction = true := by decide +kernel
abbrev tbX7_flatLength : List (Nat × Instr × Nat) := [(0, .aload_n 0, 1), (1, .iconst 0, 1), (2, .putfield 71, 3), (5, .aload_n 0, 1), (6, .getfield 7, 3), (9, .iconst 1, 1), (10, .iaload, 1), (11, .ifCond .ne 5, 3), (14, .dconst 0, 1), (15, .dreturn, 1), (16, .aload_n 0, 1), (17, .aload_n 0, 1), (18, .getfield 7, 3), (21, .iconst 1, 1), (22, .iaload, 1), (23, .invokevirtual 223, 3), (26, .i2d, 1), (27, .aload_n 0, 1), (28, .getfield 7, 3), (31, .iconst 0, 1), (32, .iaload, 1), (33, .i2d, 1), (34, .aload_n 0, 1), (35, .invokevirtual 219, 3), (38, .dmul, 1), (39, .dsub, 1), (40, .dreturn, 1)]
theorem tbX7_flatLength_k : dc_T cX7_flatLength tbX7_flatLength = true := by decide +kernel
abbrev tbX7_linePlace : List (Nat × Instr × Nat) := [(0, .aload_n 0, 1), (1, .aload_n 0, 1), (2, .iload_n 1, 1), (3, .invokevirtual 210, 3), (6, .invokevirtual 207, 3), (9, .ifCond .ne 5, 3), (12, .dconst 0, 1), (13, .dreturn, 1), (14, .aload_n 0, 1), (15, .iload_n 1, 1), (16, .iconst 1, 1), (17, .iadd, 1), (18, .invokevirtual 223, 3), (21, .i2d, 1), (22, .iload_n 1, 1), (23, .i2d, 1), (24, .ldc2_w 226, 3), (27, .dadd, 1), (28, .aload_n 0, 1), (29, .invokevirtual 219, 3), (32, .dmul, 1), (33, .dsub, 1), (34, .dreturn, 1)]
theorem tbX7_linePlace_k : dc_T cX7_linePlace tbX7_linePlace = true := by decide +kernel
abbrev tbX7_ratioNow : List (Nat × Instr × Nat) := [(0, .ldc2_w 228, 3), (3, .aload_n 0, 1), (4, .getfield 7, 3), (7, .bipush 37, 2), (9, .iaload, 1), (10, .i2d, 1), (11, .dmul, 1), (12, .aload_n 0, 1), (13, .getfield 7, 3), (16, .bipush 36, 2), (18, .iaload, 1), (19, .i2d, 1), (20, .ddiv, 1), (21, .dreturn, 1)]
theorem tbX7_ratioNow_k : dc_T cX7_ratioNow tbX7_ratioNow = true := by decide +kernel
abbrev tbX7_ratio : List (Nat × Instr × Nat) := [(0, .aload_n 0, 1), (1, .iconst 0, 1), (2, .putfield 71, 3), (5, .aload_n 0, 1), (6, .invokevirtual 230, 3), (9, .dreturn, 1)]
theorem tbX7_ratio_k : dc_T cX7_ratio tbX7_ratio = true := by decide +kernel
abbrev tbX7_ratioOf : List (Nat × Instr × Nat) := [(0, .aload_n 0, 1), (1, .getfield 7, 3), (4, .bipush 20, 2), (6, .iconst 2, 1), (7, .iload_n 1, 1), (8, .imul, 1), (9, .iadd, 1), (10, .iaload, 1), (11, .i2d, 1), (12, .dreturn, 1)]
theorem tbX7_ratioOf_k : dc_T cX7_ratioOf tbX7_ratioOf = true := by decide +kernel
abbrev tbX7_angleOf : List (Nat × Instr × Nat) := [(0, .aload_n 0, 1), (1, .getfield 7, 3), (4, .bipush 20, 2), (6, .iconst 2, 1), (7, .iload_n 1, 1), (8, .imul, 1), (9, .iadd, 1), (10, .iconst 1, 1), (11, .iadd, 1), (12, .iaload, 1), (13, .i2d, 1), (14, .dreturn, 1)]
theorem tbX7_angleOf_k : dc_T cX7_angleOf tbX7_angleOf = true := by decide +kernel
abbrev tbX7_springBy_0 : List (Nat × Instr × Nat) := [(0, .aload_n 0, 1), (1, .getfield 7, 3), (4, .bipush 19, 2), (6, .iaload, 1), (7, .istore_n 3, 1), (8, .iload_n 3, 1), (9, .ifCond .ne 5, 3), (12, .dconst 0, 1), (13, .dreturn, 1), (14, .dload_n 1, 1), (15, .aload_n 0, 1), (16, .iconst 0, 1), (17, .invokevirtual 233, 3), (20, .dcmp .g, 1), (21, .ifCond .gt 9, 3), (24, .aload_n 0, 1), (25, .iconst 0, 1), (26, .invokevirtual 237, 3), (29, .dreturn, 1), (30, .dload_n 1, 1), (31, .aload_n 0, 1), (32, .iload_n 3, 1), (33, .iconst 1, 1), (34, .isub, 1), (35, .invokevirtual 233, 3), (38, .dcmp .l, 1), (39, .ifCond .lt 11, 3), (42, .aload_n 0, 1), (43, .iload_n 3, 1), (44, .iconst 1, 1), (45, .isub, 1), (46, .invokevirtual 237, 3), (49, .dreturn, 1), (50, .iconst 1, 1), (51, .istore 4, 2), (53, .dload_n 1, 1), (54, .aload_n 0, 1), (55, .iload 4, 2), (57, .invokevirtual 233, 3), (60, .dcmp .l, 1)]
theorem tbX7_springBy_0_k : dc_T cX7_springBy tbX7_springBy_0 = true := by decide +kernel
abbrev tbX7_springBy_1 : List (Nat × Instr × Nat) := [(61, .ifCond .le 9, 3), (64, .iinc 4 1, 3), (67, .goto (-14), 3), (70, .aload_n 0, 1), (71, .iload 4, 2), (73, .iconst 1, 1), (74, .isub, 1), (75, .invokevirtual 237, 3), (78, .aload_n 0, 1), (79, .iload 4, 2), (81, .invokevirtual 237, 3), (84, .aload_n 0, 1), (85, .iload 4, 2), (87, .iconst 1, 1), (88, .isub, 1), (89, .invokevirtual 237, 3), (92, .dsub, 1), (93, .dload_n 1, 1), (94, .aload_n 0, 1), (95, .iload 4, 2), (97, .iconst 1, 1), (98, .isub, 1), (99, .invokevirtual 233, 3), (102, .dsub, 1), (103, .dmul, 1), (104, .aload_n 0, 1), (105, .iload 4, 2), (107, .invokevirtual 233, 3), (110, .aload_n 0, 1), (111, .iload 4, 2), (113, .iconst 1, 1), (114, .isub, 1), (115, .invokevirtual 233, 3), (118, .dsub, 1), (119, .ddiv, 1), (120, .dadd, 1), (121, .dreturn, 1)]
theorem tbX7_springBy_1_k : dc_T cX7_springBy tbX7_springBy_1 = true := by decide +kernel
abbrev tbX7_springBack : List (Nat × Instr × Nat) := [(0, .aload_n 0, 1), (1, .iconst 0, 1), (2, .putfield 71, 3), (5, .aload_n 0, 1), (6, .aload_n 0, 1), (7, .invokevirtual 230, 3), (10, .invokevirtual 240, 3), (13, .dreturn, 1)]
theorem tbX7_springBack_k : dc_T cX7_springBack tbX7_springBack = true := by decide +kernel
abbrev tbX7_springBackFor : List (Nat × Instr × Nat) := [(0, .aload_n 0, 1), (1, .dload_n 1, 1), (2, .dconst 0, 1), (3, .dcmp .l, 1), (4, .ifCond .lt 15, 3), (7, .dload_n 1, 1), (8, .ldc2_w 244, 3), (11, .dcmp .g, 1), (12, .ifCond .gt 7, 3), (15, .iconst 1, 1), (16, .goto 4, 3), (19, .iconst 0, 1), (20, .invokevirtual 207, 3), (23, .ifCond .eq 11, 3), (26, .aload_n 0, 1), (27, .dload_n 1, 1), (28, .invokevirtual 240, 3), (31, .goto 4, 3), (34, .dconst 0, 1), (35, .dreturn, 1)]
theorem tbX7_springBackFor_k : dc_T cX7_springBackFor tbX7_springBackFor = true := by decide +kernel
abbrev tbX7_swingAngle : List (Nat × Instr × Nat) := [(0, .aload_n 0, 1), (1, .iconst 0, 1), (2, .putfield 71, 3), (5, .ldc2_w 246, 3), (8, .aload_n 0, 1), (9, .aload_n 0, 1), (10, .invokevirtual 230, 3), (13, .invokevirtual 240, 3), (16, .dadd, 1), (17, .d2i, 1), (18, .ireturn, 1)]
theorem tbX7_swingAngle_k : dc_T cX7_swingAngle tbX7_swingAngle = true := by decide +kernel
abbrev tbX7_isTool : List (Nat × Instr × Nat) := [(0, .iload_n 0, 1), (1, .i2l, 1), (2, .lconst 0, 1), (3, .ldc2_w 248, 3), (6, .invokestatic 128, 3), (9, .ifCond .eq 26, 3), (12, .iload_n 1, 1), (13, .i2l, 1), (14, .lconst 0, 1), (15, .iload_n 0, 1), (16, .iconst 4, 1), (17, .if_icmp .ne 7, 3), (20, .lconst 0, 1), (21, .goto 4, 3), (24, .lconst 1, 1), (25, .invokestatic 128, 3), (28, .ifCond .eq 7, 3), (31, .iconst 1, 1), (32, .goto 4, 3), (35, .iconst 0, 1), (36, .ireturn, 1)]
theorem tbX7_isTool_k : dc_T cX7_isTool tbX7_isTool = true := by decide +kernel
abbrev tbX7_tool : List (Nat × Instr × Nat) := [(0, .aload_n 0, 1), (1, .iload_n 1, 1), (2, .iload_n 2, 1), (3, .invokestatic 250, 3), (6, .invokevirtual 207, 3), (9, .ifCond .eq 19, 3), (12, .aload_n 0, 1), (13, .getfield 7, 3), (16, .bipush 39, 2), (18, .iconst 2, 1), (19, .iload_n 1, 1), (20, .imul, 1), (21, .iadd, 1), (22, .iload_n 2, 1), (23, .iadd, 1), (24, .iaload, 1), (25, .goto 4, 3), (28, .iconst 0, 1), (29, .ireturn, 1)]
theorem tbX7_tool_k : dc_T cX7_tool tbX7_tool = true := by decide +kernel
abbrev tbX7_isMirrored : List (Nat × Instr × Nat) := [(0, .iconst 1, 1), (1, .istore_n 3, 1), (2, .iconst 0, 1), (3, .istore 4, 2), (5, .iload 4, 2), (7, .iload_n 2, 1), (8, .if_icmp .ge 44, 3), (11, .iload_n 3, 1), (12, .ifCond .eq 32, 3), (15, .aload_n 0, 1), (16, .getfield 7, 3), (19, .iload_n 1, 1), (20, .iload 4, 2), (22, .iadd, 1), (23, .iaload, 1), (24, .aload_n 0, 1), (25, .getfield 7, 3), (28, .iload_n 1, 1), (29, .iload_n 2, 1), (30, .iadd, 1), (31, .iconst 1, 1), (32, .isub, 1), (33, .iload 4, 2), (35, .isub, 1), (36, .iaload, 1), (37, .if_icmp .ne 7, 3), (40, .iconst 1, 1), (41, .goto 4, 3), (44, .iconst 0, 1), (45, .istore_n 3, 1), (46, .iinc 4 1, 3), (49, .goto (-44), 3), (52, .iload_n 3, 1), (53, .ireturn, 1)]
theorem tbX7_isMirrored_k : dc_T cX7_isMirrored tbX7_isMirrored = true := by decide +kernel
abbrev tbX7_isSymmetric : List (Nat × Instr × Nat) := [(0, .aload_n 0, 1), (1, .iconst 0, 1), (2, .putfield 71, 3), (5, .aload_n 0, 1), (6, .iconst 2, 1), (7, .aload_n 0, 1), (8, .getfield 7, 3), (11, .iconst 1, 1), (12, .iaload, 1), (13, .invokevirtual 254, 3), (16, .ifCond .eq 22, 3), (19, .aload_n 0, 1), (20, .bipush 11, 2), (22, .aload_n 0, 1), (23, .getfield 7, 3), (26, .iconst 0, 1), (27, .iaload, 1), (28, .invokevirtual 254, 3), (31, .ifCond .eq 7, 3), (34, .iconst 1, 1), (35, .goto 4, 3), (38, .iconst 0, 1), (39, .ireturn, 1)]
theorem tbX7_isSymmetric_k : dc_T cX7_isSymmetric tbX7_isSymmetric = true := by decide +kernel
abbrev tbX7_longestLeg : List (Nat × Instr × Nat) := [(0, .aload_n 0, 1), (1, .iconst 0, 1), (2, .putfield 71, 3), (5, .iconst (-1), 1), (6, .istore_n 1, 1), (7, .iconst 0, 1), (8, .istore_n 2, 1), (9, .iload_n 2, 1), (10, .aload_n 0, 1), (11, .getfield 7, 3), (14, .iconst 1, 1), (15, .iaload, 1), (16, .if_icmp .ge 39, 3), (19, .iload_n 1, 1), (20, .iconst (-1), 1), (21, .if_icmp .eq 22, 3), (24, .aload_n 0, 1), (25, .getfield 7, 3), (28, .iconst 2, 1), (29, .iload_n 2, 1), (30, .iadd, 1), (31, .iaload, 1), (32, .aload_n 0, 1), (33, .getfield 7, 3), (36, .iconst 2, 1), (37, .iload_n 1, 1), (38, .iadd, 1), (39, .iaload, 1), (40, .if_icmp .le 7, 3), (43, .iload_n 2, 1), (44, .goto 4, 3), (47, .iload_n 1, 1), (48, .istore_n 1, 1), (49, .iinc 2 1, 3), (52, .goto (-43), 3), (55, .iload_n 1, 1), (56, .ireturn, 1)]
theorem tbX7_longestLeg_k : dc_T cX7_longestLeg tbX7_longestLeg = true := by decide +kernel
theorem dX7_acrossOf_1 : decode cX7_acrossOf 1 = .ok (.lookupswitch 31 #[(1, 27), (3, 29)], 27) := by decide +kernel
abbrev tbX7_acrossOf : List (Nat × Instr × Nat) := [(0, .iload_n 0, 1), (28, .iconst 1, 1), (29, .ireturn, 1), (30, .iconst (-1), 1), (31, .ireturn, 1), (32, .iconst 0, 1), (33, .ireturn, 1)]
theorem tbX7_acrossOf_k : dc_T cX7_acrossOf tbX7_acrossOf = true := by decide +kernel
theorem dX7_upOf_1 : decode cX7_upOf 1 = .ok (.lookupswitch 31 #[(0, 27), (2, 29)], 27) := by decide +kernel
abbrev tbX7_upOf : List (Nat × Instr × Nat) := [(0, .iload_n 0, 1), (28, .iconst 1, 1), (29, .ireturn, 1), (30, .iconst (-1), 1), (31, .ireturn, 1), (32, .iconst 0, 1), (33, .ireturn, 1)]
theorem tbX7_upOf_k : dc_T cX7_upOf tbX7_upOf = true := by decide +kernel
abbrev tbX7_layLeg_0 : List (Nat × Instr × Nat) := [(0, .aload_n 0, 1), (1, .getfield 29, 3), (4, .iload_n 1, 1), (5, .aload_n 0, 1), (6, .getfield 257, 3), (9, .iastore, 1), (10, .aload_n 0, 1), (11, .getfield 32, 3), (14, .iload_n 1, 1), (15, .aload_n 0, 1), (16, .getfield 260, 3), (19, .iastore, 1), (20, .aload_n 0, 1), (21, .dup, 1), (22, .getfield 257, 3), (25, .iload_n 2, 1), (26, .invokestatic 263, 3), (29, .aload_n 0, 1), (30, .getfield 7, 3), (33, .iconst 2, 1), (34, .iload_n 1, 1), (35, .iadd, 1), (36, .iaload, 1), (37, .imul, 1), (38, .iadd, 1), (39, .putfield 257, 3), (42, .aload_n 0, 1), (43, .dup, 1), (44, .getfield 260, 3), (47, .iload_n 2, 1), (48, .invokestatic 266, 3), (51, .aload_n 0, 1), (52, .getfield 7, 3), (55, .iconst 2, 1), (56, .iload_n 1, 1), (57, .iadd, 1), (58, .iaload, 1), (59, .imul, 1), (60, .iadd, 1), (61, .putfield 260, 3)]
theorem tbX7_layLeg_0_k : dc_T cX7_layLeg tbX7_layLeg_0 = true := by decide +kernel
abbrev tbX7_layLeg_1 : List (Nat × Instr × Nat) := [(64, .aload_n 0, 1), (65, .getfield 35, 3), (68, .iload_n 1, 1), (69, .aload_n 0, 1), (70, .getfield 257, 3), (73, .iastore, 1), (74, .aload_n 0, 1), (75, .getfield 38, 3), (78, .iload_n 1, 1), (79, .aload_n 0, 1), (80, .getfield 260, 3), (83, .iastore, 1), (84, .return_, 1)]
theorem tbX7_layLeg_1_k : dc_T cX7_layLeg tbX7_layLeg_1 = true := by decide +kernel
abbrev tbX7_isClamped : List (Nat × Instr × Nat) := [(0, .iload_n 3, 1), (1, .ifCond .ne 16, 3), (4, .iload_n 1, 1), (5, .iload_n 2, 1), (6, .if_icmp .gt 7, 3), (9, .iconst 1, 1), (10, .goto 17, 3), (13, .iconst 0, 1), (14, .goto 13, 3), (17, .iload_n 1, 1), (18, .iload_n 2, 1), (19, .if_icmp .le 7, 3), (22, .iconst 1, 1), (23, .goto 4, 3), (26, .iconst 0, 1), (27, .ireturn, 1)]
theorem tbX7_isClamped_k : dc_T cX7_isClamped tbX7_isClamped = true := by decide +kernel
abbrev tbX7_laySide_0 : List (Nat × Instr × Nat) := [(0, .iload_n 3, 1), (1, .istore 7, 2), (3, .aload_n 0, 1), (4, .iconst 0, 1), (5, .putfield 257, 3), (8, .aload_n 0, 1), (9, .iconst 0, 1), (10, .putfield 260, 3), (13, .iload_n 1, 1), (14, .istore 8, 2), (16, .iload 8, 2), (18, .ifCond .lt 127, 3), (21, .iload 8, 2), (23, .aload_n 0, 1), (24, .getfield 7, 3), (27, .iconst 1, 1), (28, .iaload, 1), (29, .if_icmp .ge 116, 3), (32, .aload_n 0, 1), (33, .iload 8, 2), (35, .iload 7, 2), (37, .invokevirtual 269, 3), (40, .iload_n 2, 1), (41, .ifCond .le 8, 3), (44, .iload 8, 2), (46, .goto 7, 3), (49, .iload 8, 2), (51, .iconst 1, 1), (52, .isub, 1), (53, .istore 9, 2), (55, .iload 9, 2), (57, .i2l, 1), (58, .lconst 0, 1), (59, .aload_n 0, 1), (60, .getfield 7, 3), (63, .iconst 0, 1), (64, .iaload, 1), (65, .iconst 1, 1), (66, .isub, 1), (67, .i2l, 1)]
theorem tbX7_laySide_0_k : dc_T cX7_laySide tbX7_laySide_0 = true := by decide +kernel
abbrev tbX7_laySide_1 : List (Nat × Instr × Nat) := [(68, .invokestatic 128, 3), (71, .ifCond .eq 65, 3), (74, .iload 6, 2), (76, .iload 9, 2), (78, .invokestatic 273, 3), (81, .ifCond .eq 55, 3), (84, .aload_n 0, 1), (85, .getfield 7, 3), (88, .bipush 11, 2), (90, .iload 9, 2), (92, .iadd, 1), (93, .iaload, 1), (94, .iconst 1, 1), (95, .if_icmp .ne 7, 3), (98, .iconst 1, 1), (99, .goto 4, 3), (102, .iconst 0, 1), (103, .iload 5, 2), (105, .if_icmp .eq 7, 3), (108, .iconst 1, 1), (109, .goto 4, 3), (112, .iconst 0, 1), (113, .istore 10, 2), (115, .iload 7, 2), (117, .iload 10, 2), (119, .ifCond .eq 8, 3), (122, .iload 4, 2), (124, .goto 7, 3), (127, .iconst 4, 1), (128, .iload 4, 2), (130, .isub, 1), (131, .iadd, 1), (132, .iconst 4, 1), (133, .irem, 1), (134, .istore 7, 2), (136, .iload 8, 2), (138, .iload_n 2, 1), (139, .iadd, 1), (140, .istore 8, 2), (142, .goto (-126), 3)]
theorem tbX7_laySide_1_k : dc_T cX7_laySide tbX7_laySide_1 = true := by decide +kernel
abbrev tbX7_laySide_2 : List (Nat × Instr × Nat) := [(145, .return_, 1)]
theorem tbX7_laySide_2_k : dc_T cX7_laySide tbX7_laySide_2 = true := by decide +kernel
abbrev tbX7_laySheet_0 : List (Nat × Instr × Nat) := [(0, .aload_n 0, 1), (1, .getfield 7, 3), (4, .bipush 11, 2), (6, .iload_n 1, 1), (7, .iadd, 1), (8, .iaload, 1), (9, .ifCond .ne 7, 3), (12, .iconst 1, 1), (13, .goto 4, 3), (16, .iconst 0, 1), (17, .istore 4, 2), (19, .aload_n 0, 1), (20, .iload_n 1, 1), (21, .iconst (-1), 1), (22, .iload_n 2, 1), (23, .ifCond .ne 7, 3), (26, .iconst 3, 1), (27, .goto 4, 3), (30, .iconst 0, 1), (31, .iload_n 2, 1), (32, .ifCond .ne 7, 3), (35, .iconst 1, 1), (36, .goto 4, 3), (39, .iconst 3, 1), (40, .iload 4, 2), (42, .iload_n 3, 1), (43, .invokevirtual 276, 3), (46, .aload_n 0, 1), (47, .iload_n 1, 1), (48, .iconst 1, 1), (49, .iadd, 1), (50, .iconst 1, 1), (51, .iload_n 2, 1), (52, .ifCond .ne 7, 3), (55, .iconst 0, 1), (56, .goto 4, 3), (59, .iconst 3, 1), (60, .iload_n 2, 1), (61, .ifCond .ne 7, 3), (64, .iconst 3, 1)]
theorem tbX7_laySheet_0_k : dc_T cX7_laySheet tbX7_laySheet_0 = true := by decide +kernel
abbrev tbX7_laySheet_1 : List (Nat × Instr × Nat) := [(65, .goto 4, 3), (68, .iconst 1, 1), (69, .iload 4, 2), (71, .iload_n 3, 1), (72, .invokevirtual 276, 3), (75, .return_, 1)]
theorem tbX7_laySheet_1_k : dc_T cX7_laySheet tbX7_laySheet_1 = true := by decide +kernel
abbrev tbX7_isCrossing : List (Nat × Instr × Nat) := [(0, .iload_n 0, 1), (1, .iload_n 1, 1), (2, .invokestatic 280, 3), (5, .istore 4, 2), (7, .iload_n 0, 1), (8, .iload_n 1, 1), (9, .invokestatic 286, 3), (12, .istore 5, 2), (14, .iload 4, 2), (16, .iload 5, 2), (18, .if_icmp .ne 23, 3), (21, .iload 4, 2), (23, .iload_n 2, 1), (24, .if_icmp .le 13, 3), (27, .iload 4, 2), (29, .iload_n 3, 1), (30, .if_icmp .ge 7, 3), (33, .iconst 1, 1), (34, .goto 27, 3), (37, .iconst 0, 1), (38, .goto 23, 3), (41, .iload 4, 2), (43, .iload_n 2, 1), (44, .invokestatic 286, 3), (47, .iload 5, 2), (49, .iload_n 3, 1), (50, .invokestatic 280, 3), (53, .if_icmp .ge 7, 3), (56, .iconst 1, 1), (57, .goto 4, 3), (60, .iconst 0, 1), (61, .ireturn, 1)]
theorem tbX7_isCrossing_k : dc_T cX7_isCrossing tbX7_isCrossing = true := by decide +kernel
abbrev tbX7_isInside : List (Nat × Instr × Nat) := [(0, .aload_n 0, 1), (1, .getfield 29, 3), (4, .iload_n 1, 1), (5, .iaload, 1), (6, .aload_n 0, 1), (7, .getfield 35, 3), (10, .iload_n 1, 1), (11, .iaload, 1), (12, .iload_n 2, 1), (13, .iload_n 3, 1), (14, .invokestatic 289, 3), (17, .ifCond .eq 29, 3), (20, .aload_n 0, 1), (21, .getfield 32, 3), (24, .iload_n 1, 1), (25, .iaload, 1), (26, .aload_n 0, 1), (27, .getfield 38, 3), (30, .iload_n 1, 1), (31, .iaload, 1), (32, .iload 4, 2), (34, .iload 5, 2), (36, .invokestatic 289, 3), (39, .ifCond .eq 7, 3), (42, .iconst 1, 1), (43, .goto 4, 3), (46, .iconst 0, 1), (47, .ireturn, 1)]
theorem tbX7_isInside_k : dc_T cX7_isInside tbX7_isInside = true := by decide +kernel
abbrev tbX7_toolOf : List (Nat × Instr × Nat) := [(0, .aload_n 0, 1), (1, .getfield 7, 3), (4, .bipush 39, 2), (6, .iconst 2, 1), (7, .iload_n 1, 1), (8, .imul, 1), (9, .iadd, 1), (10, .iload_n 2, 1), (11, .iadd, 1), (12, .iaload, 1), (13, .ireturn, 1)]
theorem tbX7_toolOf_k : dc_T cX7_toolOf tbX7_toolOf = true := by decide +kernel
abbrev tbX7_hitsBeam : List (Nat × Instr × Nat) := [(0, .aload_n 0, 1), (1, .iload_n 1, 1), (2, .aload_n 0, 1), (3, .iconst 0, 1), (4, .iconst 0, 1), (5, .invokevirtual 293, 3), (8, .ineg, 1), (9, .iconst 0, 1), (10, .iconst 0, 1), (11, .aload_n 0, 1), (12, .iconst 0, 1), (13, .iconst 1, 1), (14, .invokevirtual 293, 3), (17, .invokevirtual 296, 3), (20, .ireturn, 1)]
theorem tbX7_hitsBeam_k : dc_T cX7_hitsBeam tbX7_hitsBeam = true := by decide +kernel
abbrev tbX7_hitsTable : List (Nat × Instr × Nat) := [(0, .aload_n 0, 1), (1, .iload_n 1, 1), (2, .aload_n 0, 1), (3, .iconst 1, 1), (4, .iconst 0, 1), (5, .invokevirtual 293, 3), (8, .ineg, 1), (9, .iconst 0, 1), (10, .aload_n 0, 1), (11, .iconst 1, 1), (12, .iconst 1, 1), (13, .invokevirtual 293, 3), (16, .ineg, 1), (17, .iconst 0, 1), (18, .invokevirtual 296, 3), (21, .ireturn, 1)]
theorem tbX7_hitsTable_k : dc_T cX7_hitsTable tbX7_hitsTable = true := by decide +kernel
abbrev tbX7_hitsWing : List (Nat × Instr × Nat) := [(0, .aload_n 0, 1), (1, .iload_n 1, 1), (2, .iconst 0, 1), (3, .aload_n 0, 1), (4, .iconst 2, 1), (5, .iconst 0, 1), (6, .invokevirtual 293, 3), (9, .iconst 0, 1), (10, .aload_n 0, 1), (11, .iconst 2, 1), (12, .iconst 1, 1), (13, .invokevirtual 293, 3), (16, .invokevirtual 296, 3), (19, .ireturn, 1)]
theorem tbX7_hitsWing_k : dc_T cX7_hitsWing tbX7_hitsWing = true := by decide +kernel
abbrev tbX7_hits : List (Nat × Instr × Nat) := [(0, .aload_n 0, 1), (1, .iload_n 1, 1), (2, .invokevirtual 300, 3), (5, .ifCond .ne 11, 3), (8, .aload_n 0, 1), (9, .iload_n 1, 1), (10, .invokevirtual 303, 3), (13, .ifCond .eq 5, 3), (16, .iconst 1, 1), (17, .ireturn, 1), (18, .iload_n 2, 1), (19, .ifCond .eq 15, 3), (22, .aload_n 0, 1), (23, .iload_n 1, 1), (24, .invokevirtual 306, 3), (27, .ifCond .eq 7, 3), (30, .iconst 1, 1), (31, .goto 4, 3), (34, .iconst 0, 1), (35, .ireturn, 1)]
theorem tbX7_hits_k : dc_T cX7_hits tbX7_hits = true := by decide +kernel
abbrev tbX7_overlap : List (Nat × Instr × Nat) := [(0, .iload_n 0, 1), (1, .iload_n 1, 1), (2, .invokestatic 280, 3), (5, .iload_n 2, 1), (6, .iload_n 3, 1), (7, .invokestatic 280, 3), (10, .invokestatic 286, 3), (13, .iload_n 0, 1), (14, .iload_n 1, 1), (15, .invokestatic 286, 3), (18, .iload_n 2, 1), (19, .iload_n 3, 1), (20, .invokestatic 286, 3), (23, .invokestatic 280, 3), (26, .if_icmp .gt 7, 3), (29, .iconst 1, 1), (30, .goto 4, 3), (33, .iconst 0, 1), (34, .ireturn, 1)]
theorem tbX7_overlap_k : dc_T cX7_overlap tbX7_overlap = true := by decide +kernel
abbrev tbX7_isCrossed_0 : List (Nat × Instr × Nat) := [(0, .iconst 0, 1), (1, .istore_n 1, 1), (2, .iconst 0, 1), (3, .istore_n 2, 1), (4, .iload_n 2, 1), (5, .aload_n 0, 1), (6, .getfield 7, 3), (9, .iconst 1, 1), (10, .iaload, 1), (11, .if_icmp .ge 99, 3), (14, .iload_n 2, 1), (15, .iconst 2, 1), (16, .iadd, 1), (17, .istore_n 3, 1), (18, .iload_n 3, 1), (19, .aload_n 0, 1), (20, .getfield 7, 3), (23, .iconst 1, 1), (24, .iaload, 1), (25, .if_icmp .ge 79, 3), (28, .iload_n 1, 1), (29, .ifCond .ne 63, 3), (32, .aload_n 0, 1), (33, .getfield 29, 3), (36, .iload_n 2, 1), (37, .iaload, 1), (38, .aload_n 0, 1), (39, .getfield 35, 3), (42, .iload_n 2, 1), (43, .iaload, 1), (44, .aload_n 0, 1), (45, .getfield 29, 3), (48, .iload_n 3, 1), (49, .iaload, 1), (50, .aload_n 0, 1), (51, .getfield 35, 3), (54, .iload_n 3, 1), (55, .iaload, 1), (56, .invokestatic 309, 3), (59, .ifCond .eq 37, 3)]
theorem tbX7_isCrossed_0_k : dc_T cX7_isCrossed tbX7_isCrossed_0 = true := by decide +kernel
abbrev tbX7_isCrossed_1 : List (Nat × Instr × Nat) := [(62, .aload_n 0, 1), (63, .getfield 32, 3), (66, .iload_n 2, 1), (67, .iaload, 1), (68, .aload_n 0, 1), (69, .getfield 38, 3), (72, .iload_n 2, 1), (73, .iaload, 1), (74, .aload_n 0, 1), (75, .getfield 32, 3), (78, .iload_n 3, 1), (79, .iaload, 1), (80, .aload_n 0, 1), (81, .getfield 38, 3), (84, .iload_n 3, 1), (85, .iaload, 1), (86, .invokestatic 309, 3), (89, .ifCond .eq 7, 3), (92, .iconst 1, 1), (93, .goto 4, 3), (96, .iconst 0, 1), (97, .istore_n 1, 1), (98, .iinc 3 1, 3), (101, .goto (-83), 3), (104, .iinc 2 1, 3), (107, .goto (-103), 3), (110, .iload_n 1, 1), (111, .ireturn, 1)]
theorem tbX7_isCrossed_1_k : dc_T cX7_isCrossed tbX7_isCrossed_1 = true := by decide +kernel
abbrev tbX7_gaugeLaid : List (Nat × Instr × Nat) := [(0, .iconst 0, 1), (1, .istore_n 3, 1), (2, .iconst 0, 1), (3, .istore 4, 2), (5, .iload 4, 2), (7, .aload_n 0, 1), (8, .getfield 7, 3), (11, .iconst 1, 1), (12, .iaload, 1), (13, .if_icmp .ge 37, 3), (16, .aload_n 0, 1), (17, .iload 4, 2), (19, .iload_n 1, 1), (20, .iload_n 2, 1), (21, .invokevirtual 312, 3), (24, .ifCond .eq 18, 3), (27, .iload_n 3, 1), (28, .aload_n 0, 1), (29, .getfield 35, 3), (32, .iload 4, 2), (34, .iaload, 1), (35, .ineg, 1), (36, .invokestatic 286, 3), (39, .goto 4, 3), (42, .iload_n 3, 1), (43, .istore_n 3, 1), (44, .iinc 4 1, 3), (47, .goto (-42), 3), (50, .iload_n 3, 1), (51, .ireturn, 1)]
theorem tbX7_gaugeLaid_k : dc_T cX7_gaugeLaid tbX7_gaugeLaid = true := by decide +kernel
abbrev tbX7_hittingLaid_0 : List (Nat × Instr × Nat) := [(0, .iconst 0, 1), (1, .istore 5, 2), (3, .iconst 0, 1), (4, .istore 6, 2), (6, .iload 6, 2), (8, .aload_n 0, 1), (9, .getfield 7, 3), (12, .iconst 1, 1), (13, .iaload, 1), (14, .if_icmp .ge 68, 3), (17, .aload_n 0, 1), (18, .iload 6, 2), (20, .iload_n 1, 1), (21, .iload_n 2, 1), (22, .invokevirtual 312, 3), (25, .ifCond .ne 7, 3), (28, .iconst 1, 1), (29, .goto 4, 3), (32, .iconst 0, 1), (33, .istore 7, 2), (35, .iload 5, 2), (37, .iload 7, 2), (39, .ifCond .eq 11, 3), (42, .iload 4, 2), (44, .ifCond .eq 28, 3), (47, .goto 7, 3), (50, .iload_n 3, 1), (51, .ifCond .eq 21, 3), (54, .aload_n 0, 1), (55, .iload 6, 2), (57, .iload 7, 2), (59, .invokevirtual 315, 3), (62, .ifCond .eq 10, 3), (65, .iconst 1, 1), (66, .iload 6, 2), (68, .ishl, 1), (69, .goto 4, 3), (72, .iconst 0, 1), (73, .ior, 1), (74, .istore 5, 2)]
theorem tbX7_hittingLaid_0_k : dc_T cX7_hittingLaid tbX7_hittingLaid_0 = true := by decide +kernel
abbrev tbX7_hittingLaid_1 : List (Nat × Instr × Nat) := [(76, .iinc 6 1, 3), (79, .goto (-73), 3), (82, .iload 5, 2), (84, .ireturn, 1)]
theorem tbX7_hittingLaid_1_k : dc_T cX7_hittingLaid tbX7_hittingLaid_1 = true := by decide +kernel
abbrev tbX7_isShort : List (Nat × Instr × Nat) := [(0, .iload_n 2, 1), (1, .ifCond .ne 9, 3), (4, .iload_n 1, 1), (5, .iconst 1, 1), (6, .iadd, 1), (7, .goto 4, 3), (10, .iload_n 1, 1), (11, .istore_n 3, 1), (12, .aload_n 0, 1), (13, .getfield 7, 3), (16, .iconst 2, 1), (17, .iload_n 3, 1), (18, .iadd, 1), (19, .iaload, 1), (20, .aload_n 0, 1), (21, .iconst 4, 1), (22, .iconst 0, 1), (23, .invokevirtual 293, 3), (26, .if_icmp .ge 7, 3), (29, .iconst 1, 1), (30, .goto 4, 3), (33, .iconst 0, 1), (34, .ireturn, 1)]
theorem tbX7_isShort_k : dc_T cX7_isShort tbX7_isShort = true := by decide +kernel
abbrev tbX7_isGaugeLaid : List (Nat × Instr × Nat) := [(0, .aload_n 0, 1), (1, .iload_n 1, 1), (2, .iload_n 2, 1), (3, .invokevirtual 319, 3), (6, .i2l, 1), (7, .aload_n 0, 1), (8, .iconst 3, 1), (9, .iconst 0, 1), (10, .invokevirtual 293, 3), (13, .i2l, 1), (14, .aload_n 0, 1), (15, .iconst 3, 1), (16, .iconst 1, 1), (17, .invokevirtual 293, 3), (20, .i2l, 1), (21, .invokestatic 128, 3), (24, .ireturn, 1)]
theorem tbX7_isGaugeLaid_k : dc_T cX7_isGaugeLaid tbX7_isGaugeLaid = true := by decide +kernel
abbrev tbX7_reasonOf_0 : List (Nat × Instr × Nat) := [(0, .iload_n 3, 1), (1, .iload_n 1, 1), (2, .invokestatic 273, 3), (5, .ifCond .eq 5, 3), (8, .iconst 1, 1), (9, .ireturn, 1), (10, .aload_n 0, 1), (11, .iload_n 1, 1), (12, .iload_n 2, 1), (13, .invokevirtual 322, 3), (16, .ifCond .eq 5, 3), (19, .iconst 2, 1), (20, .ireturn, 1), (21, .aload_n 0, 1), (22, .iload_n 1, 1), (23, .iload_n 2, 1), (24, .iload_n 3, 1), (25, .invokevirtual 325, 3), (28, .aload_n 0, 1), (29, .iload_n 1, 1), (30, .iload_n 2, 1), (31, .invokevirtual 329, 3), (34, .ifCond .ne 5, 3), (37, .iconst 3, 1), (38, .ireturn, 1), (39, .aload_n 0, 1), (40, .iload_n 1, 1), (41, .iload_n 2, 1), (42, .iconst 1, 1), (43, .iconst 0, 1), (44, .invokevirtual 332, 3), (47, .ifCond .eq 5, 3), (50, .iconst 4, 1), (51, .ireturn, 1), (52, .aload_n 0, 1), (53, .iload_n 1, 1), (54, .iload_n 2, 1), (55, .iconst 0, 1), (56, .iconst 1, 1), (57, .invokevirtual 332, 3)]
theorem tbX7_reasonOf_0_k : dc_T cX7_reasonOf tbX7_reasonOf_0 = true := by decide +kernel
abbrev tbX7_reasonOf_1 : List (Nat × Instr × Nat) := [(60, .ifCond .eq 5, 3), (63, .iconst 5, 1), (64, .ireturn, 1), (65, .aload_n 0, 1), (66, .invokevirtual 336, 3), (69, .ifCond .eq 8, 3), (72, .bipush 6, 2), (74, .goto 4, 3), (77, .iconst 0, 1), (78, .ireturn, 1)]
theorem tbX7_reasonOf_1_k : dc_T cX7_reasonOf tbX7_reasonOf_1 = true := by decide +kernel
abbrev tbX7_layFinished_0 : List (Nat × Instr × Nat) := [(0, .iconst 1, 1), (1, .istore_n 1, 1), (2, .aload_n 0, 1), (3, .iconst 0, 1), (4, .putfield 257, 3), (7, .aload_n 0, 1), (8, .iconst 0, 1), (9, .putfield 260, 3), (12, .iconst 0, 1), (13, .istore_n 2, 1), (14, .iload_n 2, 1), (15, .aload_n 0, 1), (16, .getfield 7, 3), (19, .iconst 1, 1), (20, .iaload, 1), (21, .if_icmp .ge 52, 3), (24, .aload_n 0, 1), (25, .iload_n 2, 1), (26, .iload_n 1, 1), (27, .invokevirtual 269, 3), (30, .iload_n 2, 1), (31, .aload_n 0, 1), (32, .getfield 7, 3), (35, .iconst 0, 1), (36, .iaload, 1), (37, .if_icmp .ne 7, 3), (40, .iload_n 1, 1), (41, .goto 25, 3), (44, .iload_n 1, 1), (45, .aload_n 0, 1), (46, .getfield 7, 3), (49, .bipush 11, 2), (51, .iload_n 2, 1), (52, .iadd, 1), (53, .iaload, 1), (54, .iconst 1, 1), (55, .if_icmp .ne 7, 3), (58, .iconst 3, 1), (59, .goto 4, 3), (62, .iconst 1, 1)]
theorem tbX7_layFinished_0_k : dc_T cX7_layFinished tbX7_layFinished_0 = true := by decide +kernel
abbrev tbX7_layFinished_1 : List (Nat × Instr × Nat) := [(63, .iadd, 1), (64, .iconst 4, 1), (65, .irem, 1), (66, .istore_n 1, 1), (67, .iinc 2 1, 3), (70, .goto (-56), 3), (73, .return_, 1)]
theorem tbX7_layFinished_1_k : dc_T cX7_layFinished tbX7_layFinished_1 = true := by decide +kernel
abbrev tbX7_finishedWidth : List (Nat × Instr × Nat) := [(0, .aload_n 0, 1), (1, .iconst 0, 1), (2, .putfield 71, 3), (5, .aload_n 0, 1), (6, .invokevirtual 339, 3), (9, .iconst 0, 1), (10, .istore_n 1, 1), (11, .iconst 0, 1), (12, .istore_n 2, 1), (13, .iconst 0, 1), (14, .istore_n 3, 1), (15, .iload_n 3, 1), (16, .aload_n 0, 1), (17, .getfield 7, 3), (20, .iconst 1, 1), (21, .iaload, 1), (22, .if_icmp .ge 31, 3), (25, .iload_n 1, 1), (26, .aload_n 0, 1), (27, .getfield 35, 3), (30, .iload_n 3, 1), (31, .iaload, 1), (32, .invokestatic 280, 3), (35, .istore_n 1, 1), (36, .iload_n 2, 1), (37, .aload_n 0, 1), (38, .getfield 35, 3), (41, .iload_n 3, 1), (42, .iaload, 1), (43, .invokestatic 286, 3), (46, .istore_n 2, 1), (47, .iinc 3 1, 3), (50, .goto (-35), 3), (53, .iload_n 2, 1), (54, .iload_n 1, 1), (55, .isub, 1), (56, .ireturn, 1)]
theorem tbX7_finishedWidth_k : dc_T cX7_finishedWidth tbX7_finishedWidth = true := by decide +kernel
abbrev tbX7_finishedHeight : List (Nat × Instr × Nat) := [(0, .aload_n 0, 1), (1, .iconst 0, 1), (2, .putfield 71, 3), (5, .aload_n 0, 1), (6, .invokevirtual 339, 3), (9, .iconst 0, 1), (10, .istore_n 1, 1), (11, .iconst 0, 1), (12, .istore_n 2, 1), (13, .iconst 0, 1), (14, .istore_n 3, 1), (15, .iload_n 3, 1), (16, .aload_n 0, 1), (17, .getfield 7, 3), (20, .iconst 1, 1), (21, .iaload, 1), (22, .if_icmp .ge 31, 3), (25, .iload_n 1, 1), (26, .aload_n 0, 1), (27, .getfield 38, 3), (30, .iload_n 3, 1), (31, .iaload, 1), (32, .invokestatic 280, 3), (35, .istore_n 1, 1), (36, .iload_n 2, 1), (37, .aload_n 0, 1), (38, .getfield 38, 3), (41, .iload_n 3, 1), (42, .iaload, 1), (43, .invokestatic 286, 3), (46, .istore_n 2, 1), (47, .iinc 3 1, 3), (50, .goto (-35), 3), (53, .iload_n 2, 1), (54, .iload_n 1, 1), (55, .isub, 1), (56, .ireturn, 1)]
theorem tbX7_finishedHeight_k : dc_T cX7_finishedHeight tbX7_finishedHeight = true := by decide +kernel
abbrev tbX7_isFinishedCrossed : List (Nat × Instr × Nat) := [(0, .aload_n 0, 1), (1, .iconst 0, 1), (2, .putfield 71, 3), (5, .aload_n 0, 1), (6, .invokevirtual 339, 3), (9, .aload_n 0, 1), (10, .invokevirtual 336, 3), (13, .ireturn, 1)]
theorem tbX7_isFinishedCrossed_k : dc_T cX7_isFinishedCrossed tbX7_isFinishedCrossed = true := by decide +kernel
abbrev tbX7_finishedCorner : List (Nat × Instr × Nat) := [(0, .aload_n 0, 1), (1, .aload_n 0, 1), (2, .iload_n 1, 1), (3, .invokevirtual 204, 3), (6, .iload_n 2, 1), (7, .i2l, 1), (8, .lconst 0, 1), (9, .lconst 1, 1), (10, .invokestatic 128, 3), (13, .invokevirtual 342, 3), (16, .ifCond .ne 5, 3), (19, .iconst 0, 1), (20, .ireturn, 1), (21, .aload_n 0, 1), (22, .invokevirtual 339, 3), (25, .iload_n 2, 1), (26, .ifCond .ne 12, 3), (29, .aload_n 0, 1), (30, .getfield 35, 3), (33, .iload_n 1, 1), (34, .iaload, 1), (35, .goto 9, 3), (38, .aload_n 0, 1), (39, .getfield 38, 3), (42, .iload_n 1, 1), (43, .iaload, 1), (44, .ireturn, 1)]
theorem tbX7_finishedCorner_k : dc_T cX7_finishedCorner tbX7_finishedCorner = true := by decide +kernel
abbrev tbX7_stepOf : List (Nat × Instr × Nat) := [(0, .aload_n 0, 1), (1, .getfield 7, 3), (4, .bipush 54, 2), (6, .iconst 4, 1), (7, .iload_n 1, 1), (8, .imul, 1), (9, .iadd, 1), (10, .iload_n 2, 1), (11, .iadd, 1), (12, .iaload, 1), (13, .ireturn, 1)]
theorem tbX7_stepOf_k : dc_T cX7_stepOf tbX7_stepOf = true := by decide +kernel
abbrev tbX7_sumOfCosts : List (Nat × Instr × Nat) := [(0, .iconst 0, 1), (1, .istore_n 1, 1), (2, .iconst 0, 1), (3, .istore_n 2, 1), (4, .iload_n 2, 1), (5, .aload_n 0, 1), (6, .getfield 7, 3), (9, .bipush 53, 2), (11, .iaload, 1), (12, .if_icmp .ge 18, 3), (15, .iload_n 1, 1), (16, .aload_n 0, 1), (17, .iload_n 2, 1), (18, .iconst 3, 1), (19, .invokevirtual 345, 3), (22, .iadd, 1), (23, .istore_n 1, 1), (24, .iinc 2 1, 3), (27, .goto (-23), 3), (30, .iload_n 1, 1), (31, .ireturn, 1)]
theorem tbX7_sumOfCosts_k : dc_T cX7_sumOfCosts tbX7_sumOfCosts = true := by decide +kernel
abbrev tbX7_made : List (Nat × Instr × Nat) := [(0, .aload_n 0, 1), (1, .bipush 52, 2), (3, .invokevirtual 201, 3), (6, .ireturn, 1)]
theorem tbX7_made_k : dc_T cX7_made tbX7_made = true := by decide +kernel
abbrev tbX7_steps : List (Nat × Instr × Nat) := [(0, .aload_n 0, 1), (1, .bipush 53, 2), (3, .invokevirtual 201, 3), (6, .ireturn, 1)]
theorem tbX7_steps_k : dc_T cX7_steps tbX7_steps = true := by decide +kernel
abbrev tbX7_step : List (Nat × Instr × Nat) := [(0, .aload_n 0, 1), (1, .iload_n 1, 1), (2, .i2l, 1), (3, .lconst 0, 1), (4, .aload_n 0, 1), (5, .getfield 7, 3), (8, .bipush 53, 2), (10, .iaload, 1), (11, .iconst 1, 1), (12, .isub, 1), (13, .i2l, 1), (14, .invokestatic 128, 3), (17, .iload_n 2, 1), (18, .i2l, 1), (19, .lconst 0, 1), (20, .ldc2_w 348, 3), (23, .invokestatic 128, 3), (26, .invokevirtual 342, 3), (29, .ifCond .eq 12, 3), (32, .aload_n 0, 1), (33, .iload_n 1, 1), (34, .iload_n 2, 1), (35, .invokevirtual 345, 3), (38, .goto 4, 3), (41, .iconst 0, 1), (42, .ireturn, 1)]
theorem tbX7_step_k : dc_T cX7_step tbX7_step = true := by decide +kernel
abbrev tbX7_costSoFar : List (Nat × Instr × Nat) := [(0, .aload_n 0, 1), (1, .iconst 0, 1), (2, .putfield 71, 3), (5, .aload_n 0, 1), (6, .invokevirtual 350, 3), (9, .ireturn, 1)]
theorem tbX7_costSoFar_k : dc_T cX7_costSoFar tbX7_costSoFar = true := by decide +kernel
abbrev tbX7_reason : List (Nat × Instr × Nat) := [(0, .aload_n 0, 1), (1, .aload_n 0, 1), (2, .iload_n 1, 1), (3, .invokevirtual 210, 3), (6, .iload_n 2, 1), (7, .invokestatic 353, 3), (10, .invokevirtual 342, 3), (13, .ifCond .eq 19, 3), (16, .aload_n 0, 1), (17, .iload_n 1, 1), (18, .iload_n 2, 1), (19, .aload_n 0, 1), (20, .getfield 7, 3), (23, .bipush 52, 2), (25, .iaload, 1), (26, .invokevirtual 356, 3), (29, .goto 4, 3), (32, .iconst 0, 1), (33, .ireturn, 1)]
theorem tbX7_reason_k : dc_T cX7_reason tbX7_reason = true := by decide +kernel
abbrev tbX7_gaugeOf : List (Nat × Instr × Nat) := [(0, .aload_n 0, 1), (1, .iload_n 1, 1), (2, .iload_n 2, 1), (3, .iload_n 3, 1), (4, .invokevirtual 325, 3), (7, .aload_n 0, 1), (8, .iload_n 1, 1), (9, .iload_n 2, 1), (10, .invokevirtual 319, 3), (13, .ireturn, 1)]
theorem tbX7_gaugeOf_k : dc_T cX7_gaugeOf tbX7_gaugeOf = true := by decide +kernel
abbrev tbX7_gauge : List (Nat × Instr × Nat) := [(0, .aload_n 0, 1), (1, .aload_n 0, 1), (2, .iload_n 1, 1), (3, .invokevirtual 210, 3), (6, .iload_n 2, 1), (7, .invokestatic 353, 3), (10, .invokevirtual 342, 3), (13, .ifCond .eq 19, 3), (16, .aload_n 0, 1), (17, .iload_n 1, 1), (18, .iload_n 2, 1), (19, .aload_n 0, 1), (20, .getfield 7, 3), (23, .bipush 52, 2), (25, .iaload, 1), (26, .invokevirtual 360, 3), (29, .goto 4, 3), (32, .iconst 0, 1), (33, .ireturn, 1)]
theorem tbX7_gauge_k : dc_T cX7_gauge tbX7_gauge = true := by decide +kernel
abbrev tbX7_corner_0 : List (Nat × Instr × Nat) := [(0, .aload_n 0, 1), (1, .aload_n 0, 1), (2, .iload_n 1, 1), (3, .invokevirtual 210, 3), (6, .ifCond .eq 15, 3), (9, .aload_n 0, 1), (10, .iload_n 3, 1), (11, .invokevirtual 204, 3), (14, .ifCond .eq 7, 3), (17, .iconst 1, 1), (18, .goto 4, 3), (21, .iconst 0, 1), (22, .iload_n 2, 1), (23, .invokestatic 353, 3), (26, .ifCond .eq 18, 3), (29, .iload 4, 2), (31, .i2l, 1), (32, .lconst 0, 1), (33, .lconst 1, 1), (34, .invokestatic 128, 3), (37, .ifCond .eq 7, 3), (40, .iconst 1, 1), (41, .goto 4, 3), (44, .iconst 0, 1), (45, .invokevirtual 342, 3), (48, .ifCond .ne 5, 3), (51, .iconst 0, 1), (52, .ireturn, 1), (53, .aload_n 0, 1), (54, .iload_n 1, 1), (55, .iload_n 2, 1), (56, .aload_n 0, 1), (57, .getfield 7, 3), (60, .bipush 52, 2), (62, .iaload, 1), (63, .invokevirtual 325, 3), (66, .iload 4, 2), (68, .ifCond .ne 12, 3), (71, .aload_n 0, 1), (72, .getfield 35, 3)]
theorem tbX7_corner_0_k : dc_T cX7_corner tbX7_corner_0 = true := by decide +kernel
abbrev tbX7_corner_1 : List (Nat × Instr × Nat) := [(75, .iload_n 3, 1), (76, .iaload, 1), (77, .goto 9, 3), (80, .aload_n 0, 1), (81, .getfield 38, 3), (84, .iload_n 3, 1), (85, .iaload, 1), (86, .ireturn, 1)]
theorem tbX7_corner_1_k : dc_T cX7_corner tbX7_corner_1 = true := by decide +kernel
abbrev tbX7_top_0 : List (Nat × Instr × Nat) := [(0, .aload_n 0, 1), (1, .aload_n 0, 1), (2, .iload_n 1, 1), (3, .invokevirtual 210, 3), (6, .iload_n 2, 1), (7, .invokestatic 353, 3), (10, .invokevirtual 342, 3), (13, .ifCond .ne 5, 3), (16, .iconst 0, 1), (17, .ireturn, 1), (18, .aload_n 0, 1), (19, .iload_n 1, 1), (20, .iload_n 2, 1), (21, .aload_n 0, 1), (22, .getfield 7, 3), (25, .bipush 52, 2), (27, .iaload, 1), (28, .invokevirtual 325, 3), (31, .iconst 0, 1), (32, .istore_n 3, 1), (33, .iconst 0, 1), (34, .istore 4, 2), (36, .iload 4, 2), (38, .aload_n 0, 1), (39, .getfield 7, 3), (42, .iconst 1, 1), (43, .iaload, 1), (44, .if_icmp .ge 36, 3), (47, .aload_n 0, 1), (48, .iload 4, 2), (50, .iload_n 1, 1), (51, .iload_n 2, 1), (52, .invokevirtual 312, 3), (55, .ifCond .eq 7, 3), (58, .iload_n 3, 1), (59, .goto 14, 3), (62, .iload_n 3, 1), (63, .aload_n 0, 1), (64, .getfield 38, 3), (67, .iload 4, 2)]
theorem tbX7_top_0_k : dc_T cX7_top tbX7_top_0 = true := by decide +kernel
abbrev tbX7_top_1 : List (Nat × Instr × Nat) := [(69, .iaload, 1), (70, .invokestatic 286, 3), (73, .istore_n 3, 1), (74, .iinc 4 1, 3), (77, .goto (-41), 3), (80, .iload_n 3, 1), (81, .ireturn, 1)]
theorem tbX7_top_1_k : dc_T cX7_top tbX7_top_1 = true := by decide +kernel
abbrev tbX7_hitting : List (Nat × Instr × Nat) := [(0, .aload_n 0, 1), (1, .aload_n 0, 1), (2, .iload_n 1, 1), (3, .invokevirtual 210, 3), (6, .iload_n 2, 1), (7, .invokestatic 353, 3), (10, .invokevirtual 342, 3), (13, .ifCond .ne 5, 3), (16, .iconst 0, 1), (17, .ireturn, 1), (18, .aload_n 0, 1), (19, .iload_n 1, 1), (20, .iload_n 2, 1), (21, .aload_n 0, 1), (22, .getfield 7, 3), (25, .bipush 52, 2), (27, .iaload, 1), (28, .invokevirtual 325, 3), (31, .aload_n 0, 1), (32, .iload_n 1, 1), (33, .iload_n 2, 1), (34, .iconst 1, 1), (35, .iconst 1, 1), (36, .invokevirtual 332, 3), (39, .ireturn, 1)]
theorem tbX7_hitting_k : dc_T cX7_hitting tbX7_hitting = true := by decide +kernel
abbrev tbX7_refused_0 : List (Nat × Instr × Nat) := [(0, .aload_n 0, 1), (1, .iload_n 1, 1), (2, .i2l, 1), (3, .lconst 1, 1), (4, .ldc2_w 363, 3), (7, .invokestatic 128, 3), (10, .invokevirtual 207, 3), (13, .ifCond .ne 5, 3), (16, .iconst 0, 1), (17, .ireturn, 1), (18, .iconst 0, 1), (19, .istore_n 2, 1), (20, .iconst 0, 1), (21, .istore_n 3, 1), (22, .iload_n 3, 1), (23, .iconst 2, 1), (24, .aload_n 0, 1), (25, .getfield 7, 3), (28, .iconst 0, 1), (29, .iaload, 1), (30, .imul, 1), (31, .if_icmp .ge 38, 3), (34, .iload_n 2, 1), (35, .aload_n 0, 1), (36, .iload_n 3, 1), (37, .iconst 2, 1), (38, .idiv, 1), (39, .iload_n 3, 1), (40, .iconst 2, 1), (41, .irem, 1), (42, .aload_n 0, 1), (43, .getfield 7, 3), (46, .bipush 52, 2), (48, .iaload, 1), (49, .invokevirtual 356, 3), (52, .iload_n 1, 1), (53, .if_icmp .ne 7, 3), (56, .iconst 1, 1), (57, .goto 4, 3), (60, .iconst 0, 1)]
theorem tbX7_refused_0_k : dc_T cX7_refused tbX7_refused_0 = true := by decide +kernel
abbrev tbX7_refused_1 : List (Nat × Instr × Nat) := [(61, .iadd, 1), (62, .istore_n 2, 1), (63, .iinc 3 1, 3), (66, .goto (-44), 3), (69, .iload_n 2, 1), (70, .ireturn, 1)]
theorem tbX7_refused_1_k : dc_T cX7_refused tbX7_refused_1 = true := by decide +kernel
abbrev tbX7_possible : List (Nat × Instr × Nat) := [(0, .aload_n 0, 1), (1, .iconst 0, 1), (2, .putfield 71, 3), (5, .iconst 0, 1), (6, .istore_n 1, 1), (7, .iconst 0, 1), (8, .istore_n 2, 1), (9, .iload_n 2, 1), (10, .iconst 2, 1), (11, .aload_n 0, 1), (12, .getfield 7, 3), (15, .iconst 0, 1), (16, .iaload, 1), (17, .imul, 1), (18, .if_icmp .ge 39, 3), (21, .iload_n 1, 1), (22, .aload_n 0, 1), (23, .iload_n 2, 1), (24, .iconst 2, 1), (25, .idiv, 1), (26, .iload_n 2, 1), (27, .iconst 2, 1), (28, .irem, 1), (29, .aload_n 0, 1), (30, .getfield 7, 3), (33, .bipush 52, 2), (35, .iaload, 1), (36, .invokevirtual 356, 3), (39, .ifCond .ne 9, 3), (42, .iconst 1, 1), (43, .iload_n 2, 1), (44, .ishl, 1), (45, .goto 4, 3), (48, .iconst 0, 1), (49, .ior, 1), (50, .istore_n 1, 1), (51, .iinc 2 1, 3), (54, .goto (-45), 3), (57, .iload_n 1, 1), (58, .ireturn, 1)]
theorem tbX7_possible_k : dc_T cX7_possible tbX7_possible = true := by decide +kernel
abbrev tbX7_stuck_0 : List (Nat × Instr × Nat) := [(0, .aload_n 0, 1), (1, .iconst 0, 1), (2, .putfield 71, 3), (5, .iconst 0, 1), (6, .istore_n 1, 1), (7, .iconst 0, 1), (8, .istore_n 2, 1), (9, .iload_n 2, 1), (10, .aload_n 0, 1), (11, .getfield 7, 3), (14, .iconst 0, 1), (15, .iaload, 1), (16, .if_icmp .ge 63, 3), (19, .iload_n 1, 1), (20, .aload_n 0, 1), (21, .getfield 7, 3), (24, .bipush 52, 2), (26, .iaload, 1), (27, .iload_n 2, 1), (28, .invokestatic 273, 3), (31, .ifCond .ne 39, 3), (34, .aload_n 0, 1), (35, .iload_n 2, 1), (36, .iconst 0, 1), (37, .aload_n 0, 1), (38, .getfield 7, 3), (41, .bipush 52, 2), (43, .iaload, 1), (44, .invokevirtual 356, 3), (47, .ifCond .eq 23, 3), (50, .aload_n 0, 1), (51, .iload_n 2, 1), (52, .iconst 1, 1), (53, .aload_n 0, 1), (54, .getfield 7, 3), (57, .bipush 52, 2), (59, .iaload, 1), (60, .invokevirtual 356, 3), (63, .ifCond .eq 7, 3), (66, .iconst 1, 1)]
theorem tbX7_stuck_0_k : dc_T cX7_stuck tbX7_stuck_0 = true := by decide +kernel
abbrev tbX7_stuck_1 : List (Nat × Instr × Nat) := [(67, .goto 4, 3), (70, .iconst 0, 1), (71, .iadd, 1), (72, .istore_n 1, 1), (73, .iinc 2 1, 3), (76, .goto (-67), 3), (79, .iload_n 1, 1), (80, .ireturn, 1)]
theorem tbX7_stuck_1_k : dc_T cX7_stuck tbX7_stuck_1 = true := by decide +kernel
abbrev tbX7_costBehind_0 : List (Nat × Instr × Nat) := [(0, .iconst 0, 1), (1, .istore 7, 2), (3, .aload_n 0, 1), (4, .getfield 7, 3), (7, .bipush 11, 2), (9, .iload_n 1, 1), (10, .iadd, 1), (11, .iaload, 1), (12, .aload_n 0, 1), (13, .getfield 7, 3), (16, .bipush 11, 2), (18, .iload 4, 2), (20, .iadd, 1), (21, .iaload, 1), (22, .if_icmp .eq 15, 3), (25, .iload 7, 2), (27, .aload_n 0, 1), (28, .getfield 7, 3), (31, .bipush 49, 2), (33, .iaload, 1), (34, .iadd, 1), (35, .istore 7, 2), (37, .iload_n 2, 1), (38, .iload 5, 2), (40, .if_icmp .eq 15, 3), (43, .iload 7, 2), (45, .aload_n 0, 1), (46, .getfield 7, 3), (49, .bipush 50, 2), (51, .iaload, 1), (52, .iadd, 1), (53, .istore 7, 2), (55, .iload_n 3, 1), (56, .iload 6, 2), (58, .if_icmp .eq 15, 3), (61, .iload 7, 2), (63, .aload_n 0, 1), (64, .getfield 7, 3), (67, .bipush 51, 2), (69, .iaload, 1)]
theorem tbX7_costBehind_0_k : dc_T cX7_costBehind tbX7_costBehind_0 = true := by decide +kernel
abbrev tbX7_costBehind_1 : List (Nat × Instr × Nat) := [(70, .iadd, 1), (71, .istore 7, 2), (73, .iload 7, 2), (75, .ireturn, 1)]
theorem tbX7_costBehind_1_k : dc_T cX7_costBehind tbX7_costBehind_1 = true := by decide +kernel
abbrev tbX7_costNow : List (Nat × Instr × Nat) := [(0, .aload_n 0, 1), (1, .getfield 7, 3), (4, .bipush 53, 2), (6, .iaload, 1), (7, .ifCond .ne 5, 3), (10, .iconst 0, 1), (11, .ireturn, 1), (12, .aload_n 0, 1), (13, .getfield 7, 3), (16, .bipush 53, 2), (18, .iaload, 1), (19, .iconst 1, 1), (20, .isub, 1), (21, .istore_n 3, 1), (22, .aload_n 0, 1), (23, .aload_n 0, 1), (24, .iload_n 3, 1), (25, .iconst 0, 1), (26, .invokevirtual 345, 3), (29, .aload_n 0, 1), (30, .iload_n 3, 1), (31, .iconst 1, 1), (32, .invokevirtual 345, 3), (35, .aload_n 0, 1), (36, .iload_n 3, 1), (37, .iconst 2, 1), (38, .invokevirtual 345, 3), (41, .iload_n 1, 1), (42, .iload_n 2, 1), (43, .aload_n 0, 1), (44, .iload_n 1, 1), (45, .iload_n 2, 1), (46, .aload_n 0, 1), (47, .getfield 7, 3), (50, .bipush 52, 2), (52, .iaload, 1), (53, .invokevirtual 360, 3), (56, .invokevirtual 365, 3), (59, .ireturn, 1)]
theorem tbX7_costNow_k : dc_T cX7_costNow tbX7_costNow = true := by decide +kernel
abbrev tbX7_costOf : List (Nat × Instr × Nat) := [(0, .aload_n 0, 1), (1, .aload_n 0, 1), (2, .iload_n 1, 1), (3, .invokevirtual 210, 3), (6, .iload_n 2, 1), (7, .invokestatic 353, 3), (10, .invokevirtual 342, 3), (13, .ifCond .eq 12, 3), (16, .aload_n 0, 1), (17, .iload_n 1, 1), (18, .iload_n 2, 1), (19, .invokevirtual 369, 3), (22, .goto 4, 3), (25, .iconst 0, 1), (26, .ireturn, 1)]
theorem tbX7_costOf_k : dc_T cX7_costOf tbX7_costOf = true := by decide +kernel
abbrev tbX7_full : List (Nat × Instr × Nat) := [(0, .iconst 1, 1), (1, .aload_n 0, 1), (2, .getfield 7, 3), (5, .iconst 0, 1), (6, .iaload, 1), (7, .ishl, 1), (8, .iconst 1, 1), (9, .isub, 1), (10, .ireturn, 1)]
theorem tbX7_full_k : dc_T cX7_full tbX7_full = true := by decide +kernel
abbrev tbX7_isBehind : List (Nat × Instr × Nat) := [(0, .iload_n 1, 1), (1, .aload_n 0, 1), (2, .getfield 7, 3), (5, .bipush 52, 2), (7, .iaload, 1), (8, .iand, 1), (9, .aload_n 0, 1), (10, .getfield 7, 3), (13, .bipush 52, 2), (15, .iaload, 1), (16, .if_icmp .ne 7, 3), (19, .iconst 1, 1), (20, .goto 4, 3), (23, .iconst 0, 1), (24, .ireturn, 1)]
theorem tbX7_isBehind_k : dc_T cX7_isBehind tbX7_isBehind = true := by decide +kernel
abbrev tbX7_layOrders_0 : List (Nat × Instr × Nat) := [(0, .aload_n 0, 1), (1, .invokevirtual 372, 3), (4, .istore_n 1, 1), (5, .iload_n 1, 1), (6, .ifCond .lt 117, 3), (9, .aload_n 0, 1), (10, .getfield 48, 3), (13, .iload_n 1, 1), (14, .iload_n 1, 1), (15, .aload_n 0, 1), (16, .invokevirtual 372, 3), (19, .if_icmp .ne 7, 3), (22, .lconst 1, 1), (23, .goto 4, 3), (26, .lconst 0, 1), (27, .lastore, 1), (28, .iconst 0, 1), (29, .istore_n 2, 1), (30, .iload_n 2, 1), (31, .iconst 2, 1), (32, .aload_n 0, 1), (33, .getfield 7, 3), (36, .iconst 0, 1), (37, .iaload, 1), (38, .imul, 1), (39, .if_icmp .ge 78, 3), (42, .aload_n 0, 1), (43, .iload_n 1, 1), (44, .invokevirtual 375, 3), (47, .ifCond .eq 70, 3), (50, .aload_n 0, 1), (51, .iload_n 2, 1), (52, .iconst 2, 1), (53, .idiv, 1), (54, .iload_n 2, 1), (55, .iconst 2, 1), (56, .irem, 1), (57, .iload_n 1, 1), (58, .invokevirtual 356, 3), (61, .ifCond .ne 7, 3)]
theorem tbX7_layOrders_0_k : dc_T cX7_layOrders tbX7_layOrders_0 = true := by decide +kernel
abbrev tbX7_layOrders_1 : List (Nat × Instr × Nat) := [(64, .iconst 1, 1), (65, .goto 4, 3), (68, .iconst 0, 1), (69, .istore_n 3, 1), (70, .aload_n 0, 1), (71, .getfield 41, 3), (74, .bipush 16, 2), (76, .iload_n 1, 1), (77, .imul, 1), (78, .iload_n 2, 1), (79, .iadd, 1), (80, .iload_n 3, 1), (81, .bastore, 1), (82, .aload_n 0, 1), (83, .getfield 48, 3), (86, .iload_n 1, 1), (87, .dup2, 1), (88, .laload, 1), (89, .iload_n 3, 1), (90, .ifCond .eq 18, 3), (93, .aload_n 0, 1), (94, .getfield 48, 3), (97, .iload_n 1, 1), (98, .iconst 1, 1), (99, .iload_n 2, 1), (100, .iconst 2, 1), (101, .idiv, 1), (102, .ishl, 1), (103, .ior, 1), (104, .laload, 1), (105, .goto 4, 3), (108, .lconst 0, 1), (109, .ladd, 1), (110, .lastore, 1), (111, .iinc 2 1, 3), (114, .goto (-84), 3), (117, .iinc 1 (-1), 3), (120, .goto (-115), 3), (123, .return_, 1)]
theorem tbX7_layOrders_1_k : dc_T cX7_layOrders tbX7_layOrders_1 = true := by decide +kernel
abbrev tbX7_gaugeLast : List (Nat × Instr × Nat) := [(0, .aload_n 0, 1), (1, .getfield 45, 3), (4, .bipush 16, 2), (6, .iload_n 1, 1), (7, .iconst 1, 1), (8, .iload_n 2, 1), (9, .iconst 2, 1), (10, .idiv, 1), (11, .ishl, 1), (12, .iconst (-1), 1), (13, .ixor, 1), (14, .iand, 1), (15, .imul, 1), (16, .iload_n 2, 1), (17, .iadd, 1), (18, .iaload, 1), (19, .ireturn, 1)]
theorem tbX7_gaugeLast_k : dc_T cX7_gaugeLast tbX7_gaugeLast = true := by decide +kernel
abbrev tbX7_layCost_0 : List (Nat × Instr × Nat) := [(0, .iload_n 1, 1), (1, .aload_n 0, 1), (2, .invokevirtual 372, 3), (5, .if_icmp .ne 7, 3), (8, .iconst 0, 1), (9, .goto 6, 3), (12, .ldc_w 378, 3), (15, .istore_n 3, 1), (16, .iload_n 1, 1), (17, .aload_n 0, 1), (18, .invokevirtual 372, 3), (21, .if_icmp .ne 7, 3), (24, .iconst 0, 1), (25, .goto 6, 3), (28, .ldc_w 379, 3), (31, .istore 4, 2), (33, .iconst 0, 1), (34, .istore 5, 2), (36, .iload 5, 2), (38, .iconst 2, 1), (39, .aload_n 0, 1), (40, .getfield 7, 3), (43, .iconst 0, 1), (44, .iaload, 1), (45, .imul, 1), (46, .if_icmp .ge 125, 3), (49, .aload_n 0, 1), (50, .getfield 41, 3), (53, .bipush 16, 2), (55, .iload_n 1, 1), (56, .imul, 1), (57, .iload 5, 2), (59, .iadd, 1), (60, .baload, 1), (61, .ifCond .ne 6, 3), (64, .goto 101, 3), (67, .iload 5, 2), (69, .iconst 2, 1), (70, .idiv, 1), (71, .istore 6, 2)]
theorem tbX7_layCost_0_k : dc_T cX7_layCost tbX7_layCost_0 = true := by decide +kernel
abbrev tbX7_layCost_1 : List (Nat × Instr × Nat) := [(73, .iload_n 2, 1), (74, .bipush 16, 2), (76, .if_icmp .ne 7, 3), (79, .iconst 0, 1), (80, .goto 37, 3), (83, .aload_n 0, 1), (84, .iload_n 2, 1), (85, .iconst 2, 1), (86, .idiv, 1), (87, .iload_n 2, 1), (88, .iconst 2, 1), (89, .irem, 1), (90, .aload_n 0, 1), (91, .iload_n 1, 1), (92, .iload_n 2, 1), (93, .invokevirtual 380, 3), (96, .iload 6, 2), (98, .iload 5, 2), (100, .iconst 2, 1), (101, .irem, 1), (102, .aload_n 0, 1), (103, .getfield 45, 3), (106, .bipush 16, 2), (108, .iload_n 1, 1), (109, .imul, 1), (110, .iload 5, 2), (112, .iadd, 1), (113, .iaload, 1), (114, .invokevirtual 365, 3), (117, .istore 7, 2), (119, .bipush 17, 2), (121, .iload_n 1, 1), (122, .iconst 1, 1), (123, .iload 6, 2), (125, .ishl, 1), (126, .ior, 1), (127, .imul, 1), (128, .iload 5, 2), (130, .iadd, 1), (131, .istore 8, 2)]
theorem tbX7_layCost_1_k : dc_T cX7_layCost tbX7_layCost_1 = true := by decide +kernel
abbrev tbX7_layCost_2 : List (Nat × Instr × Nat) := [(133, .iload_n 3, 1), (134, .iload 7, 2), (136, .aload_n 0, 1), (137, .getfield 52, 3), (140, .iload 8, 2), (142, .iaload, 1), (143, .iadd, 1), (144, .invokestatic 280, 3), (147, .istore_n 3, 1), (148, .iload 4, 2), (150, .iload 7, 2), (152, .aload_n 0, 1), (153, .getfield 55, 3), (156, .iload 8, 2), (158, .iaload, 1), (159, .iadd, 1), (160, .invokestatic 286, 3), (163, .istore 4, 2), (165, .iinc 5 1, 3), (168, .goto (-132), 3), (171, .aload_n 0, 1), (172, .getfield 52, 3), (175, .bipush 17, 2), (177, .iload_n 1, 1), (178, .imul, 1), (179, .iload_n 2, 1), (180, .iadd, 1), (181, .iload_n 3, 1), (182, .iastore, 1), (183, .aload_n 0, 1), (184, .getfield 55, 3), (187, .bipush 17, 2), (189, .iload_n 1, 1), (190, .imul, 1), (191, .iload_n 2, 1), (192, .iadd, 1), (193, .iload 4, 2), (195, .iastore, 1), (196, .return_, 1)]
theorem tbX7_layCost_2_k : dc_T cX7_layCost tbX7_layCost_2 = true := by decide +kernel
abbrev tbX7_layCosts_0 : List (Nat × Instr × Nat) := [(0, .aload_n 0, 1), (1, .invokevirtual 383, 3), (4, .iconst 0, 1), (5, .istore_n 1, 1), (6, .iload_n 1, 1), (7, .aload_n 0, 1), (8, .invokevirtual 372, 3), (11, .if_icmp .gt 51, 3), (14, .iconst 0, 1), (15, .istore_n 2, 1), (16, .iload_n 2, 1), (17, .iconst 2, 1), (18, .aload_n 0, 1), (19, .getfield 7, 3), (22, .iconst 0, 1), (23, .iaload, 1), (24, .imul, 1), (25, .if_icmp .ge 31, 3), (28, .aload_n 0, 1), (29, .getfield 45, 3), (32, .bipush 16, 2), (34, .iload_n 1, 1), (35, .imul, 1), (36, .iload_n 2, 1), (37, .iadd, 1), (38, .aload_n 0, 1), (39, .iload_n 2, 1), (40, .iconst 2, 1), (41, .idiv, 1), (42, .iload_n 2, 1), (43, .iconst 2, 1), (44, .irem, 1), (45, .iload_n 1, 1), (46, .invokevirtual 360, 3), (49, .iastore, 1), (50, .iinc 2 1, 3), (53, .goto (-37), 3), (56, .iinc 1 1, 3), (59, .goto (-53), 3), (62, .aload_n 0, 1)]
theorem tbX7_layCosts_0_k : dc_T cX7_layCosts tbX7_layCosts_0 = true := by decide +kernel
abbrev tbX7_layCosts_1 : List (Nat × Instr × Nat) := [(63, .invokevirtual 372, 3), (66, .istore_n 1, 1), (67, .iload_n 1, 1), (68, .ifCond .lt 65, 3), (71, .iconst 0, 1), (72, .istore_n 2, 1), (73, .iload_n 2, 1), (74, .bipush 17, 2), (76, .if_icmp .ge 51, 3), (79, .aload_n 0, 1), (80, .iload_n 1, 1), (81, .invokevirtual 375, 3), (84, .ifCond .eq 43, 3), (87, .iload_n 2, 1), (88, .bipush 16, 2), (90, .if_icmp .eq 25, 3), (93, .iload_n 2, 1), (94, .iconst 2, 1), (95, .aload_n 0, 1), (96, .getfield 7, 3), (99, .iconst 0, 1), (100, .iaload, 1), (101, .imul, 1), (102, .if_icmp .ge 19, 3), (105, .iload_n 1, 1), (106, .iload_n 2, 1), (107, .iconst 2, 1), (108, .idiv, 1), (109, .invokestatic 273, 3), (112, .ifCond .eq 9, 3), (115, .aload_n 0, 1), (116, .iload_n 1, 1), (117, .iload_n 2, 1), (118, .invokevirtual 386, 3), (121, .iinc 2 1, 3), (124, .goto (-51), 3), (127, .iinc 1 (-1), 3), (130, .goto (-63), 3), (133, .return_, 1)]
theorem tbX7_layCosts_1_k : dc_T cX7_layCosts tbX7_layCosts_1 = true := by decide +kernel
abbrev tbX7_lastNow : List (Nat × Instr × Nat) := [(0, .aload_n 0, 1), (1, .getfield 7, 3), (4, .bipush 53, 2), (6, .iaload, 1), (7, .ifCond .ne 8, 3), (10, .bipush 16, 2), (12, .goto 34, 3), (15, .iconst 2, 1), (16, .aload_n 0, 1), (17, .aload_n 0, 1), (18, .getfield 7, 3), (21, .bipush 53, 2), (23, .iaload, 1), (24, .iconst 1, 1), (25, .isub, 1), (26, .iconst 0, 1), (27, .invokevirtual 345, 3), (30, .imul, 1), (31, .aload_n 0, 1), (32, .aload_n 0, 1), (33, .getfield 7, 3), (36, .bipush 53, 2), (38, .iaload, 1), (39, .iconst 1, 1), (40, .isub, 1), (41, .iconst 1, 1), (42, .invokevirtual 345, 3), (45, .iadd, 1), (46, .ireturn, 1)]
theorem tbX7_lastNow_k : dc_T cX7_lastNow tbX7_lastNow = true := by decide +kernel
abbrev tbX7_isOrder : List (Nat × Instr × Nat) := [(0, .aload_n 0, 1), (1, .getfield 48, 3), (4, .aload_n 0, 1), (5, .getfield 7, 3), (8, .bipush 52, 2), (10, .iaload, 1), (11, .laload, 1), (12, .lconst 0, 1), (13, .lcmp, 1), (14, .ifCond .le 7, 3), (17, .iconst 1, 1), (18, .goto 4, 3), (21, .iconst 0, 1), (22, .ireturn, 1)]
theorem tbX7_isOrder_k : dc_T cX7_isOrder tbX7_isOrder = true := by decide +kernel
abbrev tbX7_orders : List (Nat × Instr × Nat) := [(0, .aload_n 0, 1), (1, .iconst 0, 1), (2, .putfield 71, 3), (5, .aload_n 0, 1), (6, .invokevirtual 383, 3), (9, .aload_n 0, 1), (10, .getfield 48, 3), (13, .aload_n 0, 1), (14, .getfield 7, 3), (17, .bipush 52, 2), (19, .iaload, 1), (20, .laload, 1), (21, .lreturn, 1)]
theorem tbX7_orders_k : dc_T cX7_orders tbX7_orders = true := by decide +kernel
abbrev tbX7_leastNow : List (Nat × Instr × Nat) := [(0, .aload_n 0, 1), (1, .invokevirtual 389, 3), (4, .aload_n 0, 1), (5, .invokevirtual 392, 3), (8, .ifCond .eq 26, 3), (11, .aload_n 0, 1), (12, .getfield 52, 3), (15, .bipush 17, 2), (17, .aload_n 0, 1), (18, .getfield 7, 3), (21, .bipush 52, 2), (23, .iaload, 1), (24, .imul, 1), (25, .aload_n 0, 1), (26, .invokevirtual 395, 3), (29, .iadd, 1), (30, .iaload, 1), (31, .goto 4, 3), (34, .iconst (-1), 1), (35, .ireturn, 1)]
theorem tbX7_leastNow_k : dc_T cX7_leastNow tbX7_leastNow = true := by decide +kernel
abbrev tbX7_leastCost : List (Nat × Instr × Nat) := [(0, .aload_n 0, 1), (1, .iconst 0, 1), (2, .putfield 71, 3), (5, .aload_n 0, 1), (6, .invokevirtual 398, 3), (9, .ireturn, 1)]
theorem tbX7_leastCost_k : dc_T cX7_leastCost tbX7_leastCost = true := by decide +kernel
abbrev tbX7_unmade : List (Nat × Instr × Nat) := [(0, .iconst 0, 1), (1, .istore_n 1, 1), (2, .iconst 0, 1), (3, .istore_n 2, 1), (4, .iload_n 2, 1), (5, .aload_n 0, 1), (6, .getfield 7, 3), (9, .iconst 0, 1), (10, .iaload, 1), (11, .if_icmp .ge 31, 3), (14, .iload_n 1, 1), (15, .aload_n 0, 1), (16, .getfield 7, 3), (19, .bipush 52, 2), (21, .iaload, 1), (22, .iload_n 2, 1), (23, .invokestatic 273, 3), (26, .ifCond .eq 7, 3), (29, .iconst 0, 1), (30, .goto 4, 3), (33, .iconst 1, 1), (34, .iadd, 1), (35, .istore_n 1, 1), (36, .iinc 2 1, 3), (39, .goto (-35), 3), (42, .iload_n 1, 1), (43, .ireturn, 1)]
theorem tbX7_unmade_k : dc_T cX7_unmade tbX7_unmade = true := by decide +kernel
abbrev tbX7_plannedSteps : List (Nat × Instr × Nat) := [(0, .aload_n 0, 1), (1, .iconst 0, 1), (2, .putfield 71, 3), (5, .aload_n 0, 1), (6, .invokevirtual 383, 3), (9, .aload_n 0, 1), (10, .invokevirtual 392, 3), (13, .ifCond .eq 10, 3), (16, .aload_n 0, 1), (17, .invokevirtual 401, 3), (20, .goto 4, 3), (23, .iconst (-1), 1), (24, .ireturn, 1)]
theorem tbX7_plannedSteps_k : dc_T cX7_plannedSteps tbX7_plannedSteps = true := by decide +kernel
abbrev tbX7_bestStep_0 : List (Nat × Instr × Nat) := [(0, .iconst 0, 1), (1, .istore_n 3, 1), (2, .iload_n 3, 1), (3, .iconst 2, 1), (4, .aload_n 0, 1), (5, .getfield 7, 3), (8, .iconst 0, 1), (9, .iaload, 1), (10, .imul, 1), (11, .if_icmp .ge 120, 3), (14, .iload_n 1, 1), (15, .iconst 1, 1), (16, .iload_n 3, 1), (17, .iconst 2, 1), (18, .idiv, 1), (19, .ishl, 1), (20, .ior, 1), (21, .istore 4, 2), (23, .aload_n 0, 1), (24, .getfield 41, 3), (27, .bipush 16, 2), (29, .iload_n 1, 1), (30, .imul, 1), (31, .iload_n 3, 1), (32, .iadd, 1), (33, .baload, 1), (34, .ifCond .eq 91, 3), (37, .aload_n 0, 1), (38, .getfield 48, 3), (41, .iload 4, 2), (43, .laload, 1), (44, .lconst 0, 1), (45, .lcmp, 1), (46, .ifCond .le 79, 3), (49, .iload_n 2, 1), (50, .bipush 16, 2), (52, .if_icmp .ne 7, 3), (55, .iconst 0, 1), (56, .goto 36, 3), (59, .aload_n 0, 1)]
theorem tbX7_bestStep_0_k : dc_T cX7_bestStep tbX7_bestStep_0 = true := by decide +kernel
abbrev tbX7_bestStep_1 : List (Nat × Instr × Nat) := [(60, .iload_n 2, 1), (61, .iconst 2, 1), (62, .idiv, 1), (63, .iload_n 2, 1), (64, .iconst 2, 1), (65, .irem, 1), (66, .aload_n 0, 1), (67, .iload_n 1, 1), (68, .iload_n 2, 1), (69, .invokevirtual 380, 3), (72, .iload_n 3, 1), (73, .iconst 2, 1), (74, .idiv, 1), (75, .iload_n 3, 1), (76, .iconst 2, 1), (77, .irem, 1), (78, .aload_n 0, 1), (79, .getfield 45, 3), (82, .bipush 16, 2), (84, .iload_n 1, 1), (85, .imul, 1), (86, .iload_n 3, 1), (87, .iadd, 1), (88, .iaload, 1), (89, .invokevirtual 365, 3), (92, .istore 5, 2), (94, .iload 5, 2), (96, .aload_n 0, 1), (97, .getfield 52, 3), (100, .bipush 17, 2), (102, .iload 4, 2), (104, .imul, 1), (105, .iload_n 3, 1), (106, .iadd, 1), (107, .iaload, 1), (108, .iadd, 1), (109, .aload_n 0, 1), (110, .getfield 52, 3), (113, .bipush 17, 2), (115, .iload_n 1, 1)]
theorem tbX7_bestStep_1_k : dc_T cX7_bestStep tbX7_bestStep_1 = true := by decide +kernel
abbrev tbX7_bestStep_2 : List (Nat × Instr × Nat) := [(116, .imul, 1), (117, .iload_n 2, 1), (118, .iadd, 1), (119, .iaload, 1), (120, .if_icmp .ne 5, 3), (123, .iload_n 3, 1), (124, .ireturn, 1), (125, .iinc 3 1, 3), (128, .goto (-126), 3), (131, .iconst (-1), 1), (132, .ireturn, 1)]
theorem tbX7_bestStep_2_k : dc_T cX7_bestStep tbX7_bestStep_2 = true := by decide +kernel
abbrev tbX7_planned_0 : List (Nat × Instr × Nat) := [(0, .aload_n 0, 1), (1, .invokevirtual 389, 3), (4, .aload_n 0, 1), (5, .aload_n 0, 1), (6, .invokevirtual 392, 3), (9, .ifCond .eq 23, 3), (12, .iload_n 1, 1), (13, .i2l, 1), (14, .lconst 0, 1), (15, .aload_n 0, 1), (16, .invokevirtual 401, 3), (19, .iconst 1, 1), (20, .isub, 1), (21, .i2l, 1), (22, .invokestatic 128, 3), (25, .ifCond .eq 7, 3), (28, .iconst 1, 1), (29, .goto 4, 3), (32, .iconst 0, 1), (33, .invokevirtual 207, 3), (36, .ifCond .ne 5, 3), (39, .iconst 0, 1), (40, .ireturn, 1), (41, .aload_n 0, 1), (42, .getfield 7, 3), (45, .bipush 52, 2), (47, .iaload, 1), (48, .istore_n 2, 1), (49, .aload_n 0, 1), (50, .invokevirtual 395, 3), (53, .istore_n 3, 1), (54, .iconst 0, 1), (55, .istore 4, 2), (57, .iload 4, 2), (59, .iload_n 1, 1), (60, .if_icmp .gt 24, 3), (63, .aload_n 0, 1), (64, .iload_n 2, 1), (65, .iload_n 3, 1), (66, .invokevirtual 404, 3)]
theorem tbX7_planned_0_k : dc_T cX7_planned tbX7_planned_0 = true := by decide +kernel
abbrev tbX7_planned_1 : List (Nat × Instr × Nat) := [(69, .istore_n 3, 1), (70, .iload_n 2, 1), (71, .iconst 1, 1), (72, .iload_n 3, 1), (73, .iconst 2, 1), (74, .idiv, 1), (75, .ishl, 1), (76, .ior, 1), (77, .istore_n 2, 1), (78, .iinc 4 1, 3), (81, .goto (-24), 3), (84, .iload_n 3, 1), (85, .ireturn, 1)]
theorem tbX7_planned_1_k : dc_T cX7_planned tbX7_planned_1 = true := by decide +kernel
abbrev tbX7_greatestCost : List (Nat × Instr × Nat) := [(0, .aload_n 0, 1), (1, .iconst 0, 1), (2, .putfield 71, 3), (5, .aload_n 0, 1), (6, .invokevirtual 389, 3), (9, .aload_n 0, 1), (10, .invokevirtual 392, 3), (13, .ifCond .eq 26, 3), (16, .aload_n 0, 1), (17, .getfield 55, 3), (20, .bipush 17, 2), (22, .aload_n 0, 1), (23, .getfield 7, 3), (26, .bipush 52, 2), (28, .iaload, 1), (29, .imul, 1), (30, .aload_n 0, 1), (31, .invokevirtual 395, 3), (34, .iadd, 1), (35, .iaload, 1), (36, .goto 4, 3), (39, .iconst (-1), 1), (40, .ireturn, 1)]
theorem tbX7_greatestCost_k : dc_T cX7_greatestCost tbX7_greatestCost = true := by decide +kernel
abbrev tbX7_ordersWith_0 : List (Nat × Instr × Nat) := [(0, .aload_n 0, 1), (1, .aload_n 0, 1), (2, .iload_n 1, 1), (3, .invokevirtual 210, 3), (6, .iload_n 2, 1), (7, .invokestatic 353, 3), (10, .invokevirtual 342, 3), (13, .ifCond .ne 5, 3), (16, .lconst 0, 1), (17, .lreturn, 1), (18, .aload_n 0, 1), (19, .invokevirtual 383, 3), (22, .aload_n 0, 1), (23, .getfield 41, 3), (26, .bipush 16, 2), (28, .aload_n 0, 1), (29, .getfield 7, 3), (32, .bipush 52, 2), (34, .iaload, 1), (35, .imul, 1), (36, .iconst 2, 1), (37, .iload_n 1, 1), (38, .imul, 1), (39, .iadd, 1), (40, .iload_n 2, 1), (41, .iadd, 1), (42, .baload, 1), (43, .ifCond .eq 22, 3), (46, .aload_n 0, 1), (47, .getfield 48, 3), (50, .aload_n 0, 1), (51, .getfield 7, 3), (54, .bipush 52, 2), (56, .iaload, 1), (57, .iconst 1, 1), (58, .iload_n 1, 1), (59, .ishl, 1), (60, .ior, 1), (61, .laload, 1), (62, .goto 4, 3)]
theorem tbX7_ordersWith_0_k : dc_T cX7_ordersWith tbX7_ordersWith_0 = true := by decide +kernel
abbrev tbX7_ordersWith_1 : List (Nat × Instr × Nat) := [(65, .lconst 0, 1), (66, .lreturn, 1)]
theorem tbX7_ordersWith_1_k : dc_T cX7_ordersWith tbX7_ordersWith_1 = true := by decide +kernel
abbrev tbX7_layReached_0 : List (Nat × Instr × Nat) := [(0, .aload_n 0, 1), (1, .invokevirtual 383, 3), (4, .iconst 0, 1), (5, .istore_n 1, 1), (6, .iload_n 1, 1), (7, .aload_n 0, 1), (8, .invokevirtual 372, 3), (11, .if_icmp .gt 31, 3), (14, .aload_n 0, 1), (15, .getfield 58, 3), (18, .iload_n 1, 1), (19, .iload_n 1, 1), (20, .aload_n 0, 1), (21, .getfield 7, 3), (24, .bipush 52, 2), (26, .iaload, 1), (27, .if_icmp .ne 7, 3), (30, .iconst 1, 1), (31, .goto 4, 3), (34, .iconst 0, 1), (35, .bastore, 1), (36, .iinc 1 1, 3), (39, .goto (-33), 3), (42, .iconst 0, 1), (43, .istore_n 1, 1), (44, .iload_n 1, 1), (45, .aload_n 0, 1), (46, .invokevirtual 372, 3), (49, .if_icmp .gt 64, 3), (52, .iconst 0, 1), (53, .istore_n 2, 1), (54, .iload_n 2, 1), (55, .iconst 2, 1), (56, .aload_n 0, 1), (57, .getfield 7, 3), (60, .iconst 0, 1), (61, .iaload, 1), (62, .imul, 1), (63, .if_icmp .ge 44, 3), (66, .aload_n 0, 1)]
theorem tbX7_layReached_0_k : dc_T cX7_layReached tbX7_layReached_0 = true := by decide +kernel
abbrev tbX7_layReached_1 : List (Nat × Instr × Nat) := [(67, .getfield 58, 3), (70, .iload_n 1, 1), (71, .baload, 1), (72, .ifCond .eq 35, 3), (75, .aload_n 0, 1), (76, .getfield 58, 3), (79, .iload_n 1, 1), (80, .iconst 1, 1), (81, .iload_n 2, 1), (82, .iconst 2, 1), (83, .idiv, 1), (84, .ishl, 1), (85, .ior, 1), (86, .dup2, 1), (87, .baload, 1), (88, .aload_n 0, 1), (89, .getfield 41, 3), (92, .bipush 16, 2), (94, .iload_n 1, 1), (95, .imul, 1), (96, .iload_n 2, 1), (97, .iadd, 1), (98, .baload, 1), (99, .ior, 1), (100, .bastore, 1), (101, .iinc 2 1, 3), (104, .goto (-50), 3), (107, .iinc 1 1, 3), (110, .goto (-66), 3), (113, .return_, 1)]
theorem tbX7_layReached_1_k : dc_T cX7_layReached tbX7_layReached_1 = true := by decide +kernel
abbrev tbX7_lastSteps_0 : List (Nat × Instr × Nat) := [(0, .aload_n 0, 1), (1, .iconst 0, 1), (2, .putfield 71, 3), (5, .aload_n 0, 1), (6, .invokevirtual 407, 3), (9, .iconst 0, 1), (10, .istore_n 1, 1), (11, .iconst 0, 1), (12, .istore_n 2, 1), (13, .iload_n 2, 1), (14, .iconst 2, 1), (15, .aload_n 0, 1), (16, .getfield 7, 3), (19, .iconst 0, 1), (20, .iaload, 1), (21, .imul, 1), (22, .if_icmp .ge 55, 3), (25, .aload_n 0, 1), (26, .invokevirtual 372, 3), (29, .iconst 1, 1), (30, .iload_n 2, 1), (31, .iconst 2, 1), (32, .idiv, 1), (33, .ishl, 1), (34, .iconst (-1), 1), (35, .ixor, 1), (36, .iand, 1), (37, .istore_n 3, 1), (38, .iload_n 1, 1), (39, .aload_n 0, 1), (40, .getfield 58, 3), (43, .iload_n 3, 1), (44, .baload, 1), (45, .ifCond .eq 23, 3), (48, .aload_n 0, 1), (49, .getfield 41, 3), (52, .bipush 16, 2), (54, .iload_n 3, 1), (55, .imul, 1), (56, .iload_n 2, 1)]
theorem tbX7_lastSteps_0_k : dc_T cX7_lastSteps tbX7_lastSteps_0 = true := by decide +kernel
abbrev tbX7_lastSteps_1 : List (Nat × Instr × Nat) := [(57, .iadd, 1), (58, .baload, 1), (59, .ifCond .eq 9, 3), (62, .iconst 1, 1), (63, .iload_n 2, 1), (64, .ishl, 1), (65, .goto 4, 3), (68, .iconst 0, 1), (69, .ior, 1), (70, .istore_n 1, 1), (71, .iinc 2 1, 3), (74, .goto (-61), 3), (77, .iload_n 1, 1), (78, .ireturn, 1)]
theorem tbX7_lastSteps_1_k : dc_T cX7_lastSteps tbX7_lastSteps_1 = true := by decide +kernel
abbrev tbX7_mostBends_0 : List (Nat × Instr × Nat) := [(0, .aload_n 0, 1), (1, .iconst 0, 1), (2, .putfield 71, 3), (5, .aload_n 0, 1), (6, .invokevirtual 407, 3), (9, .iconst 0, 1), (10, .istore_n 1, 1), (11, .iconst 0, 1), (12, .istore_n 2, 1), (13, .iload_n 2, 1), (14, .aload_n 0, 1), (15, .invokevirtual 372, 3), (18, .if_icmp .gt 82, 3), (21, .iconst 0, 1), (22, .istore_n 3, 1), (23, .iconst 0, 1), (24, .istore 4, 2), (26, .iload 4, 2), (28, .aload_n 0, 1), (29, .getfield 7, 3), (32, .iconst 0, 1), (33, .iaload, 1), (34, .if_icmp .ge 41, 3), (37, .iload_n 3, 1), (38, .iload_n 2, 1), (39, .iload 4, 2), (41, .invokestatic 273, 3), (44, .ifCond .eq 22, 3), (47, .aload_n 0, 1), (48, .getfield 7, 3), (51, .bipush 52, 2), (53, .iaload, 1), (54, .iload 4, 2), (56, .invokestatic 273, 3), (59, .ifCond .ne 7, 3), (62, .iconst 1, 1), (63, .goto 4, 3), (66, .iconst 0, 1), (67, .iadd, 1), (68, .istore_n 3, 1)]
theorem tbX7_mostBends_0_k : dc_T cX7_mostBends tbX7_mostBends_0 = true := by decide +kernel
abbrev tbX7_mostBends_1 : List (Nat × Instr × Nat) := [(69, .iinc 4 1, 3), (72, .goto (-46), 3), (75, .aload_n 0, 1), (76, .getfield 58, 3), (79, .iload_n 2, 1), (80, .baload, 1), (81, .ifCond .eq 11, 3), (84, .iload_n 1, 1), (85, .iload_n 3, 1), (86, .invokestatic 286, 3), (89, .goto 4, 3), (92, .iload_n 1, 1), (93, .istore_n 1, 1), (94, .iinc 2 1, 3), (97, .goto (-84), 3), (100, .iload_n 1, 1), (101, .ireturn, 1)]
theorem tbX7_mostBends_1_k : dc_T cX7_mostBends tbX7_mostBends_1 = true := by decide +kernel
abbrev tbX7_greatestBeam : List (Nat × Instr × Nat) := [(0, .aload_n 0, 1), (1, .iconst 0, 1), (2, .putfield 71, 3), (5, .aload_n 0, 1), (6, .getfield 7, 3), (9, .bipush 40, 2), (11, .iaload, 1), (12, .istore_n 1, 1), (13, .iconst (-1), 1), (14, .istore_n 2, 1), (15, .sipush 2000, 3), (18, .istore_n 3, 1), (19, .iload_n 3, 1), (20, .ifCond .lt 39, 3), (23, .iload_n 2, 1), (24, .iconst (-1), 1), (25, .if_icmp .ne 34, 3), (28, .aload_n 0, 1), (29, .getfield 7, 3), (32, .bipush 40, 2), (34, .iload_n 3, 1), (35, .iastore, 1), (36, .aload_n 0, 1), (37, .invokevirtual 383, 3), (40, .aload_n 0, 1), (41, .invokevirtual 392, 3), (44, .ifCond .eq 7, 3), (47, .iload_n 3, 1), (48, .goto 4, 3), (51, .iconst (-1), 1), (52, .istore_n 2, 1), (53, .iinc 3 (-100), 3), (56, .goto (-37), 3), (59, .aload_n 0, 1), (60, .getfield 7, 3), (63, .bipush 40, 2), (65, .iload_n 1, 1), (66, .iastore, 1), (67, .iload_n 2, 1), (68, .ireturn, 1)]
theorem tbX7_greatestBeam_k : dc_T cX7_greatestBeam tbX7_greatestBeam = true := by decide +kernel
abbrev tbX7_costIfTurned_0 : List (Nat × Instr × Nat) := [(0, .aload_n 0, 1), (1, .aload_n 0, 1), (2, .iload_n 1, 1), (3, .invokevirtual 210, 3), (6, .aload_n 0, 1), (7, .getfield 7, 3), (10, .bipush 53, 2), (12, .iaload, 1), (13, .ifCond .ne 7, 3), (16, .iconst 1, 1), (17, .goto 4, 3), (20, .iconst 0, 1), (21, .invokevirtual 342, 3), (24, .ifCond .ne 5, 3), (27, .iconst 0, 1), (28, .ireturn, 1), (29, .aload_n 0, 1), (30, .getfield 7, 3), (33, .bipush 11, 2), (35, .iload_n 1, 1), (36, .iadd, 1), (37, .iconst 1, 1), (38, .aload_n 0, 1), (39, .getfield 7, 3), (42, .bipush 11, 2), (44, .iload_n 1, 1), (45, .iadd, 1), (46, .iaload, 1), (47, .isub, 1), (48, .iastore, 1), (49, .aload_n 0, 1), (50, .invokevirtual 398, 3), (53, .istore_n 2, 1), (54, .aload_n 0, 1), (55, .getfield 7, 3), (58, .bipush 11, 2), (60, .iload_n 1, 1), (61, .iadd, 1), (62, .iconst 1, 1), (63, .aload_n 0, 1)]
theorem tbX7_costIfTurned_0_k : dc_T cX7_costIfTurned tbX7_costIfTurned_0 = true := by decide +kernel
abbrev tbX7_costIfTurned_1 : List (Nat × Instr × Nat) := [(64, .getfield 7, 3), (67, .bipush 11, 2), (69, .iload_n 1, 1), (70, .iadd, 1), (71, .iaload, 1), (72, .isub, 1), (73, .iastore, 1), (74, .iload_n 2, 1), (75, .ireturn, 1)]
theorem tbX7_costIfTurned_1_k : dc_T cX7_costIfTurned tbX7_costIfTurned_1 = true := by decide +kernel
abbrev tbX7_foldNow_0 : List (Nat × Instr × Nat) := [(0, .aload_n 0, 1), (1, .iload_n 1, 1), (2, .iload_n 2, 1), (3, .invokevirtual 369, 3), (6, .istore_n 3, 1), (7, .aload_n 0, 1), (8, .iload_n 1, 1), (9, .iload_n 2, 1), (10, .aload_n 0, 1), (11, .getfield 7, 3), (14, .bipush 52, 2), (16, .iaload, 1), (17, .invokevirtual 360, 3), (20, .istore 4, 2), (22, .aload_n 0, 1), (23, .invokevirtual 410, 3), (26, .bipush 54, 2), (28, .iconst 4, 1), (29, .aload_n 0, 1), (30, .getfield 7, 3), (33, .bipush 53, 2), (35, .iaload, 1), (36, .imul, 1), (37, .iadd, 1), (38, .istore 5, 2), (40, .aload_n 0, 1), (41, .getfield 7, 3), (44, .iload 5, 2), (46, .iload_n 1, 1), (47, .iastore, 1), (48, .aload_n 0, 1), (49, .getfield 7, 3), (52, .iload 5, 2), (54, .iconst 1, 1), (55, .iadd, 1), (56, .iload_n 2, 1), (57, .iastore, 1), (58, .aload_n 0, 1), (59, .getfield 7, 3), (62, .iload 5, 2)]
theorem tbX7_foldNow_0_k : dc_T cX7_foldNow tbX7_foldNow_0 = true := by decide +kernel
abbrev tbX7_foldNow_1 : List (Nat × Instr × Nat) := [(64, .iconst 2, 1), (65, .iadd, 1), (66, .iload 4, 2), (68, .iastore, 1), (69, .aload_n 0, 1), (70, .getfield 7, 3), (73, .iload 5, 2), (75, .iconst 3, 1), (76, .iadd, 1), (77, .iload_n 3, 1), (78, .iastore, 1), (79, .aload_n 0, 1), (80, .getfield 7, 3), (83, .bipush 53, 2), (85, .dup2, 1), (86, .iaload, 1), (87, .iconst 1, 1), (88, .iadd, 1), (89, .iastore, 1), (90, .aload_n 0, 1), (91, .getfield 7, 3), (94, .bipush 52, 2), (96, .dup2, 1), (97, .iaload, 1), (98, .iconst 1, 1), (99, .iload_n 1, 1), (100, .ishl, 1), (101, .ior, 1), (102, .iastore, 1), (103, .iload_n 3, 1), (104, .ireturn, 1)]
theorem tbX7_foldNow_1_k : dc_T cX7_foldNow tbX7_foldNow_1 = true := by decide +kernel
abbrev tbX7_fold : List (Nat × Instr × Nat) := [(0, .aload_n 0, 1), (1, .iload_n 1, 1), (2, .invokevirtual 210, 3), (5, .istore_n 3, 1), (6, .iload_n 2, 1), (7, .invokestatic 353, 3), (10, .istore 4, 2), (12, .aload_n 0, 1), (13, .iload_n 3, 1), (14, .iload 4, 2), (16, .iload_n 3, 1), (17, .ifCond .eq 28, 3), (20, .iload 4, 2), (22, .ifCond .eq 23, 3), (25, .aload_n 0, 1), (26, .iload_n 1, 1), (27, .iload_n 2, 1), (28, .aload_n 0, 1), (29, .getfield 7, 3), (32, .bipush 52, 2), (34, .iaload, 1), (35, .invokevirtual 356, 3), (38, .ifCond .ne 7, 3), (41, .iconst 1, 1), (42, .goto 4, 3), (45, .iconst 0, 1), (46, .invokevirtual 413, 3), (49, .ifCond .eq 12, 3), (52, .aload_n 0, 1), (53, .iload_n 1, 1), (54, .iload_n 2, 1), (55, .invokevirtual 416, 3), (58, .goto 4, 3), (61, .iconst 0, 1), (62, .ireturn, 1)]
theorem tbX7_fold_k : dc_T cX7_fold tbX7_fold = true := by decide +kernel
abbrev tbX7_foldNext : List (Nat × Instr × Nat) := [(0, .aload_n 0, 1), (1, .invokevirtual 389, 3), (4, .aload_n 0, 1), (5, .aload_n 0, 1), (6, .invokevirtual 392, 3), (9, .ifCond .eq 14, 3), (12, .aload_n 0, 1), (13, .invokevirtual 401, 3), (16, .ifCond .le 7, 3), (19, .iconst 1, 1), (20, .goto 4, 3), (23, .iconst 0, 1), (24, .invokevirtual 207, 3), (27, .ifCond .ne 5, 3), (30, .iconst 0, 1), (31, .ireturn, 1), (32, .aload_n 0, 1), (33, .aload_n 0, 1), (34, .getfield 7, 3), (37, .bipush 52, 2), (39, .iaload, 1), (40, .aload_n 0, 1), (41, .invokevirtual 395, 3), (44, .invokevirtual 404, 3), (47, .istore_n 1, 1), (48, .aload_n 0, 1), (49, .iload_n 1, 1), (50, .iconst 2, 1), (51, .idiv, 1), (52, .iload_n 1, 1), (53, .iconst 2, 1), (54, .irem, 1), (55, .invokevirtual 416, 3), (58, .istore_n 2, 1), (59, .iload_n 1, 1), (60, .ireturn, 1)]
theorem tbX7_foldNext_k : dc_T cX7_foldNext tbX7_foldNext = true := by decide +kernel
abbrev tbX7_unfold : List (Nat × Instr × Nat) := [(0, .aload_n 0, 1), (1, .iconst 0, 1), (2, .putfield 71, 3), (5, .aload_n 0, 1), (6, .invokevirtual 410, 3), (9, .aload_n 0, 1), (10, .getfield 7, 3), (13, .bipush 53, 2), (15, .iaload, 1), (16, .istore_n 1, 1), (17, .aload_n 0, 1), (18, .getfield 7, 3), (21, .bipush 53, 2), (23, .iconst 0, 1), (24, .iastore, 1), (25, .aload_n 0, 1), (26, .getfield 7, 3), (29, .bipush 52, 2), (31, .iconst 0, 1), (32, .iastore, 1), (33, .bipush 54, 2), (35, .istore_n 2, 1), (36, .iload_n 2, 1), (37, .bipush 86, 2), (39, .if_icmp .ge 16, 3), (42, .aload_n 0, 1), (43, .getfield 7, 3), (46, .iload_n 2, 1), (47, .iconst 0, 1), (48, .iastore, 1), (49, .iinc 2 1, 3), (52, .goto (-16), 3), (55, .iload_n 1, 1), (56, .ireturn, 1)]
theorem tbX7_unfold_k : dc_T cX7_unfold tbX7_unfold = true := by decide +kernel
abbrev tbX7_set : List (Nat × Instr × Nat) := [(0, .aload_n 0, 1), (1, .invokevirtual 410, 3), (4, .aload_n 0, 1), (5, .getfield 7, 3), (8, .iload_n 1, 1), (9, .iaload, 1), (10, .istore_n 3, 1), (11, .aload_n 0, 1), (12, .getfield 7, 3), (15, .iload_n 1, 1), (16, .iload_n 2, 1), (17, .iastore, 1), (18, .iload_n 3, 1), (19, .ireturn, 1)]
theorem tbX7_set_k : dc_T cX7_set tbX7_set = true := by decide +kernel
abbrev tbX7_setLeg : List (Nat × Instr × Nat) := [(0, .aload_n 0, 1), (1, .aload_n 0, 1), (2, .iload_n 1, 1), (3, .invokevirtual 204, 3), (6, .iload_n 2, 1), (7, .i2l, 1), (8, .lconst 1, 1), (9, .ldc2_w 419, 3), (12, .invokestatic 128, 3), (15, .aload_n 0, 1), (16, .getfield 7, 3), (19, .bipush 53, 2), (21, .iaload, 1), (22, .ifCond .ne 7, 3), (25, .iconst 1, 1), (26, .goto 4, 3), (29, .iconst 0, 1), (30, .invokevirtual 413, 3), (33, .ifCond .eq 14, 3), (36, .aload_n 0, 1), (37, .iconst 2, 1), (38, .iload_n 1, 1), (39, .iadd, 1), (40, .iload_n 2, 1), (41, .invokevirtual 421, 3), (44, .goto 4, 3), (47, .iconst 0, 1), (48, .ireturn, 1)]
theorem tbX7_setLeg_k : dc_T cX7_setLeg tbX7_setLeg = true := by decide +kernel
abbrev tbX7_setDirection : List (Nat × Instr × Nat) := [(0, .aload_n 0, 1), (1, .aload_n 0, 1), (2, .iload_n 1, 1), (3, .invokevirtual 210, 3), (6, .aload_n 0, 1), (7, .getfield 7, 3), (10, .bipush 53, 2), (12, .iaload, 1), (13, .ifCond .ne 7, 3), (16, .iconst 1, 1), (17, .goto 4, 3), (20, .iconst 0, 1), (21, .invokevirtual 342, 3), (24, .ifCond .eq 28, 3), (27, .aload_n 0, 1), (28, .bipush 11, 2), (30, .iload_n 1, 1), (31, .iadd, 1), (32, .iload_n 2, 1), (33, .ifCond .eq 7, 3), (36, .iconst 1, 1), (37, .goto 4, 3), (40, .iconst 0, 1), (41, .invokevirtual 421, 3), (44, .iconst 1, 1), (45, .if_icmp .ne 7, 3), (48, .iconst 1, 1), (49, .goto 4, 3), (52, .iconst 0, 1), (53, .ireturn, 1)]
theorem tbX7_setDirection_k : dc_T cX7_setDirection tbX7_setDirection = true := by decide +kernel
theorem dX7_areTold_15 : decode cX7_areTold 15 = .ok (.tableswitch 64 0 4 #[33, 33, 33, 43, 54], 33) := by decide +kernel
abbrev tbX7_areTold : List (Nat × Instr × Nat) := [(0, .iload_n 1, 1), (1, .i2l, 1), (2, .lconst 0, 1), (3, .ldc2_w 419, 3), (6, .invokestatic 128, 3), (9, .ifCond .ne 5, 3), (12, .iconst 0, 1), (13, .ireturn, 1), (14, .iload_n 0, 1), (48, .iload_n 2, 1), (49, .i2l, 1), (50, .lconst 0, 1), (51, .ldc2_w 419, 3), (54, .invokestatic 128, 3), (57, .ireturn, 1), (58, .iload_n 2, 1), (59, .i2l, 1), (60, .iload_n 1, 1), (61, .i2l, 1), (62, .ldc2_w 419, 3), (65, .invokestatic 128, 3), (68, .ireturn, 1), (69, .iload_n 2, 1), (70, .ifCond .ne 7, 3), (73, .iconst 1, 1), (74, .goto 4, 3), (77, .iconst 0, 1), (78, .ireturn, 1), (79, .iconst 0, 1), (80, .ireturn, 1)]
theorem tbX7_areTold_k : dc_T cX7_areTold tbX7_areTold = true := by decide +kernel
abbrev tbX7_setTool : List (Nat × Instr × Nat) := [(0, .aload_n 0, 1), (1, .iload_n 1, 1), (2, .iload_n 2, 1), (3, .iload_n 3, 1), (4, .invokestatic 424, 3), (7, .invokevirtual 207, 3), (10, .ifCond .ne 5, 3), (13, .iconst 0, 1), (14, .ireturn, 1), (15, .aload_n 0, 1), (16, .bipush 39, 2), (18, .iconst 2, 1), (19, .iload_n 1, 1), (20, .imul, 1), (21, .iadd, 1), (22, .iload_n 2, 1), (23, .invokevirtual 421, 3), (26, .istore 4, 2), (28, .aload_n 0, 1), (29, .getfield 7, 3), (32, .bipush 39, 2), (34, .iconst 2, 1), (35, .iload_n 1, 1), (36, .imul, 1), (37, .iadd, 1), (38, .iconst 1, 1), (39, .iadd, 1), (40, .iload_n 3, 1), (41, .iastore, 1), (42, .iload 4, 2), (44, .ireturn, 1)]
theorem tbX7_setTool_k : dc_T cX7_setTool tbX7_setTool = true := by decide +kernel
abbrev tbX7_setSheet_0 : List (Nat × Instr × Nat) := [(0, .aload_n 0, 1), (1, .iload_n 1, 1), (2, .i2l, 1), (3, .lconst 1, 1), (4, .ldc2_w 427, 3), (7, .invokestatic 128, 3), (10, .ifCond .eq 31, 3), (13, .iload_n 2, 1), (14, .i2l, 1), (15, .lconst 0, 1), (16, .ldc2_w 429, 3), (19, .invokestatic 128, 3), (22, .ifCond .eq 19, 3), (25, .iload_n 3, 1), (26, .i2l, 1), (27, .lconst 0, 1), (28, .ldc2_w 431, 3), (31, .invokestatic 128, 3), (34, .ifCond .eq 7, 3), (37, .iconst 1, 1), (38, .goto 4, 3), (41, .iconst 0, 1), (42, .invokevirtual 207, 3), (45, .ifCond .ne 5, 3), (48, .iconst 0, 1), (49, .ireturn, 1), (50, .aload_n 0, 1), (51, .bipush 36, 2), (53, .iload_n 1, 1), (54, .invokevirtual 421, 3), (57, .istore 4, 2), (59, .aload_n 0, 1), (60, .getfield 7, 3), (63, .bipush 37, 2), (65, .iload_n 2, 1), (66, .iastore, 1), (67, .aload_n 0, 1), (68, .getfield 7, 3), (71, .bipush 38, 2), (73, .iload_n 3, 1)]
theorem tbX7_setSheet_0_k : dc_T cX7_setSheet tbX7_setSheet_0 = true := by decide +kernel
abbrev tbX7_setSheet_1 : List (Nat × Instr × Nat) := [(74, .iastore, 1), (75, .iload 4, 2), (77, .ireturn, 1)]
theorem tbX7_setSheet_1_k : dc_T cX7_setSheet tbX7_setSheet_1 = true := by decide +kernel
abbrev tbX7_setCost_0 : List (Nat × Instr × Nat) := [(0, .aload_n 0, 1), (1, .iload_n 1, 1), (2, .i2l, 1), (3, .lconst 0, 1), (4, .ldc2_w 433, 3), (7, .invokestatic 128, 3), (10, .ifCond .eq 31, 3), (13, .iload_n 2, 1), (14, .i2l, 1), (15, .lconst 0, 1), (16, .ldc2_w 433, 3), (19, .invokestatic 128, 3), (22, .ifCond .eq 19, 3), (25, .iload_n 3, 1), (26, .i2l, 1), (27, .lconst 0, 1), (28, .ldc2_w 433, 3), (31, .invokestatic 128, 3), (34, .ifCond .eq 7, 3), (37, .iconst 1, 1), (38, .goto 4, 3), (41, .iconst 0, 1), (42, .invokevirtual 207, 3), (45, .ifCond .ne 5, 3), (48, .iconst 0, 1), (49, .ireturn, 1), (50, .aload_n 0, 1), (51, .bipush 49, 2), (53, .iload_n 1, 1), (54, .invokevirtual 421, 3), (57, .istore 4, 2), (59, .aload_n 0, 1), (60, .getfield 7, 3), (63, .bipush 50, 2), (65, .iload_n 2, 1), (66, .iastore, 1), (67, .aload_n 0, 1), (68, .getfield 7, 3), (71, .bipush 51, 2), (73, .iload_n 3, 1)]
theorem tbX7_setCost_0_k : dc_T cX7_setCost tbX7_setCost_0 = true := by decide +kernel
abbrev tbX7_setCost_1 : List (Nat × Instr × Nat) := [(74, .iastore, 1), (75, .iload 4, 2), (77, .ireturn, 1)]
theorem tbX7_setCost_1_k : dc_T cX7_setCost tbX7_setCost_1 = true := by decide +kernel
abbrev tbX7_put : List (Nat × Instr × Nat) := [(0, .aload_n 0, 1), (1, .getfield 61, 3), (4, .aload_n 0, 1), (5, .getfield 435, 3), (8, .iload_n 1, 1), (9, .iastore, 1), (10, .aload_n 0, 1), (11, .dup, 1), (12, .getfield 435, 3), (15, .iconst 1, 1), (16, .iadd, 1), (17, .putfield 435, 3), (20, .return_, 1)]
theorem tbX7_put_k : dc_T cX7_put tbX7_put = true := by decide +kernel
abbrev tbX7_putNumber : List (Nat × Instr × Nat) := [(0, .iconst 1, 1), (1, .istore_n 2, 1), (2, .iload_n 1, 1), (3, .iload_n 2, 1), (4, .idiv, 1), (5, .bipush 9, 2), (7, .if_icmp .le 11, 3), (10, .bipush 10, 2), (12, .iload_n 2, 1), (13, .imul, 1), (14, .istore_n 2, 1), (15, .goto (-13), 3), (18, .iload_n 2, 1), (19, .ifCond .le 24, 3), (22, .aload_n 0, 1), (23, .bipush 48, 2), (25, .iload_n 1, 1), (26, .iload_n 2, 1), (27, .idiv, 1), (28, .bipush 10, 2), (30, .irem, 1), (31, .iadd, 1), (32, .invokevirtual 438, 3), (35, .iload_n 2, 1), (36, .bipush 10, 2), (38, .idiv, 1), (39, .istore_n 2, 1), (40, .goto (-22), 3), (43, .return_, 1)]
theorem tbX7_putNumber_k : dc_T cX7_putNumber tbX7_putNumber = true := by decide +kernel
abbrev tbX7_putBend : List (Nat × Instr × Nat) := [(0, .aload_n 0, 1), (1, .aload_n 0, 1), (2, .getfield 7, 3), (5, .bipush 11, 2), (7, .iload_n 1, 1), (8, .iadd, 1), (9, .iaload, 1), (10, .iconst 1, 1), (11, .if_icmp .ne 8, 3), (14, .bipush 94, 2), (16, .goto 5, 3), (19, .bipush 118, 2), (21, .invokevirtual 438, 3), (24, .aload_n 0, 1), (25, .getfield 7, 3), (28, .bipush 52, 2), (30, .iaload, 1), (31, .iload_n 1, 1), (32, .invokestatic 273, 3), (35, .ifCond .eq 9, 3), (38, .aload_n 0, 1), (39, .bipush 42, 2), (41, .invokevirtual 438, 3), (44, .return_, 1)]
theorem tbX7_putBend_k : dc_T cX7_putBend tbX7_putBend = true := by decide +kernel
abbrev tbX7_putCost : List (Nat × Instr × Nat) := [(0, .ldc_w 441, 3), (3, .astore_n 1, 1), (4, .iconst 0, 1), (5, .istore_n 2, 1), (6, .iload_n 2, 1), (7, .aload_n 1, 1), (8, .invokevirtual 110, 3), (11, .if_icmp .ge 18, 3), (14, .aload_n 0, 1), (15, .aload_n 1, 1), (16, .iload_n 2, 1), (17, .invokevirtual 115, 3), (20, .invokevirtual 438, 3), (23, .iinc 2 1, 3), (26, .goto (-20), 3), (29, .aload_n 0, 1), (30, .aload_n 0, 1), (31, .invokevirtual 350, 3), (34, .invokevirtual 443, 3), (37, .return_, 1)]
theorem tbX7_putCost_k : dc_T cX7_putCost tbX7_putCost = true := by decide +kernel
abbrev tbX7_write_0 : List (Nat × Instr × Nat) := [(0, .aload_n 0, 1), (1, .iconst 0, 1), (2, .putfield 71, 3), (5, .aload_n 0, 1), (6, .iconst 0, 1), (7, .putfield 435, 3), (10, .iconst 0, 1), (11, .istore_n 1, 1), (12, .iload_n 1, 1), (13, .aload_n 0, 1), (14, .getfield 7, 3), (17, .iconst 1, 1), (18, .iaload, 1), (19, .if_icmp .ge 36, 3), (22, .aload_n 0, 1), (23, .aload_n 0, 1), (24, .getfield 7, 3), (27, .iconst 2, 1), (28, .iload_n 1, 1), (29, .iadd, 1), (30, .iaload, 1), (31, .invokevirtual 443, 3), (34, .iload_n 1, 1), (35, .aload_n 0, 1), (36, .getfield 7, 3), (39, .iconst 0, 1), (40, .iaload, 1), (41, .if_icmp .ge 8, 3), (44, .aload_n 0, 1), (45, .iload_n 1, 1), (46, .invokevirtual 446, 3), (49, .iinc 1 1, 3), (52, .goto (-40), 3), (55, .aload_n 0, 1), (56, .getfield 7, 3), (59, .bipush 53, 2), (61, .iaload, 1), (62, .ifCond .le 7, 3), (65, .aload_n 0, 1), (66, .invokevirtual 449, 3)]
theorem tbX7_write_0_k : dc_T cX7_write tbX7_write_0 = true := by decide +kernel
abbrev tbX7_write_1 : List (Nat × Instr × Nat) := [(69, .aload_n 0, 1), (70, .getfield 435, 3), (73, .ireturn, 1)]
theorem tbX7_write_1_k : dc_T cX7_write tbX7_write_1 = true := by decide +kernel
abbrev tbX7_written : List (Nat × Instr × Nat) := [(0, .aload_n 0, 1), (1, .iload_n 1, 1), (2, .i2l, 1), (3, .lconst 0, 1), (4, .aload_n 0, 1), (5, .getfield 435, 3), (8, .iconst 1, 1), (9, .isub, 1), (10, .i2l, 1), (11, .invokestatic 128, 3), (14, .invokevirtual 207, 3), (17, .ifCond .eq 13, 3), (20, .aload_n 0, 1), (21, .getfield 61, 3), (24, .iload_n 1, 1), (25, .iaload, 1), (26, .i2c, 1), (27, .goto 4, 3), (30, .iconst 0, 1), (31, .ireturn, 1)]
theorem tbX7_written_k : dc_T cX7_written tbX7_written = true := by decide +kernel
theorem dJ5_init_d00df_12 : decode cJ5_init_d00df 12 = .ok (.newarray .byte, 2) := by decide +kernel
abbrev tbJ5_init_d00df : List (Nat × Instr × Nat) := [(0, .aload_n 0, 1), (1, .invokespecial 3, 3), (4, .getstatic 18, 3), (7, .ifCond .eq 18, 3), (10, .aload_n 0, 1), (11, .iload_n 1, 1), (14, .putfield 15, 3), (17, .aload_n 0, 1), (18, .iconst 0, 1), (19, .putfield 22, 3), (22, .goto 16, 3), (25, .aload_n 0, 1), (26, .iload_n 1, 1), (27, .invokestatic 26, 3), (30, .putfield 15, 3), (33, .aload_n 0, 1), (34, .iconst 1, 1), (35, .putfield 22, 3), (38, .return_, 1)]
theorem tbJ5_init_d00df_k : dc_T cJ5_init_d00df tbJ5_init_d00df = true := by decide +kernel
abbrev tbJ5_length_8abf5 : List (Nat × Instr × Nat) := [(0, .aload_n 0, 1), (1, .getfield 79, 3), (4, .ireturn, 1)]
theorem tbJ5_length_8abf5_k : dc_T cJ5_length_8abf5 tbJ5_length_8abf5 = true := by decide +kernel
abbrev tbJ5_ensureCapacityInternal_d00df : List (Nat × Instr × Nat) := [(0, .aload_n 0, 1), (1, .getfield 15, 3), (4, .arraylength, 1), (5, .aload_n 0, 1), (6, .getfield 22, 3), (9, .ishr, 1), (10, .istore_n 2, 1), (11, .iload_n 1, 1), (12, .iload_n 2, 1), (13, .isub, 1), (14, .ifCond .le 24, 3), (17, .aload_n 0, 1), (18, .aload_n 0, 1), (19, .getfield 15, 3), (22, .aload_n 0, 1), (23, .iload_n 1, 1), (24, .invokevirtual 104, 3), (27, .aload_n 0, 1), (28, .getfield 22, 3), (31, .ishl, 1), (32, .invokestatic 108, 3), (35, .putfield 15, 3), (38, .return_, 1)]
theorem tbJ5_ensureCapacityInternal_d00df_k : dc_T cJ5_ensureCapacityInternal_d00df tbJ5_ensureCapacityInternal_d00df = true := by decide +kernel
abbrev tbJ5_newCapacity_0f7a4 : List (Nat × Instr × Nat) := [(0, .aload_n 0, 1), (1, .getfield 15, 3), (4, .arraylength, 1), (5, .istore_n 2, 1), (6, .iload_n 1, 1), (7, .aload_n 0, 1), (8, .getfield 22, 3), (11, .ishl, 1), (12, .istore_n 3, 1), (13, .iload_n 3, 1), (14, .iload_n 2, 1), (15, .isub, 1), (16, .istore 4, 2), (18, .iload_n 2, 1), (19, .iload 4, 2), (21, .iload_n 2, 1), (22, .iconst 2, 1), (23, .aload_n 0, 1), (24, .getfield 22, 3), (27, .ishl, 1), (28, .iadd, 1), (29, .invokestatic 114, 3), (32, .istore 5, 2), (34, .iload 5, 2), (36, .ldc 39, 2), (38, .if_icmp .ne 13, 3), (41, .new 120, 3), (44, .dup, 1), (45, .ldc 122, 2), (47, .invokespecial 124, 3), (50, .athrow, 1), (51, .iload 5, 2), (53, .aload_n 0, 1), (54, .getfield 22, 3), (57, .ishr, 1), (58, .ireturn, 1)]
theorem tbJ5_newCapacity_0f7a4_k : dc_T cJ5_newCapacity_0f7a4 tbJ5_newCapacity_0f7a4 = true := by decide +kernel
abbrev tbJ5_inflate_da8c8 : List (Nat × Instr × Nat) := [(0, .aload_n 0, 1), (1, .invokevirtual 83, 3), (4, .ifCond .ne 4, 3), (7, .return_, 1), (8, .aload_n 0, 1), (9, .getfield 15, 3), (12, .arraylength, 1), (13, .invokestatic 26, 3), (16, .astore_n 1, 1), (17, .aload_n 0, 1), (18, .getfield 15, 3), (21, .iconst 0, 1), (22, .aload_n 1, 1), (23, .iconst 0, 1), (24, .aload_n 0, 1), (25, .getfield 79, 3), (28, .invokestatic 125, 3), (31, .aload_n 0, 1), (32, .aload_n 1, 1), (33, .putfield 15, 3), (36, .aload_n 0, 1), (37, .iconst 1, 1), (38, .putfield 22, 3), (41, .return_, 1)]
theorem tbJ5_inflate_da8c8_k : dc_T cJ5_inflate_da8c8 tbJ5_inflate_da8c8 = true := by decide +kernel
abbrev tbJ5_setLength_d00df_0 : List (Nat × Instr × Nat) := [(0, .iload_n 1, 1), (1, .ifCond .ge 12, 3), (4, .new 129, 3), (7, .dup, 1), (8, .iload_n 1, 1), (9, .invokespecial 131, 3), (12, .athrow, 1), (13, .aload_n 0, 1), (14, .iload_n 1, 1), (15, .invokevirtual 100, 3), (18, .aload_n 0, 1), (19, .getfield 79, 3), (22, .iload_n 1, 1), (23, .if_icmp .ge 40, 3), (26, .aload_n 0, 1), (27, .invokevirtual 83, 3), (30, .ifCond .eq 18, 3), (33, .aload_n 0, 1), (34, .getfield 15, 3), (37, .aload_n 0, 1), (38, .getfield 79, 3), (41, .iload_n 1, 1), (42, .invokestatic 133, 3), (45, .goto 31, 3), (48, .aload_n 0, 1), (49, .getfield 15, 3), (52, .aload_n 0, 1), (53, .getfield 79, 3), (56, .iload_n 1, 1), (57, .invokestatic 137, 3), (60, .goto 16, 3), (63, .aload_n 0, 1), (64, .getfield 79, 3), (67, .iload_n 1, 1), (68, .if_icmp .le 8, 3), (71, .aload_n 0, 1), (72, .iconst 1, 1), (73, .putfield 73, 3), (76, .aload_n 0, 1), (77, .iload_n 1, 1)]
theorem tbJ5_setLength_d00df_0_k : dc_T cJ5_setLength_d00df tbJ5_setLength_d00df_0 = true := by decide +kernel
abbrev tbJ5_setLength_d00df_1 : List (Nat × Instr × Nat) := [(78, .putfield 79, 3), (81, .return_, 1)]
theorem tbJ5_setLength_d00df_1_k : dc_T cJ5_setLength_d00df tbJ5_setLength_d00df_1 = true := by decide +kernel
abbrev tbJ5_charAt_5068e : List (Nat × Instr × Nat) := [(0, .aload_n 0, 1), (1, .getfield 22, 3), (4, .istore_n 2, 1), (5, .aload_n 0, 1), (6, .getfield 15, 3), (9, .astore_n 3, 1), (10, .aload_n 0, 1), (11, .getfield 79, 3), (14, .aload_n 3, 1), (15, .arraylength, 1), (16, .iload_n 2, 1), (17, .ishr, 1), (18, .invokestatic 138, 3), (21, .istore 4, 2), (23, .iload_n 1, 1), (24, .iload 4, 2), (26, .invokestatic 144, 3), (29, .iload_n 2, 1), (30, .ifCond .ne 12, 3), (33, .aload_n 3, 1), (34, .iload_n 1, 1), (35, .baload, 1), (36, .sipush 255, 3), (39, .iand, 1), (40, .i2c, 1), (41, .ireturn, 1), (42, .aload_n 3, 1), (43, .iload_n 1, 1), (44, .invokestatic 148, 3), (47, .ireturn, 1)]
theorem tbJ5_charAt_5068e_k : dc_T cJ5_charAt_5068e tbJ5_charAt_5068e = true := by decide +kernel
abbrev tbJ5_append_cf1ce : List (Nat × Instr × Nat) := [(0, .aload_n 1, 1), (1, .ifnonnull 8, 3), (4, .aload_n 0, 1), (5, .invokevirtual 204, 3), (8, .areturn, 1), (9, .aload_n 1, 1), (10, .invokevirtual 32, 3), (13, .istore_n 2, 1), (14, .aload_n 0, 1), (15, .aload_n 0, 1), (16, .getfield 79, 3), (19, .iload_n 2, 1), (20, .iadd, 1), (21, .invokevirtual 100, 3), (24, .aload_n 0, 1), (25, .aload_n 0, 1), (26, .getfield 79, 3), (29, .aload_n 1, 1), (30, .invokevirtual 208, 3), (33, .aload_n 0, 1), (34, .dup, 1), (35, .getfield 79, 3), (38, .iload_n 2, 1), (39, .iadd, 1), (40, .putfield 79, 3), (43, .aload_n 0, 1), (44, .areturn, 1)]
theorem tbJ5_append_cf1ce_k : dc_T cJ5_append_cf1ce tbJ5_append_cf1ce = true := by decide +kernel
abbrev tbJ5_appendNull_278bc_0 : List (Nat × Instr × Nat) := [(0, .aload_n 0, 1), (1, .aload_n 0, 1), (2, .getfield 79, 3), (5, .iconst 4, 1), (6, .iadd, 1), (7, .invokevirtual 100, 3), (10, .aload_n 0, 1), (11, .getfield 79, 3), (14, .istore_n 1, 1), (15, .aload_n 0, 1), (16, .getfield 15, 3), (19, .astore_n 2, 1), (20, .aload_n 0, 1), (21, .invokevirtual 83, 3), (24, .ifCond .eq 38, 3), (27, .aload_n 2, 1), (28, .iload_n 1, 1), (29, .iinc 1 1, 3), (32, .bipush 110, 2), (34, .bastore, 1), (35, .aload_n 2, 1), (36, .iload_n 1, 1), (37, .iinc 1 1, 3), (40, .bipush 117, 2), (42, .bastore, 1), (43, .aload_n 2, 1), (44, .iload_n 1, 1), (45, .iinc 1 1, 3), (48, .bipush 108, 2), (50, .bastore, 1), (51, .aload_n 2, 1), (52, .iload_n 1, 1), (53, .iinc 1 1, 3), (56, .bipush 108, 2), (58, .bastore, 1), (59, .goto 17, 3), (62, .aload_n 2, 1), (63, .iload_n 1, 1), (64, .bipush 110, 2), (66, .bipush 117, 2)]
theorem tbJ5_appendNull_278bc_0_k : dc_T cJ5_appendNull_278bc tbJ5_appendNull_278bc_0 = true := by decide +kernel
abbrev tbJ5_appendNull_278bc_1 : List (Nat × Instr × Nat) := [(68, .bipush 108, 2), (70, .bipush 108, 2), (72, .invokestatic 226, 3), (75, .istore_n 1, 1), (76, .aload_n 0, 1), (77, .iload_n 1, 1), (78, .putfield 79, 3), (81, .aload_n 0, 1), (82, .areturn, 1)]
theorem tbJ5_appendNull_278bc_1_k : dc_T cJ5_appendNull_278bc tbJ5_appendNull_278bc_1 = true := by decide +kernel
abbrev tbJ5_append_3fe6f_0 : List (Nat × Instr × Nat) := [(0, .aload_n 0, 1), (1, .aload_n 0, 1), (2, .getfield 79, 3), (5, .iconst 1, 1), (6, .iadd, 1), (7, .invokevirtual 100, 3), (10, .aload_n 0, 1), (11, .invokevirtual 83, 3), (14, .ifCond .eq 31, 3), (17, .iload_n 1, 1), (18, .invokestatic 191, 3), (21, .ifCond .eq 24, 3), (24, .aload_n 0, 1), (25, .getfield 15, 3), (28, .aload_n 0, 1), (29, .dup, 1), (30, .getfield 79, 3), (33, .dup_x1, 1), (34, .iconst 1, 1), (35, .iadd, 1), (36, .putfield 79, 3), (39, .iload_n 1, 1), (40, .i2b, 1), (41, .bastore, 1), (42, .goto 33, 3), (45, .aload_n 0, 1), (46, .invokevirtual 83, 3), (49, .ifCond .eq 7, 3), (52, .aload_n 0, 1), (53, .invokevirtual 195, 3), (56, .aload_n 0, 1), (57, .getfield 15, 3), (60, .aload_n 0, 1), (61, .dup, 1), (62, .getfield 79, 3), (65, .dup_x1, 1), (66, .iconst 1, 1), (67, .iadd, 1), (68, .putfield 79, 3), (71, .iload_n 1, 1)]
theorem tbJ5_append_3fe6f_0_k : dc_T cJ5_append_3fe6f tbJ5_append_3fe6f_0 = true := by decide +kernel
abbrev tbJ5_append_3fe6f_1 : List (Nat × Instr × Nat) := [(72, .invokestatic 197, 3), (75, .aload_n 0, 1), (76, .areturn, 1)]
theorem tbJ5_append_3fe6f_1_k : dc_T cJ5_append_3fe6f tbJ5_append_3fe6f_1 = true := by decide +kernel
abbrev tbJ5_append_c97b9 : List (Nat × Instr × Nat) := [(0, .aload_n 0, 1), (1, .getfield 79, 3), (4, .istore_n 2, 1), (5, .iload_n 2, 1), (6, .iload_n 1, 1), (7, .invokestatic 245, 3), (10, .iadd, 1), (11, .istore_n 3, 1), (12, .aload_n 0, 1), (13, .iload_n 3, 1), (14, .invokevirtual 100, 3), (17, .aload_n 0, 1), (18, .invokevirtual 83, 3), (21, .ifCond .eq 16, 3), (24, .iload_n 1, 1), (25, .iload_n 3, 1), (26, .aload_n 0, 1), (27, .getfield 15, 3), (30, .invokestatic 248, 3), (33, .pop, 1), (34, .goto 14, 3), (37, .iload_n 1, 1), (38, .iload_n 2, 1), (39, .iload_n 3, 1), (40, .aload_n 0, 1), (41, .getfield 15, 3), (44, .invokestatic 251, 3), (47, .pop, 1), (48, .aload_n 0, 1), (49, .iload_n 3, 1), (50, .putfield 79, 3), (53, .aload_n 0, 1), (54, .areturn, 1)]
theorem tbJ5_append_c97b9_k : dc_T cJ5_append_c97b9 tbJ5_append_c97b9 = true := by decide +kernel
abbrev tbJ5_getValue_6d5f1 : List (Nat × Instr × Nat) := [(0, .aload_n 0, 1), (1, .getfield 15, 3), (4, .areturn, 1)]
theorem tbJ5_getValue_6d5f1_k : dc_T cJ5_getValue_6d5f1 tbJ5_getValue_6d5f1 = true := by decide +kernel
abbrev tbJ5_isLatin1_aae02 : List (Nat × Instr × Nat) := [(0, .getstatic 18, 3), (3, .ifCond .eq 14, 3), (6, .aload_n 0, 1), (7, .getfield 22, 3), (10, .ifCond .ne 7, 3), (13, .iconst 1, 1), (14, .goto 4, 3), (17, .iconst 0, 1), (18, .ireturn, 1)]
theorem tbJ5_isLatin1_aae02_k : dc_T cJ5_isLatin1_aae02 tbJ5_isLatin1_aae02 = true := by decide +kernel
abbrev tbJ5_inflateIfNeededFor_a7421 : List (Nat × Instr × Nat) := [(0, .getstatic 18, 3), (3, .ifCond .eq 18, 3), (6, .aload_n 0, 1), (7, .getfield 22, 3), (10, .aload_n 1, 1), (11, .invokevirtual 40, 3), (14, .if_icmp .eq 7, 3), (17, .aload_n 0, 1), (18, .invokevirtual 195, 3), (21, .return_, 1)]
theorem tbJ5_inflateIfNeededFor_a7421_k : dc_T cJ5_inflateIfNeededFor_a7421 tbJ5_inflateIfNeededFor_a7421 = true := by decide +kernel
abbrev tbJ5_putStringAt_47b60 : List (Nat × Instr × Nat) := [(0, .aload_n 0, 1), (1, .aload_n 2, 1), (2, .invokevirtual 397, 3), (5, .aload_n 2, 1), (6, .aload_n 0, 1), (7, .getfield 15, 3), (10, .iload_n 1, 1), (11, .aload_n 0, 1), (12, .getfield 22, 3), (15, .invokevirtual 399, 3), (18, .return_, 1)]
theorem tbJ5_putStringAt_47b60_k : dc_T cJ5_putStringAt_47b60 tbJ5_putStringAt_47b60 = true := by decide +kernel
abbrev tbJx00060_init_d00df : List (Nat × Instr × Nat) := [(0, .aload_n 0, 1), (1, .new 10, 3), (4, .dup, 1), (5, .invokespecial 12, 3), (8, .ldc 13, 2), (10, .invokevirtual 15, 3), (13, .iload_n 1, 1), (14, .invokevirtual 19, 3), (17, .invokevirtual 22, 3), (20, .invokespecial 7, 3), (23, .return_, 1)]
theorem tbJx00060_init_d00df_k : dc_T cJx00060_init_d00df tbJx00060_init_d00df = true := by decide +kernel
abbrev tbJ6_getChars_ba4f3_0 : List (Nat × Instr × Nat) := [(0, .iload_n 1, 1), (1, .istore 5, 2), (3, .iload_n 0, 1), (4, .ifCond .ge 7, 3), (7, .iconst 1, 1), (8, .goto 4, 3), (11, .iconst 0, 1), (12, .istore 6, 2), (14, .iload 6, 2), (16, .ifCond .ne 6, 3), (19, .iload_n 0, 1), (20, .ineg, 1), (21, .istore_n 0, 1), (22, .iload_n 0, 1), (23, .bipush (-100), 2), (25, .if_icmp .gt 47, 3), (28, .iload_n 0, 1), (29, .bipush 100, 2), (31, .idiv, 1), (32, .istore_n 3, 1), (33, .iload_n 3, 1), (34, .bipush 100, 2), (36, .imul, 1), (37, .iload_n 0, 1), (38, .isub, 1), (39, .istore 4, 2), (41, .iload_n 3, 1), (42, .istore_n 0, 1), (43, .aload_n 2, 1), (44, .iinc 5 (-1), 3), (47, .iload 5, 2), (49, .getstatic 83, 3), (52, .iload 4, 2), (54, .baload, 1), (55, .bastore, 1), (56, .aload_n 2, 1), (57, .iinc 5 (-1), 3), (60, .iload 5, 2), (62, .getstatic 87, 3), (65, .iload 4, 2)]
theorem tbJ6_getChars_ba4f3_0_k : dc_T cJ6_getChars_ba4f3 tbJ6_getChars_ba4f3_0 = true := by decide +kernel
abbrev tbJ6_getChars_ba4f3_1 : List (Nat × Instr × Nat) := [(67, .baload, 1), (68, .bastore, 1), (69, .goto (-47), 3), (72, .aload_n 2, 1), (73, .iinc 5 (-1), 3), (76, .iload 5, 2), (78, .getstatic 83, 3), (81, .iload_n 0, 1), (82, .ineg, 1), (83, .baload, 1), (84, .bastore, 1), (85, .iload_n 0, 1), (86, .bipush (-9), 2), (88, .if_icmp .ge 16, 3), (91, .aload_n 2, 1), (92, .iinc 5 (-1), 3), (95, .iload 5, 2), (97, .getstatic 87, 3), (100, .iload_n 0, 1), (101, .ineg, 1), (102, .baload, 1), (103, .bastore, 1), (104, .iload 6, 2), (106, .ifCond .eq 12, 3), (109, .aload_n 2, 1), (110, .iinc 5 (-1), 3), (113, .iload 5, 2), (115, .bipush 45, 2), (117, .bastore, 1), (118, .iload 5, 2), (120, .ireturn, 1)]
theorem tbJ6_getChars_ba4f3_1_k : dc_T cJ6_getChars_ba4f3 tbJ6_getChars_ba4f3_1 = true := by decide +kernel
abbrev tbJ6_stringSize_0f7a4 : List (Nat × Instr × Nat) := [(0, .iconst 1, 1), (1, .istore_n 1, 1), (2, .iload_n 0, 1), (3, .ifCond .lt 8, 3), (6, .iconst 0, 1), (7, .istore_n 1, 1), (8, .iload_n 0, 1), (9, .ineg, 1), (10, .istore_n 0, 1), (11, .bipush (-10), 2), (13, .istore_n 2, 1), (14, .iconst 1, 1), (15, .istore_n 3, 1), (16, .iload_n 3, 1), (17, .bipush 10, 2), (19, .if_icmp .ge 23, 3), (22, .iload_n 0, 1), (23, .iload_n 2, 1), (24, .if_icmp .le 7, 3), (27, .iload_n 3, 1), (28, .iload_n 1, 1), (29, .iadd, 1), (30, .ireturn, 1), (31, .bipush 10, 2), (33, .iload_n 2, 1), (34, .imul, 1), (35, .istore_n 2, 1), (36, .iinc 3 1, 3), (39, .goto (-23), 3), (42, .bipush 10, 2), (44, .iload_n 1, 1), (45, .iadd, 1), (46, .ireturn, 1)]
theorem tbJ6_stringSize_0f7a4_k : dc_T cJ6_stringSize_0f7a4 tbJ6_stringSize_0f7a4 = true := by decide +kernel
abbrev tbJ6_bitCount_0f7a4_0 : List (Nat × Instr × Nat) := [(0, .iload_n 0, 1), (1, .iload_n 0, 1), (2, .iconst 1, 1), (3, .iushr, 1), (4, .ldc_w 265, 3), (7, .iand, 1), (8, .isub, 1), (9, .istore_n 0, 1), (10, .iload_n 0, 1), (11, .ldc_w 266, 3), (14, .iand, 1), (15, .iload_n 0, 1), (16, .iconst 2, 1), (17, .iushr, 1), (18, .ldc_w 266, 3), (21, .iand, 1), (22, .iadd, 1), (23, .istore_n 0, 1), (24, .iload_n 0, 1), (25, .iload_n 0, 1), (26, .iconst 4, 1), (27, .iushr, 1), (28, .iadd, 1), (29, .ldc_w 267, 3), (32, .iand, 1), (33, .istore_n 0, 1), (34, .iload_n 0, 1), (35, .iload_n 0, 1), (36, .bipush 8, 2), (38, .iushr, 1), (39, .iadd, 1), (40, .istore_n 0, 1), (41, .iload_n 0, 1), (42, .iload_n 0, 1), (43, .bipush 16, 2), (45, .iushr, 1), (46, .iadd, 1), (47, .istore_n 0, 1), (48, .iload_n 0, 1), (49, .bipush 63, 2)]
theorem tbJ6_bitCount_0f7a4_0_k : dc_T cJ6_bitCount_0f7a4 tbJ6_bitCount_0f7a4_0 = true := by decide +kernel
abbrev tbJ6_bitCount_0f7a4_1 : List (Nat × Instr × Nat) := [(51, .iand, 1), (52, .ireturn, 1)]
theorem tbJ6_bitCount_0f7a4_1_k : dc_T cJ6_bitCount_0f7a4 tbJ6_bitCount_0f7a4_1 = true := by decide +kernel
abbrev tbJ9_max_7cf53 : List (Nat × Instr × Nat) := [(0, .iload_n 0, 1), (1, .iload_n 1, 1), (2, .if_icmp .lt 7, 3), (5, .iload_n 0, 1), (6, .goto 4, 3), (9, .iload_n 1, 1), (10, .ireturn, 1)]
theorem tbJ9_max_7cf53_k : dc_T cJ9_max_7cf53 tbJ9_max_7cf53 = true := by decide +kernel
abbrev tbJ9_min_7cf53 : List (Nat × Instr × Nat) := [(0, .iload_n 0, 1), (1, .iload_n 1, 1), (2, .if_icmp .gt 7, 3), (5, .iload_n 0, 1), (6, .goto 4, 3), (9, .iload_n 1, 1), (10, .ireturn, 1)]
theorem tbJ9_min_7cf53_k : dc_T cJ9_min_7cf53 tbJ9_min_7cf53 = true := by decide +kernel
abbrev tbJ0_init_81219 : List (Nat × Instr × Nat) := [(0, .aload_n 0, 1), (1, .aload_n 1, 1), (2, .aconst_null, 1), (3, .invokespecial 489, 3), (6, .return_, 1)]
theorem tbJ0_init_81219_k : dc_T cJ0_init_81219 tbJ0_init_81219 = true := by decide +kernel
abbrev tbJ0_length_8abf5 : List (Nat × Instr × Nat) := [(0, .aload_n 0, 1), (1, .getfield 9, 3), (4, .arraylength, 1), (5, .aload_n 0, 1), (6, .invokevirtual 335, 3), (9, .ishr, 1), (10, .ireturn, 1)]
theorem tbJ0_length_8abf5_k : dc_T cJ0_length_8abf5 tbJ0_length_8abf5 = true := by decide +kernel
abbrev tbJ0_charAt_5068e : List (Nat × Instr × Nat) := [(0, .aload_n 0, 1), (1, .invokevirtual 492, 3), (4, .ifCond .eq 12, 3), (7, .aload_n 0, 1), (8, .getfield 9, 3), (11, .iload_n 1, 1), (12, .invokestatic 495, 3), (15, .ireturn, 1), (16, .aload_n 0, 1), (17, .getfield 9, 3), (20, .iload_n 1, 1), (21, .invokestatic 498, 3), (24, .ireturn, 1)]
theorem tbJ0_charAt_5068e_k : dc_T cJ0_charAt_5068e tbJ0_charAt_5068e = true := by decide +kernel
abbrev tbJ0_getBytes_840e7 : List (Nat × Instr × Nat) := [(0, .aload_n 0, 1), (1, .invokevirtual 335, 3), (4, .iload_n 3, 1), (5, .if_icmp .ne 23, 3), (8, .aload_n 0, 1), (9, .getfield 9, 3), (12, .iconst 0, 1), (13, .aload_n 1, 1), (14, .iload_n 2, 1), (15, .iload_n 3, 1), (16, .ishl, 1), (17, .aload_n 0, 1), (18, .getfield 9, 3), (21, .arraylength, 1), (22, .invokestatic 212, 3), (25, .goto 18, 3), (28, .aload_n 0, 1), (29, .getfield 9, 3), (32, .iconst 0, 1), (33, .aload_n 1, 1), (34, .iload_n 2, 1), (35, .aload_n 0, 1), (36, .getfield 9, 3), (39, .arraylength, 1), (40, .invokestatic 106, 3), (43, .return_, 1)]
theorem tbJ0_getBytes_840e7_k : dc_T cJ0_getBytes_840e7 tbJ0_getBytes_840e7 = true := by decide +kernel
abbrev tbJ0_init_db425_0 : List (Nat × Instr × Nat) := [(0, .aload_n 0, 1), (1, .invokespecial 1, 3), (4, .aload_n 1, 1), (5, .invokevirtual 552, 3), (8, .astore_n 3, 1), (9, .aload_n 1, 1), (10, .invokevirtual 549, 3), (13, .istore 4, 2), (15, .aload_n 1, 1), (16, .invokevirtual 1047, 3), (19, .ifCond .eq 22, 3), (22, .aload_n 0, 1), (23, .iconst 0, 1), (24, .putfield 15, 3), (27, .aload_n 0, 1), (28, .aload_n 3, 1), (29, .iconst 0, 1), (30, .iload 4, 2), (32, .invokestatic 54, 3), (35, .putfield 9, 3), (38, .goto 59, 3), (41, .getstatic 38, 3), (44, .ifCond .eq 35, 3), (47, .aload_n 1, 1), (48, .getfield 1048, 3), (51, .ifCond .eq 28, 3), (54, .aload_n 0, 1), (55, .aload_n 3, 1), (56, .iconst 0, 1), (57, .iload 4, 2), (59, .invokestatic 1051, 3), (62, .putfield 9, 3), (65, .aload_n 0, 1), (66, .aload_n 0, 1), (67, .getfield 9, 3), (70, .iload 4, 2), (72, .invokestatic 47, 3), (75, .putfield 15, 3), (78, .return_, 1), (79, .aload_n 0, 1)]
theorem tbJ0_init_db425_0_k : dc_T cJ0_init_db425 tbJ0_init_db425_0 = true := by decide +kernel
abbrev tbJ0_init_db425_1 : List (Nat × Instr × Nat) := [(80, .iconst 1, 1), (81, .putfield 15, 3), (84, .aload_n 0, 1), (85, .aload_n 3, 1), (86, .iconst 0, 1), (87, .iload 4, 2), (89, .iconst 1, 1), (90, .ishl, 1), (91, .invokestatic 54, 3), (94, .putfield 9, 3), (97, .return_, 1)]
theorem tbJ0_init_db425_1_k : dc_T cJ0_init_db425 tbJ0_init_db425_1 = true := by decide +kernel
abbrev tbJ0_coder_7d493 : List (Nat × Instr × Nat) := [(0, .getstatic 38, 3), (3, .ifCond .eq 10, 3), (6, .aload_n 0, 1), (7, .getfield 15, 3), (10, .goto 4, 3), (13, .iconst 1, 1), (14, .ireturn, 1)]
theorem tbJ0_coder_7d493_k : dc_T cJ0_coder_7d493 tbJ0_coder_7d493 = true := by decide +kernel
abbrev tbJ0_isLatin1_aae02 : List (Nat × Instr × Nat) := [(0, .getstatic 38, 3), (3, .ifCond .eq 14, 3), (6, .aload_n 0, 1), (7, .getfield 15, 3), (10, .ifCond .ne 7, 3), (13, .iconst 1, 1), (14, .goto 4, 3), (17, .iconst 0, 1), (18, .ireturn, 1)]
theorem tbJ0_isLatin1_aae02_k : dc_T cJ0_isLatin1_aae02 tbJ0_isLatin1_aae02 = true := by decide +kernel
abbrev tbJ0_checkIndex_df160 : List (Nat × Instr × Nat) := [(0, .iload_n 0, 1), (1, .iload_n 1, 1), (2, .getstatic 1053, 3), (5, .invokestatic 1059, 3), (8, .pop, 1), (9, .return_, 1)]
theorem tbJ0_checkIndex_df160_k : dc_T cJ0_checkIndex_df160 tbJ0_checkIndex_df160 = true := by decide +kernel
abbrev tbJ0_checkBoundsOffCount_cabcc : List (Nat × Instr × Nat) := [(0, .iload_n 0, 1), (1, .iload_n 1, 1), (2, .iload_n 2, 1), (3, .getstatic 1053, 3), (6, .invokestatic 1065, 3), (9, .ireturn, 1)]
theorem tbJ0_checkBoundsOffCount_cabcc_k : dc_T cJ0_checkBoundsOffCount_cabcc tbJ0_checkBoundsOffCount_cabcc = true := by decide +kernel
abbrev tbJ0_checkBoundsBeginEnd_23922 : List (Nat × Instr × Nat) := [(0, .iload_n 0, 1), (1, .iload_n 1, 1), (2, .iload_n 2, 1), (3, .getstatic 1053, 3), (6, .invokestatic 1062, 3), (9, .pop, 1), (10, .return_, 1)]
theorem tbJ0_checkBoundsBeginEnd_23922_k : dc_T cJ0_checkBoundsBeginEnd_23922 tbJ0_checkBoundsBeginEnd_23922 = true := by decide +kernel
abbrev tbJ4_init_da8c8 : List (Nat × Instr × Nat) := [(0, .aload_n 0, 1), (1, .bipush 16, 2), (3, .invokespecial 1, 3), (6, .return_, 1)]
theorem tbJ4_init_da8c8_k : dc_T cJ4_init_da8c8 tbJ4_init_da8c8 = true := by decide +kernel
abbrev tbJ4_append_15ec4 : List (Nat × Instr × Nat) := [(0, .aload_n 0, 1), (1, .aload_n 1, 1), (2, .invokespecial 29, 3), (5, .pop, 1), (6, .aload_n 0, 1), (7, .areturn, 1)]
theorem tbJ4_append_15ec4_k : dc_T cJ4_append_15ec4 tbJ4_append_15ec4 = true := by decide +kernel
abbrev tbJ4_append_cf468 : List (Nat × Instr × Nat) := [(0, .aload_n 0, 1), (1, .iload_n 1, 1), (2, .invokespecial 50, 3), (5, .pop, 1), (6, .aload_n 0, 1), (7, .areturn, 1)]
theorem tbJ4_append_cf468_k : dc_T cJ4_append_cf468 tbJ4_append_cf468 = true := by decide +kernel
abbrev tbJ4_append_bf812 : List (Nat × Instr × Nat) := [(0, .aload_n 0, 1), (1, .iload_n 1, 1), (2, .invokespecial 53, 3), (5, .pop, 1), (6, .aload_n 0, 1), (7, .areturn, 1)]
theorem tbJ4_append_bf812_k : dc_T cJ4_append_bf812 tbJ4_append_bf812 = true := by decide +kernel
abbrev tbJ4_toString_0e30d : List (Nat × Instr × Nat) := [(0, .new 18, 3), (3, .dup, 1), (4, .aload_n 0, 1), (5, .invokespecial 137, 3), (8, .areturn, 1)]
theorem tbJ4_toString_0e30d_k : dc_T cJ4_toString_0e30d tbJ4_toString_0e30d = true := by decide +kernel
abbrev tbJ4_charAt_5068e : List (Nat × Instr × Nat) := [(0, .aload_n 0, 1), (1, .iload_n 1, 1), (2, .invokespecial 329, 3), (5, .ireturn, 1)]
theorem tbJ4_charAt_5068e_k : dc_T cJ4_charAt_5068e tbJ4_charAt_5068e = true := by decide +kernel
abbrev tbJ4_setLength_d00df : List (Nat × Instr × Nat) := [(0, .aload_n 0, 1), (1, .iload_n 1, 1), (2, .invokespecial 333, 3), (5, .return_, 1)]
theorem tbJ4_setLength_d00df_k : dc_T cJ4_setLength_d00df tbJ4_setLength_d00df = true := by decide +kernel
abbrev tbJ4_length_8abf5 : List (Nat × Instr × Nat) := [(0, .aload_n 0, 1), (1, .invokespecial 343, 3), (4, .ireturn, 1)]
theorem tbJ4_length_8abf5_k : dc_T cJ4_length_8abf5 tbJ4_length_8abf5 = true := by decide +kernel
abbrev tbJx7c733_init_d00df : List (Nat × Instr × Nat) := [(0, .aload_n 0, 1), (1, .new 10, 3), (4, .dup, 1), (5, .invokespecial 12, 3), (8, .ldc 13, 2), (10, .invokevirtual 15, 3), (13, .iload_n 1, 1), (14, .invokevirtual 19, 3), (17, .invokevirtual 22, 3), (20, .invokespecial 7, 3), (23, .return_, 1)]
theorem tbJx7c733_init_d00df_k : dc_T cJx7c733_init_d00df tbJx7c733_init_d00df = true := by decide +kernel
abbrev tbJ1_charAt_3b067 : List (Nat × Instr × Nat) := [(0, .iload_n 1, 1), (1, .aload_n 0, 1), (2, .arraylength, 1), (3, .invokestatic 9, 3), (6, .aload_n 0, 1), (7, .iload_n 1, 1), (8, .baload, 1), (9, .sipush 255, 3), (12, .iand, 1), (13, .i2c, 1), (14, .ireturn, 1)]
theorem tbJ1_charAt_3b067_k : dc_T cJ1_charAt_3b067 tbJ1_charAt_3b067 = true := by decide +kernel
abbrev tbJ1_canEncode_fc78d : List (Nat × Instr × Nat) := [(0, .iload_n 0, 1), (1, .sipush 255, 3), (4, .if_icmp .gt 7, 3), (7, .iconst 1, 1), (8, .goto 4, 3), (11, .iconst 0, 1), (12, .ireturn, 1)]
theorem tbJ1_canEncode_fc78d_k : dc_T cJ1_canEncode_fc78d tbJ1_canEncode_fc78d = true := by decide +kernel
abbrev tbJ1_fillNull_b72d1 : List (Nat × Instr × Nat) := [(0, .aload_n 0, 1), (1, .iload_n 1, 1), (2, .iload_n 2, 1), (3, .iconst 0, 1), (4, .invokestatic 236, 3), (7, .return_, 1)]
theorem tbJ1_fillNull_b72d1_k : dc_T cJ1_fillNull_b72d1 tbJ1_fillNull_b72d1 = true := by decide +kernel
abbrev tbJ1_inflate_0e8fd : List (Nat × Instr × Nat) := [(0, .aload_n 0, 1), (1, .iload_n 1, 1), (2, .aload_n 2, 1), (3, .iload_n 3, 1), (4, .iload 4, 2), (6, .invokestatic 240, 3), (9, .return_, 1)]
theorem tbJ1_inflate_0e8fd_k : dc_T cJ1_inflate_0e8fd tbJ1_inflate_0e8fd = true := by decide +kernel
theorem dJ2_newBytesFor_77867_4 : decode cJ2_newBytesFor_77867 4 = .ok (.newarray .byte, 2) := by decide +kernel
abbrev tbJ2_newBytesFor_77867 : List (Nat × Instr × Nat) := [(0, .iload_n 0, 1), (1, .invokestatic 11, 3), (6, .areturn, 1)]
theorem tbJ2_newBytesFor_77867_k : dc_T cJ2_newBytesFor_77867 tbJ2_newBytesFor_77867 = true := by decide +kernel
abbrev tbJ2_newBytesLength_0f7a4 : List (Nat × Instr × Nat) := [(0, .iload_n 0, 1), (1, .ifCond .ge 11, 3), (4, .new 17, 3), (7, .dup, 1), (8, .invokespecial 19, 3), (11, .athrow, 1), (12, .iload_n 0, 1), (13, .ldc 20, 2), (15, .if_icmp .lt 40, 3), (18, .new 21, 3), (21, .dup, 1), (22, .new 23, 3), (25, .dup, 1), (26, .invokespecial 25, 3), (29, .ldc 26, 2), (31, .invokevirtual 28, 3), (34, .iload_n 0, 1), (35, .invokevirtual 32, 3), (38, .ldc 35, 2), (40, .invokevirtual 28, 3), (43, .ldc 20, 2), (45, .invokevirtual 32, 3), (48, .invokevirtual 37, 3), (51, .invokespecial 41, 3), (54, .athrow, 1), (55, .iload_n 0, 1), (56, .iconst 1, 1), (57, .ishl, 1), (58, .ireturn, 1)]
theorem tbJ2_newBytesLength_0f7a4_k : dc_T cJ2_newBytesLength_0f7a4 tbJ2_newBytesLength_0f7a4 = true := by decide +kernel
abbrev tbJ2_putChar_b72d1 : List (Nat × Instr × Nat) := [(0, .getstatic 44, 3), (3, .ifCond .ne 25, 3), (6, .iload_n 1, 1), (7, .ifCond .lt 11, 3), (10, .iload_n 1, 1), (11, .aload_n 0, 1), (12, .invokestatic 48, 3), (15, .if_icmp .lt 13, 3), (18, .new 52, 3), (21, .dup, 1), (22, .ldc 54, 2), (24, .invokespecial 56, 3), (27, .athrow, 1), (28, .iload_n 1, 1), (29, .iconst 1, 1), (30, .ishl, 1), (31, .istore_n 1, 1), (32, .aload_n 0, 1), (33, .iload_n 1, 1), (34, .iinc 1 1, 3), (37, .iload_n 2, 1), (38, .getstatic 59, 3), (41, .ishr, 1), (42, .i2b, 1), (43, .bastore, 1), (44, .aload_n 0, 1), (45, .iload_n 1, 1), (46, .iload_n 2, 1), (47, .getstatic 63, 3), (50, .ishr, 1), (51, .i2b, 1), (52, .bastore, 1), (53, .return_, 1)]
theorem tbJ2_putChar_b72d1_k : dc_T cJ2_putChar_b72d1 tbJ2_putChar_b72d1 = true := by decide +kernel
abbrev tbJ2_getChar_3b067 : List (Nat × Instr × Nat) := [(0, .getstatic 44, 3), (3, .ifCond .ne 25, 3), (6, .iload_n 1, 1), (7, .ifCond .lt 11, 3), (10, .iload_n 1, 1), (11, .aload_n 0, 1), (12, .invokestatic 48, 3), (15, .if_icmp .lt 13, 3), (18, .new 52, 3), (21, .dup, 1), (22, .ldc 54, 2), (24, .invokespecial 56, 3), (27, .athrow, 1), (28, .iload_n 1, 1), (29, .iconst 1, 1), (30, .ishl, 1), (31, .istore_n 1, 1), (32, .aload_n 0, 1), (33, .iload_n 1, 1), (34, .iinc 1 1, 3), (37, .baload, 1), (38, .sipush 255, 3), (41, .iand, 1), (42, .getstatic 59, 3), (45, .ishl, 1), (46, .aload_n 0, 1), (47, .iload_n 1, 1), (48, .baload, 1), (49, .sipush 255, 3), (52, .iand, 1), (53, .getstatic 63, 3), (56, .ishl, 1), (57, .ior, 1), (58, .i2c, 1), (59, .ireturn, 1)]
theorem tbJ2_getChar_3b067_k : dc_T cJ2_getChar_3b067 tbJ2_getChar_3b067 = true := by decide +kernel
abbrev tbJ2_length_9d52b : List (Nat × Instr × Nat) := [(0, .aload_n 0, 1), (1, .arraylength, 1), (2, .iconst 1, 1), (3, .ishr, 1), (4, .ireturn, 1)]
theorem tbJ2_length_9d52b_k : dc_T cJ2_length_9d52b tbJ2_length_9d52b = true := by decide +kernel
abbrev tbJ2_coderFromArrayLen_85cad : List (Nat × Instr × Nat) := [(0, .iload_n 1, 1), (1, .aload_n 0, 1), (2, .arraylength, 1), (3, .isub, 1), (4, .bipush 31, 2), (6, .iushr, 1), (7, .i2b, 1), (8, .ireturn, 1)]
theorem tbJ2_coderFromArrayLen_85cad_k : dc_T cJ2_coderFromArrayLen_85cad tbJ2_coderFromArrayLen_85cad = true := by decide +kernel
theorem dJ2_compress_39247_1 : decode cJ2_compress_39247 1 = .ok (.newarray .byte, 2) := by decide +kernel
abbrev tbJ2_compress_39247 : List (Nat × Instr × Nat) := [(0, .iload_n 2, 1), (3, .astore_n 3, 1), (4, .aload_n 0, 1), (5, .iload_n 1, 1), (6, .aload_n 3, 1), (7, .iconst 0, 1), (8, .iload_n 2, 1), (9, .invokestatic 123, 3), (12, .istore 4, 2), (14, .iload 4, 2), (16, .iload_n 2, 1), (17, .if_icmp .eq 47, 3), (20, .aload_n 0, 1), (21, .iload_n 1, 1), (22, .iconst 1, 1), (23, .ishl, 1), (24, .iload_n 1, 1), (25, .iload_n 2, 1), (26, .iadd, 1), (27, .invokestatic 11, 3), (30, .invokestatic 126, 3), (33, .astore 5, 2), (35, .aload 5, 2), (37, .iload 4, 2), (39, .invokestatic 71, 3), (42, .sipush 255, 3), (45, .if_icmp .gt 16, 3), (48, .aload 5, 2), (50, .iconst 0, 1), (51, .aload_n 3, 1), (52, .iconst 0, 1), (53, .iload_n 2, 1), (54, .invokestatic 123, 3), (57, .iload_n 2, 1), (58, .if_icmp .eq 6, 3), (61, .aload 5, 2), (63, .areturn, 1), (64, .aload_n 3, 1), (65, .areturn, 1)]
theorem tbJ2_compress_39247_k : dc_T cJ2_compress_39247 tbJ2_compress_39247 = true := by decide +kernel
abbrev tbJ2_compress_5af95 : List (Nat × Instr × Nat) := [(0, .iload_n 1, 1), (1, .iload 4, 2), (3, .aload_n 0, 1), (4, .invokestatic 173, 3), (7, .iconst 0, 1), (8, .istore 5, 2), (10, .iload 5, 2), (12, .iload 4, 2), (14, .if_icmp .ge 39, 3), (17, .aload_n 0, 1), (18, .iload_n 1, 1), (19, .invokestatic 71, 3), (22, .istore 6, 2), (24, .iload 6, 2), (26, .sipush 255, 3), (29, .if_icmp .le 6, 3), (32, .iload 5, 2), (34, .ireturn, 1), (35, .aload_n 2, 1), (36, .iload_n 3, 1), (37, .iload 6, 2), (39, .i2b, 1), (40, .bastore, 1), (41, .iinc 1 1, 3), (44, .iinc 3 1, 3), (47, .iinc 5 1, 3), (50, .goto (-40), 3), (53, .iload 4, 2), (55, .ireturn, 1)]
theorem tbJ2_compress_5af95_k : dc_T cJ2_compress_5af95 tbJ2_compress_5af95 = true := by decide +kernel
abbrev tbJ2_fillNull_b72d1 : List (Nat × Instr × Nat) := [(0, .aload_n 0, 1), (1, .iload_n 1, 1), (2, .iconst 1, 1), (3, .ishl, 1), (4, .iload_n 2, 1), (5, .iconst 1, 1), (6, .ishl, 1), (7, .iconst 0, 1), (8, .invokestatic 380, 3), (11, .return_, 1)]
theorem tbJ2_fillNull_b72d1_k : dc_T cJ2_fillNull_b72d1 tbJ2_fillNull_b72d1 = true := by decide +kernel
abbrev tbJ2_putCharSB_b72d1 : List (Nat × Instr × Nat) := [(0, .iload_n 1, 1), (1, .aload_n 0, 1), (2, .invokestatic 67, 3), (5, .aload_n 0, 1), (6, .iload_n 1, 1), (7, .iload_n 2, 1), (8, .invokestatic 111, 3), (11, .return_, 1)]
theorem tbJ2_putCharSB_b72d1_k : dc_T cJ2_putCharSB_b72d1 tbJ2_putCharSB_b72d1 = true := by decide +kernel
abbrev tbJ2_getChars_46870 : List (Nat × Instr × Nat) := [(0, .iload_n 1, 1), (1, .iload_n 2, 1), (2, .aload_n 3, 1), (3, .invokestatic 96, 3), (6, .iload_n 0, 1), (7, .iload_n 2, 1), (8, .aload_n 3, 1), (9, .invokestatic 393, 3), (12, .istore 4, 2), (14, .getstatic 44, 3), (17, .ifCond .ne 17, 3), (20, .iload_n 1, 1), (21, .iload 4, 2), (23, .if_icmp .eq 11, 3), (26, .new 52, 3), (29, .dup, 1), (30, .invokespecial 66, 3), (33, .athrow, 1), (34, .iload 4, 2), (36, .ireturn, 1)]
theorem tbJ2_getChars_46870_k : dc_T cJ2_getChars_46870 tbJ2_getChars_46870 = true := by decide +kernel
abbrev tbJ2_putCharsAt_cd4e5 : List (Nat × Instr × Nat) := [(0, .iload_n 1, 1), (1, .iconst 4, 1), (2, .iadd, 1), (3, .istore 6, 2), (5, .iload_n 1, 1), (6, .iload 6, 2), (8, .aload_n 0, 1), (9, .invokestatic 96, 3), (12, .aload_n 0, 1), (13, .iload_n 1, 1), (14, .iinc 1 1, 3), (17, .iload_n 2, 1), (18, .invokestatic 111, 3), (21, .aload_n 0, 1), (22, .iload_n 1, 1), (23, .iinc 1 1, 3), (26, .iload_n 3, 1), (27, .invokestatic 111, 3), (30, .aload_n 0, 1), (31, .iload_n 1, 1), (32, .iinc 1 1, 3), (35, .iload 4, 2), (37, .invokestatic 111, 3), (40, .aload_n 0, 1), (41, .iload_n 1, 1), (42, .iinc 1 1, 3), (45, .iload 5, 2), (47, .invokestatic 111, 3), (50, .getstatic 44, 3), (53, .ifCond .ne 17, 3), (56, .iload_n 1, 1), (57, .iload 6, 2), (59, .if_icmp .eq 11, 3), (62, .new 52, 3), (65, .dup, 1), (66, .invokespecial 66, 3), (69, .athrow, 1), (70, .iload 6, 2), (72, .ireturn, 1)]
theorem tbJ2_putCharsAt_cd4e5_k : dc_T cJ2_putCharsAt_cd4e5 tbJ2_putCharsAt_cd4e5 = true := by decide +kernel
abbrev tbJ2_charAt_3b067 : List (Nat × Instr × Nat) := [(0, .iload_n 1, 1), (1, .aload_n 0, 1), (2, .invokestatic 67, 3), (5, .aload_n 0, 1), (6, .iload_n 1, 1), (7, .invokestatic 71, 3), (10, .ireturn, 1)]
theorem tbJ2_charAt_3b067_k : dc_T cJ2_charAt_3b067 tbJ2_charAt_3b067 = true := by decide +kernel
abbrev tbJ2_inflate_0e8fd : List (Nat × Instr × Nat) := [(0, .iload_n 3, 1), (1, .iload 4, 2), (3, .aload_n 2, 1), (4, .invokestatic 173, 3), (7, .iconst 0, 1), (8, .istore 5, 2), (10, .iload 5, 2), (12, .iload 4, 2), (14, .if_icmp .ge 27, 3), (17, .aload_n 2, 1), (18, .iload_n 3, 1), (19, .iinc 3 1, 3), (22, .aload_n 0, 1), (23, .iload_n 1, 1), (24, .iinc 1 1, 3), (27, .baload, 1), (28, .sipush 255, 3), (31, .iand, 1), (32, .invokestatic 111, 3), (35, .iinc 5 1, 3), (38, .goto (-28), 3), (41, .return_, 1)]
theorem tbJ2_inflate_0e8fd_k : dc_T cJ2_inflate_0e8fd tbJ2_inflate_0e8fd = true := by decide +kernel
abbrev tbJ2_getChars_ba4f3_0 : List (Nat × Instr × Nat) := [(0, .iload_n 1, 1), (1, .istore 5, 2), (3, .iload_n 0, 1), (4, .ifCond .ge 7, 3), (7, .iconst 1, 1), (8, .goto 4, 3), (11, .iconst 0, 1), (12, .istore 6, 2), (14, .iload 6, 2), (16, .ifCond .ne 6, 3), (19, .iload_n 0, 1), (20, .ineg, 1), (21, .istore_n 0, 1), (22, .iload_n 0, 1), (23, .bipush (-100), 2), (25, .if_icmp .gt 51, 3), (28, .iload_n 0, 1), (29, .bipush 100, 2), (31, .idiv, 1), (32, .istore_n 3, 1), (33, .iload_n 3, 1), (34, .bipush 100, 2), (36, .imul, 1), (37, .iload_n 0, 1), (38, .isub, 1), (39, .istore 4, 2), (41, .iload_n 3, 1), (42, .istore_n 0, 1), (43, .aload_n 2, 1), (44, .iinc 5 (-1), 3), (47, .iload 5, 2), (49, .getstatic 403, 3), (52, .iload 4, 2), (54, .baload, 1), (55, .invokestatic 111, 3), (58, .aload_n 2, 1), (59, .iinc 5 (-1), 3), (62, .iload 5, 2), (64, .getstatic 407, 3), (67, .iload 4, 2)]
theorem tbJ2_getChars_ba4f3_0_k : dc_T cJ2_getChars_ba4f3 tbJ2_getChars_ba4f3_0 = true := by decide +kernel
abbrev tbJ2_getChars_ba4f3_1 : List (Nat × Instr × Nat) := [(69, .baload, 1), (70, .invokestatic 111, 3), (73, .goto (-51), 3), (76, .aload_n 2, 1), (77, .iinc 5 (-1), 3), (80, .iload 5, 2), (82, .getstatic 403, 3), (85, .iload_n 0, 1), (86, .ineg, 1), (87, .baload, 1), (88, .invokestatic 111, 3), (91, .iload_n 0, 1), (92, .bipush (-9), 2), (94, .if_icmp .ge 18, 3), (97, .aload_n 2, 1), (98, .iinc 5 (-1), 3), (101, .iload 5, 2), (103, .getstatic 407, 3), (106, .iload_n 0, 1), (107, .ineg, 1), (108, .baload, 1), (109, .invokestatic 111, 3), (112, .iload 6, 2), (114, .ifCond .eq 14, 3), (117, .aload_n 2, 1), (118, .iinc 5 (-1), 3), (121, .iload 5, 2), (123, .bipush 45, 2), (125, .invokestatic 111, 3), (128, .iload 5, 2), (130, .ireturn, 1)]
theorem tbJ2_getChars_ba4f3_1_k : dc_T cJ2_getChars_ba4f3 tbJ2_getChars_ba4f3_1 = true := by decide +kernel
abbrev tbJ2_checkIndex_2214a : List (Nat × Instr × Nat) := [(0, .iload_n 0, 1), (1, .aload_n 1, 1), (2, .invokestatic 48, 3), (5, .invokestatic 414, 3), (8, .return_, 1)]
theorem tbJ2_checkIndex_2214a_k : dc_T cJ2_checkIndex_2214a tbJ2_checkIndex_2214a = true := by decide +kernel
abbrev tbJ2_checkBoundsBeginEnd_d044e : List (Nat × Instr × Nat) := [(0, .iload_n 0, 1), (1, .iload_n 1, 1), (2, .aload_n 2, 1), (3, .invokestatic 48, 3), (6, .invokestatic 241, 3), (9, .return_, 1)]
theorem tbJ2_checkBoundsBeginEnd_d044e_k : dc_T cJ2_checkBoundsBeginEnd_d044e tbJ2_checkBoundsBeginEnd_d044e = true := by decide +kernel
abbrev tbJ2_checkBoundsOffCount_d044e : List (Nat × Instr × Nat) := [(0, .iload_n 0, 1), (1, .iload_n 1, 1), (2, .aload_n 2, 1), (3, .invokestatic 48, 3), (6, .invokestatic 419, 3), (9, .pop, 1), (10, .return_, 1)]
theorem tbJ2_checkBoundsOffCount_d044e_k : dc_T cJ2_checkBoundsOffCount_d044e tbJ2_checkBoundsOffCount_d044e = true := by decide +kernel
abbrev tbJ7_rangeCheck_23922 : List (Nat × Instr × Nat) := [(0, .iload_n 1, 1), (1, .iload_n 2, 1), (2, .if_icmp .le 44, 3), (5, .new 43, 3), (8, .dup, 1), (9, .new 45, 3), (12, .dup, 1), (13, .invokespecial 47, 3), (16, .ldc 48, 2), (18, .invokevirtual 50, 3), (21, .iload_n 1, 1), (22, .invokevirtual 54, 3), (25, .ldc 57, 2), (27, .invokevirtual 50, 3), (30, .iload_n 2, 1), (31, .invokevirtual 54, 3), (34, .ldc 59, 2), (36, .invokevirtual 50, 3), (39, .invokevirtual 61, 3), (42, .invokespecial 65, 3), (45, .athrow, 1), (46, .iload_n 1, 1), (47, .ifCond .ge 12, 3), (50, .new 68, 3), (53, .dup, 1), (54, .iload_n 1, 1), (55, .invokespecial 70, 3), (58, .athrow, 1), (59, .iload_n 2, 1), (60, .iload_n 0, 1), (61, .if_icmp .le 12, 3), (64, .new 68, 3), (67, .dup, 1), (68, .iload_n 2, 1), (69, .invokespecial 70, 3), (72, .athrow, 1), (73, .return_, 1)]
theorem tbJ7_rangeCheck_23922_k : dc_T cJ7_rangeCheck_23922 tbJ7_rangeCheck_23922 = true := by decide +kernel
abbrev tbJ7_fill_eb02e : List (Nat × Instr × Nat) := [(0, .aload_n 0, 1), (1, .arraylength, 1), (2, .iload_n 1, 1), (3, .iload_n 2, 1), (4, .invokestatic 13, 3), (7, .iload_n 1, 1), (8, .istore 4, 2), (10, .iload 4, 2), (12, .iload_n 2, 1), (13, .if_icmp .ge 14, 3), (16, .aload_n 0, 1), (17, .iload 4, 2), (19, .iload_n 3, 1), (20, .bastore, 1), (21, .iinc 4 1, 3), (24, .goto (-14), 3), (27, .return_, 1)]
theorem tbJ7_fill_eb02e_k : dc_T cJ7_fill_eb02e tbJ7_fill_eb02e = true := by decide +kernel
theorem dJ7_copyOf_9075b_15 : decode cJ7_copyOf_9075b 15 = .ok (.newarray .byte, 2) := by decide +kernel
abbrev tbJ7_copyOf_9075b : List (Nat × Instr × Nat) := [(0, .iload_n 1, 1), (1, .aload_n 0, 1), (2, .arraylength, 1), (3, .if_icmp .ne 11, 3), (6, .aload_n 0, 1), (7, .invokevirtual 310, 3), (10, .checkcast 311, 3), (13, .areturn, 1), (14, .iload_n 1, 1), (17, .astore_n 2, 1), (18, .aload_n 0, 1), (19, .iconst 0, 1), (20, .aload_n 2, 1), (21, .iconst 0, 1), (22, .aload_n 0, 1), (23, .arraylength, 1), (24, .iload_n 1, 1), (25, .invokestatic 304, 3), (28, .invokestatic 150, 3), (31, .aload_n 2, 1), (32, .areturn, 1)]
theorem tbJ7_copyOf_9075b_k : dc_T cJ7_copyOf_9075b tbJ7_copyOf_9075b = true := by decide +kernel
abbrev tbJ7_checkLength_df160 : List (Nat × Instr × Nat) := [(0, .iload_n 1, 1), (1, .iload_n 0, 1), (2, .if_icmp .ge 35, 3), (5, .new 43, 3), (8, .dup, 1), (9, .new 45, 3), (12, .dup, 1), (13, .invokespecial 47, 3), (16, .iload_n 0, 1), (17, .invokevirtual 54, 3), (20, .ldc_w 337, 3), (23, .invokevirtual 50, 3), (26, .iload_n 1, 1), (27, .invokevirtual 54, 3), (30, .invokevirtual 61, 3), (33, .invokespecial 65, 3), (36, .athrow, 1), (37, .return_, 1)]
theorem tbJ7_checkLength_df160_k : dc_T cJ7_checkLength_df160 tbJ7_checkLength_df160 = true := by decide +kernel
abbrev tbJ7_copyOfRange_39247 : List (Nat × Instr × Nat) := [(0, .iload_n 1, 1), (1, .ifCond .ne 9, 3), (4, .iload_n 2, 1), (5, .aload_n 0, 1), (6, .arraylength, 1), (7, .if_icmp .eq 10, 3), (10, .aload_n 0, 1), (11, .iload_n 1, 1), (12, .iload_n 2, 1), (13, .invokestatic 339, 3), (16, .areturn, 1), (17, .aload_n 0, 1), (18, .invokevirtual 310, 3), (21, .checkcast 311, 3), (24, .areturn, 1)]
theorem tbJ7_copyOfRange_39247_k : dc_T cJ7_copyOfRange_39247 tbJ7_copyOfRange_39247 = true := by decide +kernel
theorem dJ7_copyOfRangeByte_39247_10 : decode cJ7_copyOfRangeByte_39247 10 = .ok (.newarray .byte, 2) := by decide +kernel
abbrev tbJ7_copyOfRangeByte_39247 : List (Nat × Instr × Nat) := [(0, .iload_n 1, 1), (1, .iload_n 2, 1), (2, .invokestatic 343, 3), (5, .iload_n 2, 1), (6, .iload_n 1, 1), (7, .isub, 1), (8, .istore_n 3, 1), (9, .iload_n 3, 1), (12, .astore 4, 2), (14, .aload_n 0, 1), (15, .iload_n 1, 1), (16, .aload 4, 2), (18, .iconst 0, 1), (19, .aload_n 0, 1), (20, .arraylength, 1), (21, .iload_n 1, 1), (22, .isub, 1), (23, .iload_n 3, 1), (24, .invokestatic 304, 3), (27, .invokestatic 150, 3), (30, .aload 4, 2), (32, .areturn, 1)]
theorem tbJ7_copyOfRangeByte_39247_k : dc_T cJ7_copyOfRangeByte_39247 tbJ7_copyOfRangeByte_39247 = true := by decide +kernel
abbrev tbJ8_newLength_cabcc : List (Nat × Instr × Nat) := [(0, .iload_n 0, 1), (1, .iload_n 1, 1), (2, .iload_n 2, 1), (3, .invokestatic 194, 3), (6, .iadd, 1), (7, .istore_n 3, 1), (8, .iconst 0, 1), (9, .iload_n 3, 1), (10, .if_icmp .ge 11, 3), (13, .iload_n 3, 1), (14, .ldc 200, 2), (16, .if_icmp .gt 5, 3), (19, .iload_n 3, 1), (20, .ireturn, 1), (21, .iload_n 0, 1), (22, .iload_n 1, 1), (23, .invokestatic 201, 3), (26, .ireturn, 1)]
theorem tbJ8_newLength_cabcc_k : dc_T cJ8_newLength_cabcc tbJ8_newLength_cabcc = true := by decide +kernel
abbrev tbJ8_hugeLength_7cf53 : List (Nat × Instr × Nat) := [(0, .iload_n 0, 1), (1, .iload_n 1, 1), (2, .iadd, 1), (3, .istore_n 2, 1), (4, .iload_n 2, 1), (5, .ifCond .ge 44, 3), (8, .new 204, 3), (11, .dup, 1), (12, .new 89, 3), (15, .dup, 1), (16, .invokespecial 91, 3), (19, .ldc 206, 2), (21, .invokevirtual 94, 3), (24, .iload_n 0, 1), (25, .invokevirtual 98, 3), (28, .ldc 208, 2), (30, .invokevirtual 94, 3), (33, .iload_n 1, 1), (34, .invokevirtual 98, 3), (37, .ldc 210, 2), (39, .invokevirtual 94, 3), (42, .invokevirtual 101, 3), (45, .invokespecial 212, 3), (48, .athrow, 1), (49, .iload_n 2, 1), (50, .ldc 200, 2), (52, .if_icmp .gt 6, 3), (55, .ldc 200, 2), (57, .ireturn, 1), (58, .iload_n 2, 1), (59, .ireturn, 1)]
theorem tbJ8_hugeLength_7cf53_k : dc_T cJ8_hugeLength_7cf53 tbJ8_hugeLength_7cf53 = true := by decide +kernel
abbrev tbJ3_checkIndex_8e157 : List (Nat × Instr × Nat) := [(0, .iload_n 0, 1), (1, .ifCond .lt 8, 3), (4, .iload_n 0, 1), (5, .iload_n 1, 1), (6, .if_icmp .lt 10, 3), (9, .aload_n 2, 1), (10, .iload_n 0, 1), (11, .iload_n 1, 1), (12, .invokestatic 95, 3), (15, .athrow, 1), (16, .iload_n 0, 1), (17, .ireturn, 1)]
theorem tbJ3_checkIndex_8e157_k : dc_T cJ3_checkIndex_8e157 tbJ3_checkIndex_8e157 = true := by decide +kernel
abbrev tbJ3_checkFromToIndex_8c36e : List (Nat × Instr × Nat) := [(0, .iload_n 0, 1), (1, .ifCond .lt 13, 3), (4, .iload_n 0, 1), (5, .iload_n 1, 1), (6, .if_icmp .gt 8, 3), (9, .iload_n 1, 1), (10, .iload_n 2, 1), (11, .if_icmp .le 11, 3), (14, .aload_n 3, 1), (15, .iload_n 0, 1), (16, .iload_n 1, 1), (17, .iload_n 2, 1), (18, .invokestatic 99, 3), (21, .athrow, 1), (22, .iload_n 0, 1), (23, .ireturn, 1)]
theorem tbJ3_checkFromToIndex_8c36e_k : dc_T cJ3_checkFromToIndex_8c36e tbJ3_checkFromToIndex_8c36e = true := by decide +kernel
abbrev tbJ3_checkFromIndexSize_8c36e : List (Nat × Instr × Nat) := [(0, .iload_n 2, 1), (1, .iload_n 0, 1), (2, .ior, 1), (3, .iload_n 1, 1), (4, .ior, 1), (5, .ifCond .lt 10, 3), (8, .iload_n 1, 1), (9, .iload_n 2, 1), (10, .iload_n 0, 1), (11, .isub, 1), (12, .if_icmp .le 11, 3), (15, .aload_n 3, 1), (16, .iload_n 0, 1), (17, .iload_n 1, 1), (18, .iload_n 2, 1), (19, .invokestatic 103, 3), (22, .athrow, 1), (23, .iload_n 0, 1), (24, .ireturn, 1)]
theorem tbJ3_checkFromIndexSize_8c36e_k : dc_T cJ3_checkFromIndexSize_8c36e tbJ3_checkFromIndexSize_8c36e = true := by decide +kernel
abbrev tbL_load : List (Nat × Instr × Nat) := [(0, .aload_n 2, 1), (1, .iconst 0, 1), (2, .aload_n 0, 1), (3, .iload_n 1, 1), (4, .invokevirtual 7, 3), (7, .i2l, 1), (8, .lastore, 1), (9, .goto 6, 3), (12, .astore_n 3, 1), (13, .iconst 1, 1), (14, .ireturn, 1), (15, .iconst 0, 1), (16, .ireturn, 1)]
theorem tbL_load_k : dc_T cL_load tbL_load = true := by decide +kernel
abbrev tbL_leg : List (Nat × Instr × Nat) := [(0, .aload_n 2, 1), (1, .iconst 0, 1), (2, .aload_n 0, 1), (3, .iload_n 1, 1), (4, .invokevirtual 15, 3), (7, .i2l, 1), (8, .lastore, 1), (9, .goto 6, 3), (12, .astore_n 3, 1), (13, .iconst 1, 1), (14, .ireturn, 1), (15, .iconst 0, 1), (16, .ireturn, 1)]
theorem tbL_leg_k : dc_T cL_leg tbL_leg = true := by decide +kernel
abbrev tbL_isUp : List (Nat × Instr × Nat) := [(0, .aload_n 2, 1), (1, .iconst 0, 1), (2, .aload_n 0, 1), (3, .iload_n 1, 1), (4, .invokevirtual 20, 3), (7, .ifCond .eq 7, 3), (10, .lconst 1, 1), (11, .goto 4, 3), (14, .lconst 0, 1), (15, .lastore, 1), (16, .goto 6, 3), (19, .astore_n 3, 1), (20, .iconst 1, 1), (21, .ireturn, 1), (22, .iconst 0, 1), (23, .ireturn, 1)]
theorem tbL_isUp_k : dc_T cL_isUp tbL_isUp = true := by decide +kernel
abbrev tbL_linePlace : List (Nat × Instr × Nat) := [(0, .aload_n 2, 1), (1, .iconst 0, 1), (2, .aload_n 0, 1), (3, .iload_n 1, 1), (4, .invokevirtual 24, 3), (7, .dastore, 1), (8, .goto 6, 3), (11, .astore_n 3, 1), (12, .iconst 1, 1), (13, .ireturn, 1), (14, .iconst 0, 1), (15, .ireturn, 1)]
theorem tbL_linePlace_k : dc_T cL_linePlace tbL_linePlace = true := by decide +kernel
abbrev tbL_springBackFor : List (Nat × Instr × Nat) := [(0, .aload_n 3, 1), (1, .iconst 0, 1), (2, .aload_n 0, 1), (3, .dload_n 1, 1), (4, .invokevirtual 28, 3), (7, .dastore, 1), (8, .goto 7, 3), (11, .astore 4, 2), (13, .iconst 1, 1), (14, .ireturn, 1), (15, .iconst 0, 1), (16, .ireturn, 1)]
theorem tbL_springBackFor_k : dc_T cL_springBackFor tbL_springBackFor = true := by decide +kernel
abbrev tbL_tool : List (Nat × Instr × Nat) := [(0, .aload_n 3, 1), (1, .iconst 0, 1), (2, .aload_n 0, 1), (3, .iload_n 1, 1), (4, .iload_n 2, 1), (5, .invokevirtual 32, 3), (8, .i2l, 1), (9, .lastore, 1), (10, .goto 7, 3), (13, .astore 4, 2), (15, .iconst 1, 1), (16, .ireturn, 1), (17, .iconst 0, 1), (18, .ireturn, 1)]
theorem tbL_tool_k : dc_T cL_tool tbL_tool = true := by decide +kernel
abbrev tbL_finishedCorner : List (Nat × Instr × Nat) := [(0, .aload_n 3, 1), (1, .iconst 0, 1), (2, .aload_n 0, 1), (3, .iload_n 1, 1), (4, .iload_n 2, 1), (5, .invokevirtual 36, 3), (8, .i2l, 1), (9, .lastore, 1), (10, .goto 11, 3), (13, .astore 4, 2), (15, .iconst 1, 1), (16, .ireturn, 1), (17, .astore 4, 2), (19, .iconst 2, 1), (20, .ireturn, 1), (21, .iconst 0, 1), (22, .ireturn, 1)]
theorem tbL_finishedCorner_k : dc_T cL_finishedCorner tbL_finishedCorner = true := by decide +kernel
abbrev tbL_step : List (Nat × Instr × Nat) := [(0, .aload_n 3, 1), (1, .iconst 0, 1), (2, .aload_n 0, 1), (3, .iload_n 1, 1), (4, .iload_n 2, 1), (5, .invokevirtual 39, 3), (8, .i2l, 1), (9, .lastore, 1), (10, .goto 11, 3), (13, .astore 4, 2), (15, .iconst 1, 1), (16, .ireturn, 1), (17, .astore 4, 2), (19, .iconst 2, 1), (20, .ireturn, 1), (21, .iconst 0, 1), (22, .ireturn, 1)]
theorem tbL_step_k : dc_T cL_step tbL_step = true := by decide +kernel
abbrev tbL_reason : List (Nat × Instr × Nat) := [(0, .aload_n 3, 1), (1, .iconst 0, 1), (2, .aload_n 0, 1), (3, .iload_n 1, 1), (4, .iload_n 2, 1), (5, .invokevirtual 42, 3), (8, .i2l, 1), (9, .lastore, 1), (10, .goto 11, 3), (13, .astore 4, 2), (15, .iconst 1, 1), (16, .ireturn, 1), (17, .astore 4, 2), (19, .iconst 2, 1), (20, .ireturn, 1), (21, .iconst 0, 1), (22, .ireturn, 1)]
theorem tbL_reason_k : dc_T cL_reason tbL_reason = true := by decide +kernel
abbrev tbL_gauge : List (Nat × Instr × Nat) := [(0, .aload_n 3, 1), (1, .iconst 0, 1), (2, .aload_n 0, 1), (3, .iload_n 1, 1), (4, .iload_n 2, 1), (5, .invokevirtual 45, 3), (8, .i2l, 1), (9, .lastore, 1), (10, .goto 11, 3), (13, .astore 4, 2), (15, .iconst 1, 1), (16, .ireturn, 1), (17, .astore 4, 2), (19, .iconst 2, 1), (20, .ireturn, 1), (21, .iconst 0, 1), (22, .ireturn, 1)]
theorem tbL_gauge_k : dc_T cL_gauge tbL_gauge = true := by decide +kernel
abbrev tbL_corner : List (Nat × Instr × Nat) := [(0, .aload 5, 2), (2, .iconst 0, 1), (3, .aload_n 0, 1), (4, .iload_n 1, 1), (5, .iload_n 2, 1), (6, .iload_n 3, 1), (7, .iload 4, 2), (9, .invokevirtual 48, 3), (12, .i2l, 1), (13, .lastore, 1), (14, .goto 11, 3), (17, .astore 6, 2), (19, .iconst 1, 1), (20, .ireturn, 1), (21, .astore 6, 2), (23, .iconst 2, 1), (24, .ireturn, 1), (25, .iconst 0, 1), (26, .ireturn, 1)]
theorem tbL_corner_k : dc_T cL_corner tbL_corner = true := by decide +kernel
abbrev tbL_top : List (Nat × Instr × Nat) := [(0, .aload_n 3, 1), (1, .iconst 0, 1), (2, .aload_n 0, 1), (3, .iload_n 1, 1), (4, .iload_n 2, 1), (5, .invokevirtual 52, 3), (8, .i2l, 1), (9, .lastore, 1), (10, .goto 11, 3), (13, .astore 4, 2), (15, .iconst 1, 1), (16, .ireturn, 1), (17, .astore 4, 2), (19, .iconst 2, 1), (20, .ireturn, 1), (21, .iconst 0, 1), (22, .ireturn, 1)]
theorem tbL_top_k : dc_T cL_top tbL_top = true := by decide +kernel
abbrev tbL_hitting : List (Nat × Instr × Nat) := [(0, .aload_n 3, 1), (1, .iconst 0, 1), (2, .aload_n 0, 1), (3, .iload_n 1, 1), (4, .iload_n 2, 1), (5, .invokevirtual 55, 3), (8, .i2l, 1), (9, .lastore, 1), (10, .goto 11, 3), (13, .astore 4, 2), (15, .iconst 1, 1), (16, .ireturn, 1), (17, .astore 4, 2), (19, .iconst 2, 1), (20, .ireturn, 1), (21, .iconst 0, 1), (22, .ireturn, 1)]
theorem tbL_hitting_k : dc_T cL_hitting tbL_hitting = true := by decide +kernel
abbrev tbL_refused : List (Nat × Instr × Nat) := [(0, .aload_n 2, 1), (1, .iconst 0, 1), (2, .aload_n 0, 1), (3, .iload_n 1, 1), (4, .invokevirtual 58, 3), (7, .i2l, 1), (8, .lastore, 1), (9, .goto 6, 3), (12, .astore_n 3, 1), (13, .iconst 1, 1), (14, .ireturn, 1), (15, .iconst 0, 1), (16, .ireturn, 1)]
theorem tbL_refused_k : dc_T cL_refused tbL_refused = true := by decide +kernel
abbrev tbL_costOf : List (Nat × Instr × Nat) := [(0, .aload_n 3, 1), (1, .iconst 0, 1), (2, .aload_n 0, 1), (3, .iload_n 1, 1), (4, .iload_n 2, 1), (5, .invokevirtual 61, 3), (8, .i2l, 1), (9, .lastore, 1), (10, .goto 11, 3), (13, .astore 4, 2), (15, .iconst 1, 1), (16, .ireturn, 1), (17, .astore 4, 2), (19, .iconst 2, 1), (20, .ireturn, 1), (21, .iconst 0, 1), (22, .ireturn, 1)]
theorem tbL_costOf_k : dc_T cL_costOf tbL_costOf = true := by decide +kernel
abbrev tbL_planned : List (Nat × Instr × Nat) := [(0, .aload_n 2, 1), (1, .iconst 0, 1), (2, .aload_n 0, 1), (3, .iload_n 1, 1), (4, .invokevirtual 64, 3), (7, .i2l, 1), (8, .lastore, 1), (9, .goto 6, 3), (12, .astore_n 3, 1), (13, .iconst 1, 1), (14, .ireturn, 1), (15, .iconst 0, 1), (16, .ireturn, 1)]
theorem tbL_planned_k : dc_T cL_planned tbL_planned = true := by decide +kernel
abbrev tbL_ordersWith : List (Nat × Instr × Nat) := [(0, .aload_n 3, 1), (1, .iconst 0, 1), (2, .aload_n 0, 1), (3, .iload_n 1, 1), (4, .iload_n 2, 1), (5, .invokevirtual 67, 3), (8, .lastore, 1), (9, .goto 11, 3), (12, .astore 4, 2), (14, .iconst 1, 1), (15, .ireturn, 1), (16, .astore 4, 2), (18, .iconst 2, 1), (19, .ireturn, 1), (20, .iconst 0, 1), (21, .ireturn, 1)]
theorem tbL_ordersWith_k : dc_T cL_ordersWith tbL_ordersWith = true := by decide +kernel
abbrev tbL_costIfTurned : List (Nat × Instr × Nat) := [(0, .aload_n 2, 1), (1, .iconst 0, 1), (2, .aload_n 0, 1), (3, .iload_n 1, 1), (4, .invokevirtual 71, 3), (7, .i2l, 1), (8, .lastore, 1), (9, .goto 9, 3), (12, .astore_n 3, 1), (13, .iconst 1, 1), (14, .ireturn, 1), (15, .astore_n 3, 1), (16, .iconst 2, 1), (17, .ireturn, 1), (18, .iconst 0, 1), (19, .ireturn, 1)]
theorem tbL_costIfTurned_k : dc_T cL_costIfTurned tbL_costIfTurned = true := by decide +kernel
abbrev tbL_fold : List (Nat × Instr × Nat) := [(0, .aload_n 3, 1), (1, .iconst 0, 1), (2, .aload_n 0, 1), (3, .iload_n 1, 1), (4, .iload_n 2, 1), (5, .invokevirtual 76, 3), (8, .i2l, 1), (9, .lastore, 1), (10, .goto 15, 3), (13, .astore 4, 2), (15, .iconst 1, 1), (16, .ireturn, 1), (17, .astore 4, 2), (19, .iconst 2, 1), (20, .ireturn, 1), (21, .astore 4, 2), (23, .iconst 3, 1), (24, .ireturn, 1), (25, .iconst 0, 1), (26, .ireturn, 1)]
theorem tbL_fold_k : dc_T cL_fold tbL_fold = true := by decide +kernel
abbrev tbL_foldNext : List (Nat × Instr × Nat) := [(0, .aload_n 1, 1), (1, .iconst 0, 1), (2, .aload_n 0, 1), (3, .invokevirtual 79, 3), (6, .i2l, 1), (7, .lastore, 1), (8, .goto 6, 3), (11, .astore_n 2, 1), (12, .iconst 1, 1), (13, .ireturn, 1), (14, .iconst 0, 1), (15, .ireturn, 1)]
theorem tbL_foldNext_k : dc_T cL_foldNext tbL_foldNext = true := by decide +kernel
abbrev tbL_setLeg : List (Nat × Instr × Nat) := [(0, .aload_n 3, 1), (1, .iconst 0, 1), (2, .aload_n 0, 1), (3, .iload_n 1, 1), (4, .iload_n 2, 1), (5, .invokevirtual 83, 3), (8, .i2l, 1), (9, .lastore, 1), (10, .goto 15, 3), (13, .astore 4, 2), (15, .iconst 1, 1), (16, .ireturn, 1), (17, .astore 4, 2), (19, .iconst 2, 1), (20, .ireturn, 1), (21, .astore 4, 2), (23, .iconst 3, 1), (24, .ireturn, 1), (25, .iconst 0, 1), (26, .ireturn, 1)]
theorem tbL_setLeg_k : dc_T cL_setLeg tbL_setLeg = true := by decide +kernel
abbrev tbL_setDirection : List (Nat × Instr × Nat) := [(0, .aload_n 3, 1), (1, .iconst 0, 1), (2, .aload_n 0, 1), (3, .iload_n 1, 1), (4, .iload_n 2, 1), (5, .invokevirtual 86, 3), (8, .ifCond .eq 7, 3), (11, .lconst 1, 1), (12, .goto 4, 3), (15, .lconst 0, 1), (16, .lastore, 1), (17, .goto 11, 3), (20, .astore 4, 2), (22, .iconst 1, 1), (23, .ireturn, 1), (24, .astore 4, 2), (26, .iconst 2, 1), (27, .ireturn, 1), (28, .iconst 0, 1), (29, .ireturn, 1)]
theorem tbL_setDirection_k : dc_T cL_setDirection tbL_setDirection = true := by decide +kernel
abbrev tbL_setTool : List (Nat × Instr × Nat) := [(0, .aload 4, 2), (2, .iconst 0, 1), (3, .aload_n 0, 1), (4, .iload_n 1, 1), (5, .iload_n 2, 1), (6, .iload_n 3, 1), (7, .invokevirtual 90, 3), (10, .i2l, 1), (11, .lastore, 1), (12, .goto 7, 3), (15, .astore 5, 2), (17, .iconst 1, 1), (18, .ireturn, 1), (19, .iconst 0, 1), (20, .ireturn, 1)]
theorem tbL_setTool_k : dc_T cL_setTool tbL_setTool = true := by decide +kernel
abbrev tbL_setSheet : List (Nat × Instr × Nat) := [(0, .aload 4, 2), (2, .iconst 0, 1), (3, .aload_n 0, 1), (4, .iload_n 1, 1), (5, .iload_n 2, 1), (6, .iload_n 3, 1), (7, .invokevirtual 94, 3), (10, .i2l, 1), (11, .lastore, 1), (12, .goto 7, 3), (15, .astore 5, 2), (17, .iconst 1, 1), (18, .ireturn, 1), (19, .iconst 0, 1), (20, .ireturn, 1)]
theorem tbL_setSheet_k : dc_T cL_setSheet tbL_setSheet = true := by decide +kernel
abbrev tbL_setCost : List (Nat × Instr × Nat) := [(0, .aload 4, 2), (2, .iconst 0, 1), (3, .aload_n 0, 1), (4, .iload_n 1, 1), (5, .iload_n 2, 1), (6, .iload_n 3, 1), (7, .invokevirtual 97, 3), (10, .i2l, 1), (11, .lastore, 1), (12, .goto 7, 3), (15, .astore 5, 2), (17, .iconst 1, 1), (18, .ireturn, 1), (19, .iconst 0, 1), (20, .ireturn, 1)]
theorem tbL_setCost_k : dc_T cL_setCost tbL_setCost = true := by decide +kernel
abbrev tbL_written : List (Nat × Instr × Nat) := [(0, .aload_n 2, 1), (1, .iconst 0, 1), (2, .aload_n 0, 1), (3, .iload_n 1, 1), (4, .invokevirtual 100, 3), (7, .i2l, 1), (8, .lastore, 1), (9, .goto 6, 3), (12, .astore_n 3, 1), (13, .iconst 1, 1), (14, .ireturn, 1), (15, .iconst 0, 1), (16, .ireturn, 1)]
theorem tbL_written_k : dc_T cL_written tbL_written = true := by decide +kernel
theorem dL_law_17 : decode cL_law 17 = .ok (.newarray .long, 2) := by decide +kernel
theorem dL_law_21 : decode cL_law 21 = .ok (.newarray .double, 2) := by decide +kernel
theorem dL_law_45 : decode cL_law 45 = .ok (.tableswitch 2579 0 55 #[239, 312, 368, 381, 394, 407, 420, 476, 539, 580, 621, 698, 739, 780, 867, 880, 948, 961, 974, 987, 1055, 1068, 1081, 1094, 1107, 1175, 1188, 1256, 1324, 1416, 1484, 1552, 1608, 1621, 1634, 1702, 1716, 1729, 1742, 1798, 1811, 1878, 1891, 1904, 1917, 1973, 2041, 2085, 2098, 2166, 2257, 2337, 2417, 2497, 2510, 2523], 239) := by decide +kernel
abbrev tbL_law_0 : List (Nat × Instr × Nat) := [(0, .new 8, 3), (3, .dup, 1), (4, .invokespecial 104, 3), (7, .astore_n 1, 1), (8, .new 105, 3), (11, .dup, 1), (12, .invokespecial 107, 3), (15, .astore_n 2, 1), (16, .iconst 1, 1), (19, .astore_n 3, 1), (20, .iconst 1, 1), (23, .astore 4, 2), (25, .iconst 0, 1), (26, .istore 5, 2), (28, .iload 5, 2), (30, .aload_n 0, 1), (31, .arraylength, 1), (32, .bipush 6, 2), (34, .isub, 1), (35, .if_icmp .gt 2595, 3), (38, .aload_n 0, 1), (39, .iload 5, 2), (41, .iaload, 1), (42, .bipush 63, 2), (44, .iand, 1), (284, .aload_n 1, 1), (285, .aload_n 0, 1), (286, .iload 5, 2), (288, .iconst 1, 1), (289, .iadd, 1), (290, .iaload, 1), (291, .aload_n 0, 1), (292, .iload 5, 2), (294, .iconst 2, 1), (295, .iadd, 1), (296, .iaload, 1), (297, .aload_n 0, 1), (298, .iload 5, 2), (300, .iconst 3, 1), (301, .iadd, 1)]
theorem tbL_law_0_k : dc_T cL_law tbL_law_0 = true := by decide +kernel
abbrev tbL_law_1 : List (Nat × Instr × Nat) := [(302, .iaload, 1), (303, .aload_n 0, 1), (304, .iload 5, 2), (306, .iconst 4, 1), (307, .iadd, 1), (308, .iaload, 1), (309, .aload_n 0, 1), (310, .iload 5, 2), (312, .iconst 5, 1), (313, .iadd, 1), (314, .iaload, 1), (315, .invokevirtual 108, 3), (318, .aload_n 2, 1), (319, .aload_n 0, 1), (320, .iload 5, 2), (322, .iconst 1, 1), (323, .iadd, 1), (324, .iaload, 1), (325, .aload_n 0, 1), (326, .iload 5, 2), (328, .iconst 2, 1), (329, .iadd, 1), (330, .iaload, 1), (331, .aload_n 0, 1), (332, .iload 5, 2), (334, .iconst 3, 1), (335, .iadd, 1), (336, .iaload, 1), (337, .aload_n 0, 1), (338, .iload 5, 2), (340, .iconst 4, 1), (341, .iadd, 1), (342, .iaload, 1), (343, .aload_n 0, 1), (344, .iload 5, 2), (346, .iconst 5, 1), (347, .iadd, 1), (348, .iaload, 1), (349, .invokevirtual 112, 3), (352, .if_icmp .eq 2272, 3)]
theorem tbL_law_1_k : dc_T cL_law tbL_law_1 = true := by decide +kernel
abbrev tbL_law_2 : List (Nat × Instr × Nat) := [(355, .iconst 0, 1), (356, .ireturn, 1), (357, .aload_n 1, 1), (358, .aload_n 0, 1), (359, .iload 5, 2), (361, .iconst 1, 1), (362, .iadd, 1), (363, .iaload, 1), (364, .aload_n 3, 1), (365, .invokestatic 113, 3), (368, .istore 6, 2), (370, .aload_n 2, 1), (371, .aload_n 0, 1), (372, .iload 5, 2), (374, .iconst 1, 1), (375, .iadd, 1), (376, .iaload, 1), (377, .invokevirtual 118, 3), (380, .istore 7, 2), (382, .aload_n 2, 1), (383, .invokevirtual 119, 3), (386, .iload 6, 2), (388, .if_icmp .eq 5, 3), (391, .iconst 0, 1), (392, .ireturn, 1), (393, .iload 6, 2), (395, .ifCond .ne 15, 3), (398, .aload_n 3, 1), (399, .iconst 0, 1), (400, .laload, 1), (401, .iload 7, 2), (403, .i2l, 1), (404, .lcmp, 1), (405, .ifCond .eq 5, 3), (408, .iconst 0, 1), (409, .ireturn, 1), (410, .goto 2214, 3), (413, .aload_n 1, 1), (414, .invokevirtual 122, 3), (417, .aload_n 2, 1)]
theorem tbL_law_2_k : dc_T cL_law tbL_law_2 = true := by decide +kernel
abbrev tbL_law_3 : List (Nat × Instr × Nat) := [(418, .invokevirtual 125, 3), (421, .if_icmp .eq 2203, 3), (424, .iconst 0, 1), (425, .ireturn, 1), (426, .aload_n 1, 1), (427, .invokevirtual 126, 3), (430, .aload_n 2, 1), (431, .invokevirtual 129, 3), (434, .if_icmp .eq 2190, 3), (437, .iconst 0, 1), (438, .ireturn, 1), (439, .aload_n 1, 1), (440, .invokevirtual 130, 3), (443, .aload_n 2, 1), (444, .invokevirtual 133, 3), (447, .if_icmp .eq 2177, 3), (450, .iconst 0, 1), (451, .ireturn, 1), (452, .aload_n 1, 1), (453, .invokevirtual 134, 3), (456, .aload_n 2, 1), (457, .invokevirtual 137, 3), (460, .if_icmp .eq 2164, 3), (463, .iconst 0, 1), (464, .ireturn, 1), (465, .aload_n 1, 1), (466, .aload_n 0, 1), (467, .iload 5, 2), (469, .iconst 1, 1), (470, .iadd, 1), (471, .iaload, 1), (472, .aload_n 3, 1), (473, .invokestatic 138, 3), (476, .istore 6, 2), (478, .aload_n 2, 1), (479, .aload_n 0, 1), (480, .iload 5, 2), (482, .iconst 1, 1), (483, .iadd, 1), (484, .iaload, 1)]
theorem tbL_law_3_k : dc_T cL_law tbL_law_3 = true := by decide +kernel
abbrev tbL_law_4 : List (Nat × Instr × Nat) := [(485, .invokevirtual 140, 3), (488, .istore 7, 2), (490, .aload_n 2, 1), (491, .invokevirtual 119, 3), (494, .iload 6, 2), (496, .if_icmp .eq 5, 3), (499, .iconst 0, 1), (500, .ireturn, 1), (501, .iload 6, 2), (503, .ifCond .ne 15, 3), (506, .aload_n 3, 1), (507, .iconst 0, 1), (508, .laload, 1), (509, .iload 7, 2), (511, .i2l, 1), (512, .lcmp, 1), (513, .ifCond .eq 5, 3), (516, .iconst 0, 1), (517, .ireturn, 1), (518, .goto 2106, 3), (521, .aload_n 1, 1), (522, .aload_n 0, 1), (523, .iload 5, 2), (525, .iconst 1, 1), (526, .iadd, 1), (527, .iaload, 1), (528, .aload_n 3, 1), (529, .invokestatic 141, 3), (532, .istore 6, 2), (534, .aload_n 2, 1), (535, .aload_n 0, 1), (536, .iload 5, 2), (538, .iconst 1, 1), (539, .iadd, 1), (540, .iaload, 1), (541, .invokevirtual 143, 3), (544, .istore 7, 2), (546, .aload_n 2, 1), (547, .invokevirtual 119, 3), (550, .iload 6, 2)]
theorem tbL_law_4_k : dc_T cL_law tbL_law_4 = true := by decide +kernel
abbrev tbL_law_5 : List (Nat × Instr × Nat) := [(552, .if_icmp .eq 5, 3), (555, .iconst 0, 1), (556, .ireturn, 1), (557, .iload 6, 2), (559, .ifCond .ne 22, 3), (562, .aload_n 3, 1), (563, .iconst 0, 1), (564, .laload, 1), (565, .iload 7, 2), (567, .ifCond .eq 7, 3), (570, .lconst 1, 1), (571, .goto 4, 3), (574, .lconst 0, 1), (575, .lcmp, 1), (576, .ifCond .eq 5, 3), (579, .iconst 0, 1), (580, .ireturn, 1), (581, .goto 2043, 3), (584, .aload_n 1, 1), (585, .invokevirtual 144, 3), (588, .dstore 6, 2), (590, .aload_n 2, 1), (591, .invokevirtual 148, 3), (594, .dstore 8, 2), (596, .dload 6, 2), (598, .dload 8, 2), (600, .dcmp .l, 1), (601, .ifCond .eq 21, 3), (604, .dload 6, 2), (606, .dload 6, 2), (608, .dcmp .l, 1), (609, .ifCond .eq 11, 3), (612, .dload 8, 2), (614, .dload 8, 2), (616, .dcmp .l, 1), (617, .ifCond .ne 5, 3), (620, .iconst 0, 1), (621, .ireturn, 1), (622, .goto 2002, 3), (625, .aload_n 1, 1)]
theorem tbL_law_5_k : dc_T cL_law tbL_law_5 = true := by decide +kernel
abbrev tbL_law_6 : List (Nat × Instr × Nat) := [(626, .invokevirtual 149, 3), (629, .dstore 6, 2), (631, .aload_n 2, 1), (632, .invokevirtual 152, 3), (635, .dstore 8, 2), (637, .dload 6, 2), (639, .dload 8, 2), (641, .dcmp .l, 1), (642, .ifCond .eq 21, 3), (645, .dload 6, 2), (647, .dload 6, 2), (649, .dcmp .l, 1), (650, .ifCond .eq 11, 3), (653, .dload 8, 2), (655, .dload 8, 2), (657, .dcmp .l, 1), (658, .ifCond .ne 5, 3), (661, .iconst 0, 1), (662, .ireturn, 1), (663, .goto 1961, 3), (666, .aload_n 1, 1), (667, .aload_n 0, 1), (668, .iload 5, 2), (670, .iconst 1, 1), (671, .iadd, 1), (672, .iaload, 1), (673, .aload 4, 2), (675, .invokestatic 153, 3), (678, .istore 6, 2), (680, .aload_n 2, 1), (681, .aload_n 0, 1), (682, .iload 5, 2), (684, .iconst 1, 1), (685, .iadd, 1), (686, .iaload, 1), (687, .invokevirtual 156, 3), (690, .dstore 7, 2), (692, .aload_n 2, 1), (693, .invokevirtual 119, 3), (696, .iload 6, 2)]
theorem tbL_law_6_k : dc_T cL_law tbL_law_6 = true := by decide +kernel
abbrev tbL_law_7 : List (Nat × Instr × Nat) := [(698, .if_icmp .eq 5, 3), (701, .iconst 0, 1), (702, .ireturn, 1), (703, .iload 6, 2), (705, .ifCond .ne 35, 3), (708, .aload 4, 2), (710, .iconst 0, 1), (711, .daload, 1), (712, .dload 7, 2), (714, .dcmp .l, 1), (715, .ifCond .eq 25, 3), (718, .aload 4, 2), (720, .iconst 0, 1), (721, .daload, 1), (722, .aload 4, 2), (724, .iconst 0, 1), (725, .daload, 1), (726, .dcmp .l, 1), (727, .ifCond .eq 11, 3), (730, .dload 7, 2), (732, .dload 7, 2), (734, .dcmp .l, 1), (735, .ifCond .ne 5, 3), (738, .iconst 0, 1), (739, .ireturn, 1), (740, .goto 1884, 3), (743, .aload_n 1, 1), (744, .invokevirtual 157, 3), (747, .dstore 6, 2), (749, .aload_n 2, 1), (750, .invokevirtual 160, 3), (753, .dstore 8, 2), (755, .dload 6, 2), (757, .dload 8, 2), (759, .dcmp .l, 1), (760, .ifCond .eq 21, 3), (763, .dload 6, 2), (765, .dload 6, 2), (767, .dcmp .l, 1), (768, .ifCond .eq 11, 3)]
theorem tbL_law_7_k : dc_T cL_law tbL_law_7 = true := by decide +kernel
abbrev tbL_law_8 : List (Nat × Instr × Nat) := [(771, .dload 8, 2), (773, .dload 8, 2), (775, .dcmp .l, 1), (776, .ifCond .ne 5, 3), (779, .iconst 0, 1), (780, .ireturn, 1), (781, .goto 1843, 3), (784, .aload_n 1, 1), (785, .invokevirtual 161, 3), (788, .dstore 6, 2), (790, .aload_n 2, 1), (791, .invokevirtual 164, 3), (794, .dstore 8, 2), (796, .dload 6, 2), (798, .dload 8, 2), (800, .dcmp .l, 1), (801, .ifCond .eq 21, 3), (804, .dload 6, 2), (806, .dload 6, 2), (808, .dcmp .l, 1), (809, .ifCond .eq 11, 3), (812, .dload 8, 2), (814, .dload 8, 2), (816, .dcmp .l, 1), (817, .ifCond .ne 5, 3), (820, .iconst 0, 1), (821, .ireturn, 1), (822, .goto 1802, 3), (825, .aload_n 1, 1), (826, .aload_n 0, 1), (827, .iload 5, 2), (829, .iconst 1, 1), (830, .iadd, 1), (831, .iaload, 1), (832, .i2d, 1), (833, .ldc2_w 165, 3), (836, .dmul, 1), (837, .aload 4, 2), (839, .invokestatic 167, 3), (842, .istore 6, 2)]
theorem tbL_law_8_k : dc_T cL_law tbL_law_8 = true := by decide +kernel
abbrev tbL_law_9 : List (Nat × Instr × Nat) := [(844, .aload_n 2, 1), (845, .aload_n 0, 1), (846, .iload 5, 2), (848, .iconst 1, 1), (849, .iadd, 1), (850, .iaload, 1), (851, .i2d, 1), (852, .ldc2_w 165, 3), (855, .dmul, 1), (856, .invokevirtual 170, 3), (859, .dstore 7, 2), (861, .aload_n 2, 1), (862, .invokevirtual 119, 3), (865, .iload 6, 2), (867, .if_icmp .eq 5, 3), (870, .iconst 0, 1), (871, .ireturn, 1), (872, .iload 6, 2), (874, .ifCond .ne 35, 3), (877, .aload 4, 2), (879, .iconst 0, 1), (880, .daload, 1), (881, .dload 7, 2), (883, .dcmp .l, 1), (884, .ifCond .eq 25, 3), (887, .aload 4, 2), (889, .iconst 0, 1), (890, .daload, 1), (891, .aload 4, 2), (893, .iconst 0, 1), (894, .daload, 1), (895, .dcmp .l, 1), (896, .ifCond .eq 11, 3), (899, .dload 7, 2), (901, .dload 7, 2), (903, .dcmp .l, 1), (904, .ifCond .ne 5, 3), (907, .iconst 0, 1), (908, .ireturn, 1), (909, .goto 1715, 3)]
theorem tbL_law_9_k : dc_T cL_law tbL_law_9 = true := by decide +kernel
abbrev tbL_law_10 : List (Nat × Instr × Nat) := [(912, .aload_n 1, 1), (913, .invokevirtual 171, 3), (916, .aload_n 2, 1), (917, .invokevirtual 174, 3), (920, .if_icmp .eq 1704, 3), (923, .iconst 0, 1), (924, .ireturn, 1), (925, .aload_n 1, 1), (926, .aload_n 0, 1), (927, .iload 5, 2), (929, .iconst 1, 1), (930, .iadd, 1), (931, .iaload, 1), (932, .aload_n 0, 1), (933, .iload 5, 2), (935, .iconst 2, 1), (936, .iadd, 1), (937, .iaload, 1), (938, .aload_n 3, 1), (939, .invokestatic 175, 3), (942, .istore 6, 2), (944, .aload_n 2, 1), (945, .aload_n 0, 1), (946, .iload 5, 2), (948, .iconst 1, 1), (949, .iadd, 1), (950, .iaload, 1), (951, .aload_n 0, 1), (952, .iload 5, 2), (954, .iconst 2, 1), (955, .iadd, 1), (956, .iaload, 1), (957, .invokevirtual 178, 3), (960, .istore 7, 2), (962, .aload_n 2, 1), (963, .invokevirtual 119, 3), (966, .iload 6, 2), (968, .if_icmp .eq 5, 3), (971, .iconst 0, 1), (972, .ireturn, 1)]
theorem tbL_law_10_k : dc_T cL_law tbL_law_10 = true := by decide +kernel
abbrev tbL_law_11 : List (Nat × Instr × Nat) := [(973, .iload 6, 2), (975, .ifCond .ne 15, 3), (978, .aload_n 3, 1), (979, .iconst 0, 1), (980, .laload, 1), (981, .iload 7, 2), (983, .i2l, 1), (984, .lcmp, 1), (985, .ifCond .eq 5, 3), (988, .iconst 0, 1), (989, .ireturn, 1), (990, .goto 1634, 3), (993, .aload_n 1, 1), (994, .invokevirtual 179, 3), (997, .aload_n 2, 1), (998, .invokevirtual 182, 3), (1001, .if_icmp .eq 1623, 3), (1004, .iconst 0, 1), (1005, .ireturn, 1), (1006, .aload_n 1, 1), (1007, .invokevirtual 183, 3), (1010, .aload_n 2, 1), (1011, .invokevirtual 186, 3), (1014, .if_icmp .eq 1610, 3), (1017, .iconst 0, 1), (1018, .ireturn, 1), (1019, .aload_n 1, 1), (1020, .invokevirtual 187, 3), (1023, .aload_n 2, 1), (1024, .invokevirtual 191, 3), (1027, .if_icmp .eq 1597, 3), (1030, .iconst 0, 1), (1031, .ireturn, 1), (1032, .aload_n 1, 1), (1033, .aload_n 0, 1), (1034, .iload 5, 2), (1036, .iconst 1, 1), (1037, .iadd, 1), (1038, .iaload, 1), (1039, .aload_n 0, 1)]
theorem tbL_law_11_k : dc_T cL_law tbL_law_11 = true := by decide +kernel
abbrev tbL_law_12 : List (Nat × Instr × Nat) := [(1040, .iload 5, 2), (1042, .iconst 2, 1), (1043, .iadd, 1), (1044, .iaload, 1), (1045, .aload_n 3, 1), (1046, .invokestatic 192, 3), (1049, .istore 6, 2), (1051, .aload_n 2, 1), (1052, .aload_n 0, 1), (1053, .iload 5, 2), (1055, .iconst 1, 1), (1056, .iadd, 1), (1057, .iaload, 1), (1058, .aload_n 0, 1), (1059, .iload 5, 2), (1061, .iconst 2, 1), (1062, .iadd, 1), (1063, .iaload, 1), (1064, .invokevirtual 194, 3), (1067, .istore 7, 2), (1069, .aload_n 2, 1), (1070, .invokevirtual 119, 3), (1073, .iload 6, 2), (1075, .if_icmp .eq 5, 3), (1078, .iconst 0, 1), (1079, .ireturn, 1), (1080, .iload 6, 2), (1082, .ifCond .ne 15, 3), (1085, .aload_n 3, 1), (1086, .iconst 0, 1), (1087, .laload, 1), (1088, .iload 7, 2), (1090, .i2l, 1), (1091, .lcmp, 1), (1092, .ifCond .eq 5, 3), (1095, .iconst 0, 1), (1096, .ireturn, 1), (1097, .goto 1527, 3), (1100, .aload_n 1, 1), (1101, .invokevirtual 195, 3)]
theorem tbL_law_12_k : dc_T cL_law tbL_law_12 = true := by decide +kernel
abbrev tbL_law_13 : List (Nat × Instr × Nat) := [(1104, .aload_n 2, 1), (1105, .invokevirtual 198, 3), (1108, .if_icmp .eq 1516, 3), (1111, .iconst 0, 1), (1112, .ireturn, 1), (1113, .aload_n 1, 1), (1114, .invokevirtual 199, 3), (1117, .aload_n 2, 1), (1118, .invokevirtual 202, 3), (1121, .if_icmp .eq 1503, 3), (1124, .iconst 0, 1), (1125, .ireturn, 1), (1126, .aload_n 1, 1), (1127, .invokevirtual 203, 3), (1130, .aload_n 2, 1), (1131, .invokevirtual 206, 3), (1134, .if_icmp .eq 1490, 3), (1137, .iconst 0, 1), (1138, .ireturn, 1), (1139, .aload_n 1, 1), (1140, .invokevirtual 207, 3), (1143, .aload_n 2, 1), (1144, .invokevirtual 210, 3), (1147, .if_icmp .eq 1477, 3), (1150, .iconst 0, 1), (1151, .ireturn, 1), (1152, .aload_n 1, 1), (1153, .aload_n 0, 1), (1154, .iload 5, 2), (1156, .iconst 1, 1), (1157, .iadd, 1), (1158, .iaload, 1), (1159, .aload_n 0, 1), (1160, .iload 5, 2), (1162, .iconst 2, 1), (1163, .iadd, 1), (1164, .iaload, 1), (1165, .aload_n 3, 1), (1166, .invokestatic 211, 3), (1169, .istore 6, 2)]
theorem tbL_law_13_k : dc_T cL_law tbL_law_13 = true := by decide +kernel
abbrev tbL_law_14 : List (Nat × Instr × Nat) := [(1171, .aload_n 2, 1), (1172, .aload_n 0, 1), (1173, .iload 5, 2), (1175, .iconst 1, 1), (1176, .iadd, 1), (1177, .iaload, 1), (1178, .aload_n 0, 1), (1179, .iload 5, 2), (1181, .iconst 2, 1), (1182, .iadd, 1), (1183, .iaload, 1), (1184, .invokevirtual 213, 3), (1187, .istore 7, 2), (1189, .aload_n 2, 1), (1190, .invokevirtual 119, 3), (1193, .iload 6, 2), (1195, .if_icmp .eq 5, 3), (1198, .iconst 0, 1), (1199, .ireturn, 1), (1200, .iload 6, 2), (1202, .ifCond .ne 15, 3), (1205, .aload_n 3, 1), (1206, .iconst 0, 1), (1207, .laload, 1), (1208, .iload 7, 2), (1210, .i2l, 1), (1211, .lcmp, 1), (1212, .ifCond .eq 5, 3), (1215, .iconst 0, 1), (1216, .ireturn, 1), (1217, .goto 1407, 3), (1220, .aload_n 1, 1), (1221, .invokevirtual 214, 3), (1224, .aload_n 2, 1), (1225, .invokevirtual 217, 3), (1228, .if_icmp .eq 1396, 3), (1231, .iconst 0, 1), (1232, .ireturn, 1), (1233, .aload_n 1, 1), (1234, .aload_n 0, 1)]
theorem tbL_law_14_k : dc_T cL_law tbL_law_14 = true := by decide +kernel
abbrev tbL_law_15 : List (Nat × Instr × Nat) := [(1235, .iload 5, 2), (1237, .iconst 1, 1), (1238, .iadd, 1), (1239, .iaload, 1), (1240, .aload_n 0, 1), (1241, .iload 5, 2), (1243, .iconst 2, 1), (1244, .iadd, 1), (1245, .iaload, 1), (1246, .aload_n 3, 1), (1247, .invokestatic 218, 3), (1250, .istore 6, 2), (1252, .aload_n 2, 1), (1253, .aload_n 0, 1), (1254, .iload 5, 2), (1256, .iconst 1, 1), (1257, .iadd, 1), (1258, .iaload, 1), (1259, .aload_n 0, 1), (1260, .iload 5, 2), (1262, .iconst 2, 1), (1263, .iadd, 1), (1264, .iaload, 1), (1265, .invokevirtual 220, 3), (1268, .istore 7, 2), (1270, .aload_n 2, 1), (1271, .invokevirtual 119, 3), (1274, .iload 6, 2), (1276, .if_icmp .eq 5, 3), (1279, .iconst 0, 1), (1280, .ireturn, 1), (1281, .iload 6, 2), (1283, .ifCond .ne 15, 3), (1286, .aload_n 3, 1), (1287, .iconst 0, 1), (1288, .laload, 1), (1289, .iload 7, 2), (1291, .i2l, 1), (1292, .lcmp, 1), (1293, .ifCond .eq 5, 3)]
theorem tbL_law_15_k : dc_T cL_law tbL_law_15 = true := by decide +kernel
abbrev tbL_law_16 : List (Nat × Instr × Nat) := [(1296, .iconst 0, 1), (1297, .ireturn, 1), (1298, .goto 1326, 3), (1301, .aload_n 1, 1), (1302, .aload_n 0, 1), (1303, .iload 5, 2), (1305, .iconst 1, 1), (1306, .iadd, 1), (1307, .iaload, 1), (1308, .aload_n 0, 1), (1309, .iload 5, 2), (1311, .iconst 2, 1), (1312, .iadd, 1), (1313, .iaload, 1), (1314, .aload_n 3, 1), (1315, .invokestatic 221, 3), (1318, .istore 6, 2), (1320, .aload_n 2, 1), (1321, .aload_n 0, 1), (1322, .iload 5, 2), (1324, .iconst 1, 1), (1325, .iadd, 1), (1326, .iaload, 1), (1327, .aload_n 0, 1), (1328, .iload 5, 2), (1330, .iconst 2, 1), (1331, .iadd, 1), (1332, .iaload, 1), (1333, .invokevirtual 223, 3), (1336, .istore 7, 2), (1338, .aload_n 2, 1), (1339, .invokevirtual 119, 3), (1342, .iload 6, 2), (1344, .if_icmp .eq 5, 3), (1347, .iconst 0, 1), (1348, .ireturn, 1), (1349, .iload 6, 2), (1351, .ifCond .ne 15, 3), (1354, .aload_n 3, 1), (1355, .iconst 0, 1)]
theorem tbL_law_16_k : dc_T cL_law tbL_law_16 = true := by decide +kernel
abbrev tbL_law_17 : List (Nat × Instr × Nat) := [(1356, .laload, 1), (1357, .iload 7, 2), (1359, .i2l, 1), (1360, .lcmp, 1), (1361, .ifCond .eq 5, 3), (1364, .iconst 0, 1), (1365, .ireturn, 1), (1366, .goto 1258, 3), (1369, .aload_n 1, 1), (1370, .aload_n 0, 1), (1371, .iload 5, 2), (1373, .iconst 1, 1), (1374, .iadd, 1), (1375, .iaload, 1), (1376, .aload_n 0, 1), (1377, .iload 5, 2), (1379, .iconst 2, 1), (1380, .iadd, 1), (1381, .iaload, 1), (1382, .aload_n 0, 1), (1383, .iload 5, 2), (1385, .iconst 3, 1), (1386, .iadd, 1), (1387, .iaload, 1), (1388, .aload_n 0, 1), (1389, .iload 5, 2), (1391, .iconst 4, 1), (1392, .iadd, 1), (1393, .iaload, 1), (1394, .aload_n 3, 1), (1395, .invokestatic 224, 3), (1398, .istore 6, 2), (1400, .aload_n 2, 1), (1401, .aload_n 0, 1), (1402, .iload 5, 2), (1404, .iconst 1, 1), (1405, .iadd, 1), (1406, .iaload, 1), (1407, .aload_n 0, 1), (1408, .iload 5, 2)]
theorem tbL_law_17_k : dc_T cL_law tbL_law_17 = true := by decide +kernel
abbrev tbL_law_18 : List (Nat × Instr × Nat) := [(1410, .iconst 2, 1), (1411, .iadd, 1), (1412, .iaload, 1), (1413, .aload_n 0, 1), (1414, .iload 5, 2), (1416, .iconst 3, 1), (1417, .iadd, 1), (1418, .iaload, 1), (1419, .aload_n 0, 1), (1420, .iload 5, 2), (1422, .iconst 4, 1), (1423, .iadd, 1), (1424, .iaload, 1), (1425, .invokevirtual 227, 3), (1428, .istore 7, 2), (1430, .aload_n 2, 1), (1431, .invokevirtual 119, 3), (1434, .iload 6, 2), (1436, .if_icmp .eq 5, 3), (1439, .iconst 0, 1), (1440, .ireturn, 1), (1441, .iload 6, 2), (1443, .ifCond .ne 15, 3), (1446, .aload_n 3, 1), (1447, .iconst 0, 1), (1448, .laload, 1), (1449, .iload 7, 2), (1451, .i2l, 1), (1452, .lcmp, 1), (1453, .ifCond .eq 5, 3), (1456, .iconst 0, 1), (1457, .ireturn, 1), (1458, .goto 1166, 3), (1461, .aload_n 1, 1), (1462, .aload_n 0, 1), (1463, .iload 5, 2), (1465, .iconst 1, 1), (1466, .iadd, 1), (1467, .iaload, 1), (1468, .aload_n 0, 1)]
theorem tbL_law_18_k : dc_T cL_law tbL_law_18 = true := by decide +kernel
abbrev tbL_law_19 : List (Nat × Instr × Nat) := [(1469, .iload 5, 2), (1471, .iconst 2, 1), (1472, .iadd, 1), (1473, .iaload, 1), (1474, .aload_n 3, 1), (1475, .invokestatic 228, 3), (1478, .istore 6, 2), (1480, .aload_n 2, 1), (1481, .aload_n 0, 1), (1482, .iload 5, 2), (1484, .iconst 1, 1), (1485, .iadd, 1), (1486, .iaload, 1), (1487, .aload_n 0, 1), (1488, .iload 5, 2), (1490, .iconst 2, 1), (1491, .iadd, 1), (1492, .iaload, 1), (1493, .invokevirtual 230, 3), (1496, .istore 7, 2), (1498, .aload_n 2, 1), (1499, .invokevirtual 119, 3), (1502, .iload 6, 2), (1504, .if_icmp .eq 5, 3), (1507, .iconst 0, 1), (1508, .ireturn, 1), (1509, .iload 6, 2), (1511, .ifCond .ne 15, 3), (1514, .aload_n 3, 1), (1515, .iconst 0, 1), (1516, .laload, 1), (1517, .iload 7, 2), (1519, .i2l, 1), (1520, .lcmp, 1), (1521, .ifCond .eq 5, 3), (1524, .iconst 0, 1), (1525, .ireturn, 1), (1526, .goto 1098, 3), (1529, .aload_n 1, 1), (1530, .aload_n 0, 1)]
theorem tbL_law_19_k : dc_T cL_law tbL_law_19 = true := by decide +kernel
abbrev tbL_law_20 : List (Nat × Instr × Nat) := [(1531, .iload 5, 2), (1533, .iconst 1, 1), (1534, .iadd, 1), (1535, .iaload, 1), (1536, .aload_n 0, 1), (1537, .iload 5, 2), (1539, .iconst 2, 1), (1540, .iadd, 1), (1541, .iaload, 1), (1542, .aload_n 3, 1), (1543, .invokestatic 231, 3), (1546, .istore 6, 2), (1548, .aload_n 2, 1), (1549, .aload_n 0, 1), (1550, .iload 5, 2), (1552, .iconst 1, 1), (1553, .iadd, 1), (1554, .iaload, 1), (1555, .aload_n 0, 1), (1556, .iload 5, 2), (1558, .iconst 2, 1), (1559, .iadd, 1), (1560, .iaload, 1), (1561, .invokevirtual 233, 3), (1564, .istore 7, 2), (1566, .aload_n 2, 1), (1567, .invokevirtual 119, 3), (1570, .iload 6, 2), (1572, .if_icmp .eq 5, 3), (1575, .iconst 0, 1), (1576, .ireturn, 1), (1577, .iload 6, 2), (1579, .ifCond .ne 15, 3), (1582, .aload_n 3, 1), (1583, .iconst 0, 1), (1584, .laload, 1), (1585, .iload 7, 2), (1587, .i2l, 1), (1588, .lcmp, 1), (1589, .ifCond .eq 5, 3)]
theorem tbL_law_20_k : dc_T cL_law tbL_law_20 = true := by decide +kernel
abbrev tbL_law_21 : List (Nat × Instr × Nat) := [(1592, .iconst 0, 1), (1593, .ireturn, 1), (1594, .goto 1030, 3), (1597, .aload_n 1, 1), (1598, .aload_n 0, 1), (1599, .iload 5, 2), (1601, .iconst 1, 1), (1602, .iadd, 1), (1603, .iaload, 1), (1604, .aload_n 3, 1), (1605, .invokestatic 234, 3), (1608, .istore 6, 2), (1610, .aload_n 2, 1), (1611, .aload_n 0, 1), (1612, .iload 5, 2), (1614, .iconst 1, 1), (1615, .iadd, 1), (1616, .iaload, 1), (1617, .invokevirtual 236, 3), (1620, .istore 7, 2), (1622, .aload_n 2, 1), (1623, .invokevirtual 119, 3), (1626, .iload 6, 2), (1628, .if_icmp .eq 5, 3), (1631, .iconst 0, 1), (1632, .ireturn, 1), (1633, .iload 6, 2), (1635, .ifCond .ne 15, 3), (1638, .aload_n 3, 1), (1639, .iconst 0, 1), (1640, .laload, 1), (1641, .iload 7, 2), (1643, .i2l, 1), (1644, .lcmp, 1), (1645, .ifCond .eq 5, 3), (1648, .iconst 0, 1), (1649, .ireturn, 1), (1650, .goto 974, 3), (1653, .aload_n 1, 1), (1654, .invokevirtual 237, 3)]
theorem tbL_law_21_k : dc_T cL_law tbL_law_21 = true := by decide +kernel
abbrev tbL_law_22 : List (Nat × Instr × Nat) := [(1657, .aload_n 2, 1), (1658, .invokevirtual 240, 3), (1661, .if_icmp .eq 963, 3), (1664, .iconst 0, 1), (1665, .ireturn, 1), (1666, .aload_n 1, 1), (1667, .invokevirtual 241, 3), (1670, .aload_n 2, 1), (1671, .invokevirtual 244, 3), (1674, .if_icmp .eq 950, 3), (1677, .iconst 0, 1), (1678, .ireturn, 1), (1679, .aload_n 1, 1), (1680, .aload_n 0, 1), (1681, .iload 5, 2), (1683, .iconst 1, 1), (1684, .iadd, 1), (1685, .iaload, 1), (1686, .aload_n 0, 1), (1687, .iload 5, 2), (1689, .iconst 2, 1), (1690, .iadd, 1), (1691, .iaload, 1), (1692, .aload_n 3, 1), (1693, .invokestatic 245, 3), (1696, .istore 6, 2), (1698, .aload_n 2, 1), (1699, .aload_n 0, 1), (1700, .iload 5, 2), (1702, .iconst 1, 1), (1703, .iadd, 1), (1704, .iaload, 1), (1705, .aload_n 0, 1), (1706, .iload 5, 2), (1708, .iconst 2, 1), (1709, .iadd, 1), (1710, .iaload, 1), (1711, .invokevirtual 247, 3), (1714, .istore 7, 2), (1716, .aload_n 2, 1)]
theorem tbL_law_22_k : dc_T cL_law tbL_law_22 = true := by decide +kernel
abbrev tbL_law_23 : List (Nat × Instr × Nat) := [(1717, .invokevirtual 119, 3), (1720, .iload 6, 2), (1722, .if_icmp .eq 5, 3), (1725, .iconst 0, 1), (1726, .ireturn, 1), (1727, .iload 6, 2), (1729, .ifCond .ne 15, 3), (1732, .aload_n 3, 1), (1733, .iconst 0, 1), (1734, .laload, 1), (1735, .iload 7, 2), (1737, .i2l, 1), (1738, .lcmp, 1), (1739, .ifCond .eq 5, 3), (1742, .iconst 0, 1), (1743, .ireturn, 1), (1744, .goto 880, 3), (1747, .aload_n 1, 1), (1748, .invokevirtual 248, 3), (1751, .aload_n 2, 1), (1752, .invokevirtual 252, 3), (1755, .lcmp, 1), (1756, .ifCond .eq 868, 3), (1759, .iconst 0, 1), (1760, .ireturn, 1), (1761, .aload_n 1, 1), (1762, .invokevirtual 253, 3), (1765, .aload_n 2, 1), (1766, .invokevirtual 256, 3), (1769, .if_icmp .eq 855, 3), (1772, .iconst 0, 1), (1773, .ireturn, 1), (1774, .aload_n 1, 1), (1775, .invokevirtual 257, 3), (1778, .aload_n 2, 1), (1779, .invokevirtual 260, 3), (1782, .if_icmp .eq 842, 3), (1785, .iconst 0, 1), (1786, .ireturn, 1), (1787, .aload_n 1, 1)]
theorem tbL_law_23_k : dc_T cL_law tbL_law_23 = true := by decide +kernel
abbrev tbL_law_24 : List (Nat × Instr × Nat) := [(1788, .aload_n 0, 1), (1789, .iload 5, 2), (1791, .iconst 1, 1), (1792, .iadd, 1), (1793, .iaload, 1), (1794, .aload_n 3, 1), (1795, .invokestatic 261, 3), (1798, .istore 6, 2), (1800, .aload_n 2, 1), (1801, .aload_n 0, 1), (1802, .iload 5, 2), (1804, .iconst 1, 1), (1805, .iadd, 1), (1806, .iaload, 1), (1807, .invokevirtual 263, 3), (1810, .istore 7, 2), (1812, .aload_n 2, 1), (1813, .invokevirtual 119, 3), (1816, .iload 6, 2), (1818, .if_icmp .eq 5, 3), (1821, .iconst 0, 1), (1822, .ireturn, 1), (1823, .iload 6, 2), (1825, .ifCond .ne 15, 3), (1828, .aload_n 3, 1), (1829, .iconst 0, 1), (1830, .laload, 1), (1831, .iload 7, 2), (1833, .i2l, 1), (1834, .lcmp, 1), (1835, .ifCond .eq 5, 3), (1838, .iconst 0, 1), (1839, .ireturn, 1), (1840, .goto 784, 3), (1843, .aload_n 1, 1), (1844, .invokevirtual 264, 3), (1847, .aload_n 2, 1), (1848, .invokevirtual 267, 3), (1851, .if_icmp .eq 773, 3), (1854, .iconst 0, 1)]
theorem tbL_law_24_k : dc_T cL_law tbL_law_24 = true := by decide +kernel
abbrev tbL_law_25 : List (Nat × Instr × Nat) := [(1855, .ireturn, 1), (1856, .aload_n 1, 1), (1857, .aload_n 0, 1), (1858, .iload 5, 2), (1860, .iconst 1, 1), (1861, .iadd, 1), (1862, .iaload, 1), (1863, .aload_n 0, 1), (1864, .iload 5, 2), (1866, .iconst 2, 1), (1867, .iadd, 1), (1868, .iaload, 1), (1869, .aload_n 3, 1), (1870, .invokestatic 268, 3), (1873, .istore 6, 2), (1875, .aload_n 2, 1), (1876, .aload_n 0, 1), (1877, .iload 5, 2), (1879, .iconst 1, 1), (1880, .iadd, 1), (1881, .iaload, 1), (1882, .aload_n 0, 1), (1883, .iload 5, 2), (1885, .iconst 2, 1), (1886, .iadd, 1), (1887, .iaload, 1), (1888, .invokevirtual 270, 3), (1891, .lstore 7, 2), (1893, .aload_n 2, 1), (1894, .invokevirtual 119, 3), (1897, .iload 6, 2), (1899, .if_icmp .eq 5, 3), (1902, .iconst 0, 1), (1903, .ireturn, 1), (1904, .iload 6, 2), (1906, .ifCond .ne 14, 3), (1909, .aload_n 3, 1), (1910, .iconst 0, 1), (1911, .laload, 1), (1912, .lload 7, 2)]
theorem tbL_law_25_k : dc_T cL_law tbL_law_25 = true := by decide +kernel
abbrev tbL_law_26 : List (Nat × Instr × Nat) := [(1914, .lcmp, 1), (1915, .ifCond .eq 5, 3), (1918, .iconst 0, 1), (1919, .ireturn, 1), (1920, .goto 704, 3), (1923, .aload_n 1, 1), (1924, .invokevirtual 271, 3), (1927, .aload_n 2, 1), (1928, .invokevirtual 274, 3), (1931, .if_icmp .eq 693, 3), (1934, .iconst 0, 1), (1935, .ireturn, 1), (1936, .aload_n 1, 1), (1937, .invokevirtual 275, 3), (1940, .aload_n 2, 1), (1941, .invokevirtual 278, 3), (1944, .if_icmp .eq 680, 3), (1947, .iconst 0, 1), (1948, .ireturn, 1), (1949, .aload_n 1, 1), (1950, .invokevirtual 279, 3), (1953, .aload_n 2, 1), (1954, .invokevirtual 282, 3), (1957, .if_icmp .eq 667, 3), (1960, .iconst 0, 1), (1961, .ireturn, 1), (1962, .aload_n 1, 1), (1963, .aload_n 0, 1), (1964, .iload 5, 2), (1966, .iconst 1, 1), (1967, .iadd, 1), (1968, .iaload, 1), (1969, .aload_n 3, 1), (1970, .invokestatic 283, 3), (1973, .istore 6, 2), (1975, .aload_n 2, 1), (1976, .aload_n 0, 1), (1977, .iload 5, 2), (1979, .iconst 1, 1), (1980, .iadd, 1)]
theorem tbL_law_26_k : dc_T cL_law tbL_law_26 = true := by decide +kernel
abbrev tbL_law_27 : List (Nat × Instr × Nat) := [(1981, .iaload, 1), (1982, .invokevirtual 285, 3), (1985, .istore 7, 2), (1987, .aload_n 2, 1), (1988, .invokevirtual 119, 3), (1991, .iload 6, 2), (1993, .if_icmp .eq 5, 3), (1996, .iconst 0, 1), (1997, .ireturn, 1), (1998, .iload 6, 2), (2000, .ifCond .ne 15, 3), (2003, .aload_n 3, 1), (2004, .iconst 0, 1), (2005, .laload, 1), (2006, .iload 7, 2), (2008, .i2l, 1), (2009, .lcmp, 1), (2010, .ifCond .eq 5, 3), (2013, .iconst 0, 1), (2014, .ireturn, 1), (2015, .goto 609, 3), (2018, .aload_n 1, 1), (2019, .aload_n 0, 1), (2020, .iload 5, 2), (2022, .iconst 1, 1), (2023, .iadd, 1), (2024, .iaload, 1), (2025, .aload_n 0, 1), (2026, .iload 5, 2), (2028, .iconst 2, 1), (2029, .iadd, 1), (2030, .iaload, 1), (2031, .aload_n 3, 1), (2032, .invokestatic 286, 3), (2035, .istore 6, 2), (2037, .aload_n 2, 1), (2038, .aload_n 0, 1), (2039, .iload 5, 2), (2041, .iconst 1, 1), (2042, .iadd, 1)]
theorem tbL_law_27_k : dc_T cL_law tbL_law_27 = true := by decide +kernel
abbrev tbL_law_28 : List (Nat × Instr × Nat) := [(2043, .iaload, 1), (2044, .aload_n 0, 1), (2045, .iload 5, 2), (2047, .iconst 2, 1), (2048, .iadd, 1), (2049, .iaload, 1), (2050, .invokevirtual 288, 3), (2053, .istore 7, 2), (2055, .aload_n 2, 1), (2056, .invokevirtual 119, 3), (2059, .iload 6, 2), (2061, .if_icmp .eq 5, 3), (2064, .iconst 0, 1), (2065, .ireturn, 1), (2066, .iload 6, 2), (2068, .ifCond .ne 15, 3), (2071, .aload_n 3, 1), (2072, .iconst 0, 1), (2073, .laload, 1), (2074, .iload 7, 2), (2076, .i2l, 1), (2077, .lcmp, 1), (2078, .ifCond .eq 5, 3), (2081, .iconst 0, 1), (2082, .ireturn, 1), (2083, .goto 541, 3), (2086, .aload_n 1, 1), (2087, .aload_n 3, 1), (2088, .invokestatic 289, 3), (2091, .istore 6, 2), (2093, .aload_n 2, 1), (2094, .invokevirtual 292, 3), (2097, .istore 7, 2), (2099, .aload_n 2, 1), (2100, .invokevirtual 119, 3), (2103, .iload 6, 2), (2105, .if_icmp .eq 5, 3), (2108, .iconst 0, 1), (2109, .ireturn, 1), (2110, .iload 6, 2)]
theorem tbL_law_28_k : dc_T cL_law tbL_law_28 = true := by decide +kernel
abbrev tbL_law_29 : List (Nat × Instr × Nat) := [(2112, .ifCond .ne 15, 3), (2115, .aload_n 3, 1), (2116, .iconst 0, 1), (2117, .laload, 1), (2118, .iload 7, 2), (2120, .i2l, 1), (2121, .lcmp, 1), (2122, .ifCond .eq 5, 3), (2125, .iconst 0, 1), (2126, .ireturn, 1), (2127, .goto 497, 3), (2130, .aload_n 1, 1), (2131, .invokevirtual 293, 3), (2134, .aload_n 2, 1), (2135, .invokevirtual 296, 3), (2138, .if_icmp .eq 486, 3), (2141, .iconst 0, 1), (2142, .ireturn, 1), (2143, .aload_n 1, 1), (2144, .aload_n 0, 1), (2145, .iload 5, 2), (2147, .iconst 1, 1), (2148, .iadd, 1), (2149, .iaload, 1), (2150, .aload_n 0, 1), (2151, .iload 5, 2), (2153, .iconst 2, 1), (2154, .iadd, 1), (2155, .iaload, 1), (2156, .aload_n 3, 1), (2157, .invokestatic 297, 3), (2160, .istore 6, 2), (2162, .aload_n 2, 1), (2163, .aload_n 0, 1), (2164, .iload 5, 2), (2166, .iconst 1, 1), (2167, .iadd, 1), (2168, .iaload, 1), (2169, .aload_n 0, 1), (2170, .iload 5, 2)]
theorem tbL_law_29_k : dc_T cL_law tbL_law_29 = true := by decide +kernel
abbrev tbL_law_30 : List (Nat × Instr × Nat) := [(2172, .iconst 2, 1), (2173, .iadd, 1), (2174, .iaload, 1), (2175, .invokevirtual 299, 3), (2178, .istore 7, 2), (2180, .aload_n 2, 1), (2181, .invokevirtual 119, 3), (2184, .iload 6, 2), (2186, .if_icmp .eq 5, 3), (2189, .iconst 0, 1), (2190, .ireturn, 1), (2191, .iload 6, 2), (2193, .ifCond .ne 15, 3), (2196, .aload_n 3, 1), (2197, .iconst 0, 1), (2198, .laload, 1), (2199, .iload 7, 2), (2201, .i2l, 1), (2202, .lcmp, 1), (2203, .ifCond .eq 5, 3), (2206, .iconst 0, 1), (2207, .ireturn, 1), (2208, .goto 416, 3), (2211, .aload_n 1, 1), (2212, .aload_n 0, 1), (2213, .iload 5, 2), (2215, .iconst 1, 1), (2216, .iadd, 1), (2217, .iaload, 1), (2218, .aload_n 0, 1), (2219, .iload 5, 2), (2221, .iconst 2, 1), (2222, .iadd, 1), (2223, .iaload, 1), (2224, .ifCond .eq 7, 3), (2227, .iconst 1, 1), (2228, .goto 4, 3), (2231, .iconst 0, 1), (2232, .aload_n 3, 1), (2233, .invokestatic 300, 3)]
theorem tbL_law_30_k : dc_T cL_law tbL_law_30 = true := by decide +kernel
abbrev tbL_law_31 : List (Nat × Instr × Nat) := [(2236, .istore 6, 2), (2238, .aload_n 2, 1), (2239, .aload_n 0, 1), (2240, .iload 5, 2), (2242, .iconst 1, 1), (2243, .iadd, 1), (2244, .iaload, 1), (2245, .aload_n 0, 1), (2246, .iload 5, 2), (2248, .iconst 2, 1), (2249, .iadd, 1), (2250, .iaload, 1), (2251, .ifCond .eq 7, 3), (2254, .iconst 1, 1), (2255, .goto 4, 3), (2258, .iconst 0, 1), (2259, .invokevirtual 303, 3), (2262, .istore 7, 2), (2264, .aload_n 2, 1), (2265, .invokevirtual 119, 3), (2268, .iload 6, 2), (2270, .if_icmp .eq 5, 3), (2273, .iconst 0, 1), (2274, .ireturn, 1), (2275, .iload 6, 2), (2277, .ifCond .ne 22, 3), (2280, .aload_n 3, 1), (2281, .iconst 0, 1), (2282, .laload, 1), (2283, .iload 7, 2), (2285, .ifCond .eq 7, 3), (2288, .lconst 1, 1), (2289, .goto 4, 3), (2292, .lconst 0, 1), (2293, .lcmp, 1), (2294, .ifCond .eq 5, 3), (2297, .iconst 0, 1), (2298, .ireturn, 1), (2299, .goto 325, 3), (2302, .aload_n 1, 1)]
theorem tbL_law_31_k : dc_T cL_law tbL_law_31 = true := by decide +kernel
abbrev tbL_law_32 : List (Nat × Instr × Nat) := [(2303, .aload_n 0, 1), (2304, .iload 5, 2), (2306, .iconst 1, 1), (2307, .iadd, 1), (2308, .iaload, 1), (2309, .aload_n 0, 1), (2310, .iload 5, 2), (2312, .iconst 2, 1), (2313, .iadd, 1), (2314, .iaload, 1), (2315, .aload_n 0, 1), (2316, .iload 5, 2), (2318, .iconst 3, 1), (2319, .iadd, 1), (2320, .iaload, 1), (2321, .aload_n 3, 1), (2322, .invokestatic 304, 3), (2325, .istore 6, 2), (2327, .aload_n 2, 1), (2328, .aload_n 0, 1), (2329, .iload 5, 2), (2331, .iconst 1, 1), (2332, .iadd, 1), (2333, .iaload, 1), (2334, .aload_n 0, 1), (2335, .iload 5, 2), (2337, .iconst 2, 1), (2338, .iadd, 1), (2339, .iaload, 1), (2340, .aload_n 0, 1), (2341, .iload 5, 2), (2343, .iconst 3, 1), (2344, .iadd, 1), (2345, .iaload, 1), (2346, .invokevirtual 307, 3), (2349, .istore 7, 2), (2351, .aload_n 2, 1), (2352, .invokevirtual 119, 3), (2355, .iload 6, 2), (2357, .if_icmp .eq 5, 3)]
theorem tbL_law_32_k : dc_T cL_law tbL_law_32 = true := by decide +kernel
abbrev tbL_law_33 : List (Nat × Instr × Nat) := [(2360, .iconst 0, 1), (2361, .ireturn, 1), (2362, .iload 6, 2), (2364, .ifCond .ne 15, 3), (2367, .aload_n 3, 1), (2368, .iconst 0, 1), (2369, .laload, 1), (2370, .iload 7, 2), (2372, .i2l, 1), (2373, .lcmp, 1), (2374, .ifCond .eq 5, 3), (2377, .iconst 0, 1), (2378, .ireturn, 1), (2379, .goto 245, 3), (2382, .aload_n 1, 1), (2383, .aload_n 0, 1), (2384, .iload 5, 2), (2386, .iconst 1, 1), (2387, .iadd, 1), (2388, .iaload, 1), (2389, .aload_n 0, 1), (2390, .iload 5, 2), (2392, .iconst 2, 1), (2393, .iadd, 1), (2394, .iaload, 1), (2395, .aload_n 0, 1), (2396, .iload 5, 2), (2398, .iconst 3, 1), (2399, .iadd, 1), (2400, .iaload, 1), (2401, .aload_n 3, 1), (2402, .invokestatic 308, 3), (2405, .istore 6, 2), (2407, .aload_n 2, 1), (2408, .aload_n 0, 1), (2409, .iload 5, 2), (2411, .iconst 1, 1), (2412, .iadd, 1), (2413, .iaload, 1), (2414, .aload_n 0, 1)]
theorem tbL_law_33_k : dc_T cL_law tbL_law_33 = true := by decide +kernel
abbrev tbL_law_34 : List (Nat × Instr × Nat) := [(2415, .iload 5, 2), (2417, .iconst 2, 1), (2418, .iadd, 1), (2419, .iaload, 1), (2420, .aload_n 0, 1), (2421, .iload 5, 2), (2423, .iconst 3, 1), (2424, .iadd, 1), (2425, .iaload, 1), (2426, .invokevirtual 310, 3), (2429, .istore 7, 2), (2431, .aload_n 2, 1), (2432, .invokevirtual 119, 3), (2435, .iload 6, 2), (2437, .if_icmp .eq 5, 3), (2440, .iconst 0, 1), (2441, .ireturn, 1), (2442, .iload 6, 2), (2444, .ifCond .ne 15, 3), (2447, .aload_n 3, 1), (2448, .iconst 0, 1), (2449, .laload, 1), (2450, .iload 7, 2), (2452, .i2l, 1), (2453, .lcmp, 1), (2454, .ifCond .eq 5, 3), (2457, .iconst 0, 1), (2458, .ireturn, 1), (2459, .goto 165, 3), (2462, .aload_n 1, 1), (2463, .aload_n 0, 1), (2464, .iload 5, 2), (2466, .iconst 1, 1), (2467, .iadd, 1), (2468, .iaload, 1), (2469, .aload_n 0, 1), (2470, .iload 5, 2), (2472, .iconst 2, 1), (2473, .iadd, 1), (2474, .iaload, 1)]
theorem tbL_law_34_k : dc_T cL_law tbL_law_34 = true := by decide +kernel
abbrev tbL_law_35 : List (Nat × Instr × Nat) := [(2475, .aload_n 0, 1), (2476, .iload 5, 2), (2478, .iconst 3, 1), (2479, .iadd, 1), (2480, .iaload, 1), (2481, .aload_n 3, 1), (2482, .invokestatic 311, 3), (2485, .istore 6, 2), (2487, .aload_n 2, 1), (2488, .aload_n 0, 1), (2489, .iload 5, 2), (2491, .iconst 1, 1), (2492, .iadd, 1), (2493, .iaload, 1), (2494, .aload_n 0, 1), (2495, .iload 5, 2), (2497, .iconst 2, 1), (2498, .iadd, 1), (2499, .iaload, 1), (2500, .aload_n 0, 1), (2501, .iload 5, 2), (2503, .iconst 3, 1), (2504, .iadd, 1), (2505, .iaload, 1), (2506, .invokevirtual 313, 3), (2509, .istore 7, 2), (2511, .aload_n 2, 1), (2512, .invokevirtual 119, 3), (2515, .iload 6, 2), (2517, .if_icmp .eq 5, 3), (2520, .iconst 0, 1), (2521, .ireturn, 1), (2522, .iload 6, 2), (2524, .ifCond .ne 15, 3), (2527, .aload_n 3, 1), (2528, .iconst 0, 1), (2529, .laload, 1), (2530, .iload 7, 2), (2532, .i2l, 1), (2533, .lcmp, 1)]
theorem tbL_law_35_k : dc_T cL_law tbL_law_35 = true := by decide +kernel
abbrev tbL_law_36 : List (Nat × Instr × Nat) := [(2534, .ifCond .eq 5, 3), (2537, .iconst 0, 1), (2538, .ireturn, 1), (2539, .goto 85, 3), (2542, .aload_n 1, 1), (2543, .invokevirtual 314, 3), (2546, .aload_n 2, 1), (2547, .invokevirtual 317, 3), (2550, .if_icmp .eq 74, 3), (2553, .iconst 0, 1), (2554, .ireturn, 1), (2555, .aload_n 1, 1), (2556, .invokevirtual 318, 3), (2559, .aload_n 2, 1), (2560, .invokevirtual 321, 3), (2563, .if_icmp .eq 61, 3), (2566, .iconst 0, 1), (2567, .ireturn, 1), (2568, .aload_n 1, 1), (2569, .aload_n 0, 1), (2570, .iload 5, 2), (2572, .iconst 1, 1), (2573, .iadd, 1), (2574, .iaload, 1), (2575, .aload_n 3, 1), (2576, .invokestatic 322, 3), (2579, .istore 6, 2), (2581, .aload_n 2, 1), (2582, .aload_n 0, 1), (2583, .iload 5, 2), (2585, .iconst 1, 1), (2586, .iadd, 1), (2587, .iaload, 1), (2588, .invokevirtual 324, 3), (2591, .istore 7, 2), (2593, .aload_n 2, 1), (2594, .invokevirtual 119, 3), (2597, .iload 6, 2), (2599, .if_icmp .eq 5, 3), (2602, .iconst 0, 1)]
theorem tbL_law_36_k : dc_T cL_law tbL_law_36 = true := by decide +kernel
abbrev tbL_law_37 : List (Nat × Instr × Nat) := [(2603, .ireturn, 1), (2604, .iload 6, 2), (2606, .ifCond .ne 15, 3), (2609, .aload_n 3, 1), (2610, .iconst 0, 1), (2611, .laload, 1), (2612, .iload 7, 2), (2614, .i2l, 1), (2615, .lcmp, 1), (2616, .ifCond .eq 5, 3), (2619, .iconst 0, 1), (2620, .ireturn, 1), (2621, .goto 3, 3), (2624, .iinc 5 6, 3), (2627, .goto (-2599), 3), (2630, .iconst 1, 1), (2631, .ireturn, 1)]
theorem tbL_law_37_k : dc_T cL_law tbL_law_37 = true := by decide +kernel
end
section
/-! the tables' words -/
def WA : List Cond := lw_tbl.filter goodWord
theorem wa_good : ∀ w ∈ WA, (w.onTables && w.keeps) = true ∨ ∃ ty, w = .arrayClass ty := fun _ h => good_of_word (List.mem_filter.mp h).2
theorem wa_in : GoodIn lw_tbl WA := fun w h => ⟨(List.mem_filter.mp h).1, wa_good w h⟩
theorem wa_q {t : List Cond} (h : ∀ w ∈ t, w ∈ lw_tbl) (i : Nat) {w : Cond} (hi : t[i]? = some w) (hg : goodWord w = true) : w ∈ WA := List.mem_filter.mpr ⟨h w (List.mem_of_getElem? hi), hg⟩
theorem wa_t {t : List Cond} (h : ∀ w ∈ t, w ∈ lw_tbl) (i : Nat) {w : Cond} (hi : t[i]? = some w) : w ∈ lw_tbl := h w (List.mem_of_getElem? hi)
theorem wa_f {ws : List Cond} (h : ∀ w ∈ ws, w ∈ WA) (l : List Cond) (hl : l = ws) : ∀ w ∈ l, w ∈ WA := hl ▸ h
theorem tbl_1 : ∀ w ∈ tables_1_1, w ∈ lw_tbl := fun w h => List.mem_append_right _ (List.mem_append_left _ h)
theorem tbl_2 : ∀ w ∈ tables_1_2, w ∈ lw_tbl := fun w h => List.mem_append_right _ (List.mem_append_right _ (List.mem_append_left _ h))
theorem tbl_3 : ∀ w ∈ tables_1_3, w ∈ lw_tbl := fun w h => List.mem_append_right _ (List.mem_append_right _ (List.mem_append_right _ (List.mem_append_left _ h)))
theorem tbl_4 : ∀ w ∈ tables_1_4, w ∈ lw_tbl := fun w h => List.mem_append_right _ (List.mem_append_right _ (List.mem_append_right _ (List.mem_append_right _ (List.mem_append_left _ h))))
theorem tbl_5 : ∀ w ∈ tables_1_5, w ∈ lw_tbl := fun w h => List.mem_append_right _ (List.mem_append_right _ (List.mem_append_right _ (List.mem_append_right _ (List.mem_append_right _ (List.mem_append_left _ h)))))
theorem tbl_6 : ∀ w ∈ tables_1_6, w ∈ lw_tbl := fun w h => List.mem_append_right _ (List.mem_append_right _ (List.mem_append_right _ (List.mem_append_right _ (List.mem_append_right _ (List.mem_append_right _ (List.mem_append_left _ h))))))
theorem tbl_7 : ∀ w ∈ tables_1_7, w ∈ lw_tbl := fun w h => List.mem_append_right _ (List.mem_append_right _ (List.mem_append_right _ (List.mem_append_right _ (List.mem_append_right _ (List.mem_append_right _ (List.mem_append_right _ (List.mem_append_left _ h)))))))
theorem tbl_8 : ∀ w ∈ tables_1_8, w ∈ lw_tbl := fun w h => List.mem_append_right _ (List.mem_append_right _ (List.mem_append_right _ (List.mem_append_right _ (List.mem_append_right _ (List.mem_append_right _ (List.mem_append_right _ (List.mem_append_right _ (List.mem_append_left _ h))))))))
theorem tbl_9 : ∀ w ∈ tables_1_9, w ∈ lw_tbl := fun w h => List.mem_append_right _ (List.mem_append_right _ (List.mem_append_right _ (List.mem_append_right _ (List.mem_append_right _ (List.mem_append_right _ (List.mem_append_right _ (List.mem_append_right _ (List.mem_append_right _ (List.mem_append_left _ h)))))))))
theorem tbl_10 : ∀ w ∈ tables_1_10, w ∈ lw_tbl := fun w h => List.mem_append_right _ (List.mem_append_right _ (List.mem_append_right _ (List.mem_append_right _ (List.mem_append_right _ (List.mem_append_right _ (List.mem_append_right _ (List.mem_append_right _ (List.mem_append_right _ (List.mem_append_right _ (h))))))))))
abbrev sel_1 : List Cond := k2_sels lw_privs_1
theorem sel_1_k : ∀ w ∈ sel_1, w ∈ lw_tbl := fun w h => List.mem_append_left _ (by obtain ⟨q, hq, rfl⟩ := List.mem_map.mp h; exact List.mem_map.mpr ⟨q, (fun h => List.mem_append_left _ h) hq, rfl⟩)
abbrev sel_2 : List Cond := k2_sels lw_privs_2
theorem sel_2_k : ∀ w ∈ sel_2, w ∈ lw_tbl := fun w h => List.mem_append_left _ (by obtain ⟨q, hq, rfl⟩ := List.mem_map.mp h; exact List.mem_map.mpr ⟨q, (fun h => List.mem_append_right _ (List.mem_append_left _ h)) hq, rfl⟩)
abbrev sel_3 : List Cond := k2_sels lw_privs_3
theorem sel_3_k : ∀ w ∈ sel_3, w ∈ lw_tbl := fun w h => List.mem_append_left _ (by obtain ⟨q, hq, rfl⟩ := List.mem_map.mp h; exact List.mem_map.mpr ⟨q, (fun h => List.mem_append_right _ (List.mem_append_right _ (List.mem_append_left _ h))) hq, rfl⟩)
abbrev sel_4 : List Cond := k2_sels lw_privs_4
theorem sel_4_k : ∀ w ∈ sel_4, w ∈ lw_tbl := fun w h => List.mem_append_left _ (by obtain ⟨q, hq, rfl⟩ := List.mem_map.mp h; exact List.mem_map.mpr ⟨q, (fun h => List.mem_append_right _ (List.mem_append_right _ (List.mem_append_right _ (List.mem_append_left _ h)))) hq, rfl⟩)
abbrev sel_5 : List Cond := k2_sels lw_privs_5
theorem sel_5_k : ∀ w ∈ sel_5, w ∈ lw_tbl := fun w h => List.mem_append_left _ (by obtain ⟨q, hq, rfl⟩ := List.mem_map.mp h; exact List.mem_map.mpr ⟨q, (fun h => List.mem_append_right _ (List.mem_append_right _ (List.mem_append_right _ (List.mem_append_right _ (List.mem_append_left _ h))))) hq, rfl⟩)
abbrev sel_6 : List Cond := k2_sels lw_privs_6
theorem sel_6_k : ∀ w ∈ sel_6, w ∈ lw_tbl := fun w h => List.mem_append_left _ (by obtain ⟨q, hq, rfl⟩ := List.mem_map.mp h; exact List.mem_map.mpr ⟨q, (fun h => List.mem_append_right _ (List.mem_append_right _ (List.mem_append_right _ (List.mem_append_right _ (List.mem_append_right _ (List.mem_append_left _ h)))))) hq, rfl⟩)
abbrev sel_7 : List Cond := k2_sels lw_privs_7
theorem sel_7_k : ∀ w ∈ sel_7, w ∈ lw_tbl := fun w h => List.mem_append_left _ (by obtain ⟨q, hq, rfl⟩ := List.mem_map.mp h; exact List.mem_map.mpr ⟨q, (fun h => List.mem_append_right _ (List.mem_append_right _ (List.mem_append_right _ (List.mem_append_right _ (List.mem_append_right _ (List.mem_append_right _ (h))))))) hq, rfl⟩)
end
section
/-! the memory: cell number, slot; the world that it stands for -/
abbrev Mem : Type := (Nat → Nat → Int32) × (Nat → Nat → Int64) × (Nat → Nat → UInt64)
def rd (M : Mem) (k j : Nat) : Int32 := M.1 k j
def rl (M : Mem) (k j : Nat) : Int64 := M.2.1 k j
def wr (M : Mem) (k j : Nat) (v : Int32) : Mem := (fun a => if a = k then upd (M.1 k) j v else M.1 a, M.2)
def wl (M : Mem) (k j : Nat) (v : Int64) : Mem := (M.1, fun a => if a = k then vp_updL (M.2.1 k) j v else M.2.1 a, M.2.2)
def wd (M : Mem) (k j : Nat) (v : UInt64) : Mem := (M.1, M.2.1, fun a => if a = k then vf_upd (M.2.2 k) j v else M.2.2 a)
def cpy (M : Mem) (k1 k2 sp dp n : Nat) : Mem := (fun a => if a = k2 then va_cpy (M.1 k1) (M.1 k2) sp dp n else M.1 a, M.2)
abbrev GT : Type := va_G × (Nat → ClassId) × (Nat → Nat)
abbrev tyL (G : GT) : List (ClassId × FieldType) := [(G.2.1 0, .int), (G.2.1 1, .byte), (G.2.1 2, .boolean), (G.2.1 3, .long), (G.2.1 4, .object "SheetFolder$Part"), (G.2.1 5, .double)]
def rfz (v : Int32) (a : Nat) : Value := if v = 0 then .null else .ref a
abbrev eHist (ad : Nat → Nat) (k : Nat) (r : Nat → Int32) : List Value := [.ref (ad (k + 1)), .int (r 1), .int (r 2)]
abbrev ePart (ad : Nat → Nat) (k : Nat) (r : Nat → Int32) : List Value := [.int (r 0), .ref (ad (k + 1)), .int (r 2), .int (r 3), .int (r 4), .int (r 5), .ref (ad (k + 2)), .int (r 7), .int (r 8), .int (r 9), .int (r 10), .ref (ad (k + 3)), .ref (ad (k + 4)), .int (r 13), .int (r 14), .ref (ad (k + 5)), .ref (ad (k + 6)), .ref (ad (k + 7))]
abbrev ePlaces (ad : Nat → Nat) (k : Nat) (r : Nat → Int32) : List Value := [.ref (ad (k + 1)), .ref (ad (k + 2)), .ref (ad (k + 3)), .ref (ad (k + 4)), .ref (ad (k + 5)), .ref (ad (k + 6)), .int (r 6), .int (r 7), .int (r 8)]
abbrev ePlanner (ad : Nat → Nat) (k : Nat) (r : Nat → Int32) : List Value := [.int (r 0), .int (r 1), .ref (ad (k + 1)), .int (r 3), .ref (ad (k + 2)), .ref (ad (k + 9)), .int (r 6), .ref (ad (k + 17)), .ref (ad (k + 18)), .ref (ad (k + 19)), .ref (ad (k + 20)), .ref (ad (k + 21)), .ref (ad (k + 22))]
abbrev eReader (ad : Nat → Nat) (k : Nat) (r : Nat → Int32) : List Value := [.int (r 0), .int (r 1), .ref (ad (if r 2 = 1 then 1 else 4)), .int (r 3), .int (r 4), .int (r 5), .int (r 6), .int (r 7), .ref (ad (k + 1))]
abbrev eRoot (ad : Nat → Nat) (_ : Nat) (r : Nat → Int32) : List Value := [.ref (ad 1), .int (r 1), .ref (ad 2), .ref (ad 5), .ref (ad 13), .ref (ad 21), .ref (ad 103), .ref (ad 110), .ref (ad 133)]
abbrev eModel (ad : Nat → Nat) (k : Nat) (r : Nat → Int32) : List Value := [.ref (ad (k + 1)), .ref (ad (k + 2)), .ref (ad (k + 3)), .ref (ad (k + 4)), .int (r 4), .int (r 5), .ref (ad (k + 5)), .int (r 7), .int (r 8), .int (r 9), .int (r 10), .int (r 11), .int (r 12), .int (r 13), .int (r 14), .int (r 15), .int (r 16), .ref (ad (k + 6)), .ref (ad (k + 7)), .ref (ad (k + 8)), .ref (ad (k + 9)), .int (r 21), .int (r 22), .ref (ad (k + 10)), .ref (ad (k + 11)), .ref (ad (k + 12)), .ref (ad (k + 13)), .ref (ad (k + 14)), .ref (ad (k + 15)), .ref (ad (k + 16)), .int (r 30)]
/-- what the cell of kind c, number k holds -/
def ent (ad : Nat → Nat) (cA : Nat → ClassId) (c : Nat × Nat) (k : Nat) (r : Nat → Int32) (q : Nat → Int64) (u : Nat → UInt64) : va_E :=
  match c.1 with
  | 1 => .inr (5, ePart ad k r)
  | 2 => .inr (6, ePlaces ad k r)
  | 3 => .inr (7, ePlanner ad k r)
  | 4 => .inr (4, eHist ad k r)
  | 5 => .inr (8, eReader ad k r)
  | 6 => .inr (10, eRoot ad k r)
  | 7 => .inr (11, eModel ad k r)
  | 8 => .inl (cA 4, c.2, .inr (.inr (.inr (.inr (fun j => some (ad (k + 1 + 8 * j)))))))
  | 10 => .inl (cA 0, c.2, .inl r)
  | 11 => .inl (cA 1, c.2, .inl r)
  | 12 => .inl (cA 2, c.2, .inl r)
  | 13 => .inl (cA 3, c.2, .inr (.inl q))
  | 14 => .inl (cA 5, c.2, .inr (.inr (.inr (.inl u))))
  | _ => .inl (cA 0, 0, .inl r)
def Wd (G : GT) (kd : Nat → Nat × Nat) (ad : Nat → Nat) (M : Mem) (H : Heap) : Prop := ∀ k, (kd k).1 ≠ 0 → va_at G.1 vwCl (ad k, ent ad G.2.1 (kd k) k (M.1 k) (M.2.1 k) (M.2.2 k)) H
def Apt (kd : Nat → Nat × Nat) (ad : Nat → Nat) : Prop := ∀ k k', (kd k).1 ≠ 0 → (kd k').1 ≠ 0 → ad k = ad k' → k = k'
def AS (kd : Nat → Nat × Nat) (ad : Nat → Nat) (sz : Nat) : Nat → Prop := fun q => (∃ k, (kd k).1 ≠ 0 ∧ q = ad k) ∨ sz ≤ q
def Inv (G : GT) (kd : Nat → Nat × Nat) (ad : Nat → Nat) (H0 : Heap) (M : Mem) (H : Heap) (locs : List Loc) : Prop := Wd G kd ad M H ∧ va_S (AS kd ad H0.size) H0 H locs
/-- what is told of statics: the two of Throwable, the texts of exceptions, classes that fit, the words of statements -/
abbrev sxMsgs : List (String × Nat × String) := [("SheetFolder", 68, "length is not 0 to the number of bytes in the buffer"), ("SheetFolder", 130, "ratio is not 0.0 to 9999.0"), ("SheetFolder", 141, "there is no such number of a tool"), ("SheetFolder", 178, "there is no such step"), ("SheetFolder", 213, "reason is not 1 to 6"), ("SheetFolder", 252, "there is no such step of the best order"), ("SheetFolder", 278, "the step is refused"), ("SheetFolder", 284, "there is no order, or all bends are made"), ("SheetFolder", 304, "length is not 1 to 9999"), ("SheetFolder", 310, "a number of a tool is out of range"), ("SheetFolder", 318, "a number of the sheet is out of range"), ("SheetFolder", 329, "a cost is not 0 to 99"), ("SheetFolder", 363, "there is no such character"), ("SheetFolder", 369, "there is no such bend"), ("SheetFolder", 371, "there is no such leg"), ("SheetFolder", 373, "a parameter is out of range"), ("SheetFolder", 375, "a step was made")]
abbrev sxW : List Cond := [.castable "java/lang/IllegalArgumentException" "java/lang/IllegalArgumentException", .castable "java/lang/IndexOutOfBoundsException" "java/lang/IndexOutOfBoundsException", .castable "java/lang/IllegalStateException" "java/lang/IllegalStateException", .declares (Bundle.initS "java/lang/RuntimeException"), .declares (Bundle.initS "java/lang/Exception"), .declares (Bundle.initS Bundle.tN)]
abbrev wNm : List String := ["SHEET", "LEG", "UP", "DOWN", "BACK", "BEAM", "TABLE", "WING", "GAUGE", "FLANGE", "COST"]
abbrev wF0 : List Int32 := [1, 1, 1, 1, 0, 0, 0, 0, 0, 0, 0]
abbrev wF1 : List Int32 := [60, 9999, 9999, 9999, 999, 9999, 9999, 9999, 9999, 9999, 99]
abbrev wF2 : List Int32 := [200, 0, 0, 0, 300, 9999, 9999, 9999, 9999, 0, 99]
abbrev wF3 : List Int32 := [100, 0, 0, 0, 0, 0, 0, 0, 0, 0, 99]
abbrev wFs : List (String × String × String × List Int32) := [("SheetFolder$Word", "leastOfFirst", "I", wF0), ("SheetFolder$Word", "mostOfFirst", "I", wF1), ("SheetFolder$Word", "mostOfSecond", "I", wF2), ("SheetFolder$Word", "mostOfThird", "I", wF3)]
theorem sxW_on : ∀ w ∈ sxW, w.onTables = true := by decide +kernel
theorem sxW_moved {u U : State} (hvm : u.vm.Alike U.vm) (h : ∀ w ∈ sxW, w.before #[] u = true) : ∀ w ∈ sxW, w.before #[] U = true := by
  have tr : ∀ {c : Cond}, c.onTables = true → c.before #[] (u.setVm U.vm) = true → c.before #[] U = true := by
    intro c hc h
    have e := Cond.onTables_vm (A := #[]) (A' := #[]) (U := u) (U' := U) U.vm c hc
    have hU : U.setVm U.vm = U := rfl
    rw [hU] at e
    rw [← e]
    exact h
  intro w hw
  have h0 := h w hw
  simp only [sxW, List.mem_cons, List.not_mem_nil, or_false] at hw
  rcases hw with rfl | rfl | rfl | rfl | rfl | rfl
  · exact tr rfl (by rw [Cond.castable_setVm hvm]; exact h0)
  · exact tr rfl (by rw [Cond.castable_setVm hvm]; exact h0)
  · exact tr rfl (by rw [Cond.castable_setVm hvm]; exact h0)
  · exact tr rfl (by rw [Cond.declares_setVm hvm]; exact h0)
  · exact tr rfl (by rw [Cond.declares_setVm hvm]; exact h0)
  · exact tr rfl (by rw [Cond.declares_setVm hvm]; exact h0)
def Sx (G : GT) (A : Nat → Prop) (U : State) (H : Heap) : Prop := vx_Zq Bundle.tN "UNASSIGNED_STACK" Bundle.steD A U H ∧ vx_Zq Bundle.tN "SUPPRESSED_SENTINEL" Bundle.listD A U H ∧ (∀ q ∈ sxMsgs, ∃ sa, vk_R q.1 q.2.1 q.2.2 sa U) ∧ (∀ w ∈ sxW, w.before #[] U = true) ∧ va_En "SheetFolder$Word" "LSheetFolder$Word;" wNm wFs G.2.2 A U H
/-- what holds all through a method's body -/
def Cx (p : Program) (s : State) (m : MethodId) (args : Array Value) (meth : Method) (c : Code) (cc : ByteArray) (nL : Nat) (ret : Option FieldType) (own : String) (G : GT) (kd : Nat → Nat × Nat) (ad : Nat → Nat) : Prop :=
  p.tables.exec = Jvm.exec ∧ c.code = cc ∧ c.maxLocals = nL ∧ meth.sig.returnType = ret ∧ s.vm.findClass own = some m.cls ∧ (∀ w ∈ WA, w.before args s = true) ∧ meth.locks = false ∧ va_K G.1 vwCl (tyL G) s ∧ Apt kd ad ∧ Sx G (AS kd ad s.heap.size) s s.heap
def Pg (G : GT) (kd : Nat → Nat × Nat) (ad : Nat → Nat) (sz : Nat) (av : List Value) (M : Mem) : Array Value → State → Prop := va_Pc av (fun U => U.heap.size = sz ∧ Wd G kd ad M U.heap ∧ Apt kd ad ∧ va_K G.1 vwCl (tyL G) U ∧ Sx G (AS kd ad sz) U U.heap)
def Qg (G : GT) (kd : Nat → Nat × Nat) (ad : Nat → Nat) (sz : Nat) (M : Mem) (v : Option Value) : Array Value → State → Outcome → State → Prop := fun _ st oc t => oc = .returned v ∧ Wd G kd ad M t.heap ∧ va_F (AS kd ad sz) st t
abbrev rmO (d mc ms : Nat) : Room := { frames := 4 * d + 8, cells := mc, slots := ms, locals := 64 * d + 128 }
/-! mirrors -/
def chk {α : Type} (b : Bool) (x : Option α) : Option α := if b = true then x else none
theorem chk_s {α : Type} {b : Bool} {x : Option α} {y : α} (h : chk b x = some y) : b = true ∧ x = some y := by
  unfold chk at h
  split at h
  · exact ⟨by assumption, h⟩
  · cases h
def bnd {α β : Type} (e : α) (k : α → Option β) : Option β := k e
theorem bnd_s {α β : Type} {e : α} {k : α → Option β} {y : β} (h : bnd e k = some y) : ∃ x, x = e ∧ k x = some y := ⟨e, rfl, h⟩
def cal {ρ β : Type} (x : Option (Mem × ρ)) (k : Mem → ρ → Option β) : Option β := match x with
  | none => none
  | some q => k q.1 q.2
theorem cal_s {ρ β : Type} {x : Option (Mem × ρ)} {k : Mem → ρ → Option β} {y : β} (h : cal x k = some y) : ∃ M r, x = some (M, r) ∧ k M r = some y := by
  cases x with
  | none => cases h
  | some q => exact ⟨q.1, q.2, rfl, h⟩
def cap {ρ β : Type} (x : Option ρ) (k : ρ → Option β) : Option β := match x with
  | none => none
  | some q => k q
theorem cap_s {ρ β : Type} {x : Option ρ} {k : ρ → Option β} {y : β} (h : cap x k = some y) : ∃ r, x = some r ∧ k r = some y := by
  cases x with
  | none => cases h
  | some q => exact ⟨q, rfl, h⟩
def ite2 {α : Type} (c : Prop) [Decidable c] (a b : Option α) : Option α := if c then a else b
theorem ite_t {α : Type} {c : Prop} [Decidable c] {a b : Option α} {y : α} (hc : c) (h : ite2 c a b = some y) : a = some y := by
  unfold ite2 at h; rwa [if_pos hc] at h
theorem ite_f {α : Type} {c : Prop} [Decidable c] {a b : Option α} {y : α} (hc : ¬ c) (h : ite2 c a b = some y) : b = some y := by
  unfold ite2 at h; rwa [if_neg hc] at h
def okb (i : Int32) (n : Nat) : Bool := !(decide (i < 0)) && decide (i.toNatClampNeg < n)
theorem okb_in {i : Int32} {n : Nat} (h : okb i n = true) : vp_in i n := by
  simp only [okb, Bool.and_eq_true, Bool.not_eq_true', decide_eq_false_iff_not, decide_eq_true_eq] at h
  intro q
  rcases q with q | q
  · exact h.1 q
  · omega
/-! worlds -/
theorem Wd.kept {G : GT} {kd : Nat → Nat × Nat} {ad : Nat → Nat} {M : Mem} {H H1 : Heap} (h : Wd G kd ad M H) (hq : ∀ k, (kd k).1 ≠ 0 → H1[ad k]? = H[ad k]?) : Wd G kd ad M H1 := fun k hk => (h k hk).kept (hq k hk)
theorem Wd.lt {G : GT} {kd : Nat → Nat × Nat} {ad : Nat → Nat} {M : Mem} {H : Heap} (h : Wd G kd ad M H) {k : Nat} (hk : (kd k).1 ≠ 0) : ad k < H.size := (h k hk).lt
theorem Inv.set {G : GT} {kd : Nat → Nat × Nat} {ad : Nat → Nat} {H0 : Heap} {M M' : Mem} {H H1 : Heap} {locs : List Loc} (hI : Inv G kd ad H0 M H locs) (hap : Apt kd ad) {k i : Nat} (hk : (kd k).1 ≠ 0)
    (hat : va_at G.1 vwCl (ad k, ent ad G.2.1 (kd k) k (M'.1 k) (M'.2.1 k) (M'.2.2 k)) H1) (z : H1.size = H.size) (oq : ∀ q, q ≠ ad k → H1[q]? = H[q]?)
    (hM : ∀ k', k' ≠ k → M'.1 k' = M.1 k' ∧ M'.2.1 k' = M.2.1 k' ∧ M'.2.2 k' = M.2.2 k') : Inv G kd ad H0 M' H1 (locs ++ [⟨ad k, i⟩]) := by
  refine ⟨fun k' hk' => ?_, hI.2.put z oq (Or.inl ⟨k, hk, rfl⟩)⟩
  by_cases e : k' = k
  · subst e; exact hat
  · obtain ⟨e1, e2, e3⟩ := hM k' e
    rw [e1, e2, e3]
    exact (hI.1 k' hk').kept (oq _ (fun q => e (hap _ _ hk' hk q)))
theorem wr_o {M : Mem} {k j : Nat} {v : Int32} (k' : Nat) (h : k' ≠ k) : (wr M k j v).1 k' = M.1 k' ∧ (wr M k j v).2.1 k' = M.2.1 k' ∧ (wr M k j v).2.2 k' = M.2.2 k' := ⟨if_neg h, rfl, rfl⟩
theorem wl_o {M : Mem} {k j : Nat} {v : Int64} (k' : Nat) (h : k' ≠ k) : (wl M k j v).1 k' = M.1 k' ∧ (wl M k j v).2.1 k' = M.2.1 k' ∧ (wl M k j v).2.2 k' = M.2.2 k' := ⟨rfl, if_neg h, rfl⟩
theorem wd_o {M : Mem} {k j : Nat} {v : UInt64} (k' : Nat) (h : k' ≠ k) : (wd M k j v).1 k' = M.1 k' ∧ (wd M k j v).2.1 k' = M.2.1 k' ∧ (wd M k j v).2.2 k' = M.2.2 k' := ⟨rfl, rfl, if_neg h⟩
theorem cpy_o {M : Mem} {a b sp dp n : Nat} (k' : Nat) (h : k' ≠ b) : (cpy M a b sp dp n).1 k' = M.1 k' ∧ (cpy M a b sp dp n).2.1 k' = M.2.1 k' ∧ (cpy M a b sp dp n).2.2 k' = M.2.2 k' := ⟨if_neg h, rfl, rfl⟩
theorem wr_s {M : Mem} {k j : Nat} {v : Int32} : (wr M k j v).1 k = upd (M.1 k) j v := if_pos rfl
theorem wl_s {M : Mem} {k j : Nat} {v : Int64} : (wl M k j v).2.1 k = vp_updL (M.2.1 k) j v := if_pos rfl
theorem wd_s {M : Mem} {k j : Nat} {v : UInt64} : (wd M k j v).2.2 k = vf_upd (M.2.2 k) j v := if_pos rfl
theorem cpy_s {M : Mem} {a b sp dp n : Nat} : (cpy M a b sp dp n).1 b = va_cpy (M.1 a) (M.1 b) sp dp n := if_pos rfl
end
section
/-! rows over the memory's world -/
section GR
variable {p : Program} {l : Launch} {e : Env} {R : Room} {s : State} {m : MethodId} {args : Array Value} {below : List Frame} {meth : Method} {c : Code} {H : Heap} {locs : List Loc} {cells slots : Nat} {Q : State → Prop}
variable {cc : ByteArray} {pc : Nat} {ls : Array Slot} {rest : List Value} {G : GT} {kd : Nat → Nat × Nat} {ad : Nat → Nat} {M : Mem} {H0 : Heap}
theorem va_P1 {D : va_G} {cl : List vw_C} {q : Nat × va_E} {H : Heap} (h : va_at D cl q H) : va_P D cl [q] H := by
  intro k q' hk
  match k, hk with
  | 0, hk => cases hk; exact h
  | k + 1, hk => simp at hk
theorem Inv.at (hI : Inv G kd ad H0 M H locs) {k : Nat} {q : Nat × Nat} {x : va_E} (hk : kd k = q) (hq : q.1 ≠ 0) (he : ent ad G.2.1 q k (M.1 k) (M.2.1 k) (M.2.2 k) = x) : va_at G.1 vwCl (ad k, x) H := by
  have h := hI.1 k (by rw [hk]; exact hq)
  rw [hk, he] at h
  exact h
theorem g_get (hx : p.tables.exec = Jvm.exec) (hb : c.code = cc) {own C : String} {T : u_T} {N ci index : Nat} (hts : ∀ w ∈ WA, w.before args s = true) (hin : ∀ w ∈ u_ws C T N, w ∈ WA) (hown : s.vm.findClass own = some m.cls) (hK : va_K G.1 vwCl (tyL G) s) (hI : Inv G kd ad H0 M H locs)
    {k : Nat} {q : Nat × Nat} {fs : List Value} (hk : kd k = q) (hq : q.1 ≠ 0) (he : ent ad G.2.1 q k (M.1 k) (M.2.1 k) (M.2.2 k) = .inr (ci, fs)) (hc : vwCl[ci]? = some (C, T, N)) (j : Nat) (hj : j < N) {f d o : String} (hT : (T j).1 = o ∧ (T j).2.1 = f ∧ (T j).2.2.1 = d) (hlink : Cond.fieldLink own index o f d ∈ WA) {v : Value} (hv : fs[j]? = some v)
    (hdg : decode cc pc = .ok (.getfield index, 3)) (kk : W p l e R s m args below meth c H locs cells slots Q (F0 m (pc + 3) ls (v :: rest))) : W p l e R s m args below meth c H locs cells slots Q (F0 m pc ls (.ref (ad k) :: rest)) := by
  obtain ⟨e1, e2, e3⟩ := hT
  subst e1; subst e2; subst e3
  exact va_get (D := G.1) (cl := vwCl) (ws := [(ad k, .inr (ci, fs))]) hx hb hts hin hown hK (va_P1 (hI.at hk hq he)) 0 rfl hc j hj (hts _ hlink) (fun _ h => h) hv hdg kk
theorem g_iald (hx : p.tables.exec = Jvm.exec) (hb : c.code = cc) (hK : va_K G.1 vwCl (tyL G) s) (hI : Inv G kd ad H0 M H locs) {k n : Nat} (hk : kd k = (10, n)) {i : Int32} (hin : vp_in i n) (hdg : decode cc pc = .ok (.iaload, 1))
    (kk : W p l e R s m args below meth c H locs cells slots Q (F0 m (pc + 1) ls (.int (rd M k i.toNatClampNeg) :: rest))) : W p l e R s m args below meth c H locs cells slots Q (F0 m pc ls (.int i :: .ref (ad k) :: rest)) :=
  va_iald (D := G.1) (cl := vwCl) (ws := [(ad k, .inl (G.2.1 0, n, .inl (M.1 k)))]) hx hb hK (va_P1 (hI.at hk (by simp) rfl)) 0 0 rfl rfl hin hdg kk
theorem g_bald (hx : p.tables.exec = Jvm.exec) (hb : c.code = cc) (hK : va_K G.1 vwCl (tyL G) s) (hI : Inv G kd ad H0 M H locs) {k n : Nat} (hk : kd k = (11, n)) {i : Int32} (hin : vp_in i n) (hdg : decode cc pc = .ok (.baload, 1))
    (kk : W p l e R s m args below meth c H locs cells slots Q (F0 m (pc + 1) ls (.int (rd M k i.toNatClampNeg) :: rest))) : W p l e R s m args below meth c H locs cells slots Q (F0 m pc ls (.int i :: .ref (ad k) :: rest)) :=
  va_bald (D := G.1) (cl := vwCl) (ws := [(ad k, .inl (G.2.1 1, n, .inl (M.1 k)))]) hx hb hK (va_P1 (hI.at hk (by simp) rfl)) 0 1 rfl rfl hin hdg kk
theorem g_zald (hx : p.tables.exec = Jvm.exec) (hb : c.code = cc) (hK : va_K G.1 vwCl (tyL G) s) (hI : Inv G kd ad H0 M H locs) {k n : Nat} (hk : kd k = (12, n)) {i : Int32} (hin : vp_in i n) (hdg : decode cc pc = .ok (.baload, 1))
    (kk : W p l e R s m args below meth c H locs cells slots Q (F0 m (pc + 1) ls (.int (rd M k i.toNatClampNeg) :: rest))) : W p l e R s m args below meth c H locs cells slots Q (F0 m pc ls (.int i :: .ref (ad k) :: rest)) :=
  va_zald (D := G.1) (cl := vwCl) (ws := [(ad k, .inl (G.2.1 2, n, .inl (M.1 k)))]) hx hb hK (va_P1 (hI.at hk (by simp) rfl)) 0 2 rfl rfl hin hdg kk
theorem g_lald (hx : p.tables.exec = Jvm.exec) (hb : c.code = cc) (hK : va_K G.1 vwCl (tyL G) s) (hI : Inv G kd ad H0 M H locs) {k n : Nat} (hk : kd k = (13, n)) {i : Int32} (hin : vp_in i n) (hdg : decode cc pc = .ok (.laload, 1))
    (kk : W p l e R s m args below meth c H locs cells slots Q (F0 m (pc + 1) ls (.long (rl M k i.toNatClampNeg) :: rest))) : W p l e R s m args below meth c H locs cells slots Q (F0 m pc ls (.int i :: .ref (ad k) :: rest)) :=
  va_lald (D := G.1) (cl := vwCl) (ws := [(ad k, .inl (G.2.1 3, n, .inr (.inl (M.2.1 k))))]) hx hb hK (va_P1 (hI.at hk (by simp) rfl)) 0 3 rfl rfl hin hdg kk
theorem g_aald (hx : p.tables.exec = Jvm.exec) (hb : c.code = cc) (hK : va_K G.1 vwCl (tyL G) s) (hI : Inv G kd ad H0 M H locs) {k n : Nat} (hk : kd k = (8, n)) {i : Int32} (hin : vp_in i n) (hdg : decode cc pc = .ok (.aaload, 1))
    (kk : W p l e R s m args below meth c H locs cells slots Q (F0 m (pc + 1) ls (.ref (ad (k + 1 + 8 * i.toNatClampNeg)) :: rest))) : W p l e R s m args below meth c H locs cells slots Q (F0 m pc ls (.int i :: .ref (ad k) :: rest)) :=
  va_aldq (D := G.1) (cl := vwCl) (C := "SheetFolder$Part") (ws := [(ad k, .inl (G.2.1 4, n, .inr (.inr (.inr (.inr (fun j => some (ad (k + 1 + 8 * j))))))))]) hx hb hK (va_P1 (hI.at hk (by simp) rfl)) 0 4 rfl rfl hin hdg kk
theorem g_alen (hx : p.tables.exec = Jvm.exec) (hb : c.code = cc) (hK : va_K G.1 vwCl (tyL G) s) (hI : Inv G kd ad H0 M H locs) {k n : Nat} (hk : kd k = (10, n)) {v : Int32} (hv : Int32.ofNat n = v) (hdg : decode cc pc = .ok (.arraylength, 1))
    (kk : W p l e R s m args below meth c H locs cells slots Q (F0 m (pc + 1) ls (.int v :: rest))) : W p l e R s m args below meth c H locs cells slots Q (F0 m pc ls (.ref (ad k) :: rest)) :=
  va_alen (D := G.1) (cl := vwCl) (ws := [(ad k, .inl (G.2.1 0, n, .inl (M.1 k)))]) hx hb hK (va_P1 (hI.at hk (by simp) rfl)) 0 0 rfl rfl hv hdg kk
theorem g_alenB (hx : p.tables.exec = Jvm.exec) (hb : c.code = cc) (hK : va_K G.1 vwCl (tyL G) s) (hI : Inv G kd ad H0 M H locs) {k n : Nat} (hk : kd k = (11, n)) {v : Int32} (hv : Int32.ofNat n = v) (hdg : decode cc pc = .ok (.arraylength, 1))
    (kk : W p l e R s m args below meth c H locs cells slots Q (F0 m (pc + 1) ls (.int v :: rest))) : W p l e R s m args below meth c H locs cells slots Q (F0 m pc ls (.ref (ad k) :: rest)) :=
  va_alen (D := G.1) (cl := vwCl) (ws := [(ad k, .inl (G.2.1 1, n, .inl (M.1 k)))]) hx hb hK (va_P1 (hI.at hk (by simp) rfl)) 0 1 rfl rfl hv hdg kk
theorem g_iast (hx : p.tables.exec = Jvm.exec) (hb : c.code = cc) (hK : va_K G.1 vwCl (tyL G) s) (hap : Apt kd ad) (hI : Inv G kd ad H0 M H locs) {k n : Nat} (hk : kd k = (10, n)) {i x : Int32} (hin : vp_in i n) (hdg : decode cc pc = .ok (.iastore, 1)) {M' : Mem} (hM : M' = wr M k i.toNatClampNeg x)
    (kk : ∀ (H1 : Heap) (locs1 : List Loc), Inv G kd ad H0 M' H1 locs1 → W p l e R s m args below meth c H1 locs1 cells slots Q (F0 m (pc + 1) ls rest)) : W p l e R s m args below meth c H locs cells slots Q (F0 m pc ls (.int x :: .int i :: .ref (ad k) :: rest)) := by
  subst hM
  refine W.iast hx hb (hI.at hk (by simp) rfl) ((hK.2 0 _ rfl).1 n (fun j => .int (M.1 k j))) (fun q => by cases q) (by show ¬ (i < 0 ∨ (arrV _ _ _).slots.size ≤ _); rw [arrV_size]; exact hin) rfl rfl hdg fun H1 e z oq => ?_
  refine kk H1 _ (hI.set hap (by rw [hk]; simp) ?_ z oq wr_o)
  rw [wr_s, hk]
  show H1[ad k]? = some (vp_cell _ _)
  rw [e]
  show some (Cell.setSlot (vp_cell (G.2.1 0) (n, .inl (M.1 k))) _ _) = _
  rw [vp_cell_i, vp_cell_i, arrV_store]
  congr 2
  funext q
  by_cases hq : q = i.toNatClampNeg
  · subst hq
    simp [updV, upd, vp_nar]
    try rfl
  · simp [updV, upd, hq]
theorem g_bast (hx : p.tables.exec = Jvm.exec) (hb : c.code = cc) (hK : va_K G.1 vwCl (tyL G) s) (hap : Apt kd ad) (hI : Inv G kd ad H0 M H locs) {k n : Nat} (hk : kd k = (11, n)) {i x : Int32} (hin : vp_in i n) (hdg : decode cc pc = .ok (.bastore, 1)) {M' : Mem} (hM : M' = wr M k i.toNatClampNeg (vp_nar .byte x))
    (kk : ∀ (H1 : Heap) (locs1 : List Loc), Inv G kd ad H0 M' H1 locs1 → W p l e R s m args below meth c H1 locs1 cells slots Q (F0 m (pc + 1) ls rest)) : W p l e R s m args below meth c H locs cells slots Q (F0 m pc ls (.int x :: .int i :: .ref (ad k) :: rest)) := by
  subst hM
  refine W.bast hx hb (hI.at hk (by simp) rfl) ((hK.2 1 _ rfl).1 n (fun j => .int (M.1 k j))) (fun q => by cases q) (by show ¬ (i < 0 ∨ (arrV _ _ _).slots.size ≤ _); rw [arrV_size]; exact hin) rfl rfl hdg fun H1 e z oq => ?_
  refine kk H1 _ (hI.set hap (by rw [hk]; simp) ?_ z oq wr_o)
  rw [wr_s, hk]
  show H1[ad k]? = some (vp_cell _ _)
  rw [e]
  show some (Cell.setSlot (vp_cell (G.2.1 1) (n, .inl (M.1 k))) _ _) = _
  rw [vp_cell_i, vp_cell_i, arrV_store]
  congr 2
  funext q
  by_cases hq : q = i.toNatClampNeg
  · subst hq
    simp [updV, upd, vp_nar]
    try rfl
  · simp [updV, upd, hq]
theorem g_zast (hx : p.tables.exec = Jvm.exec) (hb : c.code = cc) (hK : va_K G.1 vwCl (tyL G) s) (hap : Apt kd ad) (hI : Inv G kd ad H0 M H locs) {k n : Nat} (hk : kd k = (12, n)) {i x : Int32} (hin : vp_in i n) (hdg : decode cc pc = .ok (.bastore, 1)) {M' : Mem} (hM : M' = wr M k i.toNatClampNeg (vp_nar .boolean x))
    (kk : ∀ (H1 : Heap) (locs1 : List Loc), Inv G kd ad H0 M' H1 locs1 → W p l e R s m args below meth c H1 locs1 cells slots Q (F0 m (pc + 1) ls rest)) : W p l e R s m args below meth c H locs cells slots Q (F0 m pc ls (.int x :: .int i :: .ref (ad k) :: rest)) := by
  subst hM
  refine W.zast hx hb (hI.at hk (by simp) rfl) ((hK.2 2 _ rfl).1 n (fun j => .int (M.1 k j))) (fun q => by cases q) (by show ¬ (i < 0 ∨ (arrV _ _ _).slots.size ≤ _); rw [arrV_size]; exact hin) rfl rfl hdg fun H1 e z oq => ?_
  refine kk H1 _ (hI.set hap (by rw [hk]; simp) ?_ z oq wr_o)
  rw [wr_s, hk]
  show H1[ad k]? = some (vp_cell _ _)
  rw [e]
  show some (Cell.setSlot (vp_cell (G.2.1 2) (n, .inl (M.1 k))) _ _) = _
  rw [vp_cell_i, vp_cell_i, arrV_store]
  congr 2
  funext q
  by_cases hq : q = i.toNatClampNeg
  · subst hq
    simp [updV, upd, vp_nar]
    try rfl
  · simp [updV, upd, hq]
theorem g_last (hx : p.tables.exec = Jvm.exec) (hb : c.code = cc) (hK : va_K G.1 vwCl (tyL G) s) (hap : Apt kd ad) (hI : Inv G kd ad H0 M H locs) {k n : Nat} (hk : kd k = (13, n)) {i : Int32} {x : Int64} (hin : vp_in i n) (hdg : decode cc pc = .ok (.lastore, 1)) {M' : Mem} (hM : M' = wl M k i.toNatClampNeg x)
    (kk : ∀ (H1 : Heap) (locs1 : List Loc), Inv G kd ad H0 M' H1 locs1 → W p l e R s m args below meth c H1 locs1 cells slots Q (F0 m (pc + 1) ls rest)) : W p l e R s m args below meth c H locs cells slots Q (F0 m pc ls (.long x :: .int i :: .ref (ad k) :: rest)) := by
  subst hM
  refine W.last hx hb (hI.at hk (by simp) rfl) ((hK.2 3 _ rfl).1 n (fun j => .long (M.2.1 k j))) (fun q => by cases q) (by show ¬ (i < 0 ∨ (arrV _ _ _).slots.size ≤ _); rw [arrV_size]; exact hin) rfl rfl hdg fun H1 e z oq => ?_
  refine kk H1 _ (hI.set hap (by rw [hk]; simp) ?_ z oq wl_o)
  rw [wl_s, hk]
  show H1[ad k]? = some (vp_cell _ _)
  rw [e]
  show some (Cell.setSlot (vp_cell (G.2.1 3) (n, .inr (.inl (M.2.1 k)))) _ _) = _
  rw [vp_cell_l, vp_cell_l, arrV_store]
  congr 2
  funext q
  show _ = Value.long (vp_updL (M.2.1 k) _ _ q)
  unfold vp_updL updV; split <;> rfl
theorem g_dast (hx : p.tables.exec = Jvm.exec) (hb : c.code = cc) (hK : va_K G.1 vwCl (tyL G) s) (hap : Apt kd ad) (hI : Inv G kd ad H0 M H locs) {k n : Nat} (hk : kd k = (14, n)) {i : Int32} {x : UInt64} (hin : vp_in i n) (hdg : decode cc pc = .ok (.dastore, 1)) {M' : Mem} (hM : M' = wd M k i.toNatClampNeg x)
    (kk : ∀ (H1 : Heap) (locs1 : List Loc), Inv G kd ad H0 M' H1 locs1 → W p l e R s m args below meth c H1 locs1 cells slots Q (F0 m (pc + 1) ls rest)) : W p l e R s m args below meth c H locs cells slots Q (F0 m pc ls (.double x :: .int i :: .ref (ad k) :: rest)) := by
  subst hM
  refine W.dast hx hb (hI.at hk (by simp) rfl) ((hK.2 5 _ rfl).1 n (fun j => .double (M.2.2 k j))) (fun q => by cases q) (by show ¬ (i < 0 ∨ (arrV _ _ _).slots.size ≤ _); rw [arrV_size]; exact hin) rfl rfl hdg fun H1 e z oq => ?_
  refine kk H1 _ (hI.set hap (by rw [hk]; simp) ?_ z oq wd_o)
  rw [wd_s, hk]
  show H1[ad k]? = some (vp_cell _ _)
  rw [e]
  show some (Cell.setSlot (vp_cell (G.2.1 5) (n, .inr (.inr (.inr (.inl (M.2.2 k)))))) _ _) = _
  rw [vp_cell_d, vp_cell_d, arrV_store]
  congr 2
  funext q
  show _ = Value.double (vf_upd (M.2.2 k) _ _ q)
  unfold vf_upd updV; split <;> rfl
theorem g_put (hx : p.tables.exec = Jvm.exec) (hb : c.code = cc) {own C : String} {T : u_T} {N ci index : Nat} (hts : ∀ w ∈ WA, w.before args s = true) (hin : ∀ w ∈ u_ws C T N, w ∈ WA) (ty0 : Nat → FieldType) (hty : ∀ k, k < N → parseFieldDescriptor (T k).2.2.1 = some (ty0 k)) (hnm : ∀ a, a < N → ∀ b, b < N → a ≠ b → (T a).2.1 ≠ (T b).2.1)
    (hown : s.vm.findClass own = some m.cls) (hK : va_K G.1 vwCl (tyL G) s) (hap : Apt kd ad) (hI : Inv G kd ad H0 M H locs)
    {k : Nat} {q : Nat × Nat} {fs : List Value} (hk : kd k = q) (hq : q.1 ≠ 0) (he : ent ad G.2.1 q k (M.1 k) (M.2.1 k) (M.2.2 k) = .inr (ci, fs)) (hc : vwCl[ci]? = some (C, T, N)) (j : Nat) (hj : j < N) {f d o : String} (hT : (T j).1 = o ∧ (T j).2.1 = f ∧ (T j).2.2.1 = d) (hlink : Cond.fieldLink own index o f d ∈ WA)
    (hfin : (T j).2.2.2 = false) {ty : FieldType} {v : Value} (hd : parseFieldDescriptor d = some ty) (hn : narrow ty v = v) (hfit : fits ty v = true) (hl : j < fs.length) {M' : Mem} (hset : ent ad G.2.1 q k (M'.1 k) (M'.2.1 k) (M'.2.2 k) = .inr (ci, fs.set j v)) (hM : ∀ k', k' ≠ k → M'.1 k' = M.1 k' ∧ M'.2.1 k' = M.2.1 k' ∧ M'.2.2 k' = M.2.2 k')
    (hdg : decode cc pc = .ok (.putfield index, 3)) (kk : ∀ (H1 : Heap) (locs1 : List Loc), Inv G kd ad H0 M' H1 locs1 → W p l e R s m args below meth c H1 locs1 cells slots Q (F0 m (pc + 3) ls rest)) : W p l e R s m args below meth c H locs cells slots Q (F0 m pc ls (v :: .ref (ad k) :: rest)) := by
  obtain ⟨e1, e2, e3⟩ := hT
  subst e1; subst e2; subst e3
  have hlk := hts _ hlink
  have hapt := va_apart (own := own) hts hin ty0 hty hnm hK hc
  obtain ⟨r, h1, cell, q1, q2, q3, q4⟩ := hI.at hk hq he
  have hr : r = (C, T, N) := Option.some.inj (h1.symm.trans hc)
  subst hr
  obtain ⟨hS, hfc, kC, hkC, hkind⟩ := hK.1 ci _ hc
  obtain ⟨cf, kf, fi, f, hi, hsl⟩ := hS j hj
  have hlay := hts _ (hin _ (u_in_lay hj))
  unfold u_lay at hlay
  rw [if_neg (by rw [hfin]; decide)] at hlay
  have hst := (u_facts hfc hkC (u_lays hts hin hj) hi).1
  have h6 := u_store hfc hkC hkind hlay hi hd hn hfit
  refine W.putK hx hb (f := f) ⟨hown, hlk, ⟨_, _, _, hi⟩, hst⟩ (by rw [q2]; exact h6) q1 q3 (by rw [hsl]; exact k2_hasslot (q4 j hj)) rfl rfl hdg fun H' e1 e2 e3 => ?_
  rw [hsl] at e1 ⊢
  refine kk H' _ (hI.set hap (by rw [hk]; exact hq) ?_ e2 e3 hM)
  rw [hk, hset]
  exact ⟨_, hc, t_OB.to (V := updV (vp_V fs) j v) ⟨_, e1, q2, q3, t_set q4 hapt hj v⟩ (fun j _ => vp_updV_set hl v j)⟩
/-! ends -/
theorem g_iret (hx : p.tables.exec = Jvm.exec) (hb : c.code = cc) (hr : meth.sig.returnType = some .int) (hlk : meth.locks = false) (hI : Inv G kd ad s.heap M H locs) {v : Int32} (hdg : decode cc pc = .ok (.ireturn, 1)) : W p l e R s m args below meth c H locs cells slots (MQ below (Qg G kd ad s.heap.size M (some (.int v))) args s cells slots (AS kd ad s.heap.size)) (F0 m pc ls [.int v]) :=
  W.iret hx hb hr (fun t ht _ => ⟨rfl, by rw [ht]; exact hI.1, hI.2.F ht⟩) hI.2.2.2 hdg hlk
theorem g_zret (hx : p.tables.exec = Jvm.exec) (hb : c.code = cc) {ty : FieldType} (hr : meth.sig.returnType = some ty) (hlk : meth.locks = false) (hI : Inv G kd ad s.heap M H locs) {v : Int32} (hn : narrow ty (.int v) = .int v) (hdg : decode cc pc = .ok (.ireturn, 1)) : W p l e R s m args below meth c H locs cells slots (MQ below (Qg G kd ad s.heap.size M (some (.int v))) args s cells slots (AS kd ad s.heap.size)) (F0 m pc ls [.int v]) :=
  W.zret hx hb hr hn (fun t ht _ => ⟨rfl, by rw [ht]; exact hI.1, hI.2.F ht⟩) hI.2.2.2 hdg hlk
theorem g_lret (hx : p.tables.exec = Jvm.exec) (hb : c.code = cc) (hr : meth.sig.returnType = some .long) (hlk : meth.locks = false) (hI : Inv G kd ad s.heap M H locs) {v : Int64} (hdg : decode cc pc = .ok (.lreturn, 1)) : W p l e R s m args below meth c H locs cells slots (MQ below (Qg G kd ad s.heap.size M (some (.long v))) args s cells slots (AS kd ad s.heap.size)) (F0 m pc ls [.long v]) :=
  W.lret hx hb hr (fun t ht _ => ⟨rfl, by rw [ht]; exact hI.1, hI.2.F ht⟩) hI.2.2.2 hdg hlk
theorem g_dret (hx : p.tables.exec = Jvm.exec) (hb : c.code = cc) (hr : meth.sig.returnType = some .double) (hlk : meth.locks = false) (hI : Inv G kd ad s.heap M H locs) {v : UInt64} (hdg : decode cc pc = .ok (.dreturn, 1)) : W p l e R s m args below meth c H locs cells slots (MQ below (Qg G kd ad s.heap.size M (some (.double v))) args s cells slots (AS kd ad s.heap.size)) (F0 m pc ls [.double v]) :=
  W.dret hx hb hr (fun t ht _ => ⟨rfl, by rw [ht]; exact hI.1, hI.2.F ht⟩) hI.2.2.2 hdg hlk
theorem g_vret (hx : p.tables.exec = Jvm.exec) (hb : c.code = cc) (hr : meth.sig.returnType = none) (hlk : meth.locks = false) (hI : Inv G kd ad s.heap M H locs) (hdg : decode cc pc = .ok (.return_, 1)) : W p l e R s m args below meth c H locs cells slots (MQ below (Qg G kd ad s.heap.size M none) args s cells slots (AS kd ad s.heap.size)) (F0 m pc ls []) :=
  W.vret hx hb hr (fun t ht _ => ⟨rfl, by rw [ht]; exact hI.1, hI.2.F ht⟩) hI.2.2.2 hdg hlk
/-! calls -/
theorem AS.mono {sz sz' : Nat} (h : sz ≤ sz') {q : Nat} (hq : AS kd ad sz' q) : AS kd ad sz q := hq.elim Or.inl (fun z => Or.inr (Nat.le_trans h z))
theorem AS.old {sz sz' : Nat} {q : Nat} (hl : q < sz') (hq : AS kd ad sz' q) : AS kd ad sz q := hq.elim Or.inl (fun z => absurd z (Nat.not_le.mpr hl))
theorem pg_blind {sz : Nat} {av : List Value} : FrameBlind (Pg G kd ad sz av M) := by
  intro a U g mk ⟨q0, q1, q2, q3, q4, q5⟩
  exact ⟨q0, q1, q2, q3, va_K.moved (u := U) (U := U.calling g mk a) (Vm.Alike.refl U.vm) q4, ⟨vx_Zq.moved (u := U) (U := U.calling g mk a) (Vm.Alike.refl U.vm) q5.1, vx_Zq.moved (u := U) (U := U.calling g mk a) (Vm.Alike.refl U.vm) q5.2.1, fun q hq => by obtain ⟨sa, h⟩ := q5.2.2.1 q hq; exact ⟨sa, vk_R.same rfl h⟩, sxW_moved (u := U) (U := U.calling g mk a) (Vm.Alike.refl U.vm) q5.2.2.2.1, va_En.moved (u := U) (U := U.calling g mk a) (Vm.Alike.refl U.vm) q5.2.2.2.2⟩⟩
theorem Sx.at {A B : Nat → Prop} {H1 : Heap} {U : State} (h : Sx G A s s.heap) (hS : ∀ q : Nat, q < s.heap.size → ¬ A q → H1[q]? = s.heap[q]?) (hW : s.WarmedH U.vm) (hAB : ∀ q, B q → A q) : Sx G B U H1 :=
  ⟨((h.1.kept hS).narrow hAB).moved hW.alike, ((h.2.1.kept hS).narrow hAB).moved hW.alike, fun q hq => by obtain ⟨sa, h⟩ := h.2.2.1 q hq; exact ⟨sa, vk_R.warm hW h⟩, sxW_moved hW.alike h.2.2.2.1, ((h.2.2.2.2.kept hS).narrow hAB).moved hW.alike⟩
theorem pg_of {av : List Value} {U : State} (hap : Apt kd ad) (hK : va_K G.1 vwCl (tyL G) s) (hsx : Sx G (AS kd ad s.heap.size) s s.heap) (hI : Inv G kd ad s.heap M H locs) (hU : U.heap = H) (hW : s.WarmedH U.vm) : Pg G kd ad H.size av M av.toArray U :=
  ⟨rfl, by rw [hU], by rw [hU]; exact hI.1, hap, va_K.moved hW.alike hK, by rw [hU]; exact hsx.at hI.2.2.1 hW (fun q => AS.mono hI.2.1)⟩
theorem g_call {st0 : List Value} {a : Array Value} {mc ms : Nat} {M' : Mem} {v : Option Value} (hr : va_Run p l e R s m args below meth c H locs cells slots mc ms (F0 m pc ls st0) rest (Qg G kd ad H.size M' v a) (AS kd ad H.size)) (hI : Inv G kd ad s.heap M H locs)
    (kk : ∀ (H1 : Heap) (locs1 : List Loc), Inv G kd ad s.heap M' H1 locs1 → W p l e R s m args below meth c H1 locs1 (cells + mc) (slots + ms) Q (F0 m (pc + 3) ls (v.toList ++ rest))) : W p l e R s m args below meth c H locs cells slots Q (F0 m pc ls st0) := by
  intro T hT X
  obtain ⟨v', st₀, t, T', L, h0, X', hL, e1, e2, ⟨hv, hw, hF⟩, st⟩ := hr T hT X
  cases hv
  obtain ⟨k1, k2, k3⟩ := vx_keep h0 e1 hI.2 (fun q hq h => AS.old hq h) (fun q h => AS.mono hI.2.1 h) hL (by rw [← h0] at hF; rw [h0] at hF; exact hF)
  obtain ⟨t2, a1, b1⟩ := kk T'.heap (locs ++ L) ⟨by rw [e1]; exact hw, k3⟩ T' rfl X'
  exact ⟨t2, st t2 a1, b1⟩
/-- what is known of a callee: an instance method, a static one, a constructor -/
def cvF (C : String) (y : MethodName) (bytes : ByteArray) (maxL : Nat) (ret : Option FieldType) (n : Nat) : Prop := Cond.instanceMethod y ∈ WA ∧ Cond.selects C y y ∈ WA ∧ Cond.initialized C ∈ WA ∧ Cond.code y bytes maxL ret ∈ WA ∧ (y.cls = C ∧ y.cls ≠ "java/lang/invoke/MethodHandle" ∧ y.cls ≠ "java/lang/invoke/VarHandle" ∧ (parseMethodDescriptor y.desc).map (fun d => d.parameters.length) = some n)
def csF (y : MethodName) (bytes : ByteArray) (maxL : Nat) (ret : Option FieldType) (n : Nat) : Prop := Cond.static y ∈ WA ∧ Cond.initialized y.cls ∈ WA ∧ Cond.code y bytes maxL ret ∈ WA ∧ (y.cls ≠ "java/lang/invoke/MethodHandle" ∧ y.cls ≠ "java/lang/invoke/VarHandle" ∧ (parseMethodDescriptor y.desc).map (fun d => d.parameters.length) = some n)
variable {b : Nat} {y : MethodName} {bytes : ByteArray} {maxL nL mc ms n index : Nat} {ret : Option FieldType} {rm : Room} {own C : String} {As : List Value} {M' : Mem} {v : Option Value}
theorem ws_good (hc : Cond.code y bytes maxL ret ∈ WA) : ∀ w ∈ Cond.code y bytes maxL ret :: WA, w ∈ WA := fun w h => (List.mem_cons.mp h).elim (fun e => by rw [e]; exact hc) id
theorem g_callV (hx : p.tables.exec = Jvm.exec) (hb : c.code = cc) (hml : c.maxLocals = nL) (hown : s.vm.findClass own = some m.cls) (hts : ∀ w ∈ WA, w.before args s = true) (hK : va_K G.1 vwCl (tyL G) s) (hap : Apt kd ad) (hsx : Sx G (AS kd ad s.heap.size) s s.heap) (hI : Inv G kd ad s.heap M H locs)
    (hM : Met l y (Cond.code y bytes maxL ret :: WA) rm (Pg G kd ad H.size (.ref (ad b) :: As) M) (Qg G kd ad H.size M' v) mc ms (AS kd ad H.size)) (hcv : cvF C y bytes maxL ret n) (hl : Cond.methodLink own index y ∈ WA) (hrc : rm.cells = mc) (hrs : rm.slots = ms) (hR : rm.frames + 1 ≤ R.frames ∧ 8 + (maxL + 11) + rm.locals ≤ R.locals)
    {ci : Nat} {q : Nat × Nat} {fs : List Value} {T : u_T} {N : Nat} (hk : kd b = q) (hq : q.1 ≠ 0) (he : ent ad G.2.1 q b (M.1 b) (M.2.1 b) (M.2.2 b) = .inr (ci, fs)) (hc : vwCl[ci]? = some (C, T, N))
    (hn : As.length = n) (hsize : ls.size = nL) {st : List Value} (hst : st = As.reverse ++ .ref (ad b) :: rest) (hW : (rest.map fun v => v.category).sum ≤ 8) (hdg : decode cc pc = .ok (.invokevirtual index, 3)) (hf : cells + mc ≤ R.cells ∧ slots + ms ≤ R.slots)
    (kk : ∀ (H1 : Heap) (locs1 : List Loc), Inv G kd ad s.heap M' H1 locs1 → W p l e R s m args below meth c H1 locs1 (cells + mc) (slots + ms) Q (F0 m (pc + 3) ls (v.toList ++ rest))) : W p l e R s m args below meth c H locs cells slots Q (F0 m pc ls st) := by
  subst hst
  obtain ⟨c1, c2, c3, c4, c5⟩ := hcv
  have hG : GoodIn WA (wsV own index C y (Cond.code y bytes maxL ret :: WA)) := fun w h => by
    have : w ∈ WA := by
      rcases List.mem_append.mp h with h | h
      · simp only [List.mem_cons, List.not_mem_nil, or_false] at h
        rcases h with rfl | rfl | rfl | rfl
        · exact hl
        · exact c1
        · exact c2
        · exact c3
      · exact ws_good c4 w h
    exact ⟨this, wa_good w this⟩
  exact g_call (va_runV (C := C) (b := ad b) (As := As) (rest := rest) ⟨hx, hb, hml, hown, hts⟩ hM (cwV n hts hG rfl hrc hrs c5 hR) ⟨pg_blind, va_recv hK (va_P1 (hI.at hk hq he)) hc (q0 := 0) rfl, fun U hU hW => pg_of hap hK hsx hI hU hW⟩ rfl hn hsize rfl (lv_room hW) hdg hf) hI kk
theorem g_callS (hx : p.tables.exec = Jvm.exec) (hb : c.code = cc) (hml : c.maxLocals = nL) (hown : s.vm.findClass own = some m.cls) (hts : ∀ w ∈ WA, w.before args s = true) (hK : va_K G.1 vwCl (tyL G) s) (hap : Apt kd ad) (hsx : Sx G (AS kd ad s.heap.size) s s.heap) (hI : Inv G kd ad s.heap M H locs)
    (hM : Met l y (Cond.code y bytes maxL ret :: WA) rm (Pg G kd ad H.size As M) (Qg G kd ad H.size M' v) mc ms (AS kd ad H.size)) (hcv : csF y bytes maxL ret n) (hl : Cond.methodLink own index y ∈ WA) (hrc : rm.cells = mc) (hrs : rm.slots = ms) (hR : rm.frames + 1 ≤ R.frames ∧ 8 + (maxL + 11) + rm.locals ≤ R.locals)
    (hn : As.length = n) (hsize : ls.size = nL) {st : List Value} (hst : st = As.reverse ++ rest) (hW : (rest.map fun v => v.category).sum ≤ 8) (hdg : decode cc pc = .ok (.invokestatic index, 3)) (hf : cells + mc ≤ R.cells ∧ slots + ms ≤ R.slots)
    (kk : ∀ (H1 : Heap) (locs1 : List Loc), Inv G kd ad s.heap M' H1 locs1 → W p l e R s m args below meth c H1 locs1 (cells + mc) (slots + ms) Q (F0 m (pc + 3) ls (v.toList ++ rest))) : W p l e R s m args below meth c H locs cells slots Q (F0 m pc ls st) := by
  subst hst
  obtain ⟨c1, c3, c4, c5⟩ := hcv
  have hG : GoodIn WA (va_wsS own index y (Cond.code y bytes maxL ret :: WA)) := fun w h => by
    have : w ∈ WA := by
      rcases List.mem_append.mp h with h | h
      · simp only [List.mem_cons, List.not_mem_nil, or_false] at h
        rcases h with rfl | rfl | rfl
        · exact hl
        · exact c1
        · exact c3
      · exact ws_good c4 w h
    exact ⟨this, wa_good w this⟩
  exact g_call (va_runS (As := As) (rest := rest) ⟨hx, hb, hml, hown, hts⟩ hM (va_cwS n hts hG rfl hrc hrs c5 hR) ⟨pg_blind, fun U hU hW => pg_of hap hK hsx hI hU hW⟩ rfl hn hsize rfl (lv_room hW) hdg hf) hI kk
end GR
end
section
theorem bp_10 : (Int8.ofInt (10)).toInt32 = 10 := by decide
theorem bp_40 : (Int8.ofInt (40)).toInt32 = 40 := by decide
theorem bp_8 : (Int8.ofInt (8)).toInt32 = 8 := by decide
theorem bp_9 : (Int8.ofInt (9)).toInt32 = 9 := by decide
theorem ic_m1 : Int32.ofInt (-1) = -1 := by decide
theorem ic_0 : Int32.ofInt (0) = 0 := by decide
theorem ic_1 : Int32.ofInt (1) = 1 := by decide
theorem ic_2 : Int32.ofInt (2) = 2 := by decide
theorem ic_3 : Int32.ofInt (3) = 3 := by decide
theorem ic_4 : Int32.ofInt (4) = 4 := by decide
theorem ic_5 : Int32.ofInt (5) = 5 := by decide
theorem sp_200 : (Int16.ofInt (200)).toInt32 = 200 := by decide
theorem sp_300 : (Int16.ofInt (300)).toInt32 = 300 := by decide
theorem sp_400 : (Int16.ofInt (400)).toInt32 = 400 := by decide
theorem sp_600 : (Int16.ofInt (600)).toInt32 = 600 := by decide
theorem sp_9999 : (Int16.ofInt (9999)).toInt32 = 9999 := by decide
theorem q_s1_2 : (Cond.selects "SheetFolder$Part" ⟨"SheetFolder$Part", "springBackBetween", "(IID)D"⟩ ⟨"SheetFolder$Part", "springBackBetween", "(IID)D"⟩) ∈ WA := wa_q sel_1_k 2 rfl rfl
theorem q_t1_3 : (Cond.initialized "SheetFolder$Part") ∈ WA := wa_q tbl_1 3 rfl rfl
theorem q_t1_20 : (Cond.initialized "java/lang/System") ∈ WA := wa_q tbl_1 20 rfl rfl
theorem q_t1_54 : (Cond.lays "SheetFolder$TextReader" "SheetFolder$TextReader" "kindOfError" "I") ∈ WA := wa_q tbl_1 54 rfl rfl
theorem q_t1_56 : (Cond.lays "SheetFolder$TextReader" "SheetFolder$TextReader" "placeOfError" "I") ∈ WA := wa_q tbl_1 56 rfl rfl
theorem q_t1_58 : (Cond.lays "SheetFolder$TextReader" "SheetFolder$TextReader" "bytes" "[B") ∈ WA := wa_q tbl_1 58 rfl rfl
theorem q_t1_60 : (Cond.lays "SheetFolder$TextReader" "SheetFolder$TextReader" "length" "I") ∈ WA := wa_q tbl_1 60 rfl rfl
theorem q_t1_62 : (Cond.lays "SheetFolder$TextReader" "SheetFolder$TextReader" "tokenFrom" "I") ∈ WA := wa_q tbl_1 62 rfl rfl
theorem q_t1_64 : (Cond.lays "SheetFolder$TextReader" "SheetFolder$TextReader" "tokenTo" "I") ∈ WA := wa_q tbl_1 64 rfl rfl
theorem q_t1_66 : (Cond.lays "SheetFolder$TextReader" "SheetFolder$TextReader" "token" "I") ∈ WA := wa_q tbl_1 66 rfl rfl
theorem q_t1_68 : (Cond.lays "SheetFolder$TextReader" "SheetFolder$TextReader" "tokenNumber" "I") ∈ WA := wa_q tbl_1 68 rfl rfl
theorem q_t1_70 : (Cond.laysFinal "SheetFolder$TextReader" "SheetFolder$TextReader" "numbers" "[I") ∈ WA := wa_q tbl_1 70 rfl rfl
theorem q_t1_82 : (Cond.instanceMethod ⟨"SheetFolder$Part", "clear", "()V"⟩) ∈ WA := wa_q tbl_1 82 rfl rfl
theorem q_t1_83 : (Cond.selects "SheetFolder$Part" ⟨"SheetFolder$Part", "clear", "()V"⟩ ⟨"SheetFolder$Part", "clear", "()V"⟩) ∈ WA := wa_q tbl_1 83 rfl rfl
theorem q_t1_84 : (Cond.code ⟨"SheetFolder$Part", "clear", "()V"⟩ prog_3_method_2_code 1 none) ∈ WA := wa_q tbl_1 84 rfl rfl
theorem q_t1_85 : (Cond.methodLink "SheetFolder$Part" 70 ⟨"SheetFolder$Part", "putSheet", "(III)V"⟩) ∈ WA := wa_q tbl_1 85 rfl rfl
theorem q_t1_86 : (Cond.instanceMethod ⟨"SheetFolder$Part", "putSheet", "(III)V"⟩) ∈ WA := wa_q tbl_1 86 rfl rfl
theorem q_t1_87 : (Cond.selects "SheetFolder$Part" ⟨"SheetFolder$Part", "putSheet", "(III)V"⟩ ⟨"SheetFolder$Part", "putSheet", "(III)V"⟩) ∈ WA := wa_q tbl_1 87 rfl rfl
theorem q_t1_88 : (Cond.code ⟨"SheetFolder$Part", "putSheet", "(III)V"⟩ prog_3_method_4_code 4 none) ∈ WA := wa_q tbl_1 88 rfl rfl
theorem q_t1_89 : (Cond.methodLink "SheetFolder$Part" 74 ⟨"SheetFolder$Part", "putTool", "(III)V"⟩) ∈ WA := wa_q tbl_1 89 rfl rfl
theorem q_t1_90 : (Cond.instanceMethod ⟨"SheetFolder$Part", "putTool", "(III)V"⟩) ∈ WA := wa_q tbl_1 90 rfl rfl
theorem q_t1_91 : (Cond.selects "SheetFolder$Part" ⟨"SheetFolder$Part", "putTool", "(III)V"⟩ ⟨"SheetFolder$Part", "putTool", "(III)V"⟩) ∈ WA := wa_q tbl_1 91 rfl rfl
theorem q_t1_92 : (Cond.code ⟨"SheetFolder$Part", "putTool", "(III)V"⟩ prog_3_method_5_code 4 none) ∈ WA := wa_q tbl_1 92 rfl rfl
theorem q_t1_93 : (Cond.methodLink "SheetFolder$Part" 77 ⟨"SheetFolder$Part", "putCosts", "(III)V"⟩) ∈ WA := wa_q tbl_1 93 rfl rfl
theorem q_t1_94 : (Cond.instanceMethod ⟨"SheetFolder$Part", "putCosts", "(III)V"⟩) ∈ WA := wa_q tbl_1 94 rfl rfl
theorem q_t1_95 : (Cond.selects "SheetFolder$Part" ⟨"SheetFolder$Part", "putCosts", "(III)V"⟩ ⟨"SheetFolder$Part", "putCosts", "(III)V"⟩) ∈ WA := wa_q tbl_1 95 rfl rfl
theorem q_t1_96 : (Cond.code ⟨"SheetFolder$Part", "putCosts", "(III)V"⟩ prog_3_method_6_code 4 none) ∈ WA := wa_q tbl_1 96 rfl rfl
theorem q_t1_97 : (Cond.methodLink "SheetFolder$Part" 80 ⟨"SheetFolder$Part", "dropSteps", "()V"⟩) ∈ WA := wa_q tbl_1 97 rfl rfl
theorem q_t1_98 : (Cond.instanceMethod ⟨"SheetFolder$Part", "dropSteps", "()V"⟩) ∈ WA := wa_q tbl_1 98 rfl rfl
theorem q_t1_99 : (Cond.selects "SheetFolder$Part" ⟨"SheetFolder$Part", "dropSteps", "()V"⟩ ⟨"SheetFolder$Part", "dropSteps", "()V"⟩) ∈ WA := wa_q tbl_1 99 rfl rfl
theorem q_t1_100 : (Cond.code ⟨"SheetFolder$Part", "dropSteps", "()V"⟩ prog_3_method_19_code 1 none) ∈ WA := wa_q tbl_1 100 rfl rfl
theorem q_t1_101 : (Cond.fieldLink "SheetFolder$Part" 9 "SheetFolder$Part" "legCount" "I") ∈ WA := wa_q tbl_1 101 rfl rfl
theorem q_t1_105 : (Cond.fieldLink "SheetFolder$Part" 15 "SheetFolder$Part" "legLengths" "[I") ∈ WA := wa_q tbl_1 105 rfl rfl
theorem q_t1_108 : (Cond.fieldLink "SheetFolder$Part" 19 "SheetFolder$Part" "upBits" "I") ∈ WA := wa_q tbl_1 108 rfl rfl
theorem q_t1_111 : (Cond.fieldLink "SheetFolder$Part" 22 "SheetFolder$Part" "thickness" "I") ∈ WA := wa_q tbl_1 111 rfl rfl
theorem q_t1_113 : (Cond.fieldLink "SheetFolder$Part" 25 "SheetFolder$Part" "radius" "I") ∈ WA := wa_q tbl_1 113 rfl rfl
theorem q_t1_114 : (Cond.fieldLink "SheetFolder$Part" 28 "SheetFolder$Part" "neutral" "I") ∈ WA := wa_q tbl_1 114 rfl rfl
theorem q_t1_115 : (Cond.fieldLink "SheetFolder$Part" 31 "SheetFolder$Part" "toolNumbers" "[I") ∈ WA := wa_q tbl_1 115 rfl rfl
theorem q_t1_118 : (Cond.fieldLink "SheetFolder$Part" 34 "SheetFolder$Part" "flipCost" "I") ∈ WA := wa_q tbl_1 118 rfl rfl
theorem q_t1_120 : (Cond.fieldLink "SheetFolder$Part" 37 "SheetFolder$Part" "turnCost" "I") ∈ WA := wa_q tbl_1 120 rfl rfl
theorem q_t1_121 : (Cond.fieldLink "SheetFolder$Part" 40 "SheetFolder$Part" "moveCost" "I") ∈ WA := wa_q tbl_1 121 rfl rfl
theorem q_t1_122 : (Cond.fieldLink "SheetFolder$Part" 43 "SheetFolder$Part" "backCount" "I") ∈ WA := wa_q tbl_1 122 rfl rfl
theorem q_t1_124 : (Cond.fieldLink "SheetFolder$Part" 46 "SheetFolder$Part" "backRatios" "[I") ∈ WA := wa_q tbl_1 124 rfl rfl
theorem q_t1_125 : (Cond.fieldLink "SheetFolder$Part" 49 "SheetFolder$Part" "backAngles" "[I") ∈ WA := wa_q tbl_1 125 rfl rfl
theorem q_t1_126 : (Cond.fieldLink "SheetFolder$Part" 52 "SheetFolder$Part" "madeBits" "I") ∈ WA := wa_q tbl_1 126 rfl rfl
theorem q_t1_129 : (Cond.fieldLink "SheetFolder$Part" 55 "SheetFolder$Part" "stepCount" "I") ∈ WA := wa_q tbl_1 129 rfl rfl
theorem q_t1_131 : (Cond.fieldLink "SheetFolder$Part" 58 "SheetFolder$Part" "stepCodes" "[I") ∈ WA := wa_q tbl_1 131 rfl rfl
theorem q_t1_133 : (Cond.fieldLink "SheetFolder$Part" 61 "SheetFolder$Part" "stepGauges" "[I") ∈ WA := wa_q tbl_1 133 rfl rfl
theorem q_t1_135 : (Cond.fieldLink "SheetFolder$Part" 64 "SheetFolder$Part" "stepCosts" "[I") ∈ WA := wa_q tbl_1 135 rfl rfl
theorem q_t1_137 : (Cond.lays "SheetFolder$Part" "SheetFolder$Part" "legCount" "I") ∈ WA := wa_q tbl_1 137 rfl rfl
theorem q_t1_139 : (Cond.laysFinal "SheetFolder$Part" "SheetFolder$Part" "legLengths" "[I") ∈ WA := wa_q tbl_1 139 rfl rfl
theorem q_t1_141 : (Cond.lays "SheetFolder$Part" "SheetFolder$Part" "upBits" "I") ∈ WA := wa_q tbl_1 141 rfl rfl
theorem q_t1_143 : (Cond.lays "SheetFolder$Part" "SheetFolder$Part" "thickness" "I") ∈ WA := wa_q tbl_1 143 rfl rfl
theorem q_t1_145 : (Cond.lays "SheetFolder$Part" "SheetFolder$Part" "radius" "I") ∈ WA := wa_q tbl_1 145 rfl rfl
theorem q_t1_147 : (Cond.lays "SheetFolder$Part" "SheetFolder$Part" "neutral" "I") ∈ WA := wa_q tbl_1 147 rfl rfl
theorem q_t1_149 : (Cond.laysFinal "SheetFolder$Part" "SheetFolder$Part" "toolNumbers" "[I") ∈ WA := wa_q tbl_1 149 rfl rfl
theorem q_t1_151 : (Cond.lays "SheetFolder$Part" "SheetFolder$Part" "flipCost" "I") ∈ WA := wa_q tbl_1 151 rfl rfl
theorem q_t1_153 : (Cond.lays "SheetFolder$Part" "SheetFolder$Part" "turnCost" "I") ∈ WA := wa_q tbl_1 153 rfl rfl
theorem q_t1_155 : (Cond.lays "SheetFolder$Part" "SheetFolder$Part" "moveCost" "I") ∈ WA := wa_q tbl_1 155 rfl rfl
theorem q_t1_157 : (Cond.lays "SheetFolder$Part" "SheetFolder$Part" "backCount" "I") ∈ WA := wa_q tbl_1 157 rfl rfl
theorem q_t1_159 : (Cond.laysFinal "SheetFolder$Part" "SheetFolder$Part" "backRatios" "[I") ∈ WA := wa_q tbl_1 159 rfl rfl
theorem q_t1_161 : (Cond.laysFinal "SheetFolder$Part" "SheetFolder$Part" "backAngles" "[I") ∈ WA := wa_q tbl_1 161 rfl rfl
theorem q_t1_163 : (Cond.lays "SheetFolder$Part" "SheetFolder$Part" "madeBits" "I") ∈ WA := wa_q tbl_1 163 rfl rfl
theorem q_t1_165 : (Cond.lays "SheetFolder$Part" "SheetFolder$Part" "stepCount" "I") ∈ WA := wa_q tbl_1 165 rfl rfl
theorem q_t1_167 : (Cond.laysFinal "SheetFolder$Part" "SheetFolder$Part" "stepCodes" "[I") ∈ WA := wa_q tbl_1 167 rfl rfl
theorem q_t1_169 : (Cond.laysFinal "SheetFolder$Part" "SheetFolder$Part" "stepGauges" "[I") ∈ WA := wa_q tbl_1 169 rfl rfl
theorem q_t1_171 : (Cond.laysFinal "SheetFolder$Part" "SheetFolder$Part" "stepCosts" "[I") ∈ WA := wa_q tbl_1 171 rfl rfl
theorem q_t1_187 : (Cond.laysFinal "SheetFolder$History" "SheetFolder$History" "before" "[LSheetFolder$Part;") ∈ WA := wa_q tbl_1 187 rfl rfl
theorem q_t1_189 : (Cond.lays "SheetFolder$History" "SheetFolder$History" "oldest" "I") ∈ WA := wa_q tbl_1 189 rfl rfl
theorem q_t1_191 : (Cond.lays "SheetFolder$History" "SheetFolder$History" "count" "I") ∈ WA := wa_q tbl_1 191 rfl rfl
theorem q_t1_211 : (Cond.laysFinal "SheetFolder$Places" "SheetFolder$Places" "farX" "[I") ∈ WA := wa_q tbl_1 211 rfl rfl
theorem q_t1_213 : (Cond.laysFinal "SheetFolder$Places" "SheetFolder$Places" "farY" "[I") ∈ WA := wa_q tbl_1 213 rfl rfl
theorem q_t1_215 : (Cond.laysFinal "SheetFolder$Places" "SheetFolder$Places" "leastX" "[I") ∈ WA := wa_q tbl_1 215 rfl rfl
theorem q_t1_217 : (Cond.laysFinal "SheetFolder$Places" "SheetFolder$Places" "mostX" "[I") ∈ WA := wa_q tbl_1 217 rfl rfl
theorem q_t1_219 : (Cond.laysFinal "SheetFolder$Places" "SheetFolder$Places" "leastY" "[I") ∈ WA := wa_q tbl_1 219 rfl rfl
theorem q_t1_221 : (Cond.laysFinal "SheetFolder$Places" "SheetFolder$Places" "mostY" "[I") ∈ WA := wa_q tbl_1 221 rfl rfl
theorem q_t1_223 : (Cond.lays "SheetFolder$Places" "SheetFolder$Places" "legCount" "I") ∈ WA := wa_q tbl_1 223 rfl rfl
theorem q_t1_225 : (Cond.lays "SheetFolder$Places" "SheetFolder$Places" "clampedFrom" "I") ∈ WA := wa_q tbl_1 225 rfl rfl
theorem q_t1_227 : (Cond.lays "SheetFolder$Places" "SheetFolder$Places" "clampedTo" "I") ∈ WA := wa_q tbl_1 227 rfl rfl
theorem q_t2_21 : (Cond.lays "SheetFolder$Planner" "SheetFolder$Planner" "leastTotal" "I") ∈ WA := wa_q tbl_2 21 rfl rfl
theorem q_t2_23 : (Cond.lays "SheetFolder$Planner" "SheetFolder$Planner" "greatestTotal" "I") ∈ WA := wa_q tbl_2 23 rfl rfl
theorem q_t2_25 : (Cond.laysFinal "SheetFolder$Planner" "SheetFolder$Planner" "plan" "[I") ∈ WA := wa_q tbl_2 25 rfl rfl
theorem q_t2_27 : (Cond.lays "SheetFolder$Planner" "SheetFolder$Planner" "planLength" "I") ∈ WA := wa_q tbl_2 27 rfl rfl
theorem q_t2_29 : (Cond.laysFinal "SheetFolder$Planner" "SheetFolder$Planner" "places" "LSheetFolder$Places;") ∈ WA := wa_q tbl_2 29 rfl rfl
theorem q_t2_31 : (Cond.laysFinal "SheetFolder$Planner" "SheetFolder$Planner" "known" "LSheetFolder$Part;") ∈ WA := wa_q tbl_2 31 rfl rfl
theorem q_t2_33 : (Cond.lays "SheetFolder$Planner" "SheetFolder$Planner" "isPlanKnown" "Z") ∈ WA := wa_q tbl_2 33 rfl rfl
theorem q_t2_35 : (Cond.laysFinal "SheetFolder$Planner" "SheetFolder$Planner" "openSteps" "[I") ∈ WA := wa_q tbl_2 35 rfl rfl
theorem q_t2_37 : (Cond.laysFinal "SheetFolder$Planner" "SheetFolder$Planner" "isReached" "[Z") ∈ WA := wa_q tbl_2 37 rfl rfl
theorem q_t2_39 : (Cond.laysFinal "SheetFolder$Planner" "SheetFolder$Planner" "orderCounts" "[J") ∈ WA := wa_q tbl_2 39 rfl rfl
theorem q_t2_41 : (Cond.laysFinal "SheetFolder$Planner" "SheetFolder$Planner" "gauges" "[I") ∈ WA := wa_q tbl_2 41 rfl rfl
theorem q_t2_43 : (Cond.laysFinal "SheetFolder$Planner" "SheetFolder$Planner" "leastCosts" "[I") ∈ WA := wa_q tbl_2 43 rfl rfl
theorem q_t2_45 : (Cond.laysFinal "SheetFolder$Planner" "SheetFolder$Planner" "greatestCosts" "[I") ∈ WA := wa_q tbl_2 45 rfl rfl
theorem q_t2_91 : (Cond.laysFinal "SheetFolder" "SheetFolder" "buffer" "[B") ∈ WA := wa_q tbl_2 91 rfl rfl
theorem q_t2_93 : (Cond.lays "SheetFolder" "SheetFolder" "buffered" "I") ∈ WA := wa_q tbl_2 93 rfl rfl
theorem q_t2_95 : (Cond.laysFinal "SheetFolder" "SheetFolder" "reader" "LSheetFolder$TextReader;") ∈ WA := wa_q tbl_2 95 rfl rfl
theorem q_t2_97 : (Cond.laysFinal "SheetFolder" "SheetFolder" "part" "LSheetFolder$Part;") ∈ WA := wa_q tbl_2 97 rfl rfl
theorem q_t2_99 : (Cond.laysFinal "SheetFolder" "SheetFolder" "scratch" "LSheetFolder$Part;") ∈ WA := wa_q tbl_2 99 rfl rfl
theorem q_t2_101 : (Cond.laysFinal "SheetFolder" "SheetFolder" "history" "LSheetFolder$History;") ∈ WA := wa_q tbl_2 101 rfl rfl
theorem q_t2_103 : (Cond.laysFinal "SheetFolder" "SheetFolder" "places" "LSheetFolder$Places;") ∈ WA := wa_q tbl_2 103 rfl rfl
theorem q_t2_105 : (Cond.laysFinal "SheetFolder" "SheetFolder" "planner" "LSheetFolder$Planner;") ∈ WA := wa_q tbl_2 105 rfl rfl
theorem q_t2_107 : (Cond.laysFinal "SheetFolder" "SheetFolder" "output" "Ljava/lang/StringBuilder;") ∈ WA := wa_q tbl_2 107 rfl rfl
theorem q_t2_131 : (Cond.instanceMethod ⟨"SheetFolder$Part", "bendCount", "()I"⟩) ∈ WA := wa_q tbl_2 131 rfl rfl
theorem q_t2_132 : (Cond.selects "SheetFolder$Part" ⟨"SheetFolder$Part", "bendCount", "()I"⟩ ⟨"SheetFolder$Part", "bendCount", "()I"⟩) ∈ WA := wa_q tbl_2 132 rfl rfl
theorem q_t2_133 : (Cond.code ⟨"SheetFolder$Part", "bendCount", "()I"⟩ prog_3_method_10_code 1 (some .int)) ∈ WA := wa_q tbl_2 133 rfl rfl
theorem q_t2_143 : (Cond.instanceMethod ⟨"SheetFolder$Part", "deductionOfBend", "()D"⟩) ∈ WA := wa_q tbl_2 143 rfl rfl
theorem q_t2_144 : (Cond.selects "SheetFolder$Part" ⟨"SheetFolder$Part", "deductionOfBend", "()D"⟩ ⟨"SheetFolder$Part", "deductionOfBend", "()D"⟩) ∈ WA := wa_q tbl_2 144 rfl rfl
theorem q_t2_145 : (Cond.code ⟨"SheetFolder$Part", "deductionOfBend", "()D"⟩ prog_3_method_15_code 1 (some .double)) ∈ WA := wa_q tbl_2 145 rfl rfl
theorem q_t2_146 : (Cond.constantDouble "SheetFolder$Part" 97 (4611686018427387904 : UInt64)) ∈ WA := wa_q tbl_2 146 rfl rfl
theorem q_t2_147 : (Cond.constantDouble "SheetFolder$Part" 99 (4609753073467320487 : UInt64)) ∈ WA := wa_q tbl_2 147 rfl rfl
theorem q_t2_148 : (Cond.constantDouble "SheetFolder$Part" 101 (4636737291354636288 : UInt64)) ∈ WA := wa_q tbl_2 148 rfl rfl
theorem q_t2_154 : (Cond.instanceMethod ⟨"SheetFolder$Part", "sumOfLegs", "(I)I"⟩) ∈ WA := wa_q tbl_2 154 rfl rfl
theorem q_t2_155 : (Cond.selects "SheetFolder$Part" ⟨"SheetFolder$Part", "sumOfLegs", "(I)I"⟩ ⟨"SheetFolder$Part", "sumOfLegs", "(I)I"⟩) ∈ WA := wa_q tbl_2 155 rfl rfl
theorem q_t2_156 : (Cond.code ⟨"SheetFolder$Part", "sumOfLegs", "(I)I"⟩ prog_3_method_13_code 4 (some .int)) ∈ WA := wa_q tbl_2 156 rfl rfl
theorem q_t2_162 : (Cond.instanceMethod ⟨"SheetFolder$Part", "ratioOfSheet", "()D"⟩) ∈ WA := wa_q tbl_2 162 rfl rfl
theorem q_t2_163 : (Cond.selects "SheetFolder$Part" ⟨"SheetFolder$Part", "ratioOfSheet", "()D"⟩ ⟨"SheetFolder$Part", "ratioOfSheet", "()D"⟩) ∈ WA := wa_q tbl_2 163 rfl rfl
theorem q_t2_164 : (Cond.code ⟨"SheetFolder$Part", "ratioOfSheet", "()D"⟩ prog_3_method_16_code 1 (some .double)) ∈ WA := wa_q tbl_2 164 rfl rfl
theorem q_t2_165 : (Cond.constantDouble "SheetFolder$Part" 103 (4621819117588971520 : UInt64)) ∈ WA := wa_q tbl_2 165 rfl rfl
theorem q_t2_171 : (Cond.instanceMethod ⟨"SheetFolder$Part", "springBackAt", "(D)D"⟩) ∈ WA := wa_q tbl_2 171 rfl rfl
theorem q_t2_172 : (Cond.selects "SheetFolder$Part" ⟨"SheetFolder$Part", "springBackAt", "(D)D"⟩ ⟨"SheetFolder$Part", "springBackAt", "(D)D"⟩) ∈ WA := wa_q tbl_2 172 rfl rfl
theorem q_t2_173 : (Cond.code ⟨"SheetFolder$Part", "springBackAt", "(D)D"⟩ prog_3_method_17_code 4 (some .double)) ∈ WA := wa_q tbl_2 173 rfl rfl
theorem q_t2_174 : (Cond.methodLink "SheetFolder$Part" 105 ⟨"SheetFolder$Part", "springBackBetween", "(IID)D"⟩) ∈ WA := wa_q tbl_2 174 rfl rfl
theorem q_t2_176 : (Cond.instanceMethod ⟨"SheetFolder$Part", "springBackBetween", "(IID)D"⟩) ∈ WA := wa_q tbl_2 176 rfl rfl
theorem q_t2_177 : (Cond.code ⟨"SheetFolder$Part", "springBackBetween", "(IID)D"⟩ prog_3_method_18_code 9 (some .double)) ∈ WA := wa_q tbl_2 177 rfl rfl
theorem q_t2_191 : (Cond.instanceMethod ⟨"SheetFolder$Part", "allBends", "()I"⟩) ∈ WA := wa_q tbl_2 191 rfl rfl
theorem q_t2_192 : (Cond.selects "SheetFolder$Part" ⟨"SheetFolder$Part", "allBends", "()I"⟩ ⟨"SheetFolder$Part", "allBends", "()I"⟩) ∈ WA := wa_q tbl_2 192 rfl rfl
theorem q_t2_193 : (Cond.code ⟨"SheetFolder$Part", "allBends", "()I"⟩ prog_3_method_11_code 1 (some .int)) ∈ WA := wa_q tbl_2 193 rfl rfl
theorem q_t2_194 : (Cond.methodLink "SheetFolder$Part" 89 ⟨"SheetFolder$Part", "bendCount", "()I"⟩) ∈ WA := wa_q tbl_2 194 rfl rfl
theorem q_t2_229 : (Cond.instanceMethod ⟨"SheetFolder$Part", "isSameFromOtherEnd", "()Z"⟩) ∈ WA := wa_q tbl_2 229 rfl rfl
theorem q_t2_230 : (Cond.selects "SheetFolder$Part" ⟨"SheetFolder$Part", "isSameFromOtherEnd", "()Z"⟩ ⟨"SheetFolder$Part", "isSameFromOtherEnd", "()Z"⟩) ∈ WA := wa_q tbl_2 230 rfl rfl
theorem q_t2_231 : (Cond.code ⟨"SheetFolder$Part", "isSameFromOtherEnd", "()Z"⟩ prog_3_method_14_code 2 (some .boolean)) ∈ WA := wa_q tbl_2 231 rfl rfl
theorem q_t2_232 : (Cond.methodLink "SheetFolder$Part" 93 ⟨"SheetFolder$Part", "goesUp", "(I)Z"⟩) ∈ WA := wa_q tbl_2 232 rfl rfl
theorem q_t2_233 : (Cond.instanceMethod ⟨"SheetFolder$Part", "goesUp", "(I)Z"⟩) ∈ WA := wa_q tbl_2 233 rfl rfl
theorem q_t2_234 : (Cond.selects "SheetFolder$Part" ⟨"SheetFolder$Part", "goesUp", "(I)Z"⟩ ⟨"SheetFolder$Part", "goesUp", "(I)Z"⟩) ∈ WA := wa_q tbl_2 234 rfl rfl
theorem q_t2_235 : (Cond.code ⟨"SheetFolder$Part", "goesUp", "(I)Z"⟩ prog_3_method_12_code 2 (some .boolean)) ∈ WA := wa_q tbl_2 235 rfl rfl
theorem q_t3_13 : (Cond.instanceMethod ⟨"SheetFolder$Part", "sumOfCosts", "()I"⟩) ∈ WA := wa_q tbl_3 13 rfl rfl
theorem q_t3_14 : (Cond.selects "SheetFolder$Part" ⟨"SheetFolder$Part", "sumOfCosts", "()I"⟩ ⟨"SheetFolder$Part", "sumOfCosts", "()I"⟩) ∈ WA := wa_q tbl_3 14 rfl rfl
theorem q_t3_15 : (Cond.code ⟨"SheetFolder$Part", "sumOfCosts", "()I"⟩ prog_3_method_23_code 3 (some .int)) ∈ WA := wa_q tbl_3 15 rfl rfl
theorem q_t3_64 : (Cond.instanceMethod ⟨"SheetFolder$Part", "bendsLike", "(LSheetFolder$Part;)Z"⟩) ∈ WA := wa_q tbl_3 64 rfl rfl
theorem q_t3_65 : (Cond.selects "SheetFolder$Part" ⟨"SheetFolder$Part", "bendsLike", "(LSheetFolder$Part;)Z"⟩ ⟨"SheetFolder$Part", "bendsLike", "(LSheetFolder$Part;)Z"⟩) ∈ WA := wa_q tbl_3 65 rfl rfl
theorem q_t3_66 : (Cond.code ⟨"SheetFolder$Part", "bendsLike", "(LSheetFolder$Part;)Z"⟩ prog_3_method_25_code 3 (some .boolean)) ∈ WA := wa_q tbl_3 66 rfl rfl
theorem q_t3_68 : (Cond.instanceMethod ⟨"SheetFolder$Part", "goesOnLike", "(LSheetFolder$Part;)Z"⟩) ∈ WA := wa_q tbl_3 68 rfl rfl
theorem q_t3_69 : (Cond.selects "SheetFolder$Part" ⟨"SheetFolder$Part", "goesOnLike", "(LSheetFolder$Part;)Z"⟩ ⟨"SheetFolder$Part", "goesOnLike", "(LSheetFolder$Part;)Z"⟩) ∈ WA := wa_q tbl_3 69 rfl rfl
theorem q_t3_70 : (Cond.code ⟨"SheetFolder$Part", "goesOnLike", "(LSheetFolder$Part;)Z"⟩ prog_3_method_26_code 2 (some .boolean)) ∈ WA := wa_q tbl_3 70 rfl rfl
theorem q_t3_71 : (Cond.methodLink "SheetFolder$Part" 109 ⟨"SheetFolder$Part", "lastCode", "()I"⟩) ∈ WA := wa_q tbl_3 71 rfl rfl
theorem q_t3_72 : (Cond.instanceMethod ⟨"SheetFolder$Part", "lastCode", "()I"⟩) ∈ WA := wa_q tbl_3 72 rfl rfl
theorem q_t3_73 : (Cond.selects "SheetFolder$Part" ⟨"SheetFolder$Part", "lastCode", "()I"⟩ ⟨"SheetFolder$Part", "lastCode", "()I"⟩) ∈ WA := wa_q tbl_3 73 rfl rfl
theorem q_t3_74 : (Cond.code ⟨"SheetFolder$Part", "lastCode", "()I"⟩ prog_3_method_21_code 1 (some .int)) ∈ WA := wa_q tbl_3 74 rfl rfl
theorem q_t3_75 : (Cond.methodLink "SheetFolder$Part" 112 ⟨"SheetFolder$Part", "lastGauge", "()I"⟩) ∈ WA := wa_q tbl_3 75 rfl rfl
theorem q_t3_76 : (Cond.instanceMethod ⟨"SheetFolder$Part", "lastGauge", "()I"⟩) ∈ WA := wa_q tbl_3 76 rfl rfl
theorem q_t3_77 : (Cond.selects "SheetFolder$Part" ⟨"SheetFolder$Part", "lastGauge", "()I"⟩ ⟨"SheetFolder$Part", "lastGauge", "()I"⟩) ∈ WA := wa_q tbl_3 77 rfl rfl
theorem q_t3_78 : (Cond.code ⟨"SheetFolder$Part", "lastGauge", "()I"⟩ prog_3_method_22_code 1 (some .int)) ∈ WA := wa_q tbl_3 78 rfl rfl
theorem q_t3_84 : (Cond.instanceMethod ⟨"SheetFolder$Part", "copyFrom", "(LSheetFolder$Part;)V"⟩) ∈ WA := wa_q tbl_3 84 rfl rfl
theorem q_t3_85 : (Cond.selects "SheetFolder$Part" ⟨"SheetFolder$Part", "copyFrom", "(LSheetFolder$Part;)V"⟩ ⟨"SheetFolder$Part", "copyFrom", "(LSheetFolder$Part;)V"⟩) ∈ WA := wa_q tbl_3 85 rfl rfl
theorem q_t3_86 : (Cond.code ⟨"SheetFolder$Part", "copyFrom", "(LSheetFolder$Part;)V"⟩ prog_3_method_3_code 2 none) ∈ WA := wa_q tbl_3 86 rfl rfl
theorem q_t3_87 : (Cond.methodLink "SheetFolder$Part" 83 ⟨"java/lang/System", "arraycopy", "(Ljava/lang/Object;ILjava/lang/Object;II)V"⟩) ∈ WA := wa_q tbl_3 87 rfl rfl
theorem q_t3_88 : (Cond.static ⟨"java/lang/System", "arraycopy", "(Ljava/lang/Object;ILjava/lang/Object;II)V"⟩) ∈ WA := wa_q tbl_3 88 rfl rfl
theorem q_t3_89 : (Cond.native ⟨"java/lang/System", "arraycopy", "(Ljava/lang/Object;ILjava/lang/Object;II)V"⟩) ∈ WA := wa_q tbl_3 89 rfl rfl
theorem q_t3_126 : (Cond.instanceMethod ⟨"SheetFolder$Part", "priceBetween", "(IIII)I"⟩) ∈ WA := wa_q tbl_3 126 rfl rfl
theorem q_t3_127 : (Cond.selects "SheetFolder$Part" ⟨"SheetFolder$Part", "priceBetween", "(IIII)I"⟩ ⟨"SheetFolder$Part", "priceBetween", "(IIII)I"⟩) ∈ WA := wa_q tbl_3 127 rfl rfl
theorem q_t3_128 : (Cond.code ⟨"SheetFolder$Part", "priceBetween", "(IIII)I"⟩ prog_3_method_24_code 6 (some .int)) ∈ WA := wa_q tbl_3 128 rfl rfl
theorem q_t5_205 : (Cond.instanceMethod ⟨"SheetFolder$Part", "lastBackRatio", "()I"⟩) ∈ WA := wa_q tbl_5 205 rfl rfl
theorem q_t5_206 : (Cond.selects "SheetFolder$Part" ⟨"SheetFolder$Part", "lastBackRatio", "()I"⟩ ⟨"SheetFolder$Part", "lastBackRatio", "()I"⟩) ∈ WA := wa_q tbl_5 206 rfl rfl
theorem q_t5_207 : (Cond.code ⟨"SheetFolder$Part", "lastBackRatio", "()I"⟩ prog_3_method_8_code 1 (some .int)) ∈ WA := wa_q tbl_5 207 rfl rfl
theorem q_t5_235 : (Cond.instanceMethod ⟨"SheetFolder$Part", "addBack", "(II)V"⟩) ∈ WA := wa_q tbl_5 235 rfl rfl
theorem q_t5_236 : (Cond.selects "SheetFolder$Part" ⟨"SheetFolder$Part", "addBack", "(II)V"⟩ ⟨"SheetFolder$Part", "addBack", "(II)V"⟩) ∈ WA := wa_q tbl_5 236 rfl rfl
theorem q_t5_237 : (Cond.code ⟨"SheetFolder$Part", "addBack", "(II)V"⟩ prog_3_method_7_code 3 none) ∈ WA := wa_q tbl_5 237 rfl rfl
theorem q_t6_0 : (Cond.instanceMethod ⟨"SheetFolder$Part", "addLeg", "(IZ)V"⟩) ∈ WA := wa_q tbl_6 0 rfl rfl
theorem q_t6_1 : (Cond.selects "SheetFolder$Part" ⟨"SheetFolder$Part", "addLeg", "(IZ)V"⟩ ⟨"SheetFolder$Part", "addLeg", "(IZ)V"⟩) ∈ WA := wa_q tbl_6 1 rfl rfl
theorem q_t6_2 : (Cond.code ⟨"SheetFolder$Part", "addLeg", "(IZ)V"⟩ prog_3_method_9_code 3 none) ∈ WA := wa_q tbl_6 2 rfl rfl
theorem q_t6_223 : (Cond.instanceMethod ⟨"SheetFolder$Part", "addStep", "(III)V"⟩) ∈ WA := wa_q tbl_6 223 rfl rfl
theorem q_t6_224 : (Cond.selects "SheetFolder$Part" ⟨"SheetFolder$Part", "addStep", "(III)V"⟩ ⟨"SheetFolder$Part", "addStep", "(III)V"⟩) ∈ WA := wa_q tbl_6 224 rfl rfl
theorem q_t6_225 : (Cond.code ⟨"SheetFolder$Part", "addStep", "(III)V"⟩ prog_3_method_20_code 4 none) ∈ WA := wa_q tbl_6 225 rfl rfl
theorem q_t7_107 : (Cond.laysFinal "SheetFolderModel" "SheetFolderModel" "s" "[I") ∈ WA := wa_q tbl_7 107 rfl rfl
theorem q_t7_109 : (Cond.laysFinal "SheetFolderModel" "SheetFolderModel" "parsed" "[I") ∈ WA := wa_q tbl_7 109 rfl rfl
theorem q_t7_111 : (Cond.laysFinal "SheetFolderModel" "SheetFolderModel" "aside" "[I") ∈ WA := wa_q tbl_7 111 rfl rfl
theorem q_t7_113 : (Cond.laysFinal "SheetFolderModel" "SheetFolderModel" "history" "[I") ∈ WA := wa_q tbl_7 113 rfl rfl
theorem q_t7_115 : (Cond.lays "SheetFolderModel" "SheetFolderModel" "edits" "I") ∈ WA := wa_q tbl_7 115 rfl rfl
theorem q_t7_117 : (Cond.lays "SheetFolderModel" "SheetFolderModel" "thrown" "I") ∈ WA := wa_q tbl_7 117 rfl rfl
theorem q_t7_119 : (Cond.laysFinal "SheetFolderModel" "SheetFolderModel" "buffer" "[I") ∈ WA := wa_q tbl_7 119 rfl rfl
theorem q_t7_121 : (Cond.lays "SheetFolderModel" "SheetFolderModel" "buffered" "I") ∈ WA := wa_q tbl_7 121 rfl rfl
theorem q_t7_123 : (Cond.lays "SheetFolderModel" "SheetFolderModel" "errorKind" "I") ∈ WA := wa_q tbl_7 123 rfl rfl
theorem q_t7_125 : (Cond.lays "SheetFolderModel" "SheetFolderModel" "errorPosition" "I") ∈ WA := wa_q tbl_7 125 rfl rfl
theorem q_t7_127 : (Cond.lays "SheetFolderModel" "SheetFolderModel" "length" "I") ∈ WA := wa_q tbl_7 127 rfl rfl
theorem q_t7_129 : (Cond.lays "SheetFolderModel" "SheetFolderModel" "start" "I") ∈ WA := wa_q tbl_7 129 rfl rfl
theorem q_t7_131 : (Cond.lays "SheetFolderModel" "SheetFolderModel" "next" "I") ∈ WA := wa_q tbl_7 131 rfl rfl
theorem q_t7_133 : (Cond.lays "SheetFolderModel" "SheetFolderModel" "token" "I") ∈ WA := wa_q tbl_7 133 rfl rfl
theorem q_t7_135 : (Cond.lays "SheetFolderModel" "SheetFolderModel" "value" "I") ∈ WA := wa_q tbl_7 135 rfl rfl
theorem q_t7_137 : (Cond.lays "SheetFolderModel" "SheetFolderModel" "kind" "I") ∈ WA := wa_q tbl_7 137 rfl rfl
theorem q_t7_139 : (Cond.lays "SheetFolderModel" "SheetFolderModel" "position" "I") ∈ WA := wa_q tbl_7 139 rfl rfl
theorem q_t7_141 : (Cond.laysFinal "SheetFolderModel" "SheetFolderModel" "fromX" "[I") ∈ WA := wa_q tbl_7 141 rfl rfl
theorem q_t7_143 : (Cond.laysFinal "SheetFolderModel" "SheetFolderModel" "fromY" "[I") ∈ WA := wa_q tbl_7 143 rfl rfl
theorem q_t7_145 : (Cond.laysFinal "SheetFolderModel" "SheetFolderModel" "toX" "[I") ∈ WA := wa_q tbl_7 145 rfl rfl
theorem q_t7_147 : (Cond.laysFinal "SheetFolderModel" "SheetFolderModel" "toY" "[I") ∈ WA := wa_q tbl_7 147 rfl rfl
theorem q_t7_149 : (Cond.lays "SheetFolderModel" "SheetFolderModel" "x" "I") ∈ WA := wa_q tbl_7 149 rfl rfl
theorem q_t7_151 : (Cond.lays "SheetFolderModel" "SheetFolderModel" "y" "I") ∈ WA := wa_q tbl_7 151 rfl rfl
theorem q_t7_153 : (Cond.laysFinal "SheetFolderModel" "SheetFolderModel" "can" "[Z") ∈ WA := wa_q tbl_7 153 rfl rfl
theorem q_t7_155 : (Cond.laysFinal "SheetFolderModel" "SheetFolderModel" "gauges" "[I") ∈ WA := wa_q tbl_7 155 rfl rfl
theorem q_t7_157 : (Cond.laysFinal "SheetFolderModel" "SheetFolderModel" "many" "[J") ∈ WA := wa_q tbl_7 157 rfl rfl
theorem q_t7_159 : (Cond.laysFinal "SheetFolderModel" "SheetFolderModel" "least" "[I") ∈ WA := wa_q tbl_7 159 rfl rfl
theorem q_t7_161 : (Cond.laysFinal "SheetFolderModel" "SheetFolderModel" "most" "[I") ∈ WA := wa_q tbl_7 161 rfl rfl
theorem q_t7_163 : (Cond.laysFinal "SheetFolderModel" "SheetFolderModel" "isReached" "[Z") ∈ WA := wa_q tbl_7 163 rfl rfl
theorem q_t7_165 : (Cond.laysFinal "SheetFolderModel" "SheetFolderModel" "output" "[I") ∈ WA := wa_q tbl_7 165 rfl rfl
theorem q_t7_167 : (Cond.lays "SheetFolderModel" "SheetFolderModel" "outputLength" "I") ∈ WA := wa_q tbl_7 167 rfl rfl
end
section
/-! at a program counter, over any world that holds the memory -/
def At (p : Program) (l : Launch) (e : Env) (R : Room) (s : State) (m : MethodId) (args : Array Value) (below : List Frame) (meth : Method) (c : Code) (cells slots : Nat) (Q : State → Prop) (G : GT) (kd : Nat → Nat × Nat) (ad : Nat → Nat) (nL pc : Nat) (lv : List (Nat × Value)) (st : List Value) (M : Mem) : Prop :=
  ∀ (H : Heap) (locs : List Loc) (ls : Array Slot), Inv G kd ad s.heap M H locs → lv_has ls nL lv → W p l e R s m args below meth c H locs cells slots Q (F0 m pc ls st)
def nzb (y : Int32) : Bool := !(decide (y = 0))
theorem nz_b {y : Int32} (h : nzb y = true) : ¬ y = 0 := by
  simp only [nzb, Bool.not_eq_true', decide_eq_false_iff_not] at h; exact h
def n64b (r : UInt64) : Bool := decide (r &&& 0x7fffffffffffffff ≤ 0x7ff0000000000000)
theorem n64_b {r : UInt64} (h : n64b r = true) : vf_n64 r := by
  unfold vf_n64; exact of_decide_eq_true h
def isB (r : Int32) : Bool := decide (r = 0) || decide (r = 1)
theorem isB_n {r : Int32} (h : isB r = true) : narrow .boolean (.int r) = .int r := by
  simp only [isB, Bool.or_eq_true, decide_eq_true_eq] at h
  rcases h with rfl | rfl <;> rfl
def imax (a b : Int32) : Int32 := if a < b then b else a
def imin (a b : Int32) : Int32 := if b < a then b else a
theorem okb_lt {i : Int32} {n : Nat} (h : okb i n = true) : i.toNatClampNeg < n := by
  simp only [okb, Bool.and_eq_true, decide_eq_true_eq] at h; exact h.2
theorem ii_e {x v k : Int32} {n : Int} (h : v = x + k) (hk : Int32.ofInt n = k) : x + Int32.ofInt n = v := by rw [hk, h]
theorem by_c {c A : Prop} [Decidable c] (a : c → A) (b : ¬ c → A) : A := if h : c then a h else b h
theorem sw_ne {x k : Int32} {z : Int} (h : ¬ x = k) (hz : k.toInt = z) : x.toInt ≠ z := fun q => h (Int32.toInt_inj.mp (q.trans hz.symm))
theorem byt_b {M : Mem} {k : Nat} (h : decide (rd M k 2 = 1) = true) : (if M.1 k 2 = 1 then 1 else 4) = 1 := if_pos (of_decide_eq_true h)
def kPart (kd : Nat → Nat × Nat) (k : Nat) : Prop := kd k = (1, 0) ∧ kd (k + 1) = (10, 9) ∧ kd (k + 2) = (10, 10) ∧ kd (k + 3) = (10, 8) ∧ kd (k + 4) = (10, 8) ∧ kd (k + 5) = (10, 8) ∧ kd (k + 6) = (10, 8) ∧ kd (k + 7) = (10, 8)
def kPlaces (kd : Nat → Nat × Nat) (k : Nat) : Prop := kd k = (2, 0) ∧ kd (k + 1) = (10, 9) ∧ kd (k + 2) = (10, 9) ∧ kd (k + 3) = (10, 9) ∧ kd (k + 4) = (10, 9) ∧ kd (k + 5) = (10, 9) ∧ kd (k + 6) = (10, 9)
def kPlanner (kd : Nat → Nat × Nat) (k : Nat) : Prop := kd k = (3, 0) ∧ kd (k + 1) = (10, 8) ∧ kPlaces kd (k + 2) ∧ kPart kd (k + 9) ∧ kd (k + 17) = (10, 256) ∧ kd (k + 18) = (12, 256) ∧ kd (k + 19) = (13, 256) ∧ kd (k + 20) = (10, 4096) ∧ kd (k + 21) = (10, 4096) ∧ kd (k + 22) = (10, 4096)
def kHist (kd : Nat → Nat × Nat) (k : Nat) : Prop := kd k = (4, 0) ∧ kd (k + 1) = (8, 10) ∧ ∀ i, i < 10 → kPart kd (k + 1 + 1 + 8 * i)
def kReader (kd : Nat → Nat × Nat) (k : Nat) : Prop := kd k = (5, 0) ∧ kd (k + 1) = (10, 3) ∧ kd 1 = (11, 600)
def kRoot (kd : Nat → Nat × Nat) (k : Nat) : Prop := kd k = (6, 0) ∧ kd 1 = (11, 600) ∧ kReader kd 2 ∧ kPart kd 5 ∧ kPart kd 13 ∧ kHist kd 21 ∧ kPlaces kd 103 ∧ kPlanner kd 110
def kModel (kd : Nat → Nat × Nat) (k : Nat) : Prop := kd k = (7, 0) ∧ kd (k + 1) = (10, 86) ∧ kd (k + 2) = (10, 86) ∧ kd (k + 3) = (10, 86) ∧ kd (k + 4) = (10, 860) ∧ kd (k + 5) = (10, 600) ∧ kd (k + 6) = (10, 9) ∧ kd (k + 7) = (10, 9) ∧ kd (k + 8) = (10, 9) ∧ kd (k + 9) = (10, 9) ∧ kd (k + 10) = (12, 4096) ∧ kd (k + 11) = (10, 4096) ∧ kd (k + 12) = (13, 256) ∧ kd (k + 13) = (10, 4352) ∧ kd (k + 14) = (10, 4352) ∧ kd (k + 15) = (12, 256) ∧ kd (k + 16) = (10, 120)
section GH
variable {p : Program} {l : Launch} {e : Env} {R : Room} {s : State} {m : MethodId} {args : Array Value} {below : List Frame} {meth : Method} {c : Code} {H : Heap} {locs : List Loc} {cells slots : Nat} {Q : State → Prop}
variable {cc : ByteArray} {pc : Nat} {ls : Array Slot} {rest : List Value} {G : GT} {kd : Nat → Nat × Nat} {ad : Nat → Nat} {M : Mem} {H0 : Heap}
theorem lv_et {a b : Int32} (h : a = b) (k : W p l e R s m args below meth c H locs cells slots Q (F0 m pc ls (.int b :: rest))) : W p l e R s m args below meth c H locs cells slots Q (F0 m pc ls (.int a :: rest)) := by subst h; exact k
theorem lv_ei {a b : Int32} (h : b = a) (k : W p l e R s m args below meth c H locs cells slots Q (F0 m pc ls (.int b :: rest))) : W p l e R s m args below meth c H locs cells slots Q (F0 m pc ls (.int a :: rest)) := by subst h; exact k
theorem lv_el {a b : Int64} (h : b = a) (k : W p l e R s m args below meth c H locs cells slots Q (F0 m pc ls (.long b :: rest))) : W p l e R s m args below meth c H locs cells slots Q (F0 m pc ls (.long a :: rest)) := by subst h; exact k
theorem lv_ed {a b : UInt64} (h : b = a) (k : W p l e R s m args below meth c H locs cells slots Q (F0 m pc ls (.double b :: rest))) : W p l e R s m args below meth c H locs cells slots Q (F0 m pc ls (.double a :: rest)) := by subst h; exact k
theorem inW0 : ∀ w ∈ u_ws RX0 TX0 3, w ∈ WA := wa_f (List.forall_mem_cons.mpr ⟨q_t1_187, List.forall_mem_cons.mpr ⟨q_t1_189, List.forall_mem_cons.mpr ⟨q_t1_191, fun _ h => absurd h List.not_mem_nil⟩⟩⟩) _ rfl
theorem gg0_0 (hx : p.tables.exec = Jvm.exec) (hb : c.code = cc) (hts : ∀ w ∈ WA, w.before args s = true) {own : String} {index k : Nat} (hown : s.vm.findClass own = some m.cls) (hK : va_K G.1 vwCl (tyL G) s) (hI : Inv G kd ad H0 M H locs) (hk : kd k = (4, 0)) (hlink : Cond.fieldLink own index "SheetFolder$History" "before" "[LSheetFolder$Part;" ∈ WA) (hdg : decode cc pc = .ok (.getfield index, 3)) (kk : W p l e R s m args below meth c H locs cells slots Q (F0 m (pc + 3) ls (.ref (ad (k + 1)) :: rest))) : W p l e R s m args below meth c H locs cells slots Q (F0 m pc ls (.ref (ad k) :: rest)) :=
  g_get hx hb hts inW0 hown hK hI hk (by simp) rfl rfl 0 (by decide) ⟨rfl, rfl, rfl⟩ hlink rfl hdg kk
theorem gg0_1 (hx : p.tables.exec = Jvm.exec) (hb : c.code = cc) (hts : ∀ w ∈ WA, w.before args s = true) {own : String} {index k : Nat} (hown : s.vm.findClass own = some m.cls) (hK : va_K G.1 vwCl (tyL G) s) (hI : Inv G kd ad H0 M H locs) (hk : kd k = (4, 0)) (hlink : Cond.fieldLink own index "SheetFolder$History" "oldest" "I" ∈ WA) (hdg : decode cc pc = .ok (.getfield index, 3)) (kk : W p l e R s m args below meth c H locs cells slots Q (F0 m (pc + 3) ls (.int (rd M k 1) :: rest))) : W p l e R s m args below meth c H locs cells slots Q (F0 m pc ls (.ref (ad k) :: rest)) :=
  g_get hx hb hts inW0 hown hK hI hk (by simp) rfl rfl 1 (by decide) ⟨rfl, rfl, rfl⟩ hlink rfl hdg kk
theorem gp0_1 (hx : p.tables.exec = Jvm.exec) (hb : c.code = cc) (hts : ∀ w ∈ WA, w.before args s = true) {own : String} {index k : Nat} (hown : s.vm.findClass own = some m.cls) (hK : va_K G.1 vwCl (tyL G) s) (hap : Apt kd ad) (hI : Inv G kd ad H0 M H locs) (hk : kd k = (4, 0)) (hlink : Cond.fieldLink own index "SheetFolder$History" "oldest" "I" ∈ WA) {v : Int32} (hdg : decode cc pc = .ok (.putfield index, 3)) {M' : Mem} (hM : M' = wr M k 1 v) (kk : ∀ (H1 : Heap) (locs1 : List Loc), Inv G kd ad H0 M' H1 locs1 → W p l e R s m args below meth c H1 locs1 cells slots Q (F0 m (pc + 3) ls rest)) : W p l e R s m args below meth c H locs cells slots Q (F0 m pc ls (.int v :: .ref (ad k) :: rest)) := by
  subst hM
  exact g_put hx hb hts inW0 tyX0 tyX0_ok nmX0 hown hK hap hI hk (by simp) rfl rfl 1 (by decide) ⟨rfl, rfl, rfl⟩ hlink rfl (ty := .int) (by decide +kernel) rfl rfl (Nat.le_of_ble_eq_true rfl) (by rw [wr_s]; rfl) wr_o hdg kk
theorem gg0_2 (hx : p.tables.exec = Jvm.exec) (hb : c.code = cc) (hts : ∀ w ∈ WA, w.before args s = true) {own : String} {index k : Nat} (hown : s.vm.findClass own = some m.cls) (hK : va_K G.1 vwCl (tyL G) s) (hI : Inv G kd ad H0 M H locs) (hk : kd k = (4, 0)) (hlink : Cond.fieldLink own index "SheetFolder$History" "count" "I" ∈ WA) (hdg : decode cc pc = .ok (.getfield index, 3)) (kk : W p l e R s m args below meth c H locs cells slots Q (F0 m (pc + 3) ls (.int (rd M k 2) :: rest))) : W p l e R s m args below meth c H locs cells slots Q (F0 m pc ls (.ref (ad k) :: rest)) :=
  g_get hx hb hts inW0 hown hK hI hk (by simp) rfl rfl 2 (by decide) ⟨rfl, rfl, rfl⟩ hlink rfl hdg kk
theorem gp0_2 (hx : p.tables.exec = Jvm.exec) (hb : c.code = cc) (hts : ∀ w ∈ WA, w.before args s = true) {own : String} {index k : Nat} (hown : s.vm.findClass own = some m.cls) (hK : va_K G.1 vwCl (tyL G) s) (hap : Apt kd ad) (hI : Inv G kd ad H0 M H locs) (hk : kd k = (4, 0)) (hlink : Cond.fieldLink own index "SheetFolder$History" "count" "I" ∈ WA) {v : Int32} (hdg : decode cc pc = .ok (.putfield index, 3)) {M' : Mem} (hM : M' = wr M k 2 v) (kk : ∀ (H1 : Heap) (locs1 : List Loc), Inv G kd ad H0 M' H1 locs1 → W p l e R s m args below meth c H1 locs1 cells slots Q (F0 m (pc + 3) ls rest)) : W p l e R s m args below meth c H locs cells slots Q (F0 m pc ls (.int v :: .ref (ad k) :: rest)) := by
  subst hM
  exact g_put hx hb hts inW0 tyX0 tyX0_ok nmX0 hown hK hap hI hk (by simp) rfl rfl 2 (by decide) ⟨rfl, rfl, rfl⟩ hlink rfl (ty := .int) (by decide +kernel) rfl rfl (Nat.le_of_ble_eq_true rfl) (by rw [wr_s]; rfl) wr_o hdg kk
theorem inW1 : ∀ w ∈ u_ws RX1 TX1 18, w ∈ WA := wa_f (List.forall_mem_cons.mpr ⟨q_t1_137, List.forall_mem_cons.mpr ⟨q_t1_139, List.forall_mem_cons.mpr ⟨q_t1_141, List.forall_mem_cons.mpr ⟨q_t1_143, List.forall_mem_cons.mpr ⟨q_t1_145, List.forall_mem_cons.mpr ⟨q_t1_147, List.forall_mem_cons.mpr ⟨q_t1_149, List.forall_mem_cons.mpr ⟨q_t1_151, List.forall_mem_cons.mpr ⟨q_t1_153, List.forall_mem_cons.mpr ⟨q_t1_155, List.forall_mem_cons.mpr ⟨q_t1_157, List.forall_mem_cons.mpr ⟨q_t1_159, List.forall_mem_cons.mpr ⟨q_t1_161, List.forall_mem_cons.mpr ⟨q_t1_163, List.forall_mem_cons.mpr ⟨q_t1_165, List.forall_mem_cons.mpr ⟨q_t1_167, List.forall_mem_cons.mpr ⟨q_t1_169, List.forall_mem_cons.mpr ⟨q_t1_171, fun _ h => absurd h List.not_mem_nil⟩⟩⟩⟩⟩⟩⟩⟩⟩⟩⟩⟩⟩⟩⟩⟩⟩⟩) _ rfl
theorem gg1_0 (hx : p.tables.exec = Jvm.exec) (hb : c.code = cc) (hts : ∀ w ∈ WA, w.before args s = true) {own : String} {index k : Nat} (hown : s.vm.findClass own = some m.cls) (hK : va_K G.1 vwCl (tyL G) s) (hI : Inv G kd ad H0 M H locs) (hk : kd k = (1, 0)) (hlink : Cond.fieldLink own index "SheetFolder$Part" "legCount" "I" ∈ WA) (hdg : decode cc pc = .ok (.getfield index, 3)) (kk : W p l e R s m args below meth c H locs cells slots Q (F0 m (pc + 3) ls (.int (rd M k 0) :: rest))) : W p l e R s m args below meth c H locs cells slots Q (F0 m pc ls (.ref (ad k) :: rest)) :=
  g_get hx hb hts inW1 hown hK hI hk (by simp) rfl rfl 0 (by decide) ⟨rfl, rfl, rfl⟩ hlink rfl hdg kk
theorem gp1_0 (hx : p.tables.exec = Jvm.exec) (hb : c.code = cc) (hts : ∀ w ∈ WA, w.before args s = true) {own : String} {index k : Nat} (hown : s.vm.findClass own = some m.cls) (hK : va_K G.1 vwCl (tyL G) s) (hap : Apt kd ad) (hI : Inv G kd ad H0 M H locs) (hk : kd k = (1, 0)) (hlink : Cond.fieldLink own index "SheetFolder$Part" "legCount" "I" ∈ WA) {v : Int32} (hdg : decode cc pc = .ok (.putfield index, 3)) {M' : Mem} (hM : M' = wr M k 0 v) (kk : ∀ (H1 : Heap) (locs1 : List Loc), Inv G kd ad H0 M' H1 locs1 → W p l e R s m args below meth c H1 locs1 cells slots Q (F0 m (pc + 3) ls rest)) : W p l e R s m args below meth c H locs cells slots Q (F0 m pc ls (.int v :: .ref (ad k) :: rest)) := by
  subst hM
  exact g_put hx hb hts inW1 tyX1 tyX1_ok nmX1 hown hK hap hI hk (by simp) rfl rfl 0 (by decide) ⟨rfl, rfl, rfl⟩ hlink rfl (ty := .int) (by decide +kernel) rfl rfl (Nat.le_of_ble_eq_true rfl) (by rw [wr_s]; rfl) wr_o hdg kk
theorem gg1_1 (hx : p.tables.exec = Jvm.exec) (hb : c.code = cc) (hts : ∀ w ∈ WA, w.before args s = true) {own : String} {index k : Nat} (hown : s.vm.findClass own = some m.cls) (hK : va_K G.1 vwCl (tyL G) s) (hI : Inv G kd ad H0 M H locs) (hk : kd k = (1, 0)) (hlink : Cond.fieldLink own index "SheetFolder$Part" "legLengths" "[I" ∈ WA) (hdg : decode cc pc = .ok (.getfield index, 3)) (kk : W p l e R s m args below meth c H locs cells slots Q (F0 m (pc + 3) ls (.ref (ad (k + 1)) :: rest))) : W p l e R s m args below meth c H locs cells slots Q (F0 m pc ls (.ref (ad k) :: rest)) :=
  g_get hx hb hts inW1 hown hK hI hk (by simp) rfl rfl 1 (by decide) ⟨rfl, rfl, rfl⟩ hlink rfl hdg kk
theorem gg1_2 (hx : p.tables.exec = Jvm.exec) (hb : c.code = cc) (hts : ∀ w ∈ WA, w.before args s = true) {own : String} {index k : Nat} (hown : s.vm.findClass own = some m.cls) (hK : va_K G.1 vwCl (tyL G) s) (hI : Inv G kd ad H0 M H locs) (hk : kd k = (1, 0)) (hlink : Cond.fieldLink own index "SheetFolder$Part" "upBits" "I" ∈ WA) (hdg : decode cc pc = .ok (.getfield index, 3)) (kk : W p l e R s m args below meth c H locs cells slots Q (F0 m (pc + 3) ls (.int (rd M k 2) :: rest))) : W p l e R s m args below meth c H locs cells slots Q (F0 m pc ls (.ref (ad k) :: rest)) :=
  g_get hx hb hts inW1 hown hK hI hk (by simp) rfl rfl 2 (by decide) ⟨rfl, rfl, rfl⟩ hlink rfl hdg kk
theorem gp1_2 (hx : p.tables.exec = Jvm.exec) (hb : c.code = cc) (hts : ∀ w ∈ WA, w.before args s = true) {own : String} {index k : Nat} (hown : s.vm.findClass own = some m.cls) (hK : va_K G.1 vwCl (tyL G) s) (hap : Apt kd ad) (hI : Inv G kd ad H0 M H locs) (hk : kd k = (1, 0)) (hlink : Cond.fieldLink own index "SheetFolder$Part" "upBits" "I" ∈ WA) {v : Int32} (hdg : decode cc pc = .ok (.putfield index, 3)) {M' : Mem} (hM : M' = wr M k 2 v) (kk : ∀ (H1 : Heap) (locs1 : List Loc), Inv G kd ad H0 M' H1 locs1 → W p l e R s m args below meth c H1 locs1 cells slots Q (F0 m (pc + 3) ls rest)) : W p l e R s m args below meth c H locs cells slots Q (F0 m pc ls (.int v :: .ref (ad k) :: rest)) := by
  subst hM
  exact g_put hx hb hts inW1 tyX1 tyX1_ok nmX1 hown hK hap hI hk (by simp) rfl rfl 2 (by decide) ⟨rfl, rfl, rfl⟩ hlink rfl (ty := .int) (by decide +kernel) rfl rfl (Nat.le_of_ble_eq_true rfl) (by rw [wr_s]; rfl) wr_o hdg kk
theorem gg1_3 (hx : p.tables.exec = Jvm.exec) (hb : c.code = cc) (hts : ∀ w ∈ WA, w.before args s = true) {own : String} {index k : Nat} (hown : s.vm.findClass own = some m.cls) (hK : va_K G.1 vwCl (tyL G) s) (hI : Inv G kd ad H0 M H locs) (hk : kd k = (1, 0)) (hlink : Cond.fieldLink own index "SheetFolder$Part" "thickness" "I" ∈ WA) (hdg : decode cc pc = .ok (.getfield index, 3)) (kk : W p l e R s m args below meth c H locs cells slots Q (F0 m (pc + 3) ls (.int (rd M k 3) :: rest))) : W p l e R s m args below meth c H locs cells slots Q (F0 m pc ls (.ref (ad k) :: rest)) :=
  g_get hx hb hts inW1 hown hK hI hk (by simp) rfl rfl 3 (by decide) ⟨rfl, rfl, rfl⟩ hlink rfl hdg kk
theorem gp1_3 (hx : p.tables.exec = Jvm.exec) (hb : c.code = cc) (hts : ∀ w ∈ WA, w.before args s = true) {own : String} {index k : Nat} (hown : s.vm.findClass own = some m.cls) (hK : va_K G.1 vwCl (tyL G) s) (hap : Apt kd ad) (hI : Inv G kd ad H0 M H locs) (hk : kd k = (1, 0)) (hlink : Cond.fieldLink own index "SheetFolder$Part" "thickness" "I" ∈ WA) {v : Int32} (hdg : decode cc pc = .ok (.putfield index, 3)) {M' : Mem} (hM : M' = wr M k 3 v) (kk : ∀ (H1 : Heap) (locs1 : List Loc), Inv G kd ad H0 M' H1 locs1 → W p l e R s m args below meth c H1 locs1 cells slots Q (F0 m (pc + 3) ls rest)) : W p l e R s m args below meth c H locs cells slots Q (F0 m pc ls (.int v :: .ref (ad k) :: rest)) := by
  subst hM
  exact g_put hx hb hts inW1 tyX1 tyX1_ok nmX1 hown hK hap hI hk (by simp) rfl rfl 3 (by decide) ⟨rfl, rfl, rfl⟩ hlink rfl (ty := .int) (by decide +kernel) rfl rfl (Nat.le_of_ble_eq_true rfl) (by rw [wr_s]; rfl) wr_o hdg kk
theorem gg1_4 (hx : p.tables.exec = Jvm.exec) (hb : c.code = cc) (hts : ∀ w ∈ WA, w.before args s = true) {own : String} {index k : Nat} (hown : s.vm.findClass own = some m.cls) (hK : va_K G.1 vwCl (tyL G) s) (hI : Inv G kd ad H0 M H locs) (hk : kd k = (1, 0)) (hlink : Cond.fieldLink own index "SheetFolder$Part" "radius" "I" ∈ WA) (hdg : decode cc pc = .ok (.getfield index, 3)) (kk : W p l e R s m args below meth c H locs cells slots Q (F0 m (pc + 3) ls (.int (rd M k 4) :: rest))) : W p l e R s m args below meth c H locs cells slots Q (F0 m pc ls (.ref (ad k) :: rest)) :=
  g_get hx hb hts inW1 hown hK hI hk (by simp) rfl rfl 4 (by decide) ⟨rfl, rfl, rfl⟩ hlink rfl hdg kk
theorem gp1_4 (hx : p.tables.exec = Jvm.exec) (hb : c.code = cc) (hts : ∀ w ∈ WA, w.before args s = true) {own : String} {index k : Nat} (hown : s.vm.findClass own = some m.cls) (hK : va_K G.1 vwCl (tyL G) s) (hap : Apt kd ad) (hI : Inv G kd ad H0 M H locs) (hk : kd k = (1, 0)) (hlink : Cond.fieldLink own index "SheetFolder$Part" "radius" "I" ∈ WA) {v : Int32} (hdg : decode cc pc = .ok (.putfield index, 3)) {M' : Mem} (hM : M' = wr M k 4 v) (kk : ∀ (H1 : Heap) (locs1 : List Loc), Inv G kd ad H0 M' H1 locs1 → W p l e R s m args below meth c H1 locs1 cells slots Q (F0 m (pc + 3) ls rest)) : W p l e R s m args below meth c H locs cells slots Q (F0 m pc ls (.int v :: .ref (ad k) :: rest)) := by
  subst hM
  exact g_put hx hb hts inW1 tyX1 tyX1_ok nmX1 hown hK hap hI hk (by simp) rfl rfl 4 (by decide) ⟨rfl, rfl, rfl⟩ hlink rfl (ty := .int) (by decide +kernel) rfl rfl (Nat.le_of_ble_eq_true rfl) (by rw [wr_s]; rfl) wr_o hdg kk
theorem gg1_5 (hx : p.tables.exec = Jvm.exec) (hb : c.code = cc) (hts : ∀ w ∈ WA, w.before args s = true) {own : String} {index k : Nat} (hown : s.vm.findClass own = some m.cls) (hK : va_K G.1 vwCl (tyL G) s) (hI : Inv G kd ad H0 M H locs) (hk : kd k = (1, 0)) (hlink : Cond.fieldLink own index "SheetFolder$Part" "neutral" "I" ∈ WA) (hdg : decode cc pc = .ok (.getfield index, 3)) (kk : W p l e R s m args below meth c H locs cells slots Q (F0 m (pc + 3) ls (.int (rd M k 5) :: rest))) : W p l e R s m args below meth c H locs cells slots Q (F0 m pc ls (.ref (ad k) :: rest)) :=
  g_get hx hb hts inW1 hown hK hI hk (by simp) rfl rfl 5 (by decide) ⟨rfl, rfl, rfl⟩ hlink rfl hdg kk
theorem gp1_5 (hx : p.tables.exec = Jvm.exec) (hb : c.code = cc) (hts : ∀ w ∈ WA, w.before args s = true) {own : String} {index k : Nat} (hown : s.vm.findClass own = some m.cls) (hK : va_K G.1 vwCl (tyL G) s) (hap : Apt kd ad) (hI : Inv G kd ad H0 M H locs) (hk : kd k = (1, 0)) (hlink : Cond.fieldLink own index "SheetFolder$Part" "neutral" "I" ∈ WA) {v : Int32} (hdg : decode cc pc = .ok (.putfield index, 3)) {M' : Mem} (hM : M' = wr M k 5 v) (kk : ∀ (H1 : Heap) (locs1 : List Loc), Inv G kd ad H0 M' H1 locs1 → W p l e R s m args below meth c H1 locs1 cells slots Q (F0 m (pc + 3) ls rest)) : W p l e R s m args below meth c H locs cells slots Q (F0 m pc ls (.int v :: .ref (ad k) :: rest)) := by
  subst hM
  exact g_put hx hb hts inW1 tyX1 tyX1_ok nmX1 hown hK hap hI hk (by simp) rfl rfl 5 (by decide) ⟨rfl, rfl, rfl⟩ hlink rfl (ty := .int) (by decide +kernel) rfl rfl (Nat.le_of_ble_eq_true rfl) (by rw [wr_s]; rfl) wr_o hdg kk
theorem gg1_6 (hx : p.tables.exec = Jvm.exec) (hb : c.code = cc) (hts : ∀ w ∈ WA, w.before args s = true) {own : String} {index k : Nat} (hown : s.vm.findClass own = some m.cls) (hK : va_K G.1 vwCl (tyL G) s) (hI : Inv G kd ad H0 M H locs) (hk : kd k = (1, 0)) (hlink : Cond.fieldLink own index "SheetFolder$Part" "toolNumbers" "[I" ∈ WA) (hdg : decode cc pc = .ok (.getfield index, 3)) (kk : W p l e R s m args below meth c H locs cells slots Q (F0 m (pc + 3) ls (.ref (ad (k + 2)) :: rest))) : W p l e R s m args below meth c H locs cells slots Q (F0 m pc ls (.ref (ad k) :: rest)) :=
  g_get hx hb hts inW1 hown hK hI hk (by simp) rfl rfl 6 (by decide) ⟨rfl, rfl, rfl⟩ hlink rfl hdg kk
theorem gg1_7 (hx : p.tables.exec = Jvm.exec) (hb : c.code = cc) (hts : ∀ w ∈ WA, w.before args s = true) {own : String} {index k : Nat} (hown : s.vm.findClass own = some m.cls) (hK : va_K G.1 vwCl (tyL G) s) (hI : Inv G kd ad H0 M H locs) (hk : kd k = (1, 0)) (hlink : Cond.fieldLink own index "SheetFolder$Part" "flipCost" "I" ∈ WA) (hdg : decode cc pc = .ok (.getfield index, 3)) (kk : W p l e R s m args below meth c H locs cells slots Q (F0 m (pc + 3) ls (.int (rd M k 7) :: rest))) : W p l e R s m args below meth c H locs cells slots Q (F0 m pc ls (.ref (ad k) :: rest)) :=
  g_get hx hb hts inW1 hown hK hI hk (by simp) rfl rfl 7 (by decide) ⟨rfl, rfl, rfl⟩ hlink rfl hdg kk
theorem gp1_7 (hx : p.tables.exec = Jvm.exec) (hb : c.code = cc) (hts : ∀ w ∈ WA, w.before args s = true) {own : String} {index k : Nat} (hown : s.vm.findClass own = some m.cls) (hK : va_K G.1 vwCl (tyL G) s) (hap : Apt kd ad) (hI : Inv G kd ad H0 M H locs) (hk : kd k = (1, 0)) (hlink : Cond.fieldLink own index "SheetFolder$Part" "flipCost" "I" ∈ WA) {v : Int32} (hdg : decode cc pc = .ok (.putfield index, 3)) {M' : Mem} (hM : M' = wr M k 7 v) (kk : ∀ (H1 : Heap) (locs1 : List Loc), Inv G kd ad H0 M' H1 locs1 → W p l e R s m args below meth c H1 locs1 cells slots Q (F0 m (pc + 3) ls rest)) : W p l e R s m args below meth c H locs cells slots Q (F0 m pc ls (.int v :: .ref (ad k) :: rest)) := by
  subst hM
  exact g_put hx hb hts inW1 tyX1 tyX1_ok nmX1 hown hK hap hI hk (by simp) rfl rfl 7 (by decide) ⟨rfl, rfl, rfl⟩ hlink rfl (ty := .int) (by decide +kernel) rfl rfl (Nat.le_of_ble_eq_true rfl) (by rw [wr_s]; rfl) wr_o hdg kk
theorem gg1_8 (hx : p.tables.exec = Jvm.exec) (hb : c.code = cc) (hts : ∀ w ∈ WA, w.before args s = true) {own : String} {index k : Nat} (hown : s.vm.findClass own = some m.cls) (hK : va_K G.1 vwCl (tyL G) s) (hI : Inv G kd ad H0 M H locs) (hk : kd k = (1, 0)) (hlink : Cond.fieldLink own index "SheetFolder$Part" "turnCost" "I" ∈ WA) (hdg : decode cc pc = .ok (.getfield index, 3)) (kk : W p l e R s m args below meth c H locs cells slots Q (F0 m (pc + 3) ls (.int (rd M k 8) :: rest))) : W p l e R s m args below meth c H locs cells slots Q (F0 m pc ls (.ref (ad k) :: rest)) :=
  g_get hx hb hts inW1 hown hK hI hk (by simp) rfl rfl 8 (by decide) ⟨rfl, rfl, rfl⟩ hlink rfl hdg kk
theorem gp1_8 (hx : p.tables.exec = Jvm.exec) (hb : c.code = cc) (hts : ∀ w ∈ WA, w.before args s = true) {own : String} {index k : Nat} (hown : s.vm.findClass own = some m.cls) (hK : va_K G.1 vwCl (tyL G) s) (hap : Apt kd ad) (hI : Inv G kd ad H0 M H locs) (hk : kd k = (1, 0)) (hlink : Cond.fieldLink own index "SheetFolder$Part" "turnCost" "I" ∈ WA) {v : Int32} (hdg : decode cc pc = .ok (.putfield index, 3)) {M' : Mem} (hM : M' = wr M k 8 v) (kk : ∀ (H1 : Heap) (locs1 : List Loc), Inv G kd ad H0 M' H1 locs1 → W p l e R s m args below meth c H1 locs1 cells slots Q (F0 m (pc + 3) ls rest)) : W p l e R s m args below meth c H locs cells slots Q (F0 m pc ls (.int v :: .ref (ad k) :: rest)) := by
  subst hM
  exact g_put hx hb hts inW1 tyX1 tyX1_ok nmX1 hown hK hap hI hk (by simp) rfl rfl 8 (by decide) ⟨rfl, rfl, rfl⟩ hlink rfl (ty := .int) (by decide +kernel) rfl rfl (Nat.le_of_ble_eq_true rfl) (by rw [wr_s]; rfl) wr_o hdg kk
theorem gg1_9 (hx : p.tables.exec = Jvm.exec) (hb : c.code = cc) (hts : ∀ w ∈ WA, w.before args s = true) {own : String} {index k : Nat} (hown : s.vm.findClass own = some m.cls) (hK : va_K G.1 vwCl (tyL G) s) (hI : Inv G kd ad H0 M H locs) (hk : kd k = (1, 0)) (hlink : Cond.fieldLink own index "SheetFolder$Part" "moveCost" "I" ∈ WA) (hdg : decode cc pc = .ok (.getfield index, 3)) (kk : W p l e R s m args below meth c H locs cells slots Q (F0 m (pc + 3) ls (.int (rd M k 9) :: rest))) : W p l e R s m args below meth c H locs cells slots Q (F0 m pc ls (.ref (ad k) :: rest)) :=
  g_get hx hb hts inW1 hown hK hI hk (by simp) rfl rfl 9 (by decide) ⟨rfl, rfl, rfl⟩ hlink rfl hdg kk
theorem gp1_9 (hx : p.tables.exec = Jvm.exec) (hb : c.code = cc) (hts : ∀ w ∈ WA, w.before args s = true) {own : String} {index k : Nat} (hown : s.vm.findClass own = some m.cls) (hK : va_K G.1 vwCl (tyL G) s) (hap : Apt kd ad) (hI : Inv G kd ad H0 M H locs) (hk : kd k = (1, 0)) (hlink : Cond.fieldLink own index "SheetFolder$Part" "moveCost" "I" ∈ WA) {v : Int32} (hdg : decode cc pc = .ok (.putfield index, 3)) {M' : Mem} (hM : M' = wr M k 9 v) (kk : ∀ (H1 : Heap) (locs1 : List Loc), Inv G kd ad H0 M' H1 locs1 → W p l e R s m args below meth c H1 locs1 cells slots Q (F0 m (pc + 3) ls rest)) : W p l e R s m args below meth c H locs cells slots Q (F0 m pc ls (.int v :: .ref (ad k) :: rest)) := by
  subst hM
  exact g_put hx hb hts inW1 tyX1 tyX1_ok nmX1 hown hK hap hI hk (by simp) rfl rfl 9 (by decide) ⟨rfl, rfl, rfl⟩ hlink rfl (ty := .int) (by decide +kernel) rfl rfl (Nat.le_of_ble_eq_true rfl) (by rw [wr_s]; rfl) wr_o hdg kk
theorem gg1_10 (hx : p.tables.exec = Jvm.exec) (hb : c.code = cc) (hts : ∀ w ∈ WA, w.before args s = true) {own : String} {index k : Nat} (hown : s.vm.findClass own = some m.cls) (hK : va_K G.1 vwCl (tyL G) s) (hI : Inv G kd ad H0 M H locs) (hk : kd k = (1, 0)) (hlink : Cond.fieldLink own index "SheetFolder$Part" "backCount" "I" ∈ WA) (hdg : decode cc pc = .ok (.getfield index, 3)) (kk : W p l e R s m args below meth c H locs cells slots Q (F0 m (pc + 3) ls (.int (rd M k 10) :: rest))) : W p l e R s m args below meth c H locs cells slots Q (F0 m pc ls (.ref (ad k) :: rest)) :=
  g_get hx hb hts inW1 hown hK hI hk (by simp) rfl rfl 10 (by decide) ⟨rfl, rfl, rfl⟩ hlink rfl hdg kk
theorem gp1_10 (hx : p.tables.exec = Jvm.exec) (hb : c.code = cc) (hts : ∀ w ∈ WA, w.before args s = true) {own : String} {index k : Nat} (hown : s.vm.findClass own = some m.cls) (hK : va_K G.1 vwCl (tyL G) s) (hap : Apt kd ad) (hI : Inv G kd ad H0 M H locs) (hk : kd k = (1, 0)) (hlink : Cond.fieldLink own index "SheetFolder$Part" "backCount" "I" ∈ WA) {v : Int32} (hdg : decode cc pc = .ok (.putfield index, 3)) {M' : Mem} (hM : M' = wr M k 10 v) (kk : ∀ (H1 : Heap) (locs1 : List Loc), Inv G kd ad H0 M' H1 locs1 → W p l e R s m args below meth c H1 locs1 cells slots Q (F0 m (pc + 3) ls rest)) : W p l e R s m args below meth c H locs cells slots Q (F0 m pc ls (.int v :: .ref (ad k) :: rest)) := by
  subst hM
  exact g_put hx hb hts inW1 tyX1 tyX1_ok nmX1 hown hK hap hI hk (by simp) rfl rfl 10 (by decide) ⟨rfl, rfl, rfl⟩ hlink rfl (ty := .int) (by decide +kernel) rfl rfl (Nat.le_of_ble_eq_true rfl) (by rw [wr_s]; rfl) wr_o hdg kk
theorem gg1_11 (hx : p.tables.exec = Jvm.exec) (hb : c.code = cc) (hts : ∀ w ∈ WA, w.before args s = true) {own : String} {index k : Nat} (hown : s.vm.findClass own = some m.cls) (hK : va_K G.1 vwCl (tyL G) s) (hI : Inv G kd ad H0 M H locs) (hk : kd k = (1, 0)) (hlink : Cond.fieldLink own index "SheetFolder$Part" "backRatios" "[I" ∈ WA) (hdg : decode cc pc = .ok (.getfield index, 3)) (kk : W p l e R s m args below meth c H locs cells slots Q (F0 m (pc + 3) ls (.ref (ad (k + 3)) :: rest))) : W p l e R s m args below meth c H locs cells slots Q (F0 m pc ls (.ref (ad k) :: rest)) :=
  g_get hx hb hts inW1 hown hK hI hk (by simp) rfl rfl 11 (by decide) ⟨rfl, rfl, rfl⟩ hlink rfl hdg kk
theorem gg1_12 (hx : p.tables.exec = Jvm.exec) (hb : c.code = cc) (hts : ∀ w ∈ WA, w.before args s = true) {own : String} {index k : Nat} (hown : s.vm.findClass own = some m.cls) (hK : va_K G.1 vwCl (tyL G) s) (hI : Inv G kd ad H0 M H locs) (hk : kd k = (1, 0)) (hlink : Cond.fieldLink own index "SheetFolder$Part" "backAngles" "[I" ∈ WA) (hdg : decode cc pc = .ok (.getfield index, 3)) (kk : W p l e R s m args below meth c H locs cells slots Q (F0 m (pc + 3) ls (.ref (ad (k + 4)) :: rest))) : W p l e R s m args below meth c H locs cells slots Q (F0 m pc ls (.ref (ad k) :: rest)) :=
  g_get hx hb hts inW1 hown hK hI hk (by simp) rfl rfl 12 (by decide) ⟨rfl, rfl, rfl⟩ hlink rfl hdg kk
theorem gg1_13 (hx : p.tables.exec = Jvm.exec) (hb : c.code = cc) (hts : ∀ w ∈ WA, w.before args s = true) {own : String} {index k : Nat} (hown : s.vm.findClass own = some m.cls) (hK : va_K G.1 vwCl (tyL G) s) (hI : Inv G kd ad H0 M H locs) (hk : kd k = (1, 0)) (hlink : Cond.fieldLink own index "SheetFolder$Part" "madeBits" "I" ∈ WA) (hdg : decode cc pc = .ok (.getfield index, 3)) (kk : W p l e R s m args below meth c H locs cells slots Q (F0 m (pc + 3) ls (.int (rd M k 13) :: rest))) : W p l e R s m args below meth c H locs cells slots Q (F0 m pc ls (.ref (ad k) :: rest)) :=
  g_get hx hb hts inW1 hown hK hI hk (by simp) rfl rfl 13 (by decide) ⟨rfl, rfl, rfl⟩ hlink rfl hdg kk
theorem gp1_13 (hx : p.tables.exec = Jvm.exec) (hb : c.code = cc) (hts : ∀ w ∈ WA, w.before args s = true) {own : String} {index k : Nat} (hown : s.vm.findClass own = some m.cls) (hK : va_K G.1 vwCl (tyL G) s) (hap : Apt kd ad) (hI : Inv G kd ad H0 M H locs) (hk : kd k = (1, 0)) (hlink : Cond.fieldLink own index "SheetFolder$Part" "madeBits" "I" ∈ WA) {v : Int32} (hdg : decode cc pc = .ok (.putfield index, 3)) {M' : Mem} (hM : M' = wr M k 13 v) (kk : ∀ (H1 : Heap) (locs1 : List Loc), Inv G kd ad H0 M' H1 locs1 → W p l e R s m args below meth c H1 locs1 cells slots Q (F0 m (pc + 3) ls rest)) : W p l e R s m args below meth c H locs cells slots Q (F0 m pc ls (.int v :: .ref (ad k) :: rest)) := by
  subst hM
  exact g_put hx hb hts inW1 tyX1 tyX1_ok nmX1 hown hK hap hI hk (by simp) rfl rfl 13 (by decide) ⟨rfl, rfl, rfl⟩ hlink rfl (ty := .int) (by decide +kernel) rfl rfl (Nat.le_of_ble_eq_true rfl) (by rw [wr_s]; rfl) wr_o hdg kk
theorem gg1_14 (hx : p.tables.exec = Jvm.exec) (hb : c.code = cc) (hts : ∀ w ∈ WA, w.before args s = true) {own : String} {index k : Nat} (hown : s.vm.findClass own = some m.cls) (hK : va_K G.1 vwCl (tyL G) s) (hI : Inv G kd ad H0 M H locs) (hk : kd k = (1, 0)) (hlink : Cond.fieldLink own index "SheetFolder$Part" "stepCount" "I" ∈ WA) (hdg : decode cc pc = .ok (.getfield index, 3)) (kk : W p l e R s m args below meth c H locs cells slots Q (F0 m (pc + 3) ls (.int (rd M k 14) :: rest))) : W p l e R s m args below meth c H locs cells slots Q (F0 m pc ls (.ref (ad k) :: rest)) :=
  g_get hx hb hts inW1 hown hK hI hk (by simp) rfl rfl 14 (by decide) ⟨rfl, rfl, rfl⟩ hlink rfl hdg kk
theorem gp1_14 (hx : p.tables.exec = Jvm.exec) (hb : c.code = cc) (hts : ∀ w ∈ WA, w.before args s = true) {own : String} {index k : Nat} (hown : s.vm.findClass own = some m.cls) (hK : va_K G.1 vwCl (tyL G) s) (hap : Apt kd ad) (hI : Inv G kd ad H0 M H locs) (hk : kd k = (1, 0)) (hlink : Cond.fieldLink own index "SheetFolder$Part" "stepCount" "I" ∈ WA) {v : Int32} (hdg : decode cc pc = .ok (.putfield index, 3)) {M' : Mem} (hM : M' = wr M k 14 v) (kk : ∀ (H1 : Heap) (locs1 : List Loc), Inv G kd ad H0 M' H1 locs1 → W p l e R s m args below meth c H1 locs1 cells slots Q (F0 m (pc + 3) ls rest)) : W p l e R s m args below meth c H locs cells slots Q (F0 m pc ls (.int v :: .ref (ad k) :: rest)) := by
  subst hM
  exact g_put hx hb hts inW1 tyX1 tyX1_ok nmX1 hown hK hap hI hk (by simp) rfl rfl 14 (by decide) ⟨rfl, rfl, rfl⟩ hlink rfl (ty := .int) (by decide +kernel) rfl rfl (Nat.le_of_ble_eq_true rfl) (by rw [wr_s]; rfl) wr_o hdg kk
theorem gg1_15 (hx : p.tables.exec = Jvm.exec) (hb : c.code = cc) (hts : ∀ w ∈ WA, w.before args s = true) {own : String} {index k : Nat} (hown : s.vm.findClass own = some m.cls) (hK : va_K G.1 vwCl (tyL G) s) (hI : Inv G kd ad H0 M H locs) (hk : kd k = (1, 0)) (hlink : Cond.fieldLink own index "SheetFolder$Part" "stepCodes" "[I" ∈ WA) (hdg : decode cc pc = .ok (.getfield index, 3)) (kk : W p l e R s m args below meth c H locs cells slots Q (F0 m (pc + 3) ls (.ref (ad (k + 5)) :: rest))) : W p l e R s m args below meth c H locs cells slots Q (F0 m pc ls (.ref (ad k) :: rest)) :=
  g_get hx hb hts inW1 hown hK hI hk (by simp) rfl rfl 15 (by decide) ⟨rfl, rfl, rfl⟩ hlink rfl hdg kk
theorem gg1_16 (hx : p.tables.exec = Jvm.exec) (hb : c.code = cc) (hts : ∀ w ∈ WA, w.before args s = true) {own : String} {index k : Nat} (hown : s.vm.findClass own = some m.cls) (hK : va_K G.1 vwCl (tyL G) s) (hI : Inv G kd ad H0 M H locs) (hk : kd k = (1, 0)) (hlink : Cond.fieldLink own index "SheetFolder$Part" "stepGauges" "[I" ∈ WA) (hdg : decode cc pc = .ok (.getfield index, 3)) (kk : W p l e R s m args below meth c H locs cells slots Q (F0 m (pc + 3) ls (.ref (ad (k + 6)) :: rest))) : W p l e R s m args below meth c H locs cells slots Q (F0 m pc ls (.ref (ad k) :: rest)) :=
  g_get hx hb hts inW1 hown hK hI hk (by simp) rfl rfl 16 (by decide) ⟨rfl, rfl, rfl⟩ hlink rfl hdg kk
theorem gg1_17 (hx : p.tables.exec = Jvm.exec) (hb : c.code = cc) (hts : ∀ w ∈ WA, w.before args s = true) {own : String} {index k : Nat} (hown : s.vm.findClass own = some m.cls) (hK : va_K G.1 vwCl (tyL G) s) (hI : Inv G kd ad H0 M H locs) (hk : kd k = (1, 0)) (hlink : Cond.fieldLink own index "SheetFolder$Part" "stepCosts" "[I" ∈ WA) (hdg : decode cc pc = .ok (.getfield index, 3)) (kk : W p l e R s m args below meth c H locs cells slots Q (F0 m (pc + 3) ls (.ref (ad (k + 7)) :: rest))) : W p l e R s m args below meth c H locs cells slots Q (F0 m pc ls (.ref (ad k) :: rest)) :=
  g_get hx hb hts inW1 hown hK hI hk (by simp) rfl rfl 17 (by decide) ⟨rfl, rfl, rfl⟩ hlink rfl hdg kk
theorem inW2 : ∀ w ∈ u_ws RX2 TX2 9, w ∈ WA := wa_f (List.forall_mem_cons.mpr ⟨q_t1_211, List.forall_mem_cons.mpr ⟨q_t1_213, List.forall_mem_cons.mpr ⟨q_t1_215, List.forall_mem_cons.mpr ⟨q_t1_217, List.forall_mem_cons.mpr ⟨q_t1_219, List.forall_mem_cons.mpr ⟨q_t1_221, List.forall_mem_cons.mpr ⟨q_t1_223, List.forall_mem_cons.mpr ⟨q_t1_225, List.forall_mem_cons.mpr ⟨q_t1_227, fun _ h => absurd h List.not_mem_nil⟩⟩⟩⟩⟩⟩⟩⟩⟩) _ rfl
theorem gg2_0 (hx : p.tables.exec = Jvm.exec) (hb : c.code = cc) (hts : ∀ w ∈ WA, w.before args s = true) {own : String} {index k : Nat} (hown : s.vm.findClass own = some m.cls) (hK : va_K G.1 vwCl (tyL G) s) (hI : Inv G kd ad H0 M H locs) (hk : kd k = (2, 0)) (hlink : Cond.fieldLink own index "SheetFolder$Places" "farX" "[I" ∈ WA) (hdg : decode cc pc = .ok (.getfield index, 3)) (kk : W p l e R s m args below meth c H locs cells slots Q (F0 m (pc + 3) ls (.ref (ad (k + 1)) :: rest))) : W p l e R s m args below meth c H locs cells slots Q (F0 m pc ls (.ref (ad k) :: rest)) :=
  g_get hx hb hts inW2 hown hK hI hk (by simp) rfl rfl 0 (by decide) ⟨rfl, rfl, rfl⟩ hlink rfl hdg kk
theorem gg2_1 (hx : p.tables.exec = Jvm.exec) (hb : c.code = cc) (hts : ∀ w ∈ WA, w.before args s = true) {own : String} {index k : Nat} (hown : s.vm.findClass own = some m.cls) (hK : va_K G.1 vwCl (tyL G) s) (hI : Inv G kd ad H0 M H locs) (hk : kd k = (2, 0)) (hlink : Cond.fieldLink own index "SheetFolder$Places" "farY" "[I" ∈ WA) (hdg : decode cc pc = .ok (.getfield index, 3)) (kk : W p l e R s m args below meth c H locs cells slots Q (F0 m (pc + 3) ls (.ref (ad (k + 2)) :: rest))) : W p l e R s m args below meth c H locs cells slots Q (F0 m pc ls (.ref (ad k) :: rest)) :=
  g_get hx hb hts inW2 hown hK hI hk (by simp) rfl rfl 1 (by decide) ⟨rfl, rfl, rfl⟩ hlink rfl hdg kk
theorem gg2_2 (hx : p.tables.exec = Jvm.exec) (hb : c.code = cc) (hts : ∀ w ∈ WA, w.before args s = true) {own : String} {index k : Nat} (hown : s.vm.findClass own = some m.cls) (hK : va_K G.1 vwCl (tyL G) s) (hI : Inv G kd ad H0 M H locs) (hk : kd k = (2, 0)) (hlink : Cond.fieldLink own index "SheetFolder$Places" "leastX" "[I" ∈ WA) (hdg : decode cc pc = .ok (.getfield index, 3)) (kk : W p l e R s m args below meth c H locs cells slots Q (F0 m (pc + 3) ls (.ref (ad (k + 3)) :: rest))) : W p l e R s m args below meth c H locs cells slots Q (F0 m pc ls (.ref (ad k) :: rest)) :=
  g_get hx hb hts inW2 hown hK hI hk (by simp) rfl rfl 2 (by decide) ⟨rfl, rfl, rfl⟩ hlink rfl hdg kk
theorem gg2_3 (hx : p.tables.exec = Jvm.exec) (hb : c.code = cc) (hts : ∀ w ∈ WA, w.before args s = true) {own : String} {index k : Nat} (hown : s.vm.findClass own = some m.cls) (hK : va_K G.1 vwCl (tyL G) s) (hI : Inv G kd ad H0 M H locs) (hk : kd k = (2, 0)) (hlink : Cond.fieldLink own index "SheetFolder$Places" "mostX" "[I" ∈ WA) (hdg : decode cc pc = .ok (.getfield index, 3)) (kk : W p l e R s m args below meth c H locs cells slots Q (F0 m (pc + 3) ls (.ref (ad (k + 4)) :: rest))) : W p l e R s m args below meth c H locs cells slots Q (F0 m pc ls (.ref (ad k) :: rest)) :=
  g_get hx hb hts inW2 hown hK hI hk (by simp) rfl rfl 3 (by decide) ⟨rfl, rfl, rfl⟩ hlink rfl hdg kk
theorem gg2_4 (hx : p.tables.exec = Jvm.exec) (hb : c.code = cc) (hts : ∀ w ∈ WA, w.before args s = true) {own : String} {index k : Nat} (hown : s.vm.findClass own = some m.cls) (hK : va_K G.1 vwCl (tyL G) s) (hI : Inv G kd ad H0 M H locs) (hk : kd k = (2, 0)) (hlink : Cond.fieldLink own index "SheetFolder$Places" "leastY" "[I" ∈ WA) (hdg : decode cc pc = .ok (.getfield index, 3)) (kk : W p l e R s m args below meth c H locs cells slots Q (F0 m (pc + 3) ls (.ref (ad (k + 5)) :: rest))) : W p l e R s m args below meth c H locs cells slots Q (F0 m pc ls (.ref (ad k) :: rest)) :=
  g_get hx hb hts inW2 hown hK hI hk (by simp) rfl rfl 4 (by decide) ⟨rfl, rfl, rfl⟩ hlink rfl hdg kk
theorem gg2_5 (hx : p.tables.exec = Jvm.exec) (hb : c.code = cc) (hts : ∀ w ∈ WA, w.before args s = true) {own : String} {index k : Nat} (hown : s.vm.findClass own = some m.cls) (hK : va_K G.1 vwCl (tyL G) s) (hI : Inv G kd ad H0 M H locs) (hk : kd k = (2, 0)) (hlink : Cond.fieldLink own index "SheetFolder$Places" "mostY" "[I" ∈ WA) (hdg : decode cc pc = .ok (.getfield index, 3)) (kk : W p l e R s m args below meth c H locs cells slots Q (F0 m (pc + 3) ls (.ref (ad (k + 6)) :: rest))) : W p l e R s m args below meth c H locs cells slots Q (F0 m pc ls (.ref (ad k) :: rest)) :=
  g_get hx hb hts inW2 hown hK hI hk (by simp) rfl rfl 5 (by decide) ⟨rfl, rfl, rfl⟩ hlink rfl hdg kk
theorem gg2_6 (hx : p.tables.exec = Jvm.exec) (hb : c.code = cc) (hts : ∀ w ∈ WA, w.before args s = true) {own : String} {index k : Nat} (hown : s.vm.findClass own = some m.cls) (hK : va_K G.1 vwCl (tyL G) s) (hI : Inv G kd ad H0 M H locs) (hk : kd k = (2, 0)) (hlink : Cond.fieldLink own index "SheetFolder$Places" "legCount" "I" ∈ WA) (hdg : decode cc pc = .ok (.getfield index, 3)) (kk : W p l e R s m args below meth c H locs cells slots Q (F0 m (pc + 3) ls (.int (rd M k 6) :: rest))) : W p l e R s m args below meth c H locs cells slots Q (F0 m pc ls (.ref (ad k) :: rest)) :=
  g_get hx hb hts inW2 hown hK hI hk (by simp) rfl rfl 6 (by decide) ⟨rfl, rfl, rfl⟩ hlink rfl hdg kk
theorem gp2_6 (hx : p.tables.exec = Jvm.exec) (hb : c.code = cc) (hts : ∀ w ∈ WA, w.before args s = true) {own : String} {index k : Nat} (hown : s.vm.findClass own = some m.cls) (hK : va_K G.1 vwCl (tyL G) s) (hap : Apt kd ad) (hI : Inv G kd ad H0 M H locs) (hk : kd k = (2, 0)) (hlink : Cond.fieldLink own index "SheetFolder$Places" "legCount" "I" ∈ WA) {v : Int32} (hdg : decode cc pc = .ok (.putfield index, 3)) {M' : Mem} (hM : M' = wr M k 6 v) (kk : ∀ (H1 : Heap) (locs1 : List Loc), Inv G kd ad H0 M' H1 locs1 → W p l e R s m args below meth c H1 locs1 cells slots Q (F0 m (pc + 3) ls rest)) : W p l e R s m args below meth c H locs cells slots Q (F0 m pc ls (.int v :: .ref (ad k) :: rest)) := by
  subst hM
  exact g_put hx hb hts inW2 tyX2 tyX2_ok nmX2 hown hK hap hI hk (by simp) rfl rfl 6 (by decide) ⟨rfl, rfl, rfl⟩ hlink rfl (ty := .int) (by decide +kernel) rfl rfl (Nat.le_of_ble_eq_true rfl) (by rw [wr_s]; rfl) wr_o hdg kk
theorem gg2_7 (hx : p.tables.exec = Jvm.exec) (hb : c.code = cc) (hts : ∀ w ∈ WA, w.before args s = true) {own : String} {index k : Nat} (hown : s.vm.findClass own = some m.cls) (hK : va_K G.1 vwCl (tyL G) s) (hI : Inv G kd ad H0 M H locs) (hk : kd k = (2, 0)) (hlink : Cond.fieldLink own index "SheetFolder$Places" "clampedFrom" "I" ∈ WA) (hdg : decode cc pc = .ok (.getfield index, 3)) (kk : W p l e R s m args below meth c H locs cells slots Q (F0 m (pc + 3) ls (.int (rd M k 7) :: rest))) : W p l e R s m args below meth c H locs cells slots Q (F0 m pc ls (.ref (ad k) :: rest)) :=
  g_get hx hb hts inW2 hown hK hI hk (by simp) rfl rfl 7 (by decide) ⟨rfl, rfl, rfl⟩ hlink rfl hdg kk
theorem gp2_7 (hx : p.tables.exec = Jvm.exec) (hb : c.code = cc) (hts : ∀ w ∈ WA, w.before args s = true) {own : String} {index k : Nat} (hown : s.vm.findClass own = some m.cls) (hK : va_K G.1 vwCl (tyL G) s) (hap : Apt kd ad) (hI : Inv G kd ad H0 M H locs) (hk : kd k = (2, 0)) (hlink : Cond.fieldLink own index "SheetFolder$Places" "clampedFrom" "I" ∈ WA) {v : Int32} (hdg : decode cc pc = .ok (.putfield index, 3)) {M' : Mem} (hM : M' = wr M k 7 v) (kk : ∀ (H1 : Heap) (locs1 : List Loc), Inv G kd ad H0 M' H1 locs1 → W p l e R s m args below meth c H1 locs1 cells slots Q (F0 m (pc + 3) ls rest)) : W p l e R s m args below meth c H locs cells slots Q (F0 m pc ls (.int v :: .ref (ad k) :: rest)) := by
  subst hM
  exact g_put hx hb hts inW2 tyX2 tyX2_ok nmX2 hown hK hap hI hk (by simp) rfl rfl 7 (by decide) ⟨rfl, rfl, rfl⟩ hlink rfl (ty := .int) (by decide +kernel) rfl rfl (Nat.le_of_ble_eq_true rfl) (by rw [wr_s]; rfl) wr_o hdg kk
theorem gg2_8 (hx : p.tables.exec = Jvm.exec) (hb : c.code = cc) (hts : ∀ w ∈ WA, w.before args s = true) {own : String} {index k : Nat} (hown : s.vm.findClass own = some m.cls) (hK : va_K G.1 vwCl (tyL G) s) (hI : Inv G kd ad H0 M H locs) (hk : kd k = (2, 0)) (hlink : Cond.fieldLink own index "SheetFolder$Places" "clampedTo" "I" ∈ WA) (hdg : decode cc pc = .ok (.getfield index, 3)) (kk : W p l e R s m args below meth c H locs cells slots Q (F0 m (pc + 3) ls (.int (rd M k 8) :: rest))) : W p l e R s m args below meth c H locs cells slots Q (F0 m pc ls (.ref (ad k) :: rest)) :=
  g_get hx hb hts inW2 hown hK hI hk (by simp) rfl rfl 8 (by decide) ⟨rfl, rfl, rfl⟩ hlink rfl hdg kk
theorem gp2_8 (hx : p.tables.exec = Jvm.exec) (hb : c.code = cc) (hts : ∀ w ∈ WA, w.before args s = true) {own : String} {index k : Nat} (hown : s.vm.findClass own = some m.cls) (hK : va_K G.1 vwCl (tyL G) s) (hap : Apt kd ad) (hI : Inv G kd ad H0 M H locs) (hk : kd k = (2, 0)) (hlink : Cond.fieldLink own index "SheetFolder$Places" "clampedTo" "I" ∈ WA) {v : Int32} (hdg : decode cc pc = .ok (.putfield index, 3)) {M' : Mem} (hM : M' = wr M k 8 v) (kk : ∀ (H1 : Heap) (locs1 : List Loc), Inv G kd ad H0 M' H1 locs1 → W p l e R s m args below meth c H1 locs1 cells slots Q (F0 m (pc + 3) ls rest)) : W p l e R s m args below meth c H locs cells slots Q (F0 m pc ls (.int v :: .ref (ad k) :: rest)) := by
  subst hM
  exact g_put hx hb hts inW2 tyX2 tyX2_ok nmX2 hown hK hap hI hk (by simp) rfl rfl 8 (by decide) ⟨rfl, rfl, rfl⟩ hlink rfl (ty := .int) (by decide +kernel) rfl rfl (Nat.le_of_ble_eq_true rfl) (by rw [wr_s]; rfl) wr_o hdg kk
theorem inW3 : ∀ w ∈ u_ws RX3 TX3 13, w ∈ WA := wa_f (List.forall_mem_cons.mpr ⟨q_t2_21, List.forall_mem_cons.mpr ⟨q_t2_23, List.forall_mem_cons.mpr ⟨q_t2_25, List.forall_mem_cons.mpr ⟨q_t2_27, List.forall_mem_cons.mpr ⟨q_t2_29, List.forall_mem_cons.mpr ⟨q_t2_31, List.forall_mem_cons.mpr ⟨q_t2_33, List.forall_mem_cons.mpr ⟨q_t2_35, List.forall_mem_cons.mpr ⟨q_t2_37, List.forall_mem_cons.mpr ⟨q_t2_39, List.forall_mem_cons.mpr ⟨q_t2_41, List.forall_mem_cons.mpr ⟨q_t2_43, List.forall_mem_cons.mpr ⟨q_t2_45, fun _ h => absurd h List.not_mem_nil⟩⟩⟩⟩⟩⟩⟩⟩⟩⟩⟩⟩⟩) _ rfl
theorem gg3_0 (hx : p.tables.exec = Jvm.exec) (hb : c.code = cc) (hts : ∀ w ∈ WA, w.before args s = true) {own : String} {index k : Nat} (hown : s.vm.findClass own = some m.cls) (hK : va_K G.1 vwCl (tyL G) s) (hI : Inv G kd ad H0 M H locs) (hk : kd k = (3, 0)) (hlink : Cond.fieldLink own index "SheetFolder$Planner" "leastTotal" "I" ∈ WA) (hdg : decode cc pc = .ok (.getfield index, 3)) (kk : W p l e R s m args below meth c H locs cells slots Q (F0 m (pc + 3) ls (.int (rd M k 0) :: rest))) : W p l e R s m args below meth c H locs cells slots Q (F0 m pc ls (.ref (ad k) :: rest)) :=
  g_get hx hb hts inW3 hown hK hI hk (by simp) rfl rfl 0 (by decide) ⟨rfl, rfl, rfl⟩ hlink rfl hdg kk
theorem gp3_0 (hx : p.tables.exec = Jvm.exec) (hb : c.code = cc) (hts : ∀ w ∈ WA, w.before args s = true) {own : String} {index k : Nat} (hown : s.vm.findClass own = some m.cls) (hK : va_K G.1 vwCl (tyL G) s) (hap : Apt kd ad) (hI : Inv G kd ad H0 M H locs) (hk : kd k = (3, 0)) (hlink : Cond.fieldLink own index "SheetFolder$Planner" "leastTotal" "I" ∈ WA) {v : Int32} (hdg : decode cc pc = .ok (.putfield index, 3)) {M' : Mem} (hM : M' = wr M k 0 v) (kk : ∀ (H1 : Heap) (locs1 : List Loc), Inv G kd ad H0 M' H1 locs1 → W p l e R s m args below meth c H1 locs1 cells slots Q (F0 m (pc + 3) ls rest)) : W p l e R s m args below meth c H locs cells slots Q (F0 m pc ls (.int v :: .ref (ad k) :: rest)) := by
  subst hM
  exact g_put hx hb hts inW3 tyX3 tyX3_ok nmX3 hown hK hap hI hk (by simp) rfl rfl 0 (by decide) ⟨rfl, rfl, rfl⟩ hlink rfl (ty := .int) (by decide +kernel) rfl rfl (Nat.le_of_ble_eq_true rfl) (by rw [wr_s]; rfl) wr_o hdg kk
theorem gg3_1 (hx : p.tables.exec = Jvm.exec) (hb : c.code = cc) (hts : ∀ w ∈ WA, w.before args s = true) {own : String} {index k : Nat} (hown : s.vm.findClass own = some m.cls) (hK : va_K G.1 vwCl (tyL G) s) (hI : Inv G kd ad H0 M H locs) (hk : kd k = (3, 0)) (hlink : Cond.fieldLink own index "SheetFolder$Planner" "greatestTotal" "I" ∈ WA) (hdg : decode cc pc = .ok (.getfield index, 3)) (kk : W p l e R s m args below meth c H locs cells slots Q (F0 m (pc + 3) ls (.int (rd M k 1) :: rest))) : W p l e R s m args below meth c H locs cells slots Q (F0 m pc ls (.ref (ad k) :: rest)) :=
  g_get hx hb hts inW3 hown hK hI hk (by simp) rfl rfl 1 (by decide) ⟨rfl, rfl, rfl⟩ hlink rfl hdg kk
theorem gp3_1 (hx : p.tables.exec = Jvm.exec) (hb : c.code = cc) (hts : ∀ w ∈ WA, w.before args s = true) {own : String} {index k : Nat} (hown : s.vm.findClass own = some m.cls) (hK : va_K G.1 vwCl (tyL G) s) (hap : Apt kd ad) (hI : Inv G kd ad H0 M H locs) (hk : kd k = (3, 0)) (hlink : Cond.fieldLink own index "SheetFolder$Planner" "greatestTotal" "I" ∈ WA) {v : Int32} (hdg : decode cc pc = .ok (.putfield index, 3)) {M' : Mem} (hM : M' = wr M k 1 v) (kk : ∀ (H1 : Heap) (locs1 : List Loc), Inv G kd ad H0 M' H1 locs1 → W p l e R s m args below meth c H1 locs1 cells slots Q (F0 m (pc + 3) ls rest)) : W p l e R s m args below meth c H locs cells slots Q (F0 m pc ls (.int v :: .ref (ad k) :: rest)) := by
  subst hM
  exact g_put hx hb hts inW3 tyX3 tyX3_ok nmX3 hown hK hap hI hk (by simp) rfl rfl 1 (by decide) ⟨rfl, rfl, rfl⟩ hlink rfl (ty := .int) (by decide +kernel) rfl rfl (Nat.le_of_ble_eq_true rfl) (by rw [wr_s]; rfl) wr_o hdg kk
theorem gg3_2 (hx : p.tables.exec = Jvm.exec) (hb : c.code = cc) (hts : ∀ w ∈ WA, w.before args s = true) {own : String} {index k : Nat} (hown : s.vm.findClass own = some m.cls) (hK : va_K G.1 vwCl (tyL G) s) (hI : Inv G kd ad H0 M H locs) (hk : kd k = (3, 0)) (hlink : Cond.fieldLink own index "SheetFolder$Planner" "plan" "[I" ∈ WA) (hdg : decode cc pc = .ok (.getfield index, 3)) (kk : W p l e R s m args below meth c H locs cells slots Q (F0 m (pc + 3) ls (.ref (ad (k + 1)) :: rest))) : W p l e R s m args below meth c H locs cells slots Q (F0 m pc ls (.ref (ad k) :: rest)) :=
  g_get hx hb hts inW3 hown hK hI hk (by simp) rfl rfl 2 (by decide) ⟨rfl, rfl, rfl⟩ hlink rfl hdg kk
theorem gg3_3 (hx : p.tables.exec = Jvm.exec) (hb : c.code = cc) (hts : ∀ w ∈ WA, w.before args s = true) {own : String} {index k : Nat} (hown : s.vm.findClass own = some m.cls) (hK : va_K G.1 vwCl (tyL G) s) (hI : Inv G kd ad H0 M H locs) (hk : kd k = (3, 0)) (hlink : Cond.fieldLink own index "SheetFolder$Planner" "planLength" "I" ∈ WA) (hdg : decode cc pc = .ok (.getfield index, 3)) (kk : W p l e R s m args below meth c H locs cells slots Q (F0 m (pc + 3) ls (.int (rd M k 3) :: rest))) : W p l e R s m args below meth c H locs cells slots Q (F0 m pc ls (.ref (ad k) :: rest)) :=
  g_get hx hb hts inW3 hown hK hI hk (by simp) rfl rfl 3 (by decide) ⟨rfl, rfl, rfl⟩ hlink rfl hdg kk
theorem gp3_3 (hx : p.tables.exec = Jvm.exec) (hb : c.code = cc) (hts : ∀ w ∈ WA, w.before args s = true) {own : String} {index k : Nat} (hown : s.vm.findClass own = some m.cls) (hK : va_K G.1 vwCl (tyL G) s) (hap : Apt kd ad) (hI : Inv G kd ad H0 M H locs) (hk : kd k = (3, 0)) (hlink : Cond.fieldLink own index "SheetFolder$Planner" "planLength" "I" ∈ WA) {v : Int32} (hdg : decode cc pc = .ok (.putfield index, 3)) {M' : Mem} (hM : M' = wr M k 3 v) (kk : ∀ (H1 : Heap) (locs1 : List Loc), Inv G kd ad H0 M' H1 locs1 → W p l e R s m args below meth c H1 locs1 cells slots Q (F0 m (pc + 3) ls rest)) : W p l e R s m args below meth c H locs cells slots Q (F0 m pc ls (.int v :: .ref (ad k) :: rest)) := by
  subst hM
  exact g_put hx hb hts inW3 tyX3 tyX3_ok nmX3 hown hK hap hI hk (by simp) rfl rfl 3 (by decide) ⟨rfl, rfl, rfl⟩ hlink rfl (ty := .int) (by decide +kernel) rfl rfl (Nat.le_of_ble_eq_true rfl) (by rw [wr_s]; rfl) wr_o hdg kk
theorem gg3_4 (hx : p.tables.exec = Jvm.exec) (hb : c.code = cc) (hts : ∀ w ∈ WA, w.before args s = true) {own : String} {index k : Nat} (hown : s.vm.findClass own = some m.cls) (hK : va_K G.1 vwCl (tyL G) s) (hI : Inv G kd ad H0 M H locs) (hk : kd k = (3, 0)) (hlink : Cond.fieldLink own index "SheetFolder$Planner" "places" "LSheetFolder$Places;" ∈ WA) (hdg : decode cc pc = .ok (.getfield index, 3)) (kk : W p l e R s m args below meth c H locs cells slots Q (F0 m (pc + 3) ls (.ref (ad (k + 2)) :: rest))) : W p l e R s m args below meth c H locs cells slots Q (F0 m pc ls (.ref (ad k) :: rest)) :=
  g_get hx hb hts inW3 hown hK hI hk (by simp) rfl rfl 4 (by decide) ⟨rfl, rfl, rfl⟩ hlink rfl hdg kk
theorem gg3_5 (hx : p.tables.exec = Jvm.exec) (hb : c.code = cc) (hts : ∀ w ∈ WA, w.before args s = true) {own : String} {index k : Nat} (hown : s.vm.findClass own = some m.cls) (hK : va_K G.1 vwCl (tyL G) s) (hI : Inv G kd ad H0 M H locs) (hk : kd k = (3, 0)) (hlink : Cond.fieldLink own index "SheetFolder$Planner" "known" "LSheetFolder$Part;" ∈ WA) (hdg : decode cc pc = .ok (.getfield index, 3)) (kk : W p l e R s m args below meth c H locs cells slots Q (F0 m (pc + 3) ls (.ref (ad (k + 9)) :: rest))) : W p l e R s m args below meth c H locs cells slots Q (F0 m pc ls (.ref (ad k) :: rest)) :=
  g_get hx hb hts inW3 hown hK hI hk (by simp) rfl rfl 5 (by decide) ⟨rfl, rfl, rfl⟩ hlink rfl hdg kk
theorem gg3_6 (hx : p.tables.exec = Jvm.exec) (hb : c.code = cc) (hts : ∀ w ∈ WA, w.before args s = true) {own : String} {index k : Nat} (hown : s.vm.findClass own = some m.cls) (hK : va_K G.1 vwCl (tyL G) s) (hI : Inv G kd ad H0 M H locs) (hk : kd k = (3, 0)) (hlink : Cond.fieldLink own index "SheetFolder$Planner" "isPlanKnown" "Z" ∈ WA) (hdg : decode cc pc = .ok (.getfield index, 3)) (kk : W p l e R s m args below meth c H locs cells slots Q (F0 m (pc + 3) ls (.int (rd M k 6) :: rest))) : W p l e R s m args below meth c H locs cells slots Q (F0 m pc ls (.ref (ad k) :: rest)) :=
  g_get hx hb hts inW3 hown hK hI hk (by simp) rfl rfl 6 (by decide) ⟨rfl, rfl, rfl⟩ hlink rfl hdg kk
theorem gp3_6 (hx : p.tables.exec = Jvm.exec) (hb : c.code = cc) (hts : ∀ w ∈ WA, w.before args s = true) {own : String} {index k : Nat} (hown : s.vm.findClass own = some m.cls) (hK : va_K G.1 vwCl (tyL G) s) (hap : Apt kd ad) (hI : Inv G kd ad H0 M H locs) (hk : kd k = (3, 0)) (hlink : Cond.fieldLink own index "SheetFolder$Planner" "isPlanKnown" "Z" ∈ WA) {v : Int32} (hdg : decode cc pc = .ok (.putfield index, 3)) (hn : narrow .boolean (.int v) = .int v) (hfz : fits .boolean (.int v) = true) {M' : Mem} (hM : M' = wr M k 6 v) (kk : ∀ (H1 : Heap) (locs1 : List Loc), Inv G kd ad H0 M' H1 locs1 → W p l e R s m args below meth c H1 locs1 cells slots Q (F0 m (pc + 3) ls rest)) : W p l e R s m args below meth c H locs cells slots Q (F0 m pc ls (.int v :: .ref (ad k) :: rest)) := by
  subst hM
  exact g_put hx hb hts inW3 tyX3 tyX3_ok nmX3 hown hK hap hI hk (by simp) rfl rfl 6 (by decide) ⟨rfl, rfl, rfl⟩ hlink rfl (ty := .boolean) (by decide +kernel) hn hfz (Nat.le_of_ble_eq_true rfl) (by rw [wr_s]; rfl) wr_o hdg kk
theorem gg3_7 (hx : p.tables.exec = Jvm.exec) (hb : c.code = cc) (hts : ∀ w ∈ WA, w.before args s = true) {own : String} {index k : Nat} (hown : s.vm.findClass own = some m.cls) (hK : va_K G.1 vwCl (tyL G) s) (hI : Inv G kd ad H0 M H locs) (hk : kd k = (3, 0)) (hlink : Cond.fieldLink own index "SheetFolder$Planner" "openSteps" "[I" ∈ WA) (hdg : decode cc pc = .ok (.getfield index, 3)) (kk : W p l e R s m args below meth c H locs cells slots Q (F0 m (pc + 3) ls (.ref (ad (k + 17)) :: rest))) : W p l e R s m args below meth c H locs cells slots Q (F0 m pc ls (.ref (ad k) :: rest)) :=
  g_get hx hb hts inW3 hown hK hI hk (by simp) rfl rfl 7 (by decide) ⟨rfl, rfl, rfl⟩ hlink rfl hdg kk
theorem gg3_8 (hx : p.tables.exec = Jvm.exec) (hb : c.code = cc) (hts : ∀ w ∈ WA, w.before args s = true) {own : String} {index k : Nat} (hown : s.vm.findClass own = some m.cls) (hK : va_K G.1 vwCl (tyL G) s) (hI : Inv G kd ad H0 M H locs) (hk : kd k = (3, 0)) (hlink : Cond.fieldLink own index "SheetFolder$Planner" "isReached" "[Z" ∈ WA) (hdg : decode cc pc = .ok (.getfield index, 3)) (kk : W p l e R s m args below meth c H locs cells slots Q (F0 m (pc + 3) ls (.ref (ad (k + 18)) :: rest))) : W p l e R s m args below meth c H locs cells slots Q (F0 m pc ls (.ref (ad k) :: rest)) :=
  g_get hx hb hts inW3 hown hK hI hk (by simp) rfl rfl 8 (by decide) ⟨rfl, rfl, rfl⟩ hlink rfl hdg kk
theorem gg3_9 (hx : p.tables.exec = Jvm.exec) (hb : c.code = cc) (hts : ∀ w ∈ WA, w.before args s = true) {own : String} {index k : Nat} (hown : s.vm.findClass own = some m.cls) (hK : va_K G.1 vwCl (tyL G) s) (hI : Inv G kd ad H0 M H locs) (hk : kd k = (3, 0)) (hlink : Cond.fieldLink own index "SheetFolder$Planner" "orderCounts" "[J" ∈ WA) (hdg : decode cc pc = .ok (.getfield index, 3)) (kk : W p l e R s m args below meth c H locs cells slots Q (F0 m (pc + 3) ls (.ref (ad (k + 19)) :: rest))) : W p l e R s m args below meth c H locs cells slots Q (F0 m pc ls (.ref (ad k) :: rest)) :=
  g_get hx hb hts inW3 hown hK hI hk (by simp) rfl rfl 9 (by decide) ⟨rfl, rfl, rfl⟩ hlink rfl hdg kk
theorem gg3_10 (hx : p.tables.exec = Jvm.exec) (hb : c.code = cc) (hts : ∀ w ∈ WA, w.before args s = true) {own : String} {index k : Nat} (hown : s.vm.findClass own = some m.cls) (hK : va_K G.1 vwCl (tyL G) s) (hI : Inv G kd ad H0 M H locs) (hk : kd k = (3, 0)) (hlink : Cond.fieldLink own index "SheetFolder$Planner" "gauges" "[I" ∈ WA) (hdg : decode cc pc = .ok (.getfield index, 3)) (kk : W p l e R s m args below meth c H locs cells slots Q (F0 m (pc + 3) ls (.ref (ad (k + 20)) :: rest))) : W p l e R s m args below meth c H locs cells slots Q (F0 m pc ls (.ref (ad k) :: rest)) :=
  g_get hx hb hts inW3 hown hK hI hk (by simp) rfl rfl 10 (by decide) ⟨rfl, rfl, rfl⟩ hlink rfl hdg kk
theorem gg3_11 (hx : p.tables.exec = Jvm.exec) (hb : c.code = cc) (hts : ∀ w ∈ WA, w.before args s = true) {own : String} {index k : Nat} (hown : s.vm.findClass own = some m.cls) (hK : va_K G.1 vwCl (tyL G) s) (hI : Inv G kd ad H0 M H locs) (hk : kd k = (3, 0)) (hlink : Cond.fieldLink own index "SheetFolder$Planner" "leastCosts" "[I" ∈ WA) (hdg : decode cc pc = .ok (.getfield index, 3)) (kk : W p l e R s m args below meth c H locs cells slots Q (F0 m (pc + 3) ls (.ref (ad (k + 21)) :: rest))) : W p l e R s m args below meth c H locs cells slots Q (F0 m pc ls (.ref (ad k) :: rest)) :=
  g_get hx hb hts inW3 hown hK hI hk (by simp) rfl rfl 11 (by decide) ⟨rfl, rfl, rfl⟩ hlink rfl hdg kk
theorem gg3_12 (hx : p.tables.exec = Jvm.exec) (hb : c.code = cc) (hts : ∀ w ∈ WA, w.before args s = true) {own : String} {index k : Nat} (hown : s.vm.findClass own = some m.cls) (hK : va_K G.1 vwCl (tyL G) s) (hI : Inv G kd ad H0 M H locs) (hk : kd k = (3, 0)) (hlink : Cond.fieldLink own index "SheetFolder$Planner" "greatestCosts" "[I" ∈ WA) (hdg : decode cc pc = .ok (.getfield index, 3)) (kk : W p l e R s m args below meth c H locs cells slots Q (F0 m (pc + 3) ls (.ref (ad (k + 22)) :: rest))) : W p l e R s m args below meth c H locs cells slots Q (F0 m pc ls (.ref (ad k) :: rest)) :=
  g_get hx hb hts inW3 hown hK hI hk (by simp) rfl rfl 12 (by decide) ⟨rfl, rfl, rfl⟩ hlink rfl hdg kk
theorem inW4 : ∀ w ∈ u_ws RX4 TX4 9, w ∈ WA := wa_f (List.forall_mem_cons.mpr ⟨q_t1_54, List.forall_mem_cons.mpr ⟨q_t1_56, List.forall_mem_cons.mpr ⟨q_t1_58, List.forall_mem_cons.mpr ⟨q_t1_60, List.forall_mem_cons.mpr ⟨q_t1_62, List.forall_mem_cons.mpr ⟨q_t1_64, List.forall_mem_cons.mpr ⟨q_t1_66, List.forall_mem_cons.mpr ⟨q_t1_68, List.forall_mem_cons.mpr ⟨q_t1_70, fun _ h => absurd h List.not_mem_nil⟩⟩⟩⟩⟩⟩⟩⟩⟩) _ rfl
theorem gg4_0 (hx : p.tables.exec = Jvm.exec) (hb : c.code = cc) (hts : ∀ w ∈ WA, w.before args s = true) {own : String} {index k : Nat} (hown : s.vm.findClass own = some m.cls) (hK : va_K G.1 vwCl (tyL G) s) (hI : Inv G kd ad H0 M H locs) (hk : kd k = (5, 0)) (hlink : Cond.fieldLink own index "SheetFolder$TextReader" "kindOfError" "I" ∈ WA) (hdg : decode cc pc = .ok (.getfield index, 3)) (kk : W p l e R s m args below meth c H locs cells slots Q (F0 m (pc + 3) ls (.int (rd M k 0) :: rest))) : W p l e R s m args below meth c H locs cells slots Q (F0 m pc ls (.ref (ad k) :: rest)) :=
  g_get hx hb hts inW4 hown hK hI hk (by simp) rfl rfl 0 (by decide) ⟨rfl, rfl, rfl⟩ hlink rfl hdg kk
theorem gp4_0 (hx : p.tables.exec = Jvm.exec) (hb : c.code = cc) (hts : ∀ w ∈ WA, w.before args s = true) {own : String} {index k : Nat} (hown : s.vm.findClass own = some m.cls) (hK : va_K G.1 vwCl (tyL G) s) (hap : Apt kd ad) (hI : Inv G kd ad H0 M H locs) (hk : kd k = (5, 0)) (hlink : Cond.fieldLink own index "SheetFolder$TextReader" "kindOfError" "I" ∈ WA) {v : Int32} (hdg : decode cc pc = .ok (.putfield index, 3)) {M' : Mem} (hM : M' = wr M k 0 v) (kk : ∀ (H1 : Heap) (locs1 : List Loc), Inv G kd ad H0 M' H1 locs1 → W p l e R s m args below meth c H1 locs1 cells slots Q (F0 m (pc + 3) ls rest)) : W p l e R s m args below meth c H locs cells slots Q (F0 m pc ls (.int v :: .ref (ad k) :: rest)) := by
  subst hM
  exact g_put hx hb hts inW4 tyX4 tyX4_ok nmX4 hown hK hap hI hk (by simp) rfl rfl 0 (by decide) ⟨rfl, rfl, rfl⟩ hlink rfl (ty := .int) (by decide +kernel) rfl rfl (Nat.le_of_ble_eq_true rfl) (by rw [wr_s]; rfl) wr_o hdg kk
theorem gg4_1 (hx : p.tables.exec = Jvm.exec) (hb : c.code = cc) (hts : ∀ w ∈ WA, w.before args s = true) {own : String} {index k : Nat} (hown : s.vm.findClass own = some m.cls) (hK : va_K G.1 vwCl (tyL G) s) (hI : Inv G kd ad H0 M H locs) (hk : kd k = (5, 0)) (hlink : Cond.fieldLink own index "SheetFolder$TextReader" "placeOfError" "I" ∈ WA) (hdg : decode cc pc = .ok (.getfield index, 3)) (kk : W p l e R s m args below meth c H locs cells slots Q (F0 m (pc + 3) ls (.int (rd M k 1) :: rest))) : W p l e R s m args below meth c H locs cells slots Q (F0 m pc ls (.ref (ad k) :: rest)) :=
  g_get hx hb hts inW4 hown hK hI hk (by simp) rfl rfl 1 (by decide) ⟨rfl, rfl, rfl⟩ hlink rfl hdg kk
theorem gp4_1 (hx : p.tables.exec = Jvm.exec) (hb : c.code = cc) (hts : ∀ w ∈ WA, w.before args s = true) {own : String} {index k : Nat} (hown : s.vm.findClass own = some m.cls) (hK : va_K G.1 vwCl (tyL G) s) (hap : Apt kd ad) (hI : Inv G kd ad H0 M H locs) (hk : kd k = (5, 0)) (hlink : Cond.fieldLink own index "SheetFolder$TextReader" "placeOfError" "I" ∈ WA) {v : Int32} (hdg : decode cc pc = .ok (.putfield index, 3)) {M' : Mem} (hM : M' = wr M k 1 v) (kk : ∀ (H1 : Heap) (locs1 : List Loc), Inv G kd ad H0 M' H1 locs1 → W p l e R s m args below meth c H1 locs1 cells slots Q (F0 m (pc + 3) ls rest)) : W p l e R s m args below meth c H locs cells slots Q (F0 m pc ls (.int v :: .ref (ad k) :: rest)) := by
  subst hM
  exact g_put hx hb hts inW4 tyX4 tyX4_ok nmX4 hown hK hap hI hk (by simp) rfl rfl 1 (by decide) ⟨rfl, rfl, rfl⟩ hlink rfl (ty := .int) (by decide +kernel) rfl rfl (Nat.le_of_ble_eq_true rfl) (by rw [wr_s]; rfl) wr_o hdg kk
theorem gg4_2 (hx : p.tables.exec = Jvm.exec) (hb : c.code = cc) (hts : ∀ w ∈ WA, w.before args s = true) {own : String} {index k : Nat} (hown : s.vm.findClass own = some m.cls) (hK : va_K G.1 vwCl (tyL G) s) (hI : Inv G kd ad H0 M H locs) (hk : kd k = (5, 0)) (hlink : Cond.fieldLink own index "SheetFolder$TextReader" "bytes" "[B" ∈ WA) (hdg : decode cc pc = .ok (.getfield index, 3)) (kk : W p l e R s m args below meth c H locs cells slots Q (F0 m (pc + 3) ls (.ref (ad (if M.1 k 2 = 1 then 1 else 4)) :: rest))) : W p l e R s m args below meth c H locs cells slots Q (F0 m pc ls (.ref (ad k) :: rest)) :=
  g_get hx hb hts inW4 hown hK hI hk (by simp) rfl rfl 2 (by decide) ⟨rfl, rfl, rfl⟩ hlink rfl hdg kk
theorem gg4_3 (hx : p.tables.exec = Jvm.exec) (hb : c.code = cc) (hts : ∀ w ∈ WA, w.before args s = true) {own : String} {index k : Nat} (hown : s.vm.findClass own = some m.cls) (hK : va_K G.1 vwCl (tyL G) s) (hI : Inv G kd ad H0 M H locs) (hk : kd k = (5, 0)) (hlink : Cond.fieldLink own index "SheetFolder$TextReader" "length" "I" ∈ WA) (hdg : decode cc pc = .ok (.getfield index, 3)) (kk : W p l e R s m args below meth c H locs cells slots Q (F0 m (pc + 3) ls (.int (rd M k 3) :: rest))) : W p l e R s m args below meth c H locs cells slots Q (F0 m pc ls (.ref (ad k) :: rest)) :=
  g_get hx hb hts inW4 hown hK hI hk (by simp) rfl rfl 3 (by decide) ⟨rfl, rfl, rfl⟩ hlink rfl hdg kk
theorem gp4_3 (hx : p.tables.exec = Jvm.exec) (hb : c.code = cc) (hts : ∀ w ∈ WA, w.before args s = true) {own : String} {index k : Nat} (hown : s.vm.findClass own = some m.cls) (hK : va_K G.1 vwCl (tyL G) s) (hap : Apt kd ad) (hI : Inv G kd ad H0 M H locs) (hk : kd k = (5, 0)) (hlink : Cond.fieldLink own index "SheetFolder$TextReader" "length" "I" ∈ WA) {v : Int32} (hdg : decode cc pc = .ok (.putfield index, 3)) {M' : Mem} (hM : M' = wr M k 3 v) (kk : ∀ (H1 : Heap) (locs1 : List Loc), Inv G kd ad H0 M' H1 locs1 → W p l e R s m args below meth c H1 locs1 cells slots Q (F0 m (pc + 3) ls rest)) : W p l e R s m args below meth c H locs cells slots Q (F0 m pc ls (.int v :: .ref (ad k) :: rest)) := by
  subst hM
  exact g_put hx hb hts inW4 tyX4 tyX4_ok nmX4 hown hK hap hI hk (by simp) rfl rfl 3 (by decide) ⟨rfl, rfl, rfl⟩ hlink rfl (ty := .int) (by decide +kernel) rfl rfl (Nat.le_of_ble_eq_true rfl) (by rw [wr_s]; rfl) wr_o hdg kk
theorem gg4_4 (hx : p.tables.exec = Jvm.exec) (hb : c.code = cc) (hts : ∀ w ∈ WA, w.before args s = true) {own : String} {index k : Nat} (hown : s.vm.findClass own = some m.cls) (hK : va_K G.1 vwCl (tyL G) s) (hI : Inv G kd ad H0 M H locs) (hk : kd k = (5, 0)) (hlink : Cond.fieldLink own index "SheetFolder$TextReader" "tokenFrom" "I" ∈ WA) (hdg : decode cc pc = .ok (.getfield index, 3)) (kk : W p l e R s m args below meth c H locs cells slots Q (F0 m (pc + 3) ls (.int (rd M k 4) :: rest))) : W p l e R s m args below meth c H locs cells slots Q (F0 m pc ls (.ref (ad k) :: rest)) :=
  g_get hx hb hts inW4 hown hK hI hk (by simp) rfl rfl 4 (by decide) ⟨rfl, rfl, rfl⟩ hlink rfl hdg kk
theorem gp4_4 (hx : p.tables.exec = Jvm.exec) (hb : c.code = cc) (hts : ∀ w ∈ WA, w.before args s = true) {own : String} {index k : Nat} (hown : s.vm.findClass own = some m.cls) (hK : va_K G.1 vwCl (tyL G) s) (hap : Apt kd ad) (hI : Inv G kd ad H0 M H locs) (hk : kd k = (5, 0)) (hlink : Cond.fieldLink own index "SheetFolder$TextReader" "tokenFrom" "I" ∈ WA) {v : Int32} (hdg : decode cc pc = .ok (.putfield index, 3)) {M' : Mem} (hM : M' = wr M k 4 v) (kk : ∀ (H1 : Heap) (locs1 : List Loc), Inv G kd ad H0 M' H1 locs1 → W p l e R s m args below meth c H1 locs1 cells slots Q (F0 m (pc + 3) ls rest)) : W p l e R s m args below meth c H locs cells slots Q (F0 m pc ls (.int v :: .ref (ad k) :: rest)) := by
  subst hM
  exact g_put hx hb hts inW4 tyX4 tyX4_ok nmX4 hown hK hap hI hk (by simp) rfl rfl 4 (by decide) ⟨rfl, rfl, rfl⟩ hlink rfl (ty := .int) (by decide +kernel) rfl rfl (Nat.le_of_ble_eq_true rfl) (by rw [wr_s]; rfl) wr_o hdg kk
theorem gg4_5 (hx : p.tables.exec = Jvm.exec) (hb : c.code = cc) (hts : ∀ w ∈ WA, w.before args s = true) {own : String} {index k : Nat} (hown : s.vm.findClass own = some m.cls) (hK : va_K G.1 vwCl (tyL G) s) (hI : Inv G kd ad H0 M H locs) (hk : kd k = (5, 0)) (hlink : Cond.fieldLink own index "SheetFolder$TextReader" "tokenTo" "I" ∈ WA) (hdg : decode cc pc = .ok (.getfield index, 3)) (kk : W p l e R s m args below meth c H locs cells slots Q (F0 m (pc + 3) ls (.int (rd M k 5) :: rest))) : W p l e R s m args below meth c H locs cells slots Q (F0 m pc ls (.ref (ad k) :: rest)) :=
  g_get hx hb hts inW4 hown hK hI hk (by simp) rfl rfl 5 (by decide) ⟨rfl, rfl, rfl⟩ hlink rfl hdg kk
theorem gp4_5 (hx : p.tables.exec = Jvm.exec) (hb : c.code = cc) (hts : ∀ w ∈ WA, w.before args s = true) {own : String} {index k : Nat} (hown : s.vm.findClass own = some m.cls) (hK : va_K G.1 vwCl (tyL G) s) (hap : Apt kd ad) (hI : Inv G kd ad H0 M H locs) (hk : kd k = (5, 0)) (hlink : Cond.fieldLink own index "SheetFolder$TextReader" "tokenTo" "I" ∈ WA) {v : Int32} (hdg : decode cc pc = .ok (.putfield index, 3)) {M' : Mem} (hM : M' = wr M k 5 v) (kk : ∀ (H1 : Heap) (locs1 : List Loc), Inv G kd ad H0 M' H1 locs1 → W p l e R s m args below meth c H1 locs1 cells slots Q (F0 m (pc + 3) ls rest)) : W p l e R s m args below meth c H locs cells slots Q (F0 m pc ls (.int v :: .ref (ad k) :: rest)) := by
  subst hM
  exact g_put hx hb hts inW4 tyX4 tyX4_ok nmX4 hown hK hap hI hk (by simp) rfl rfl 5 (by decide) ⟨rfl, rfl, rfl⟩ hlink rfl (ty := .int) (by decide +kernel) rfl rfl (Nat.le_of_ble_eq_true rfl) (by rw [wr_s]; rfl) wr_o hdg kk
theorem gg4_6 (hx : p.tables.exec = Jvm.exec) (hb : c.code = cc) (hts : ∀ w ∈ WA, w.before args s = true) {own : String} {index k : Nat} (hown : s.vm.findClass own = some m.cls) (hK : va_K G.1 vwCl (tyL G) s) (hI : Inv G kd ad H0 M H locs) (hk : kd k = (5, 0)) (hlink : Cond.fieldLink own index "SheetFolder$TextReader" "token" "I" ∈ WA) (hdg : decode cc pc = .ok (.getfield index, 3)) (kk : W p l e R s m args below meth c H locs cells slots Q (F0 m (pc + 3) ls (.int (rd M k 6) :: rest))) : W p l e R s m args below meth c H locs cells slots Q (F0 m pc ls (.ref (ad k) :: rest)) :=
  g_get hx hb hts inW4 hown hK hI hk (by simp) rfl rfl 6 (by decide) ⟨rfl, rfl, rfl⟩ hlink rfl hdg kk
theorem gp4_6 (hx : p.tables.exec = Jvm.exec) (hb : c.code = cc) (hts : ∀ w ∈ WA, w.before args s = true) {own : String} {index k : Nat} (hown : s.vm.findClass own = some m.cls) (hK : va_K G.1 vwCl (tyL G) s) (hap : Apt kd ad) (hI : Inv G kd ad H0 M H locs) (hk : kd k = (5, 0)) (hlink : Cond.fieldLink own index "SheetFolder$TextReader" "token" "I" ∈ WA) {v : Int32} (hdg : decode cc pc = .ok (.putfield index, 3)) {M' : Mem} (hM : M' = wr M k 6 v) (kk : ∀ (H1 : Heap) (locs1 : List Loc), Inv G kd ad H0 M' H1 locs1 → W p l e R s m args below meth c H1 locs1 cells slots Q (F0 m (pc + 3) ls rest)) : W p l e R s m args below meth c H locs cells slots Q (F0 m pc ls (.int v :: .ref (ad k) :: rest)) := by
  subst hM
  exact g_put hx hb hts inW4 tyX4 tyX4_ok nmX4 hown hK hap hI hk (by simp) rfl rfl 6 (by decide) ⟨rfl, rfl, rfl⟩ hlink rfl (ty := .int) (by decide +kernel) rfl rfl (Nat.le_of_ble_eq_true rfl) (by rw [wr_s]; rfl) wr_o hdg kk
theorem gg4_7 (hx : p.tables.exec = Jvm.exec) (hb : c.code = cc) (hts : ∀ w ∈ WA, w.before args s = true) {own : String} {index k : Nat} (hown : s.vm.findClass own = some m.cls) (hK : va_K G.1 vwCl (tyL G) s) (hI : Inv G kd ad H0 M H locs) (hk : kd k = (5, 0)) (hlink : Cond.fieldLink own index "SheetFolder$TextReader" "tokenNumber" "I" ∈ WA) (hdg : decode cc pc = .ok (.getfield index, 3)) (kk : W p l e R s m args below meth c H locs cells slots Q (F0 m (pc + 3) ls (.int (rd M k 7) :: rest))) : W p l e R s m args below meth c H locs cells slots Q (F0 m pc ls (.ref (ad k) :: rest)) :=
  g_get hx hb hts inW4 hown hK hI hk (by simp) rfl rfl 7 (by decide) ⟨rfl, rfl, rfl⟩ hlink rfl hdg kk
theorem gp4_7 (hx : p.tables.exec = Jvm.exec) (hb : c.code = cc) (hts : ∀ w ∈ WA, w.before args s = true) {own : String} {index k : Nat} (hown : s.vm.findClass own = some m.cls) (hK : va_K G.1 vwCl (tyL G) s) (hap : Apt kd ad) (hI : Inv G kd ad H0 M H locs) (hk : kd k = (5, 0)) (hlink : Cond.fieldLink own index "SheetFolder$TextReader" "tokenNumber" "I" ∈ WA) {v : Int32} (hdg : decode cc pc = .ok (.putfield index, 3)) {M' : Mem} (hM : M' = wr M k 7 v) (kk : ∀ (H1 : Heap) (locs1 : List Loc), Inv G kd ad H0 M' H1 locs1 → W p l e R s m args below meth c H1 locs1 cells slots Q (F0 m (pc + 3) ls rest)) : W p l e R s m args below meth c H locs cells slots Q (F0 m pc ls (.int v :: .ref (ad k) :: rest)) := by
  subst hM
  exact g_put hx hb hts inW4 tyX4 tyX4_ok nmX4 hown hK hap hI hk (by simp) rfl rfl 7 (by decide) ⟨rfl, rfl, rfl⟩ hlink rfl (ty := .int) (by decide +kernel) rfl rfl (Nat.le_of_ble_eq_true rfl) (by rw [wr_s]; rfl) wr_o hdg kk
theorem gg4_8 (hx : p.tables.exec = Jvm.exec) (hb : c.code = cc) (hts : ∀ w ∈ WA, w.before args s = true) {own : String} {index k : Nat} (hown : s.vm.findClass own = some m.cls) (hK : va_K G.1 vwCl (tyL G) s) (hI : Inv G kd ad H0 M H locs) (hk : kd k = (5, 0)) (hlink : Cond.fieldLink own index "SheetFolder$TextReader" "numbers" "[I" ∈ WA) (hdg : decode cc pc = .ok (.getfield index, 3)) (kk : W p l e R s m args below meth c H locs cells slots Q (F0 m (pc + 3) ls (.ref (ad (k + 1)) :: rest))) : W p l e R s m args below meth c H locs cells slots Q (F0 m pc ls (.ref (ad k) :: rest)) :=
  g_get hx hb hts inW4 hown hK hI hk (by simp) rfl rfl 8 (by decide) ⟨rfl, rfl, rfl⟩ hlink rfl hdg kk
theorem inW6 : ∀ w ∈ u_ws RX6 TX6 9, w ∈ WA := wa_f (List.forall_mem_cons.mpr ⟨q_t2_91, List.forall_mem_cons.mpr ⟨q_t2_93, List.forall_mem_cons.mpr ⟨q_t2_95, List.forall_mem_cons.mpr ⟨q_t2_97, List.forall_mem_cons.mpr ⟨q_t2_99, List.forall_mem_cons.mpr ⟨q_t2_101, List.forall_mem_cons.mpr ⟨q_t2_103, List.forall_mem_cons.mpr ⟨q_t2_105, List.forall_mem_cons.mpr ⟨q_t2_107, fun _ h => absurd h List.not_mem_nil⟩⟩⟩⟩⟩⟩⟩⟩⟩) _ rfl
theorem gg6_0 (hx : p.tables.exec = Jvm.exec) (hb : c.code = cc) (hts : ∀ w ∈ WA, w.before args s = true) {own : String} {index k : Nat} (hown : s.vm.findClass own = some m.cls) (hK : va_K G.1 vwCl (tyL G) s) (hI : Inv G kd ad H0 M H locs) (hk : kd k = (6, 0)) (hlink : Cond.fieldLink own index "SheetFolder" "buffer" "[B" ∈ WA) (hdg : decode cc pc = .ok (.getfield index, 3)) (kk : W p l e R s m args below meth c H locs cells slots Q (F0 m (pc + 3) ls (.ref (ad 1) :: rest))) : W p l e R s m args below meth c H locs cells slots Q (F0 m pc ls (.ref (ad k) :: rest)) :=
  g_get hx hb hts inW6 hown hK hI hk (by simp) rfl rfl 0 (by decide) ⟨rfl, rfl, rfl⟩ hlink rfl hdg kk
theorem gg6_1 (hx : p.tables.exec = Jvm.exec) (hb : c.code = cc) (hts : ∀ w ∈ WA, w.before args s = true) {own : String} {index k : Nat} (hown : s.vm.findClass own = some m.cls) (hK : va_K G.1 vwCl (tyL G) s) (hI : Inv G kd ad H0 M H locs) (hk : kd k = (6, 0)) (hlink : Cond.fieldLink own index "SheetFolder" "buffered" "I" ∈ WA) (hdg : decode cc pc = .ok (.getfield index, 3)) (kk : W p l e R s m args below meth c H locs cells slots Q (F0 m (pc + 3) ls (.int (rd M k 1) :: rest))) : W p l e R s m args below meth c H locs cells slots Q (F0 m pc ls (.ref (ad k) :: rest)) :=
  g_get hx hb hts inW6 hown hK hI hk (by simp) rfl rfl 1 (by decide) ⟨rfl, rfl, rfl⟩ hlink rfl hdg kk
theorem gp6_1 (hx : p.tables.exec = Jvm.exec) (hb : c.code = cc) (hts : ∀ w ∈ WA, w.before args s = true) {own : String} {index k : Nat} (hown : s.vm.findClass own = some m.cls) (hK : va_K G.1 vwCl (tyL G) s) (hap : Apt kd ad) (hI : Inv G kd ad H0 M H locs) (hk : kd k = (6, 0)) (hlink : Cond.fieldLink own index "SheetFolder" "buffered" "I" ∈ WA) {v : Int32} (hdg : decode cc pc = .ok (.putfield index, 3)) {M' : Mem} (hM : M' = wr M k 1 v) (kk : ∀ (H1 : Heap) (locs1 : List Loc), Inv G kd ad H0 M' H1 locs1 → W p l e R s m args below meth c H1 locs1 cells slots Q (F0 m (pc + 3) ls rest)) : W p l e R s m args below meth c H locs cells slots Q (F0 m pc ls (.int v :: .ref (ad k) :: rest)) := by
  subst hM
  exact g_put hx hb hts inW6 tyX6 tyX6_ok nmX6 hown hK hap hI hk (by simp) rfl rfl 1 (by decide) ⟨rfl, rfl, rfl⟩ hlink rfl (ty := .int) (by decide +kernel) rfl rfl (Nat.le_of_ble_eq_true rfl) (by rw [wr_s]; rfl) wr_o hdg kk
theorem gg6_2 (hx : p.tables.exec = Jvm.exec) (hb : c.code = cc) (hts : ∀ w ∈ WA, w.before args s = true) {own : String} {index k : Nat} (hown : s.vm.findClass own = some m.cls) (hK : va_K G.1 vwCl (tyL G) s) (hI : Inv G kd ad H0 M H locs) (hk : kd k = (6, 0)) (hlink : Cond.fieldLink own index "SheetFolder" "reader" "LSheetFolder$TextReader;" ∈ WA) (hdg : decode cc pc = .ok (.getfield index, 3)) (kk : W p l e R s m args below meth c H locs cells slots Q (F0 m (pc + 3) ls (.ref (ad 2) :: rest))) : W p l e R s m args below meth c H locs cells slots Q (F0 m pc ls (.ref (ad k) :: rest)) :=
  g_get hx hb hts inW6 hown hK hI hk (by simp) rfl rfl 2 (by decide) ⟨rfl, rfl, rfl⟩ hlink rfl hdg kk
theorem gg6_3 (hx : p.tables.exec = Jvm.exec) (hb : c.code = cc) (hts : ∀ w ∈ WA, w.before args s = true) {own : String} {index k : Nat} (hown : s.vm.findClass own = some m.cls) (hK : va_K G.1 vwCl (tyL G) s) (hI : Inv G kd ad H0 M H locs) (hk : kd k = (6, 0)) (hlink : Cond.fieldLink own index "SheetFolder" "part" "LSheetFolder$Part;" ∈ WA) (hdg : decode cc pc = .ok (.getfield index, 3)) (kk : W p l e R s m args below meth c H locs cells slots Q (F0 m (pc + 3) ls (.ref (ad 5) :: rest))) : W p l e R s m args below meth c H locs cells slots Q (F0 m pc ls (.ref (ad k) :: rest)) :=
  g_get hx hb hts inW6 hown hK hI hk (by simp) rfl rfl 3 (by decide) ⟨rfl, rfl, rfl⟩ hlink rfl hdg kk
theorem gg6_4 (hx : p.tables.exec = Jvm.exec) (hb : c.code = cc) (hts : ∀ w ∈ WA, w.before args s = true) {own : String} {index k : Nat} (hown : s.vm.findClass own = some m.cls) (hK : va_K G.1 vwCl (tyL G) s) (hI : Inv G kd ad H0 M H locs) (hk : kd k = (6, 0)) (hlink : Cond.fieldLink own index "SheetFolder" "scratch" "LSheetFolder$Part;" ∈ WA) (hdg : decode cc pc = .ok (.getfield index, 3)) (kk : W p l e R s m args below meth c H locs cells slots Q (F0 m (pc + 3) ls (.ref (ad 13) :: rest))) : W p l e R s m args below meth c H locs cells slots Q (F0 m pc ls (.ref (ad k) :: rest)) :=
  g_get hx hb hts inW6 hown hK hI hk (by simp) rfl rfl 4 (by decide) ⟨rfl, rfl, rfl⟩ hlink rfl hdg kk
theorem gg6_5 (hx : p.tables.exec = Jvm.exec) (hb : c.code = cc) (hts : ∀ w ∈ WA, w.before args s = true) {own : String} {index k : Nat} (hown : s.vm.findClass own = some m.cls) (hK : va_K G.1 vwCl (tyL G) s) (hI : Inv G kd ad H0 M H locs) (hk : kd k = (6, 0)) (hlink : Cond.fieldLink own index "SheetFolder" "history" "LSheetFolder$History;" ∈ WA) (hdg : decode cc pc = .ok (.getfield index, 3)) (kk : W p l e R s m args below meth c H locs cells slots Q (F0 m (pc + 3) ls (.ref (ad 21) :: rest))) : W p l e R s m args below meth c H locs cells slots Q (F0 m pc ls (.ref (ad k) :: rest)) :=
  g_get hx hb hts inW6 hown hK hI hk (by simp) rfl rfl 5 (by decide) ⟨rfl, rfl, rfl⟩ hlink rfl hdg kk
theorem gg6_6 (hx : p.tables.exec = Jvm.exec) (hb : c.code = cc) (hts : ∀ w ∈ WA, w.before args s = true) {own : String} {index k : Nat} (hown : s.vm.findClass own = some m.cls) (hK : va_K G.1 vwCl (tyL G) s) (hI : Inv G kd ad H0 M H locs) (hk : kd k = (6, 0)) (hlink : Cond.fieldLink own index "SheetFolder" "places" "LSheetFolder$Places;" ∈ WA) (hdg : decode cc pc = .ok (.getfield index, 3)) (kk : W p l e R s m args below meth c H locs cells slots Q (F0 m (pc + 3) ls (.ref (ad 103) :: rest))) : W p l e R s m args below meth c H locs cells slots Q (F0 m pc ls (.ref (ad k) :: rest)) :=
  g_get hx hb hts inW6 hown hK hI hk (by simp) rfl rfl 6 (by decide) ⟨rfl, rfl, rfl⟩ hlink rfl hdg kk
theorem gg6_7 (hx : p.tables.exec = Jvm.exec) (hb : c.code = cc) (hts : ∀ w ∈ WA, w.before args s = true) {own : String} {index k : Nat} (hown : s.vm.findClass own = some m.cls) (hK : va_K G.1 vwCl (tyL G) s) (hI : Inv G kd ad H0 M H locs) (hk : kd k = (6, 0)) (hlink : Cond.fieldLink own index "SheetFolder" "planner" "LSheetFolder$Planner;" ∈ WA) (hdg : decode cc pc = .ok (.getfield index, 3)) (kk : W p l e R s m args below meth c H locs cells slots Q (F0 m (pc + 3) ls (.ref (ad 110) :: rest))) : W p l e R s m args below meth c H locs cells slots Q (F0 m pc ls (.ref (ad k) :: rest)) :=
  g_get hx hb hts inW6 hown hK hI hk (by simp) rfl rfl 7 (by decide) ⟨rfl, rfl, rfl⟩ hlink rfl hdg kk
theorem gg6_8 (hx : p.tables.exec = Jvm.exec) (hb : c.code = cc) (hts : ∀ w ∈ WA, w.before args s = true) {own : String} {index k : Nat} (hown : s.vm.findClass own = some m.cls) (hK : va_K G.1 vwCl (tyL G) s) (hI : Inv G kd ad H0 M H locs) (hk : kd k = (6, 0)) (hlink : Cond.fieldLink own index "SheetFolder" "output" "Ljava/lang/StringBuilder;" ∈ WA) (hdg : decode cc pc = .ok (.getfield index, 3)) (kk : W p l e R s m args below meth c H locs cells slots Q (F0 m (pc + 3) ls (.ref (ad 133) :: rest))) : W p l e R s m args below meth c H locs cells slots Q (F0 m pc ls (.ref (ad k) :: rest)) :=
  g_get hx hb hts inW6 hown hK hI hk (by simp) rfl rfl 8 (by decide) ⟨rfl, rfl, rfl⟩ hlink rfl hdg kk
theorem inW7 : ∀ w ∈ u_ws RX7 TX7 31, w ∈ WA := wa_f (List.forall_mem_cons.mpr ⟨q_t7_107, List.forall_mem_cons.mpr ⟨q_t7_109, List.forall_mem_cons.mpr ⟨q_t7_111, List.forall_mem_cons.mpr ⟨q_t7_113, List.forall_mem_cons.mpr ⟨q_t7_115, List.forall_mem_cons.mpr ⟨q_t7_117, List.forall_mem_cons.mpr ⟨q_t7_119, List.forall_mem_cons.mpr ⟨q_t7_121, List.forall_mem_cons.mpr ⟨q_t7_123, List.forall_mem_cons.mpr ⟨q_t7_125, List.forall_mem_cons.mpr ⟨q_t7_127, List.forall_mem_cons.mpr ⟨q_t7_129, List.forall_mem_cons.mpr ⟨q_t7_131, List.forall_mem_cons.mpr ⟨q_t7_133, List.forall_mem_cons.mpr ⟨q_t7_135, List.forall_mem_cons.mpr ⟨q_t7_137, List.forall_mem_cons.mpr ⟨q_t7_139, List.forall_mem_cons.mpr ⟨q_t7_141, List.forall_mem_cons.mpr ⟨q_t7_143, List.forall_mem_cons.mpr ⟨q_t7_145, List.forall_mem_cons.mpr ⟨q_t7_147, List.forall_mem_cons.mpr ⟨q_t7_149, List.forall_mem_cons.mpr ⟨q_t7_151, List.forall_mem_cons.mpr ⟨q_t7_153, List.forall_mem_cons.mpr ⟨q_t7_155, List.forall_mem_cons.mpr ⟨q_t7_157, List.forall_mem_cons.mpr ⟨q_t7_159, List.forall_mem_cons.mpr ⟨q_t7_161, List.forall_mem_cons.mpr ⟨q_t7_163, List.forall_mem_cons.mpr ⟨q_t7_165, List.forall_mem_cons.mpr ⟨q_t7_167, fun _ h => absurd h List.not_mem_nil⟩⟩⟩⟩⟩⟩⟩⟩⟩⟩⟩⟩⟩⟩⟩⟩⟩⟩⟩⟩⟩⟩⟩⟩⟩⟩⟩⟩⟩⟩⟩) _ rfl
theorem gg7_0 (hx : p.tables.exec = Jvm.exec) (hb : c.code = cc) (hts : ∀ w ∈ WA, w.before args s = true) {own : String} {index k : Nat} (hown : s.vm.findClass own = some m.cls) (hK : va_K G.1 vwCl (tyL G) s) (hI : Inv G kd ad H0 M H locs) (hk : kd k = (7, 0)) (hlink : Cond.fieldLink own index "SheetFolderModel" "s" "[I" ∈ WA) (hdg : decode cc pc = .ok (.getfield index, 3)) (kk : W p l e R s m args below meth c H locs cells slots Q (F0 m (pc + 3) ls (.ref (ad (k + 1)) :: rest))) : W p l e R s m args below meth c H locs cells slots Q (F0 m pc ls (.ref (ad k) :: rest)) :=
  g_get hx hb hts inW7 hown hK hI hk (by simp) rfl rfl 0 (by decide) ⟨rfl, rfl, rfl⟩ hlink rfl hdg kk
theorem gg7_1 (hx : p.tables.exec = Jvm.exec) (hb : c.code = cc) (hts : ∀ w ∈ WA, w.before args s = true) {own : String} {index k : Nat} (hown : s.vm.findClass own = some m.cls) (hK : va_K G.1 vwCl (tyL G) s) (hI : Inv G kd ad H0 M H locs) (hk : kd k = (7, 0)) (hlink : Cond.fieldLink own index "SheetFolderModel" "parsed" "[I" ∈ WA) (hdg : decode cc pc = .ok (.getfield index, 3)) (kk : W p l e R s m args below meth c H locs cells slots Q (F0 m (pc + 3) ls (.ref (ad (k + 2)) :: rest))) : W p l e R s m args below meth c H locs cells slots Q (F0 m pc ls (.ref (ad k) :: rest)) :=
  g_get hx hb hts inW7 hown hK hI hk (by simp) rfl rfl 1 (by decide) ⟨rfl, rfl, rfl⟩ hlink rfl hdg kk
theorem gg7_2 (hx : p.tables.exec = Jvm.exec) (hb : c.code = cc) (hts : ∀ w ∈ WA, w.before args s = true) {own : String} {index k : Nat} (hown : s.vm.findClass own = some m.cls) (hK : va_K G.1 vwCl (tyL G) s) (hI : Inv G kd ad H0 M H locs) (hk : kd k = (7, 0)) (hlink : Cond.fieldLink own index "SheetFolderModel" "aside" "[I" ∈ WA) (hdg : decode cc pc = .ok (.getfield index, 3)) (kk : W p l e R s m args below meth c H locs cells slots Q (F0 m (pc + 3) ls (.ref (ad (k + 3)) :: rest))) : W p l e R s m args below meth c H locs cells slots Q (F0 m pc ls (.ref (ad k) :: rest)) :=
  g_get hx hb hts inW7 hown hK hI hk (by simp) rfl rfl 2 (by decide) ⟨rfl, rfl, rfl⟩ hlink rfl hdg kk
theorem gg7_3 (hx : p.tables.exec = Jvm.exec) (hb : c.code = cc) (hts : ∀ w ∈ WA, w.before args s = true) {own : String} {index k : Nat} (hown : s.vm.findClass own = some m.cls) (hK : va_K G.1 vwCl (tyL G) s) (hI : Inv G kd ad H0 M H locs) (hk : kd k = (7, 0)) (hlink : Cond.fieldLink own index "SheetFolderModel" "history" "[I" ∈ WA) (hdg : decode cc pc = .ok (.getfield index, 3)) (kk : W p l e R s m args below meth c H locs cells slots Q (F0 m (pc + 3) ls (.ref (ad (k + 4)) :: rest))) : W p l e R s m args below meth c H locs cells slots Q (F0 m pc ls (.ref (ad k) :: rest)) :=
  g_get hx hb hts inW7 hown hK hI hk (by simp) rfl rfl 3 (by decide) ⟨rfl, rfl, rfl⟩ hlink rfl hdg kk
theorem gg7_4 (hx : p.tables.exec = Jvm.exec) (hb : c.code = cc) (hts : ∀ w ∈ WA, w.before args s = true) {own : String} {index k : Nat} (hown : s.vm.findClass own = some m.cls) (hK : va_K G.1 vwCl (tyL G) s) (hI : Inv G kd ad H0 M H locs) (hk : kd k = (7, 0)) (hlink : Cond.fieldLink own index "SheetFolderModel" "edits" "I" ∈ WA) (hdg : decode cc pc = .ok (.getfield index, 3)) (kk : W p l e R s m args below meth c H locs cells slots Q (F0 m (pc + 3) ls (.int (rd M k 4) :: rest))) : W p l e R s m args below meth c H locs cells slots Q (F0 m pc ls (.ref (ad k) :: rest)) :=
  g_get hx hb hts inW7 hown hK hI hk (by simp) rfl rfl 4 (by decide) ⟨rfl, rfl, rfl⟩ hlink rfl hdg kk
theorem gp7_4 (hx : p.tables.exec = Jvm.exec) (hb : c.code = cc) (hts : ∀ w ∈ WA, w.before args s = true) {own : String} {index k : Nat} (hown : s.vm.findClass own = some m.cls) (hK : va_K G.1 vwCl (tyL G) s) (hap : Apt kd ad) (hI : Inv G kd ad H0 M H locs) (hk : kd k = (7, 0)) (hlink : Cond.fieldLink own index "SheetFolderModel" "edits" "I" ∈ WA) {v : Int32} (hdg : decode cc pc = .ok (.putfield index, 3)) {M' : Mem} (hM : M' = wr M k 4 v) (kk : ∀ (H1 : Heap) (locs1 : List Loc), Inv G kd ad H0 M' H1 locs1 → W p l e R s m args below meth c H1 locs1 cells slots Q (F0 m (pc + 3) ls rest)) : W p l e R s m args below meth c H locs cells slots Q (F0 m pc ls (.int v :: .ref (ad k) :: rest)) := by
  subst hM
  exact g_put hx hb hts inW7 tyX7 tyX7_ok nmX7 hown hK hap hI hk (by simp) rfl rfl 4 (by decide) ⟨rfl, rfl, rfl⟩ hlink rfl (ty := .int) (by decide +kernel) rfl rfl (Nat.le_of_ble_eq_true rfl) (by rw [wr_s]; rfl) wr_o hdg kk
theorem gg7_5 (hx : p.tables.exec = Jvm.exec) (hb : c.code = cc) (hts : ∀ w ∈ WA, w.before args s = true) {own : String} {index k : Nat} (hown : s.vm.findClass own = some m.cls) (hK : va_K G.1 vwCl (tyL G) s) (hI : Inv G kd ad H0 M H locs) (hk : kd k = (7, 0)) (hlink : Cond.fieldLink own index "SheetFolderModel" "thrown" "I" ∈ WA) (hdg : decode cc pc = .ok (.getfield index, 3)) (kk : W p l e R s m args below meth c H locs cells slots Q (F0 m (pc + 3) ls (.int (rd M k 5) :: rest))) : W p l e R s m args below meth c H locs cells slots Q (F0 m pc ls (.ref (ad k) :: rest)) :=
  g_get hx hb hts inW7 hown hK hI hk (by simp) rfl rfl 5 (by decide) ⟨rfl, rfl, rfl⟩ hlink rfl hdg kk
theorem gp7_5 (hx : p.tables.exec = Jvm.exec) (hb : c.code = cc) (hts : ∀ w ∈ WA, w.before args s = true) {own : String} {index k : Nat} (hown : s.vm.findClass own = some m.cls) (hK : va_K G.1 vwCl (tyL G) s) (hap : Apt kd ad) (hI : Inv G kd ad H0 M H locs) (hk : kd k = (7, 0)) (hlink : Cond.fieldLink own index "SheetFolderModel" "thrown" "I" ∈ WA) {v : Int32} (hdg : decode cc pc = .ok (.putfield index, 3)) {M' : Mem} (hM : M' = wr M k 5 v) (kk : ∀ (H1 : Heap) (locs1 : List Loc), Inv G kd ad H0 M' H1 locs1 → W p l e R s m args below meth c H1 locs1 cells slots Q (F0 m (pc + 3) ls rest)) : W p l e R s m args below meth c H locs cells slots Q (F0 m pc ls (.int v :: .ref (ad k) :: rest)) := by
  subst hM
  exact g_put hx hb hts inW7 tyX7 tyX7_ok nmX7 hown hK hap hI hk (by simp) rfl rfl 5 (by decide) ⟨rfl, rfl, rfl⟩ hlink rfl (ty := .int) (by decide +kernel) rfl rfl (Nat.le_of_ble_eq_true rfl) (by rw [wr_s]; rfl) wr_o hdg kk
theorem gg7_6 (hx : p.tables.exec = Jvm.exec) (hb : c.code = cc) (hts : ∀ w ∈ WA, w.before args s = true) {own : String} {index k : Nat} (hown : s.vm.findClass own = some m.cls) (hK : va_K G.1 vwCl (tyL G) s) (hI : Inv G kd ad H0 M H locs) (hk : kd k = (7, 0)) (hlink : Cond.fieldLink own index "SheetFolderModel" "buffer" "[I" ∈ WA) (hdg : decode cc pc = .ok (.getfield index, 3)) (kk : W p l e R s m args below meth c H locs cells slots Q (F0 m (pc + 3) ls (.ref (ad (k + 5)) :: rest))) : W p l e R s m args below meth c H locs cells slots Q (F0 m pc ls (.ref (ad k) :: rest)) :=
  g_get hx hb hts inW7 hown hK hI hk (by simp) rfl rfl 6 (by decide) ⟨rfl, rfl, rfl⟩ hlink rfl hdg kk
theorem gg7_7 (hx : p.tables.exec = Jvm.exec) (hb : c.code = cc) (hts : ∀ w ∈ WA, w.before args s = true) {own : String} {index k : Nat} (hown : s.vm.findClass own = some m.cls) (hK : va_K G.1 vwCl (tyL G) s) (hI : Inv G kd ad H0 M H locs) (hk : kd k = (7, 0)) (hlink : Cond.fieldLink own index "SheetFolderModel" "buffered" "I" ∈ WA) (hdg : decode cc pc = .ok (.getfield index, 3)) (kk : W p l e R s m args below meth c H locs cells slots Q (F0 m (pc + 3) ls (.int (rd M k 7) :: rest))) : W p l e R s m args below meth c H locs cells slots Q (F0 m pc ls (.ref (ad k) :: rest)) :=
  g_get hx hb hts inW7 hown hK hI hk (by simp) rfl rfl 7 (by decide) ⟨rfl, rfl, rfl⟩ hlink rfl hdg kk
theorem gp7_7 (hx : p.tables.exec = Jvm.exec) (hb : c.code = cc) (hts : ∀ w ∈ WA, w.before args s = true) {own : String} {index k : Nat} (hown : s.vm.findClass own = some m.cls) (hK : va_K G.1 vwCl (tyL G) s) (hap : Apt kd ad) (hI : Inv G kd ad H0 M H locs) (hk : kd k = (7, 0)) (hlink : Cond.fieldLink own index "SheetFolderModel" "buffered" "I" ∈ WA) {v : Int32} (hdg : decode cc pc = .ok (.putfield index, 3)) {M' : Mem} (hM : M' = wr M k 7 v) (kk : ∀ (H1 : Heap) (locs1 : List Loc), Inv G kd ad H0 M' H1 locs1 → W p l e R s m args below meth c H1 locs1 cells slots Q (F0 m (pc + 3) ls rest)) : W p l e R s m args below meth c H locs cells slots Q (F0 m pc ls (.int v :: .ref (ad k) :: rest)) := by
  subst hM
  exact g_put hx hb hts inW7 tyX7 tyX7_ok nmX7 hown hK hap hI hk (by simp) rfl rfl 7 (by decide) ⟨rfl, rfl, rfl⟩ hlink rfl (ty := .int) (by decide +kernel) rfl rfl (Nat.le_of_ble_eq_true rfl) (by rw [wr_s]; rfl) wr_o hdg kk
theorem gg7_8 (hx : p.tables.exec = Jvm.exec) (hb : c.code = cc) (hts : ∀ w ∈ WA, w.before args s = true) {own : String} {index k : Nat} (hown : s.vm.findClass own = some m.cls) (hK : va_K G.1 vwCl (tyL G) s) (hI : Inv G kd ad H0 M H locs) (hk : kd k = (7, 0)) (hlink : Cond.fieldLink own index "SheetFolderModel" "errorKind" "I" ∈ WA) (hdg : decode cc pc = .ok (.getfield index, 3)) (kk : W p l e R s m args below meth c H locs cells slots Q (F0 m (pc + 3) ls (.int (rd M k 8) :: rest))) : W p l e R s m args below meth c H locs cells slots Q (F0 m pc ls (.ref (ad k) :: rest)) :=
  g_get hx hb hts inW7 hown hK hI hk (by simp) rfl rfl 8 (by decide) ⟨rfl, rfl, rfl⟩ hlink rfl hdg kk
theorem gp7_8 (hx : p.tables.exec = Jvm.exec) (hb : c.code = cc) (hts : ∀ w ∈ WA, w.before args s = true) {own : String} {index k : Nat} (hown : s.vm.findClass own = some m.cls) (hK : va_K G.1 vwCl (tyL G) s) (hap : Apt kd ad) (hI : Inv G kd ad H0 M H locs) (hk : kd k = (7, 0)) (hlink : Cond.fieldLink own index "SheetFolderModel" "errorKind" "I" ∈ WA) {v : Int32} (hdg : decode cc pc = .ok (.putfield index, 3)) {M' : Mem} (hM : M' = wr M k 8 v) (kk : ∀ (H1 : Heap) (locs1 : List Loc), Inv G kd ad H0 M' H1 locs1 → W p l e R s m args below meth c H1 locs1 cells slots Q (F0 m (pc + 3) ls rest)) : W p l e R s m args below meth c H locs cells slots Q (F0 m pc ls (.int v :: .ref (ad k) :: rest)) := by
  subst hM
  exact g_put hx hb hts inW7 tyX7 tyX7_ok nmX7 hown hK hap hI hk (by simp) rfl rfl 8 (by decide) ⟨rfl, rfl, rfl⟩ hlink rfl (ty := .int) (by decide +kernel) rfl rfl (Nat.le_of_ble_eq_true rfl) (by rw [wr_s]; rfl) wr_o hdg kk
theorem gg7_9 (hx : p.tables.exec = Jvm.exec) (hb : c.code = cc) (hts : ∀ w ∈ WA, w.before args s = true) {own : String} {index k : Nat} (hown : s.vm.findClass own = some m.cls) (hK : va_K G.1 vwCl (tyL G) s) (hI : Inv G kd ad H0 M H locs) (hk : kd k = (7, 0)) (hlink : Cond.fieldLink own index "SheetFolderModel" "errorPosition" "I" ∈ WA) (hdg : decode cc pc = .ok (.getfield index, 3)) (kk : W p l e R s m args below meth c H locs cells slots Q (F0 m (pc + 3) ls (.int (rd M k 9) :: rest))) : W p l e R s m args below meth c H locs cells slots Q (F0 m pc ls (.ref (ad k) :: rest)) :=
  g_get hx hb hts inW7 hown hK hI hk (by simp) rfl rfl 9 (by decide) ⟨rfl, rfl, rfl⟩ hlink rfl hdg kk
theorem gp7_9 (hx : p.tables.exec = Jvm.exec) (hb : c.code = cc) (hts : ∀ w ∈ WA, w.before args s = true) {own : String} {index k : Nat} (hown : s.vm.findClass own = some m.cls) (hK : va_K G.1 vwCl (tyL G) s) (hap : Apt kd ad) (hI : Inv G kd ad H0 M H locs) (hk : kd k = (7, 0)) (hlink : Cond.fieldLink own index "SheetFolderModel" "errorPosition" "I" ∈ WA) {v : Int32} (hdg : decode cc pc = .ok (.putfield index, 3)) {M' : Mem} (hM : M' = wr M k 9 v) (kk : ∀ (H1 : Heap) (locs1 : List Loc), Inv G kd ad H0 M' H1 locs1 → W p l e R s m args below meth c H1 locs1 cells slots Q (F0 m (pc + 3) ls rest)) : W p l e R s m args below meth c H locs cells slots Q (F0 m pc ls (.int v :: .ref (ad k) :: rest)) := by
  subst hM
  exact g_put hx hb hts inW7 tyX7 tyX7_ok nmX7 hown hK hap hI hk (by simp) rfl rfl 9 (by decide) ⟨rfl, rfl, rfl⟩ hlink rfl (ty := .int) (by decide +kernel) rfl rfl (Nat.le_of_ble_eq_true rfl) (by rw [wr_s]; rfl) wr_o hdg kk
theorem gg7_10 (hx : p.tables.exec = Jvm.exec) (hb : c.code = cc) (hts : ∀ w ∈ WA, w.before args s = true) {own : String} {index k : Nat} (hown : s.vm.findClass own = some m.cls) (hK : va_K G.1 vwCl (tyL G) s) (hI : Inv G kd ad H0 M H locs) (hk : kd k = (7, 0)) (hlink : Cond.fieldLink own index "SheetFolderModel" "length" "I" ∈ WA) (hdg : decode cc pc = .ok (.getfield index, 3)) (kk : W p l e R s m args below meth c H locs cells slots Q (F0 m (pc + 3) ls (.int (rd M k 10) :: rest))) : W p l e R s m args below meth c H locs cells slots Q (F0 m pc ls (.ref (ad k) :: rest)) :=
  g_get hx hb hts inW7 hown hK hI hk (by simp) rfl rfl 10 (by decide) ⟨rfl, rfl, rfl⟩ hlink rfl hdg kk
theorem gp7_10 (hx : p.tables.exec = Jvm.exec) (hb : c.code = cc) (hts : ∀ w ∈ WA, w.before args s = true) {own : String} {index k : Nat} (hown : s.vm.findClass own = some m.cls) (hK : va_K G.1 vwCl (tyL G) s) (hap : Apt kd ad) (hI : Inv G kd ad H0 M H locs) (hk : kd k = (7, 0)) (hlink : Cond.fieldLink own index "SheetFolderModel" "length" "I" ∈ WA) {v : Int32} (hdg : decode cc pc = .ok (.putfield index, 3)) {M' : Mem} (hM : M' = wr M k 10 v) (kk : ∀ (H1 : Heap) (locs1 : List Loc), Inv G kd ad H0 M' H1 locs1 → W p l e R s m args below meth c H1 locs1 cells slots Q (F0 m (pc + 3) ls rest)) : W p l e R s m args below meth c H locs cells slots Q (F0 m pc ls (.int v :: .ref (ad k) :: rest)) := by
  subst hM
  exact g_put hx hb hts inW7 tyX7 tyX7_ok nmX7 hown hK hap hI hk (by simp) rfl rfl 10 (by decide) ⟨rfl, rfl, rfl⟩ hlink rfl (ty := .int) (by decide +kernel) rfl rfl (Nat.le_of_ble_eq_true rfl) (by rw [wr_s]; rfl) wr_o hdg kk
theorem gg7_11 (hx : p.tables.exec = Jvm.exec) (hb : c.code = cc) (hts : ∀ w ∈ WA, w.before args s = true) {own : String} {index k : Nat} (hown : s.vm.findClass own = some m.cls) (hK : va_K G.1 vwCl (tyL G) s) (hI : Inv G kd ad H0 M H locs) (hk : kd k = (7, 0)) (hlink : Cond.fieldLink own index "SheetFolderModel" "start" "I" ∈ WA) (hdg : decode cc pc = .ok (.getfield index, 3)) (kk : W p l e R s m args below meth c H locs cells slots Q (F0 m (pc + 3) ls (.int (rd M k 11) :: rest))) : W p l e R s m args below meth c H locs cells slots Q (F0 m pc ls (.ref (ad k) :: rest)) :=
  g_get hx hb hts inW7 hown hK hI hk (by simp) rfl rfl 11 (by decide) ⟨rfl, rfl, rfl⟩ hlink rfl hdg kk
theorem gp7_11 (hx : p.tables.exec = Jvm.exec) (hb : c.code = cc) (hts : ∀ w ∈ WA, w.before args s = true) {own : String} {index k : Nat} (hown : s.vm.findClass own = some m.cls) (hK : va_K G.1 vwCl (tyL G) s) (hap : Apt kd ad) (hI : Inv G kd ad H0 M H locs) (hk : kd k = (7, 0)) (hlink : Cond.fieldLink own index "SheetFolderModel" "start" "I" ∈ WA) {v : Int32} (hdg : decode cc pc = .ok (.putfield index, 3)) {M' : Mem} (hM : M' = wr M k 11 v) (kk : ∀ (H1 : Heap) (locs1 : List Loc), Inv G kd ad H0 M' H1 locs1 → W p l e R s m args below meth c H1 locs1 cells slots Q (F0 m (pc + 3) ls rest)) : W p l e R s m args below meth c H locs cells slots Q (F0 m pc ls (.int v :: .ref (ad k) :: rest)) := by
  subst hM
  exact g_put hx hb hts inW7 tyX7 tyX7_ok nmX7 hown hK hap hI hk (by simp) rfl rfl 11 (by decide) ⟨rfl, rfl, rfl⟩ hlink rfl (ty := .int) (by decide +kernel) rfl rfl (Nat.le_of_ble_eq_true rfl) (by rw [wr_s]; rfl) wr_o hdg kk
theorem gg7_12 (hx : p.tables.exec = Jvm.exec) (hb : c.code = cc) (hts : ∀ w ∈ WA, w.before args s = true) {own : String} {index k : Nat} (hown : s.vm.findClass own = some m.cls) (hK : va_K G.1 vwCl (tyL G) s) (hI : Inv G kd ad H0 M H locs) (hk : kd k = (7, 0)) (hlink : Cond.fieldLink own index "SheetFolderModel" "next" "I" ∈ WA) (hdg : decode cc pc = .ok (.getfield index, 3)) (kk : W p l e R s m args below meth c H locs cells slots Q (F0 m (pc + 3) ls (.int (rd M k 12) :: rest))) : W p l e R s m args below meth c H locs cells slots Q (F0 m pc ls (.ref (ad k) :: rest)) :=
  g_get hx hb hts inW7 hown hK hI hk (by simp) rfl rfl 12 (by decide) ⟨rfl, rfl, rfl⟩ hlink rfl hdg kk
theorem gp7_12 (hx : p.tables.exec = Jvm.exec) (hb : c.code = cc) (hts : ∀ w ∈ WA, w.before args s = true) {own : String} {index k : Nat} (hown : s.vm.findClass own = some m.cls) (hK : va_K G.1 vwCl (tyL G) s) (hap : Apt kd ad) (hI : Inv G kd ad H0 M H locs) (hk : kd k = (7, 0)) (hlink : Cond.fieldLink own index "SheetFolderModel" "next" "I" ∈ WA) {v : Int32} (hdg : decode cc pc = .ok (.putfield index, 3)) {M' : Mem} (hM : M' = wr M k 12 v) (kk : ∀ (H1 : Heap) (locs1 : List Loc), Inv G kd ad H0 M' H1 locs1 → W p l e R s m args below meth c H1 locs1 cells slots Q (F0 m (pc + 3) ls rest)) : W p l e R s m args below meth c H locs cells slots Q (F0 m pc ls (.int v :: .ref (ad k) :: rest)) := by
  subst hM
  exact g_put hx hb hts inW7 tyX7 tyX7_ok nmX7 hown hK hap hI hk (by simp) rfl rfl 12 (by decide) ⟨rfl, rfl, rfl⟩ hlink rfl (ty := .int) (by decide +kernel) rfl rfl (Nat.le_of_ble_eq_true rfl) (by rw [wr_s]; rfl) wr_o hdg kk
theorem gg7_13 (hx : p.tables.exec = Jvm.exec) (hb : c.code = cc) (hts : ∀ w ∈ WA, w.before args s = true) {own : String} {index k : Nat} (hown : s.vm.findClass own = some m.cls) (hK : va_K G.1 vwCl (tyL G) s) (hI : Inv G kd ad H0 M H locs) (hk : kd k = (7, 0)) (hlink : Cond.fieldLink own index "SheetFolderModel" "token" "I" ∈ WA) (hdg : decode cc pc = .ok (.getfield index, 3)) (kk : W p l e R s m args below meth c H locs cells slots Q (F0 m (pc + 3) ls (.int (rd M k 13) :: rest))) : W p l e R s m args below meth c H locs cells slots Q (F0 m pc ls (.ref (ad k) :: rest)) :=
  g_get hx hb hts inW7 hown hK hI hk (by simp) rfl rfl 13 (by decide) ⟨rfl, rfl, rfl⟩ hlink rfl hdg kk
theorem gp7_13 (hx : p.tables.exec = Jvm.exec) (hb : c.code = cc) (hts : ∀ w ∈ WA, w.before args s = true) {own : String} {index k : Nat} (hown : s.vm.findClass own = some m.cls) (hK : va_K G.1 vwCl (tyL G) s) (hap : Apt kd ad) (hI : Inv G kd ad H0 M H locs) (hk : kd k = (7, 0)) (hlink : Cond.fieldLink own index "SheetFolderModel" "token" "I" ∈ WA) {v : Int32} (hdg : decode cc pc = .ok (.putfield index, 3)) {M' : Mem} (hM : M' = wr M k 13 v) (kk : ∀ (H1 : Heap) (locs1 : List Loc), Inv G kd ad H0 M' H1 locs1 → W p l e R s m args below meth c H1 locs1 cells slots Q (F0 m (pc + 3) ls rest)) : W p l e R s m args below meth c H locs cells slots Q (F0 m pc ls (.int v :: .ref (ad k) :: rest)) := by
  subst hM
  exact g_put hx hb hts inW7 tyX7 tyX7_ok nmX7 hown hK hap hI hk (by simp) rfl rfl 13 (by decide) ⟨rfl, rfl, rfl⟩ hlink rfl (ty := .int) (by decide +kernel) rfl rfl (Nat.le_of_ble_eq_true rfl) (by rw [wr_s]; rfl) wr_o hdg kk
theorem gg7_14 (hx : p.tables.exec = Jvm.exec) (hb : c.code = cc) (hts : ∀ w ∈ WA, w.before args s = true) {own : String} {index k : Nat} (hown : s.vm.findClass own = some m.cls) (hK : va_K G.1 vwCl (tyL G) s) (hI : Inv G kd ad H0 M H locs) (hk : kd k = (7, 0)) (hlink : Cond.fieldLink own index "SheetFolderModel" "value" "I" ∈ WA) (hdg : decode cc pc = .ok (.getfield index, 3)) (kk : W p l e R s m args below meth c H locs cells slots Q (F0 m (pc + 3) ls (.int (rd M k 14) :: rest))) : W p l e R s m args below meth c H locs cells slots Q (F0 m pc ls (.ref (ad k) :: rest)) :=
  g_get hx hb hts inW7 hown hK hI hk (by simp) rfl rfl 14 (by decide) ⟨rfl, rfl, rfl⟩ hlink rfl hdg kk
theorem gp7_14 (hx : p.tables.exec = Jvm.exec) (hb : c.code = cc) (hts : ∀ w ∈ WA, w.before args s = true) {own : String} {index k : Nat} (hown : s.vm.findClass own = some m.cls) (hK : va_K G.1 vwCl (tyL G) s) (hap : Apt kd ad) (hI : Inv G kd ad H0 M H locs) (hk : kd k = (7, 0)) (hlink : Cond.fieldLink own index "SheetFolderModel" "value" "I" ∈ WA) {v : Int32} (hdg : decode cc pc = .ok (.putfield index, 3)) {M' : Mem} (hM : M' = wr M k 14 v) (kk : ∀ (H1 : Heap) (locs1 : List Loc), Inv G kd ad H0 M' H1 locs1 → W p l e R s m args below meth c H1 locs1 cells slots Q (F0 m (pc + 3) ls rest)) : W p l e R s m args below meth c H locs cells slots Q (F0 m pc ls (.int v :: .ref (ad k) :: rest)) := by
  subst hM
  exact g_put hx hb hts inW7 tyX7 tyX7_ok nmX7 hown hK hap hI hk (by simp) rfl rfl 14 (by decide) ⟨rfl, rfl, rfl⟩ hlink rfl (ty := .int) (by decide +kernel) rfl rfl (Nat.le_of_ble_eq_true rfl) (by rw [wr_s]; rfl) wr_o hdg kk
theorem gg7_15 (hx : p.tables.exec = Jvm.exec) (hb : c.code = cc) (hts : ∀ w ∈ WA, w.before args s = true) {own : String} {index k : Nat} (hown : s.vm.findClass own = some m.cls) (hK : va_K G.1 vwCl (tyL G) s) (hI : Inv G kd ad H0 M H locs) (hk : kd k = (7, 0)) (hlink : Cond.fieldLink own index "SheetFolderModel" "kind" "I" ∈ WA) (hdg : decode cc pc = .ok (.getfield index, 3)) (kk : W p l e R s m args below meth c H locs cells slots Q (F0 m (pc + 3) ls (.int (rd M k 15) :: rest))) : W p l e R s m args below meth c H locs cells slots Q (F0 m pc ls (.ref (ad k) :: rest)) :=
  g_get hx hb hts inW7 hown hK hI hk (by simp) rfl rfl 15 (by decide) ⟨rfl, rfl, rfl⟩ hlink rfl hdg kk
theorem gp7_15 (hx : p.tables.exec = Jvm.exec) (hb : c.code = cc) (hts : ∀ w ∈ WA, w.before args s = true) {own : String} {index k : Nat} (hown : s.vm.findClass own = some m.cls) (hK : va_K G.1 vwCl (tyL G) s) (hap : Apt kd ad) (hI : Inv G kd ad H0 M H locs) (hk : kd k = (7, 0)) (hlink : Cond.fieldLink own index "SheetFolderModel" "kind" "I" ∈ WA) {v : Int32} (hdg : decode cc pc = .ok (.putfield index, 3)) {M' : Mem} (hM : M' = wr M k 15 v) (kk : ∀ (H1 : Heap) (locs1 : List Loc), Inv G kd ad H0 M' H1 locs1 → W p l e R s m args below meth c H1 locs1 cells slots Q (F0 m (pc + 3) ls rest)) : W p l e R s m args below meth c H locs cells slots Q (F0 m pc ls (.int v :: .ref (ad k) :: rest)) := by
  subst hM
  exact g_put hx hb hts inW7 tyX7 tyX7_ok nmX7 hown hK hap hI hk (by simp) rfl rfl 15 (by decide) ⟨rfl, rfl, rfl⟩ hlink rfl (ty := .int) (by decide +kernel) rfl rfl (Nat.le_of_ble_eq_true rfl) (by rw [wr_s]; rfl) wr_o hdg kk
theorem gg7_16 (hx : p.tables.exec = Jvm.exec) (hb : c.code = cc) (hts : ∀ w ∈ WA, w.before args s = true) {own : String} {index k : Nat} (hown : s.vm.findClass own = some m.cls) (hK : va_K G.1 vwCl (tyL G) s) (hI : Inv G kd ad H0 M H locs) (hk : kd k = (7, 0)) (hlink : Cond.fieldLink own index "SheetFolderModel" "position" "I" ∈ WA) (hdg : decode cc pc = .ok (.getfield index, 3)) (kk : W p l e R s m args below meth c H locs cells slots Q (F0 m (pc + 3) ls (.int (rd M k 16) :: rest))) : W p l e R s m args below meth c H locs cells slots Q (F0 m pc ls (.ref (ad k) :: rest)) :=
  g_get hx hb hts inW7 hown hK hI hk (by simp) rfl rfl 16 (by decide) ⟨rfl, rfl, rfl⟩ hlink rfl hdg kk
theorem gp7_16 (hx : p.tables.exec = Jvm.exec) (hb : c.code = cc) (hts : ∀ w ∈ WA, w.before args s = true) {own : String} {index k : Nat} (hown : s.vm.findClass own = some m.cls) (hK : va_K G.1 vwCl (tyL G) s) (hap : Apt kd ad) (hI : Inv G kd ad H0 M H locs) (hk : kd k = (7, 0)) (hlink : Cond.fieldLink own index "SheetFolderModel" "position" "I" ∈ WA) {v : Int32} (hdg : decode cc pc = .ok (.putfield index, 3)) {M' : Mem} (hM : M' = wr M k 16 v) (kk : ∀ (H1 : Heap) (locs1 : List Loc), Inv G kd ad H0 M' H1 locs1 → W p l e R s m args below meth c H1 locs1 cells slots Q (F0 m (pc + 3) ls rest)) : W p l e R s m args below meth c H locs cells slots Q (F0 m pc ls (.int v :: .ref (ad k) :: rest)) := by
  subst hM
  exact g_put hx hb hts inW7 tyX7 tyX7_ok nmX7 hown hK hap hI hk (by simp) rfl rfl 16 (by decide) ⟨rfl, rfl, rfl⟩ hlink rfl (ty := .int) (by decide +kernel) rfl rfl (Nat.le_of_ble_eq_true rfl) (by rw [wr_s]; rfl) wr_o hdg kk
theorem gg7_17 (hx : p.tables.exec = Jvm.exec) (hb : c.code = cc) (hts : ∀ w ∈ WA, w.before args s = true) {own : String} {index k : Nat} (hown : s.vm.findClass own = some m.cls) (hK : va_K G.1 vwCl (tyL G) s) (hI : Inv G kd ad H0 M H locs) (hk : kd k = (7, 0)) (hlink : Cond.fieldLink own index "SheetFolderModel" "fromX" "[I" ∈ WA) (hdg : decode cc pc = .ok (.getfield index, 3)) (kk : W p l e R s m args below meth c H locs cells slots Q (F0 m (pc + 3) ls (.ref (ad (k + 6)) :: rest))) : W p l e R s m args below meth c H locs cells slots Q (F0 m pc ls (.ref (ad k) :: rest)) :=
  g_get hx hb hts inW7 hown hK hI hk (by simp) rfl rfl 17 (by decide) ⟨rfl, rfl, rfl⟩ hlink rfl hdg kk
theorem gg7_18 (hx : p.tables.exec = Jvm.exec) (hb : c.code = cc) (hts : ∀ w ∈ WA, w.before args s = true) {own : String} {index k : Nat} (hown : s.vm.findClass own = some m.cls) (hK : va_K G.1 vwCl (tyL G) s) (hI : Inv G kd ad H0 M H locs) (hk : kd k = (7, 0)) (hlink : Cond.fieldLink own index "SheetFolderModel" "fromY" "[I" ∈ WA) (hdg : decode cc pc = .ok (.getfield index, 3)) (kk : W p l e R s m args below meth c H locs cells slots Q (F0 m (pc + 3) ls (.ref (ad (k + 7)) :: rest))) : W p l e R s m args below meth c H locs cells slots Q (F0 m pc ls (.ref (ad k) :: rest)) :=
  g_get hx hb hts inW7 hown hK hI hk (by simp) rfl rfl 18 (by decide) ⟨rfl, rfl, rfl⟩ hlink rfl hdg kk
theorem gg7_19 (hx : p.tables.exec = Jvm.exec) (hb : c.code = cc) (hts : ∀ w ∈ WA, w.before args s = true) {own : String} {index k : Nat} (hown : s.vm.findClass own = some m.cls) (hK : va_K G.1 vwCl (tyL G) s) (hI : Inv G kd ad H0 M H locs) (hk : kd k = (7, 0)) (hlink : Cond.fieldLink own index "SheetFolderModel" "toX" "[I" ∈ WA) (hdg : decode cc pc = .ok (.getfield index, 3)) (kk : W p l e R s m args below meth c H locs cells slots Q (F0 m (pc + 3) ls (.ref (ad (k + 8)) :: rest))) : W p l e R s m args below meth c H locs cells slots Q (F0 m pc ls (.ref (ad k) :: rest)) :=
  g_get hx hb hts inW7 hown hK hI hk (by simp) rfl rfl 19 (by decide) ⟨rfl, rfl, rfl⟩ hlink rfl hdg kk
theorem gg7_20 (hx : p.tables.exec = Jvm.exec) (hb : c.code = cc) (hts : ∀ w ∈ WA, w.before args s = true) {own : String} {index k : Nat} (hown : s.vm.findClass own = some m.cls) (hK : va_K G.1 vwCl (tyL G) s) (hI : Inv G kd ad H0 M H locs) (hk : kd k = (7, 0)) (hlink : Cond.fieldLink own index "SheetFolderModel" "toY" "[I" ∈ WA) (hdg : decode cc pc = .ok (.getfield index, 3)) (kk : W p l e R s m args below meth c H locs cells slots Q (F0 m (pc + 3) ls (.ref (ad (k + 9)) :: rest))) : W p l e R s m args below meth c H locs cells slots Q (F0 m pc ls (.ref (ad k) :: rest)) :=
  g_get hx hb hts inW7 hown hK hI hk (by simp) rfl rfl 20 (by decide) ⟨rfl, rfl, rfl⟩ hlink rfl hdg kk
theorem gg7_21 (hx : p.tables.exec = Jvm.exec) (hb : c.code = cc) (hts : ∀ w ∈ WA, w.before args s = true) {own : String} {index k : Nat} (hown : s.vm.findClass own = some m.cls) (hK : va_K G.1 vwCl (tyL G) s) (hI : Inv G kd ad H0 M H locs) (hk : kd k = (7, 0)) (hlink : Cond.fieldLink own index "SheetFolderModel" "x" "I" ∈ WA) (hdg : decode cc pc = .ok (.getfield index, 3)) (kk : W p l e R s m args below meth c H locs cells slots Q (F0 m (pc + 3) ls (.int (rd M k 21) :: rest))) : W p l e R s m args below meth c H locs cells slots Q (F0 m pc ls (.ref (ad k) :: rest)) :=
  g_get hx hb hts inW7 hown hK hI hk (by simp) rfl rfl 21 (by decide) ⟨rfl, rfl, rfl⟩ hlink rfl hdg kk
theorem gp7_21 (hx : p.tables.exec = Jvm.exec) (hb : c.code = cc) (hts : ∀ w ∈ WA, w.before args s = true) {own : String} {index k : Nat} (hown : s.vm.findClass own = some m.cls) (hK : va_K G.1 vwCl (tyL G) s) (hap : Apt kd ad) (hI : Inv G kd ad H0 M H locs) (hk : kd k = (7, 0)) (hlink : Cond.fieldLink own index "SheetFolderModel" "x" "I" ∈ WA) {v : Int32} (hdg : decode cc pc = .ok (.putfield index, 3)) {M' : Mem} (hM : M' = wr M k 21 v) (kk : ∀ (H1 : Heap) (locs1 : List Loc), Inv G kd ad H0 M' H1 locs1 → W p l e R s m args below meth c H1 locs1 cells slots Q (F0 m (pc + 3) ls rest)) : W p l e R s m args below meth c H locs cells slots Q (F0 m pc ls (.int v :: .ref (ad k) :: rest)) := by
  subst hM
  exact g_put hx hb hts inW7 tyX7 tyX7_ok nmX7 hown hK hap hI hk (by simp) rfl rfl 21 (by decide) ⟨rfl, rfl, rfl⟩ hlink rfl (ty := .int) (by decide +kernel) rfl rfl (Nat.le_of_ble_eq_true rfl) (by rw [wr_s]; rfl) wr_o hdg kk
theorem gg7_22 (hx : p.tables.exec = Jvm.exec) (hb : c.code = cc) (hts : ∀ w ∈ WA, w.before args s = true) {own : String} {index k : Nat} (hown : s.vm.findClass own = some m.cls) (hK : va_K G.1 vwCl (tyL G) s) (hI : Inv G kd ad H0 M H locs) (hk : kd k = (7, 0)) (hlink : Cond.fieldLink own index "SheetFolderModel" "y" "I" ∈ WA) (hdg : decode cc pc = .ok (.getfield index, 3)) (kk : W p l e R s m args below meth c H locs cells slots Q (F0 m (pc + 3) ls (.int (rd M k 22) :: rest))) : W p l e R s m args below meth c H locs cells slots Q (F0 m pc ls (.ref (ad k) :: rest)) :=
  g_get hx hb hts inW7 hown hK hI hk (by simp) rfl rfl 22 (by decide) ⟨rfl, rfl, rfl⟩ hlink rfl hdg kk
theorem gp7_22 (hx : p.tables.exec = Jvm.exec) (hb : c.code = cc) (hts : ∀ w ∈ WA, w.before args s = true) {own : String} {index k : Nat} (hown : s.vm.findClass own = some m.cls) (hK : va_K G.1 vwCl (tyL G) s) (hap : Apt kd ad) (hI : Inv G kd ad H0 M H locs) (hk : kd k = (7, 0)) (hlink : Cond.fieldLink own index "SheetFolderModel" "y" "I" ∈ WA) {v : Int32} (hdg : decode cc pc = .ok (.putfield index, 3)) {M' : Mem} (hM : M' = wr M k 22 v) (kk : ∀ (H1 : Heap) (locs1 : List Loc), Inv G kd ad H0 M' H1 locs1 → W p l e R s m args below meth c H1 locs1 cells slots Q (F0 m (pc + 3) ls rest)) : W p l e R s m args below meth c H locs cells slots Q (F0 m pc ls (.int v :: .ref (ad k) :: rest)) := by
  subst hM
  exact g_put hx hb hts inW7 tyX7 tyX7_ok nmX7 hown hK hap hI hk (by simp) rfl rfl 22 (by decide) ⟨rfl, rfl, rfl⟩ hlink rfl (ty := .int) (by decide +kernel) rfl rfl (Nat.le_of_ble_eq_true rfl) (by rw [wr_s]; rfl) wr_o hdg kk
theorem gg7_23 (hx : p.tables.exec = Jvm.exec) (hb : c.code = cc) (hts : ∀ w ∈ WA, w.before args s = true) {own : String} {index k : Nat} (hown : s.vm.findClass own = some m.cls) (hK : va_K G.1 vwCl (tyL G) s) (hI : Inv G kd ad H0 M H locs) (hk : kd k = (7, 0)) (hlink : Cond.fieldLink own index "SheetFolderModel" "can" "[Z" ∈ WA) (hdg : decode cc pc = .ok (.getfield index, 3)) (kk : W p l e R s m args below meth c H locs cells slots Q (F0 m (pc + 3) ls (.ref (ad (k + 10)) :: rest))) : W p l e R s m args below meth c H locs cells slots Q (F0 m pc ls (.ref (ad k) :: rest)) :=
  g_get hx hb hts inW7 hown hK hI hk (by simp) rfl rfl 23 (by decide) ⟨rfl, rfl, rfl⟩ hlink rfl hdg kk
theorem gg7_24 (hx : p.tables.exec = Jvm.exec) (hb : c.code = cc) (hts : ∀ w ∈ WA, w.before args s = true) {own : String} {index k : Nat} (hown : s.vm.findClass own = some m.cls) (hK : va_K G.1 vwCl (tyL G) s) (hI : Inv G kd ad H0 M H locs) (hk : kd k = (7, 0)) (hlink : Cond.fieldLink own index "SheetFolderModel" "gauges" "[I" ∈ WA) (hdg : decode cc pc = .ok (.getfield index, 3)) (kk : W p l e R s m args below meth c H locs cells slots Q (F0 m (pc + 3) ls (.ref (ad (k + 11)) :: rest))) : W p l e R s m args below meth c H locs cells slots Q (F0 m pc ls (.ref (ad k) :: rest)) :=
  g_get hx hb hts inW7 hown hK hI hk (by simp) rfl rfl 24 (by decide) ⟨rfl, rfl, rfl⟩ hlink rfl hdg kk
theorem gg7_25 (hx : p.tables.exec = Jvm.exec) (hb : c.code = cc) (hts : ∀ w ∈ WA, w.before args s = true) {own : String} {index k : Nat} (hown : s.vm.findClass own = some m.cls) (hK : va_K G.1 vwCl (tyL G) s) (hI : Inv G kd ad H0 M H locs) (hk : kd k = (7, 0)) (hlink : Cond.fieldLink own index "SheetFolderModel" "many" "[J" ∈ WA) (hdg : decode cc pc = .ok (.getfield index, 3)) (kk : W p l e R s m args below meth c H locs cells slots Q (F0 m (pc + 3) ls (.ref (ad (k + 12)) :: rest))) : W p l e R s m args below meth c H locs cells slots Q (F0 m pc ls (.ref (ad k) :: rest)) :=
  g_get hx hb hts inW7 hown hK hI hk (by simp) rfl rfl 25 (by decide) ⟨rfl, rfl, rfl⟩ hlink rfl hdg kk
theorem gg7_26 (hx : p.tables.exec = Jvm.exec) (hb : c.code = cc) (hts : ∀ w ∈ WA, w.before args s = true) {own : String} {index k : Nat} (hown : s.vm.findClass own = some m.cls) (hK : va_K G.1 vwCl (tyL G) s) (hI : Inv G kd ad H0 M H locs) (hk : kd k = (7, 0)) (hlink : Cond.fieldLink own index "SheetFolderModel" "least" "[I" ∈ WA) (hdg : decode cc pc = .ok (.getfield index, 3)) (kk : W p l e R s m args below meth c H locs cells slots Q (F0 m (pc + 3) ls (.ref (ad (k + 13)) :: rest))) : W p l e R s m args below meth c H locs cells slots Q (F0 m pc ls (.ref (ad k) :: rest)) :=
  g_get hx hb hts inW7 hown hK hI hk (by simp) rfl rfl 26 (by decide) ⟨rfl, rfl, rfl⟩ hlink rfl hdg kk
theorem gg7_27 (hx : p.tables.exec = Jvm.exec) (hb : c.code = cc) (hts : ∀ w ∈ WA, w.before args s = true) {own : String} {index k : Nat} (hown : s.vm.findClass own = some m.cls) (hK : va_K G.1 vwCl (tyL G) s) (hI : Inv G kd ad H0 M H locs) (hk : kd k = (7, 0)) (hlink : Cond.fieldLink own index "SheetFolderModel" "most" "[I" ∈ WA) (hdg : decode cc pc = .ok (.getfield index, 3)) (kk : W p l e R s m args below meth c H locs cells slots Q (F0 m (pc + 3) ls (.ref (ad (k + 14)) :: rest))) : W p l e R s m args below meth c H locs cells slots Q (F0 m pc ls (.ref (ad k) :: rest)) :=
  g_get hx hb hts inW7 hown hK hI hk (by simp) rfl rfl 27 (by decide) ⟨rfl, rfl, rfl⟩ hlink rfl hdg kk
theorem gg7_28 (hx : p.tables.exec = Jvm.exec) (hb : c.code = cc) (hts : ∀ w ∈ WA, w.before args s = true) {own : String} {index k : Nat} (hown : s.vm.findClass own = some m.cls) (hK : va_K G.1 vwCl (tyL G) s) (hI : Inv G kd ad H0 M H locs) (hk : kd k = (7, 0)) (hlink : Cond.fieldLink own index "SheetFolderModel" "isReached" "[Z" ∈ WA) (hdg : decode cc pc = .ok (.getfield index, 3)) (kk : W p l e R s m args below meth c H locs cells slots Q (F0 m (pc + 3) ls (.ref (ad (k + 15)) :: rest))) : W p l e R s m args below meth c H locs cells slots Q (F0 m pc ls (.ref (ad k) :: rest)) :=
  g_get hx hb hts inW7 hown hK hI hk (by simp) rfl rfl 28 (by decide) ⟨rfl, rfl, rfl⟩ hlink rfl hdg kk
theorem gg7_29 (hx : p.tables.exec = Jvm.exec) (hb : c.code = cc) (hts : ∀ w ∈ WA, w.before args s = true) {own : String} {index k : Nat} (hown : s.vm.findClass own = some m.cls) (hK : va_K G.1 vwCl (tyL G) s) (hI : Inv G kd ad H0 M H locs) (hk : kd k = (7, 0)) (hlink : Cond.fieldLink own index "SheetFolderModel" "output" "[I" ∈ WA) (hdg : decode cc pc = .ok (.getfield index, 3)) (kk : W p l e R s m args below meth c H locs cells slots Q (F0 m (pc + 3) ls (.ref (ad (k + 16)) :: rest))) : W p l e R s m args below meth c H locs cells slots Q (F0 m pc ls (.ref (ad k) :: rest)) :=
  g_get hx hb hts inW7 hown hK hI hk (by simp) rfl rfl 29 (by decide) ⟨rfl, rfl, rfl⟩ hlink rfl hdg kk
theorem gg7_30 (hx : p.tables.exec = Jvm.exec) (hb : c.code = cc) (hts : ∀ w ∈ WA, w.before args s = true) {own : String} {index k : Nat} (hown : s.vm.findClass own = some m.cls) (hK : va_K G.1 vwCl (tyL G) s) (hI : Inv G kd ad H0 M H locs) (hk : kd k = (7, 0)) (hlink : Cond.fieldLink own index "SheetFolderModel" "outputLength" "I" ∈ WA) (hdg : decode cc pc = .ok (.getfield index, 3)) (kk : W p l e R s m args below meth c H locs cells slots Q (F0 m (pc + 3) ls (.int (rd M k 30) :: rest))) : W p l e R s m args below meth c H locs cells slots Q (F0 m pc ls (.ref (ad k) :: rest)) :=
  g_get hx hb hts inW7 hown hK hI hk (by simp) rfl rfl 30 (by decide) ⟨rfl, rfl, rfl⟩ hlink rfl hdg kk
theorem gp7_30 (hx : p.tables.exec = Jvm.exec) (hb : c.code = cc) (hts : ∀ w ∈ WA, w.before args s = true) {own : String} {index k : Nat} (hown : s.vm.findClass own = some m.cls) (hK : va_K G.1 vwCl (tyL G) s) (hap : Apt kd ad) (hI : Inv G kd ad H0 M H locs) (hk : kd k = (7, 0)) (hlink : Cond.fieldLink own index "SheetFolderModel" "outputLength" "I" ∈ WA) {v : Int32} (hdg : decode cc pc = .ok (.putfield index, 3)) {M' : Mem} (hM : M' = wr M k 30 v) (kk : ∀ (H1 : Heap) (locs1 : List Loc), Inv G kd ad H0 M' H1 locs1 → W p l e R s m args below meth c H1 locs1 cells slots Q (F0 m (pc + 3) ls rest)) : W p l e R s m args below meth c H locs cells slots Q (F0 m pc ls (.int v :: .ref (ad k) :: rest)) := by
  subst hM
  exact g_put hx hb hts inW7 tyX7 tyX7_ok nmX7 hown hK hap hI hk (by simp) rfl rfl 30 (by decide) ⟨rfl, rfl, rfl⟩ hlink rfl (ty := .int) (by decide +kernel) rfl rfl (Nat.le_of_ble_eq_true rfl) (by rw [wr_s]; rfl) wr_o hdg kk
theorem gp4_2 (hx : p.tables.exec = Jvm.exec) (hb : c.code = cc) (hts : ∀ w ∈ WA, w.before args s = true) {own : String} {index k : Nat} (hown : s.vm.findClass own = some m.cls) (hK : va_K G.1 vwCl (tyL G) s) (hap : Apt kd ad) (hI : Inv G kd ad H0 M H locs) (hk : kd k = (5, 0)) (hlink : Cond.fieldLink own index "SheetFolder$TextReader" "bytes" "[B" ∈ WA) {b : Nat} (hdg : decode cc pc = .ok (.putfield index, 3)) (hb1 : b = 1) {M' : Mem} (hM : M' = wr M k 2 1) (kk : ∀ (H1 : Heap) (locs1 : List Loc), Inv G kd ad H0 M' H1 locs1 → W p l e R s m args below meth c H1 locs1 cells slots Q (F0 m (pc + 3) ls rest)) : W p l e R s m args below meth c H locs cells slots Q (F0 m pc ls (.ref (ad b) :: .ref (ad k) :: rest)) := by
  subst hM; subst hb1
  exact g_put hx hb hts inW4 tyX4 tyX4_ok nmX4 hown hK hap hI hk (by simp) rfl rfl 2 (by decide) ⟨rfl, rfl, rfl⟩ hlink rfl (ty := .array .byte) (by decide +kernel) rfl rfl (Nat.le_of_ble_eq_true rfl) (by rw [wr_s]; rfl) wr_o hdg kk
theorem g_callVi {b : Nat} {C : String} {y : MethodName} {bytes : ByteArray} {maxL nL mc ms n index : Nat} {ret : Option FieldType} {rm : Room} {own : String} {As : List Value} {M' : Mem} {r : Int32} (hx : p.tables.exec = Jvm.exec) (hb : c.code = cc) (hml : c.maxLocals = nL) (hown : s.vm.findClass own = some m.cls) (hts : ∀ w ∈ WA, w.before args s = true) (hK : va_K G.1 vwCl (tyL G) s) (hap : Apt kd ad) (hsx : Sx G (AS kd ad s.heap.size) s s.heap) (hI : Inv G kd ad s.heap M H locs)
    (hM : Met l y (Cond.code y bytes maxL ret :: WA) rm (Pg G kd ad H.size (.ref (ad b) :: As) M) (Qg G kd ad H.size M' (some (.int r))) mc ms (AS kd ad H.size)) (hcv : cvF C y bytes maxL ret n) (hl : Cond.methodLink own index y ∈ WA) (hrc : rm.cells = mc) (hrs : rm.slots = ms) (hR : rm.frames + 1 ≤ R.frames ∧ 8 + (maxL + 11) + rm.locals ≤ R.locals)
    {ci : Nat} {q : Nat × Nat} {fs : List Value} {T : u_T} {N : Nat} (hk : kd b = q) (hq : q.1 ≠ 0) (he : ent ad G.2.1 q b (M.1 b) (M.2.1 b) (M.2.2 b) = .inr (ci, fs)) (hc : vwCl[ci]? = some (C, T, N)) (hn : As.length = n) (hsize : ls.size = nL) {st : List Value} (hst : st = As.reverse ++ .ref (ad b) :: rest) (hW : (rest.map fun v => v.category).sum ≤ 8) (hdg : decode cc pc = .ok (.invokevirtual index, 3)) (hf : cells + mc ≤ R.cells ∧ slots + ms ≤ R.slots)
    (kk : ∀ (H1 : Heap) (locs1 : List Loc), Inv G kd ad s.heap M' H1 locs1 → W p l e R s m args below meth c H1 locs1 (cells + mc) (slots + ms) Q (F0 m (pc + 3) ls (.int r :: rest))) : W p l e R s m args below meth c H locs cells slots Q (F0 m pc ls st) :=
  g_callV hx hb hml hown hts hK hap hsx hI hM hcv hl hrc hrs hR hk hq he hc hn hsize hst hW hdg hf kk
theorem g_callVl {b : Nat} {C : String} {y : MethodName} {bytes : ByteArray} {maxL nL mc ms n index : Nat} {ret : Option FieldType} {rm : Room} {own : String} {As : List Value} {M' : Mem} {r : Int64} (hx : p.tables.exec = Jvm.exec) (hb : c.code = cc) (hml : c.maxLocals = nL) (hown : s.vm.findClass own = some m.cls) (hts : ∀ w ∈ WA, w.before args s = true) (hK : va_K G.1 vwCl (tyL G) s) (hap : Apt kd ad) (hsx : Sx G (AS kd ad s.heap.size) s s.heap) (hI : Inv G kd ad s.heap M H locs)
    (hM : Met l y (Cond.code y bytes maxL ret :: WA) rm (Pg G kd ad H.size (.ref (ad b) :: As) M) (Qg G kd ad H.size M' (some (.long r))) mc ms (AS kd ad H.size)) (hcv : cvF C y bytes maxL ret n) (hl : Cond.methodLink own index y ∈ WA) (hrc : rm.cells = mc) (hrs : rm.slots = ms) (hR : rm.frames + 1 ≤ R.frames ∧ 8 + (maxL + 11) + rm.locals ≤ R.locals)
    {ci : Nat} {q : Nat × Nat} {fs : List Value} {T : u_T} {N : Nat} (hk : kd b = q) (hq : q.1 ≠ 0) (he : ent ad G.2.1 q b (M.1 b) (M.2.1 b) (M.2.2 b) = .inr (ci, fs)) (hc : vwCl[ci]? = some (C, T, N)) (hn : As.length = n) (hsize : ls.size = nL) {st : List Value} (hst : st = As.reverse ++ .ref (ad b) :: rest) (hW : (rest.map fun v => v.category).sum ≤ 8) (hdg : decode cc pc = .ok (.invokevirtual index, 3)) (hf : cells + mc ≤ R.cells ∧ slots + ms ≤ R.slots)
    (kk : ∀ (H1 : Heap) (locs1 : List Loc), Inv G kd ad s.heap M' H1 locs1 → W p l e R s m args below meth c H1 locs1 (cells + mc) (slots + ms) Q (F0 m (pc + 3) ls (.long r :: rest))) : W p l e R s m args below meth c H locs cells slots Q (F0 m pc ls st) :=
  g_callV hx hb hml hown hts hK hap hsx hI hM hcv hl hrc hrs hR hk hq he hc hn hsize hst hW hdg hf kk
theorem g_callVd {b : Nat} {C : String} {y : MethodName} {bytes : ByteArray} {maxL nL mc ms n index : Nat} {ret : Option FieldType} {rm : Room} {own : String} {As : List Value} {M' : Mem} {r : UInt64} (hx : p.tables.exec = Jvm.exec) (hb : c.code = cc) (hml : c.maxLocals = nL) (hown : s.vm.findClass own = some m.cls) (hts : ∀ w ∈ WA, w.before args s = true) (hK : va_K G.1 vwCl (tyL G) s) (hap : Apt kd ad) (hsx : Sx G (AS kd ad s.heap.size) s s.heap) (hI : Inv G kd ad s.heap M H locs)
    (hM : Met l y (Cond.code y bytes maxL ret :: WA) rm (Pg G kd ad H.size (.ref (ad b) :: As) M) (Qg G kd ad H.size M' (some (.double r))) mc ms (AS kd ad H.size)) (hcv : cvF C y bytes maxL ret n) (hl : Cond.methodLink own index y ∈ WA) (hrc : rm.cells = mc) (hrs : rm.slots = ms) (hR : rm.frames + 1 ≤ R.frames ∧ 8 + (maxL + 11) + rm.locals ≤ R.locals)
    {ci : Nat} {q : Nat × Nat} {fs : List Value} {T : u_T} {N : Nat} (hk : kd b = q) (hq : q.1 ≠ 0) (he : ent ad G.2.1 q b (M.1 b) (M.2.1 b) (M.2.2 b) = .inr (ci, fs)) (hc : vwCl[ci]? = some (C, T, N)) (hn : As.length = n) (hsize : ls.size = nL) {st : List Value} (hst : st = As.reverse ++ .ref (ad b) :: rest) (hW : (rest.map fun v => v.category).sum ≤ 8) (hdg : decode cc pc = .ok (.invokevirtual index, 3)) (hf : cells + mc ≤ R.cells ∧ slots + ms ≤ R.slots)
    (kk : ∀ (H1 : Heap) (locs1 : List Loc), Inv G kd ad s.heap M' H1 locs1 → W p l e R s m args below meth c H1 locs1 (cells + mc) (slots + ms) Q (F0 m (pc + 3) ls (.double r :: rest))) : W p l e R s m args below meth c H locs cells slots Q (F0 m pc ls st) :=
  g_callV hx hb hml hown hts hK hap hsx hI hM hcv hl hrc hrs hR hk hq he hc hn hsize hst hW hdg hf kk
theorem g_callVv {b : Nat} {C : String} {y : MethodName} {bytes : ByteArray} {maxL nL mc ms n index : Nat} {ret : Option FieldType} {rm : Room} {own : String} {As : List Value} {M' : Mem}  (hx : p.tables.exec = Jvm.exec) (hb : c.code = cc) (hml : c.maxLocals = nL) (hown : s.vm.findClass own = some m.cls) (hts : ∀ w ∈ WA, w.before args s = true) (hK : va_K G.1 vwCl (tyL G) s) (hap : Apt kd ad) (hsx : Sx G (AS kd ad s.heap.size) s s.heap) (hI : Inv G kd ad s.heap M H locs)
    (hM : Met l y (Cond.code y bytes maxL ret :: WA) rm (Pg G kd ad H.size (.ref (ad b) :: As) M) (Qg G kd ad H.size M' none) mc ms (AS kd ad H.size)) (hcv : cvF C y bytes maxL ret n) (hl : Cond.methodLink own index y ∈ WA) (hrc : rm.cells = mc) (hrs : rm.slots = ms) (hR : rm.frames + 1 ≤ R.frames ∧ 8 + (maxL + 11) + rm.locals ≤ R.locals)
    {ci : Nat} {q : Nat × Nat} {fs : List Value} {T : u_T} {N : Nat} (hk : kd b = q) (hq : q.1 ≠ 0) (he : ent ad G.2.1 q b (M.1 b) (M.2.1 b) (M.2.2 b) = .inr (ci, fs)) (hc : vwCl[ci]? = some (C, T, N)) (hn : As.length = n) (hsize : ls.size = nL) {st : List Value} (hst : st = As.reverse ++ .ref (ad b) :: rest) (hW : (rest.map fun v => v.category).sum ≤ 8) (hdg : decode cc pc = .ok (.invokevirtual index, 3)) (hf : cells + mc ≤ R.cells ∧ slots + ms ≤ R.slots)
    (kk : ∀ (H1 : Heap) (locs1 : List Loc), Inv G kd ad s.heap M' H1 locs1 → W p l e R s m args below meth c H1 locs1 (cells + mc) (slots + ms) Q (F0 m (pc + 3) ls rest)) : W p l e R s m args below meth c H locs cells slots Q (F0 m pc ls st) :=
  g_callV hx hb hml hown hts hK hap hsx hI hM hcv hl hrc hrs hR hk hq he hc hn hsize hst hW hdg hf kk
theorem g_callSi  {y : MethodName} {bytes : ByteArray} {maxL nL mc ms n index : Nat} {ret : Option FieldType} {rm : Room} {own : String} {As : List Value} {M' : Mem} {r : Int32} (hx : p.tables.exec = Jvm.exec) (hb : c.code = cc) (hml : c.maxLocals = nL) (hown : s.vm.findClass own = some m.cls) (hts : ∀ w ∈ WA, w.before args s = true) (hK : va_K G.1 vwCl (tyL G) s) (hap : Apt kd ad) (hsx : Sx G (AS kd ad s.heap.size) s s.heap) (hI : Inv G kd ad s.heap M H locs)
    (hM : Met l y (Cond.code y bytes maxL ret :: WA) rm (Pg G kd ad H.size As M) (Qg G kd ad H.size M' (some (.int r))) mc ms (AS kd ad H.size)) (hcv : csF y bytes maxL ret n) (hl : Cond.methodLink own index y ∈ WA) (hrc : rm.cells = mc) (hrs : rm.slots = ms) (hR : rm.frames + 1 ≤ R.frames ∧ 8 + (maxL + 11) + rm.locals ≤ R.locals)
     (hn : As.length = n) (hsize : ls.size = nL) {st : List Value} (hst : st = As.reverse ++ rest) (hW : (rest.map fun v => v.category).sum ≤ 8) (hdg : decode cc pc = .ok (.invokestatic index, 3)) (hf : cells + mc ≤ R.cells ∧ slots + ms ≤ R.slots)
    (kk : ∀ (H1 : Heap) (locs1 : List Loc), Inv G kd ad s.heap M' H1 locs1 → W p l e R s m args below meth c H1 locs1 (cells + mc) (slots + ms) Q (F0 m (pc + 3) ls (.int r :: rest))) : W p l e R s m args below meth c H locs cells slots Q (F0 m pc ls st) :=
  g_callS hx hb hml hown hts hK hap hsx hI hM hcv hl hrc hrs hR hn hsize hst hW hdg hf kk
theorem g_callSl  {y : MethodName} {bytes : ByteArray} {maxL nL mc ms n index : Nat} {ret : Option FieldType} {rm : Room} {own : String} {As : List Value} {M' : Mem} {r : Int64} (hx : p.tables.exec = Jvm.exec) (hb : c.code = cc) (hml : c.maxLocals = nL) (hown : s.vm.findClass own = some m.cls) (hts : ∀ w ∈ WA, w.before args s = true) (hK : va_K G.1 vwCl (tyL G) s) (hap : Apt kd ad) (hsx : Sx G (AS kd ad s.heap.size) s s.heap) (hI : Inv G kd ad s.heap M H locs)
    (hM : Met l y (Cond.code y bytes maxL ret :: WA) rm (Pg G kd ad H.size As M) (Qg G kd ad H.size M' (some (.long r))) mc ms (AS kd ad H.size)) (hcv : csF y bytes maxL ret n) (hl : Cond.methodLink own index y ∈ WA) (hrc : rm.cells = mc) (hrs : rm.slots = ms) (hR : rm.frames + 1 ≤ R.frames ∧ 8 + (maxL + 11) + rm.locals ≤ R.locals)
     (hn : As.length = n) (hsize : ls.size = nL) {st : List Value} (hst : st = As.reverse ++ rest) (hW : (rest.map fun v => v.category).sum ≤ 8) (hdg : decode cc pc = .ok (.invokestatic index, 3)) (hf : cells + mc ≤ R.cells ∧ slots + ms ≤ R.slots)
    (kk : ∀ (H1 : Heap) (locs1 : List Loc), Inv G kd ad s.heap M' H1 locs1 → W p l e R s m args below meth c H1 locs1 (cells + mc) (slots + ms) Q (F0 m (pc + 3) ls (.long r :: rest))) : W p l e R s m args below meth c H locs cells slots Q (F0 m pc ls st) :=
  g_callS hx hb hml hown hts hK hap hsx hI hM hcv hl hrc hrs hR hn hsize hst hW hdg hf kk
theorem g_callSd  {y : MethodName} {bytes : ByteArray} {maxL nL mc ms n index : Nat} {ret : Option FieldType} {rm : Room} {own : String} {As : List Value} {M' : Mem} {r : UInt64} (hx : p.tables.exec = Jvm.exec) (hb : c.code = cc) (hml : c.maxLocals = nL) (hown : s.vm.findClass own = some m.cls) (hts : ∀ w ∈ WA, w.before args s = true) (hK : va_K G.1 vwCl (tyL G) s) (hap : Apt kd ad) (hsx : Sx G (AS kd ad s.heap.size) s s.heap) (hI : Inv G kd ad s.heap M H locs)
    (hM : Met l y (Cond.code y bytes maxL ret :: WA) rm (Pg G kd ad H.size As M) (Qg G kd ad H.size M' (some (.double r))) mc ms (AS kd ad H.size)) (hcv : csF y bytes maxL ret n) (hl : Cond.methodLink own index y ∈ WA) (hrc : rm.cells = mc) (hrs : rm.slots = ms) (hR : rm.frames + 1 ≤ R.frames ∧ 8 + (maxL + 11) + rm.locals ≤ R.locals)
     (hn : As.length = n) (hsize : ls.size = nL) {st : List Value} (hst : st = As.reverse ++ rest) (hW : (rest.map fun v => v.category).sum ≤ 8) (hdg : decode cc pc = .ok (.invokestatic index, 3)) (hf : cells + mc ≤ R.cells ∧ slots + ms ≤ R.slots)
    (kk : ∀ (H1 : Heap) (locs1 : List Loc), Inv G kd ad s.heap M' H1 locs1 → W p l e R s m args below meth c H1 locs1 (cells + mc) (slots + ms) Q (F0 m (pc + 3) ls (.double r :: rest))) : W p l e R s m args below meth c H locs cells slots Q (F0 m pc ls st) :=
  g_callS hx hb hml hown hts hK hap hsx hI hM hcv hl hrc hrs hR hn hsize hst hW hdg hf kk
theorem g_callSv  {y : MethodName} {bytes : ByteArray} {maxL nL mc ms n index : Nat} {ret : Option FieldType} {rm : Room} {own : String} {As : List Value} {M' : Mem}  (hx : p.tables.exec = Jvm.exec) (hb : c.code = cc) (hml : c.maxLocals = nL) (hown : s.vm.findClass own = some m.cls) (hts : ∀ w ∈ WA, w.before args s = true) (hK : va_K G.1 vwCl (tyL G) s) (hap : Apt kd ad) (hsx : Sx G (AS kd ad s.heap.size) s s.heap) (hI : Inv G kd ad s.heap M H locs)
    (hM : Met l y (Cond.code y bytes maxL ret :: WA) rm (Pg G kd ad H.size As M) (Qg G kd ad H.size M' none) mc ms (AS kd ad H.size)) (hcv : csF y bytes maxL ret n) (hl : Cond.methodLink own index y ∈ WA) (hrc : rm.cells = mc) (hrs : rm.slots = ms) (hR : rm.frames + 1 ≤ R.frames ∧ 8 + (maxL + 11) + rm.locals ≤ R.locals)
     (hn : As.length = n) (hsize : ls.size = nL) {st : List Value} (hst : st = As.reverse ++ rest) (hW : (rest.map fun v => v.category).sum ≤ 8) (hdg : decode cc pc = .ok (.invokestatic index, 3)) (hf : cells + mc ≤ R.cells ∧ slots + ms ≤ R.slots)
    (kk : ∀ (H1 : Heap) (locs1 : List Loc), Inv G kd ad s.heap M' H1 locs1 → W p l e R s m args below meth c H1 locs1 (cells + mc) (slots + ms) Q (F0 m (pc + 3) ls rest)) : W p l e R s m args below meth c H locs cells slots Q (F0 m pc ls st) :=
  g_callS hx hb hml hown hts hK hap hsx hI hM hcv hl hrc hrs hR hn hsize hst hW hdg hf kk
theorem g_body {y : MethodName} {bytes : ByteArray} {maxL mc ms n : Nat} {ret : Option FieldType} {own : String} {As : List Value} {M' : Mem} {v : Option Value} {d : Nat} (hy : plainName y.cls = true) (hyo : y.cls = own)
    (body : ∀ p e s m args below meth c, Cx p s m args meth c bytes maxL ret own G kd ad → s.heap.size = n → At p l e (rmO d mc ms) s m args below meth c 0 0 (MQ below (Qg G kd ad s.heap.size M' v) args s mc ms (AS kd ad s.heap.size)) G kd ad maxL 0 (lv_args 0 As) [] M) (hlen : (lg_sl As).length ≤ maxL) :
    Met l y (Cond.code y bytes maxL ret :: WA) (rmO d mc ms) (Pg G kd ad n As M) (Qg G kd ad n M' v) mc ms (AS kd ad n) := by
  refine Met.ofW (cc := bytes) (maxL := maxL) (ret := ret) hy rfl ?_
  intro p e s m args below meth c s₁ B hml hv
  obtain ⟨rfl, hsz, hw, hap, hK, hsx⟩ := hv
  have hts := atoms_spec (ws := Cond.code y bytes maxL ret :: WA) B.pre
  have hown : s.vm.findClass own = some m.cls := hyo ▸ findClass_of_methodNamed B.named
  subst hsz
  have hl := lv_entry As (n := maxL) hlen
  rw [lg_entry_eq]
  generalize (lg_sl As ++ List.replicate (maxL - (lg_sl As).length) Slot.unset).toArray = ls at hl ⊢
  exact body p e s m _ below meth c ⟨B.exec, B.bytes, hml, B.returns, hown, fun w h => hts w (List.mem_cons_of_mem _ h), B.notSynchronized, hK, hap, hsx⟩ rfl _ _ ls ⟨hw, va_S.rf⟩ hl
theorem g_copy (hx : p.tables.exec = Jvm.exec) (hb : c.code = cc) (hml : c.maxLocals = ls.size) {own : String} {index : Nat} (hown : s.vm.findClass own = some m.cls) (hlink : (Cond.methodLink own index arraycopyName).before args s = true) (hnat : (Cond.native arraycopyName).before args s = true) (hstat : (Cond.static arraycopyName).before args s = true) (hini : (Cond.initialized "java/lang/System").before args s = true)
    (hK : va_K G.1 vwCl (tyL G) s) (hap : Apt kd ad) (hI : Inv G kd ad H0 M H locs) {k1 k2 n0 n1 : Nat} (hk1 : kd k1 = (10, n0)) (hk2 : kd k2 = (10, n1)) {N : Nat} {sp dp n : Int32} (e1 : sp = 0) (e2 : dp = 0) (e3 : n.toNatClampNeg = N ∧ ¬ n < 0) (h4 : N ≤ n0) (h5 : N ≤ n1) (hroom : 1 ≤ R.frames ∧ (rest.map fun v => v.category).sum + (nativeFrameWords "java/lang/System" "arraycopy" 5 + 11) ≤ R.locals) (hdg : decode cc pc = .ok (.invokestatic index, 3)) {M' : Mem} (hM : M' = cpy M k1 k2 0 0 N)
    (kk : ∀ (H1 : Heap) (locs1 : List Loc), Inv G kd ad H0 M' H1 locs1 → W p l e R s m args below meth c H1 locs1 cells slots Q (F0 m (pc + 3) ls rest)) : W p l e R s m args below meth c H locs cells slots Q (F0 m pc ls (.int n :: .int dp :: .ref (ad k2) :: .int sp :: .ref (ad k1) :: rest)) := by
  subst hM; subst e1; subst e2
  obtain ⟨e3, h3⟩ := e3
  have nn : ∀ z : Int32, ¬ z < 0 → z.toInt = (z.toNatClampNeg : Int) := by
    intro z hz
    have hz0 : (0 : Int) ≤ z.toInt := by
      have := Int32.not_lt.mp hz
      simpa using Int32.le_iff_toInt_le.mp this
    show z.toInt = ((z.toInt.toNat : Nat) : Int)
    omega
  have z0 : (0 : Int32).toNatClampNeg = 0 := rfl
  intro T hT X
  have hc0 : H[ad k1]? = some (vp_cell (G.2.1 0) (n0, .inl (M.1 k1))) := hI.at hk1 (by simp) rfl
  have hc1 : H[ad k2]? = some (vp_cell (G.2.1 0) (n1, .inl (M.1 k2))) := hI.at hk2 (by simp) rfl
  obtain ⟨-, ka, hka, cm0, hkk0⟩ := (hK.2 0 _ rfl).1 n0 (fun j => .int (M.1 k1 j))
  obtain ⟨-, kb, hkb, cm1, hkk1⟩ := (hK.2 0 _ rfl).1 n1 (fun j => .int (M.1 k2 j))
  obtain ⟨vm', X', step⟩ := X.arraycopy hx hown hlink hnat hstat hini (src := ad k1) (dst := ad k2) (cs := vp_cell (G.2.1 0) (n0, .inl (M.1 k1))) (cd := vp_cell (G.2.1 0) (n1, .inl (M.1 k2))) (srcPos := 0) (destPos := 0) (n := n) (by rw [hT]; exact hc0) (by rw [hT]; exact hc1)
    (fun _ h => by cases h) (fun _ h => by cases h) (fun h => by cases h) (fun h => by cases h) hka hkb hkk0 hkk1 (by simp) (by decide) (by decide) h3
    (by rw [nn 0 (by decide), nn n h3, e3, z0]; show ¬ _ > ((arrV (G.2.1 0) n0 (fun j => .int (M.1 k1 j))).slots.size : Int); rw [arrV_size]; omega)
    (by rw [nn 0 (by decide), nn n h3, e3, z0]; show ¬ _ > ((arrV (G.2.1 0) n1 (fun j => .int (M.1 k2 j))).slots.size : Int); rw [arrV_size]; omega)
    (fun vm₁ _ i hi => by
      have e : (vp_cell (G.2.1 0) (n0, .inl (M.1 k1))).slots.getD ((0 : Int32).toNatClampNeg + i) .null = .int (M.1 k1 ((0 : Int32).toNatClampNeg + i)) := by
        show (arrV (G.2.1 0) n0 (fun j => .int (M.1 k1 j))).slots.getD _ _ = _
        rw [Array.getD_eq_getD_getElem?, arrV_read _ _ (by rw [z0]; omega)]
        rfl
      refine ⟨?_, ?_⟩
      · rw [e]; rfl
      · rw [e]; exact trivial)
    (g := F0 m pc ls (.int n :: .int 0 :: .ref (ad k2) :: .int 0 :: .ref (ad k1) :: rest)) rfl (by rw [hml]) (rest := rest) rfl (by rw [hb]; exact hdg) hroom.1 (by have := hroom.2; show 2 * 0 + _ + _ ≤ _; omega)
  have e1 : copied (vp_cell (G.2.1 0) (n0, .inl (M.1 k1))) (vp_cell (G.2.1 0) (n1, .inl (M.1 k2))) 0 0 n = vp_cell (G.2.1 0) (n1, .inl (va_cpy (M.1 k1) (M.1 k2) (0 : Int32).toNatClampNeg (0 : Int32).toNatClampNeg n.toNatClampNeg)) := va_copied (fun z => .int z) (G.2.1 0) (G.2.1 0) (M.1 k1) (M.1 k2) (by rw [z0, e3]; omega)
  rw [z0, e3] at e1
  rw [e1] at X' step
  have hl : ad k2 < H.size := (Array.getElem?_eq_some_iff.mp hc1).1
  have hheap : ((T.setVm vm').setCell (ad k2) (vp_cell (G.2.1 0) (n1, .inl (va_cpy (M.1 k1) (M.1 k2) 0 0 N)))).heap = H.setIfInBounds (ad k2) (vp_cell (G.2.1 0) (n1, .inl (va_cpy (M.1 k1) (M.1 k2) 0 0 N))) := by rw [← hT]; rfl
  have oq : ∀ q : Nat, q ≠ ad k2 → (H.setIfInBounds (ad k2) (vp_cell (G.2.1 0) (n1, .inl (va_cpy (M.1 k1) (M.1 k2) 0 0 N))))[q]? = H[q]? := fun q hq => by simp [Array.getElem?_setIfInBounds, Ne.symm hq]
  have hcell : (H.setIfInBounds (ad k2) (vp_cell (G.2.1 0) (n1, .inl (va_cpy (M.1 k1) (M.1 k2) 0 0 N))))[ad k2]? = some (vp_cell (G.2.1 0) (n1, .inl (va_cpy (M.1 k1) (M.1 k2) 0 0 N))) := by simp [Array.getElem?_setIfInBounds, hl]
  obtain ⟨t, a1, b1⟩ := kk _ _ ⟨fun k hk => by
      by_cases e : k = k2
      · subst e
        rw [cpy_s, hk2]; exact hcell
      · obtain ⟨q1, q2, q3⟩ := cpy_o (M := M) (a := k1) (sp := 0) (dp := 0) (n := N) k e
        rw [q1, q2, q3]
        exact (hI.1 k hk).kept (oq _ (fun q => e (hap _ _ hk (by rw [hk2]; simp) q))),
    by simp; exact hI.2.1, fun q g1 g2 => by
      rw [oq q (fun e => g2 (by rw [e]; exact Or.inl ⟨k2, by rw [hk2]; simp, rfl⟩))]
      exact hI.2.2.1 q g1 g2, fun q hq => by
      rcases List.mem_append.mp hq with h | h
      · exact hI.2.2.2 q h
      · obtain ⟨z, -, hz⟩ := List.mem_map.mp h
        rw [← hz]
        exact Or.inl ⟨k2, by rw [hk2]; simp, rfl⟩⟩ _ hheap X'
  exact ⟨t, step t a1, b1⟩
end GH
end
section
/-! methods that may throw -/
def exN (e : Nat) : String := if e = 0 then "java/lang/IllegalArgumentException" else if e = 1 then "java/lang/IndexOutOfBoundsException" else "java/lang/IllegalStateException"
def zi (v : Int32 ⊕ Nat) : Option Value ⊕ Nat := match v with
  | .inl r => .inl (some (.int r))
  | .inr e => .inr e
def zl (v : Int64 ⊕ Nat) : Option Value ⊕ Nat := match v with
  | .inl r => .inl (some (.long r))
  | .inr e => .inr e
def zd (v : UInt64 ⊕ Nat) : Option Value ⊕ Nat := match v with
  | .inl r => .inl (some (.double r))
  | .inr e => .inr e
def zv (v : Unit ⊕ Nat) : Option Value ⊕ Nat := match v with
  | .inl _ => .inl none
  | .inr e => .inr e
def Qx (G : GT) (kd : Nat → Nat × Nat) (ad : Nat → Nat) (sz : Nat) (M : Mem) (z : Option Value ⊕ Nat) : Array Value → State → Outcome → State → Prop := fun a st oc t => ∃ v, z = .inl v ∧ Qg G kd ad sz M v a st oc t
def Xx (G : GT) (kd : Nat → Nat × Nat) (ad : Nat → Nat) (sz : Nat) (M : Mem) (z : Option Value ⊕ Nat) : String → State → State → Prop := fun E st t => ∃ e, z = .inr e ∧ E = exN e ∧ Wd G kd ad M t.heap ∧ va_F (AS kd ad sz) st t
def calx {ρ σ : Type} (x : Option (Mem × (ρ ⊕ Nat))) (k : Mem → ρ → Option (Mem × (σ ⊕ Nat))) : Option (Mem × (σ ⊕ Nat)) := match x with
  | none => none
  | some (M, .inl r) => k M r
  | some (M, .inr e) => some (M, .inr e)
theorem calx_s {ρ σ : Type} {x : Option (Mem × (ρ ⊕ Nat))} {k : Mem → ρ → Option (Mem × (σ ⊕ Nat))} {MO : Mem} {vo : σ ⊕ Nat} (h : calx x k = some (MO, vo)) : (∃ M r, x = some (M, .inl r) ∧ k M r = some (MO, vo)) ∨ ∃ e, x = some (MO, .inr e) ∧ vo = .inr e := by
  match x, h with
  | some (M, .inl r), h => exact Or.inl ⟨M, r, rfl, h⟩
  | some (M, .inr e), h => cases h; exact Or.inr ⟨e, rfl, rfl⟩
section GX
variable {p : Program} {l : Launch} {e : Env} {R : Room} {s : State} {m : MethodId} {args : Array Value} {below : List Frame} {meth : Method} {c : Code} {H : Heap} {locs : List Loc} {cells slots : Nat} {Q : State → Prop}
variable {cc : ByteArray} {pc : Nat} {ls : Array Slot} {rest : List Value} {G : GT} {kd : Nat → Nat × Nat} {ad : Nat → Nat} {M : Mem} {H0 : Heap}
theorem px_blind {sz : Nat} {av : List Value} : FrameBlind (Pg G kd ad sz av M) := pg_blind
abbrev XQ (G : GT) (kd : Nat → Nat × Nat) (ad : Nat → Nat) (below : List Frame) (args : Array Value) (s : State) (M : Mem) (z : Option Value ⊕ Nat) (mc ms : Nat) : State → Prop := vx_MQ below (Qx G kd ad s.heap.size M z) (Xx G kd ad s.heap.size M z) args s mc ms (AS kd ad s.heap.size)
theorem x_ret {v : Option Value} {g : JFrame} (k : W p l e R s m args below meth c H locs cells slots (MQ below (Qg G kd ad s.heap.size M v) args s cells slots (AS kd ad s.heap.size)) g) : W p l e R s m args below meth c H locs cells slots (XQ G kd ad below args s M (.inl v) cells slots) g := by
  intro T hT X
  obtain ⟨t, a1, o, b1, b2, b3, b4⟩ := k T hT X
  exact ⟨t, a1, o, b1, b2, Or.inl ⟨⟨v, rfl, b3⟩, b4⟩⟩
theorem x_callR {st0 : List Value} {a : Array Value} {mc ms : Nat} {M' : Mem} {v : Option Value} (hr : vx_Run p l e R s m args below meth c H locs cells slots mc ms (F0 m pc ls st0) rest (Qx G kd ad H.size M' (.inl v) a) (Xx G kd ad H.size M' (.inl v)) (AS kd ad H.size)) (hI : Inv G kd ad s.heap M H locs)
    (kk : ∀ (H1 : Heap) (locs1 : List Loc), Inv G kd ad s.heap M' H1 locs1 → W p l e R s m args below meth c H1 locs1 (cells + mc) (slots + ms) Q (F0 m (pc + 3) ls (v.toList ++ rest))) : W p l e R s m args below meth c H locs cells slots Q (F0 m pc ls st0) := by
  intro T hT X
  rcases hr T hT X with ⟨v', st₀, t, T', L, h0, X', hL, e1, e2, ⟨v2, hz, hv, hw, hF⟩, st⟩ | ⟨q, st₀, t, T', L, E, ce, h0, X', hL, e1, e2, ⟨e3, hz, -⟩, -⟩
  · cases hz
    cases hv
    obtain ⟨k1, k2, k3⟩ := vx_keep h0 e1 hI.2 (fun q hq h => AS.old hq h) (fun q h => AS.mono hI.2.1 h) hL hF
    obtain ⟨t2, a1, b1⟩ := kk T'.heap (locs ++ L) ⟨by rw [e1]; exact hw, k3⟩ T' rfl X'
    exact ⟨t2, st t2 a1, b1⟩
  · cases hz
theorem x_callT {st0 : List Value} {a : Array Value} {mc ms mcc msc : Nat} {M' : Mem} {e9 : Nat} (hr : vx_Run p l e R s m args below meth c H locs cells slots mc ms (F0 m pc ls st0) rest (Qx G kd ad H.size M' (.inr e9) a) (Xx G kd ad H.size M' (.inr e9)) (AS kd ad H.size)) (hI : Inv G kd ad s.heap M H locs)
    (htb : ∀ x ∈ c.exceptionTable.toList, False) (hlk : meth.locks = false) (hc : cells + mc ≤ mcc) (hs : slots + ms ≤ msc) : W p l e R s m args below meth c H locs cells slots (XQ G kd ad below args s M' (.inr e9) mcc msc) (F0 m pc ls st0) := by
  intro T hT X
  rcases hr T hT X with ⟨v', st₀, t, T', L, h0, X', hL, e1, e2, ⟨v2, hz, -⟩, st⟩ | ⟨q, st₀, t, T', L, E, ce, h0, X', hL, e1, e2, ⟨e3, hz, hE, hw, hF⟩, hce, hcv, hcl, st⟩
  · cases hz
  · cases hz
    obtain ⟨k1, k2, k3⟩ := vx_keep h0 e1 hI.2 (fun q hq h => AS.old hq h) (fun q h => AS.mono hI.2.1 h) hL hF
    obtain ⟨t2, a1, b1⟩ := vx_out (Qc := Qx G kd ad s.heap.size M' (.inr e9)) (XC := Xx G kd ad s.heap.size M' (.inr e9)) (free := AS kd ad s.heap.size) (pc := pc) (ls := ls) (rest := rest) (fun x hx => (htb x hx).elim) hlk (show T'.heap[q]? = some ce by rw [e1]; exact hce) hcv hcl (fun t9 ht _ => ⟨e9, rfl, hE, by rw [ht, e1]; exact hw, k3.F ht⟩) k3.2.2 hc hs T' rfl X'
    exact ⟨t2, st.trans a1, b1⟩
theorem x_throw {own cls text : String} {names : List String} {ik is ic mc ms e9 nL : Nat} (w : Bool) (hx : p.tables.exec = Jvm.exec) (hb : c.code = cc) (hst : l.stackTraces = false) (hml : c.maxLocals = nL) (hown : s.vm.findClass own = some m.cls) (hts : ∀ w ∈ WA, w.before args s = true) (hlk : meth.locks = false) (hsx : Sx G (AS kd ad s.heap.size) s s.heap) (htb : ∀ x ∈ c.exceptionTable.toList, False)
    (hfit : Bundle.fit cls = true) (hnames : ∀ n ∈ names, Bundle.fit n = true) (hk : Cond.classLink own ik cls ∈ WA) (hini : Cond.initialized cls ∈ WA) (hmsg : (own, is, text) ∈ sxMsgs) (hat : ∀ w ∈ (vx_atS own ic cls names).filter goodWord, w ∈ lw_tbl) (hnb : ∀ w ∈ (vx_atS own ic cls names).filter (fun w => !goodWord w), w ∈ sxW)
    (hgood : ∀ w ∈ Cond.classLink own ik cls :: Cond.initialized cls :: vx_atS own ic cls names, vx_ot w = true) (he : cls = exN e9) (hI : Inv G kd ad s.heap M H locs) (hsize : ls.size = nL)
    (d0 : decode cc pc = .ok (.new ik, 3)) (d3 : decode cc (pc + 3) = .ok (.dup, 1)) (d4 : decode cc (pc + 4) = .ok (if w then .ldc_w is else .ldc is, if w then 3 else 2)) (d7 : decode cc (pc + (if w then 7 else 6)) = .ok (.invokespecial ic, 3)) (d10 : decode cc (pc + (if w then 10 else 9)) = .ok (.athrow, 1))
    (hRframes : names.length + 3 < R.frames) (hRlocals : (rest.map fun v => v.category).sum + (13 * (names.length + 1) + 43) ≤ R.locals) (hR : cells + 1 ≤ R.cells ∧ slots + 6 ≤ R.slots) (hc : cells + 1 ≤ mc) (hs : slots + 6 ≤ ms) :
    W p l e R s m args below meth c H locs cells slots (XQ G kd ad below args s M (.inr e9) mc ms) (F0 m pc ls rest) := by
  obtain ⟨sa, hR0⟩ := hsx.2.2.1 _ hmsg
  have hat' : ∀ w ∈ vx_atS own ic cls names, w.before args s = true := vx_hat (fun w hw => hts w (List.mem_filter.mpr ⟨hat w hw, (List.mem_filter.mp hw).2⟩)) hnb (fun w hw => va_any (sxW_on w hw) (hsx.2.2.2.1 w hw))
  have hX : ∀ t : State, s.vm.Alike t.vm → H.size ≤ t.heap.size → (∀ q : Nat, q < H.size → t.heap[q]? = H[q]?) → Xx G kd ad s.heap.size M (.inr e9) cls s t := fun t _ hz hq =>
    ⟨e9, rfl, he, hI.1.kept (fun k hk => hq _ (hI.1.lt hk)), Nat.le_trans hI.2.1 hz, fun q h1 h2 => (hq q (Nat.lt_of_lt_of_le h1 hI.2.1)).trans (hI.2.2.1 q h1 h2)⟩
  cases w with
  | true => exact vx_throwSW hx hb hst hown hfit hnames (hts _ hk) (hts _ hini) hR0 hat' hgood hsx.1 hsx.2.1 hI.2 (hsize.trans hml.symm) d0 d3 d4 d7 d10 (fun x hx => (htb x hx).elim) hRframes hRlocals hR.1 hR.2 hlk hX hI.2.2.2 hc hs
  | false => exact vx_throwS hx hb hst hown hfit hnames (hts _ hk) (hts _ hini) hR0 hat' hgood hsx.1 hsx.2.1 hI.2 (hsize.trans hml.symm) d0 d3 d4 d7 d10 (fun x hx => (htb x hx).elim) hRframes hRlocals hR.1 hR.2 hlk hX hI.2.2.2 hc hs
theorem at_iae : ∀ w ∈ (vx_atS RX6 70 "java/lang/IllegalArgumentException" ["java/lang/RuntimeException", "java/lang/Exception"]).filter goodWord, w ∈ lw_tbl := by decide +kernel
theorem at_ioo : ∀ w ∈ (vx_atS RX6 180 "java/lang/IndexOutOfBoundsException" ["java/lang/RuntimeException", "java/lang/Exception"]).filter goodWord, w ∈ lw_tbl := by decide +kernel
theorem at_ise : ∀ w ∈ (vx_atS RX6 280 "java/lang/IllegalStateException" ["java/lang/RuntimeException", "java/lang/Exception"]).filter goodWord, w ∈ lw_tbl := by decide +kernel
theorem nb_iae : ∀ w ∈ (vx_atS RX6 70 "java/lang/IllegalArgumentException" ["java/lang/RuntimeException", "java/lang/Exception"]).filter (fun w => !goodWord w), w ∈ sxW := by decide +kernel
theorem nb_ioo : ∀ w ∈ (vx_atS RX6 180 "java/lang/IndexOutOfBoundsException" ["java/lang/RuntimeException", "java/lang/Exception"]).filter (fun w => !goodWord w), w ∈ sxW := by decide +kernel
theorem nb_ise : ∀ w ∈ (vx_atS RX6 280 "java/lang/IllegalStateException" ["java/lang/RuntimeException", "java/lang/Exception"]).filter (fun w => !goodWord w), w ∈ sxW := by decide +kernel
theorem fit_n : ∀ n ∈ (["java/lang/RuntimeException", "java/lang/Exception"] : List String), Bundle.fit n = true := by decide +kernel
theorem g_bodyX {y : MethodName} {bytes : ByteArray} {maxL mc ms n : Nat} {ret : Option FieldType} {own : String} {As : List Value} {M' : Mem} {z : Option Value ⊕ Nat} {d : Nat} (hy : plainName y.cls = true) (hyo : y.cls = own)
    (body : ∀ p e s m args below meth c, Cx p s m args meth c bytes maxL ret own G kd ad → (∀ x ∈ c.exceptionTable.toList, False) → s.heap.size = n → At p l e (rmO d mc ms) s m args below meth c 0 0 (XQ G kd ad below args s M' z mc ms) G kd ad maxL 0 (lv_args 0 As) [] M) (hlen : (lg_sl As).length ≤ maxL) :
    vx_Met l y (Cond.code y bytes maxL ret :: WA) (rmO d mc ms) (Pg G kd ad n As M) (Qx G kd ad n M' z) (Xx G kd ad n M' z) mc ms (AS kd ad n) := by
  refine vx_ofW (cc := bytes) (maxL := maxL) (ret := ret) hy rfl ?_
  intro p e s m args below meth c s₁ B hml htb hv
  obtain ⟨rfl, hsz, hw, hap, hK, hsx⟩ := hv
  have hts := atoms_spec (ws := Cond.code y bytes maxL ret :: WA) B.pre
  have hown : s.vm.findClass own = some m.cls := hyo ▸ findClass_of_methodNamed B.named
  subst hsz
  have hl := lv_entry As (n := maxL) hlen
  rw [lg_entry_eq]
  generalize (lg_sl As ++ List.replicate (maxL - (lg_sl As).length) Slot.unset).toArray = ls at hl ⊢
  exact body p e s m _ below meth c ⟨B.exec, B.bytes, hml, B.returns, hown, fun w h => hts w (List.mem_cons_of_mem _ h), B.notSynchronized, hK, hap, hsx⟩ htb rfl _ _ ls ⟨hw, va_S.rf⟩ hl
end GX
end
