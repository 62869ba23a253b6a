section
-- ===== PART A: goes FIRST, ahead of the names: the tables' words, and 'selects' of the private methods out of them =====
/-- a private method of a class that the tables say can be made, by its rows of tables_1 -/
def lw_okq (q : MethodName × Nat) : Prop := (q.1.cls ≠ "java/lang/invoke/MethodHandle" ∧ q.1.cls ≠ "java/lang/invoke/VarHandle") ∧ Cond.instantiable q.1.cls q.2 ∈ tables_1 ∧ Cond.privateMethod q.1 ∈ tables_1 ∧ Cond.instanceMethod q.1 ∈ tables_1
theorem lw_p0 : lw_okq (⟨"CountedTwice", "feedNumber", "(I)V"⟩, 13) := ⟨⟨by decide +kernel, by decide +kernel⟩, List.mem_of_getElem? (i := 26) (by decide +kernel), List.mem_of_getElem? (i := 479) (by decide +kernel), List.mem_of_getElem? (i := 480) (by decide +kernel)⟩
theorem lw_p1 : lw_okq (⟨"CountedTwice$Parser", "kind", "()I"⟩, 10) := ⟨⟨by decide +kernel, by decide +kernel⟩, List.mem_of_getElem? (i := 227) (by decide +kernel), List.mem_of_getElem? (i := 631) (by decide +kernel), List.mem_of_getElem? (i := 632) (by decide +kernel)⟩
theorem lw_p2 : lw_okq (⟨"CountedTwice$Parser", "refuse", "(I)V"⟩, 10) := ⟨⟨by decide +kernel, by decide +kernel⟩, List.mem_of_getElem? (i := 227) (by decide +kernel), List.mem_of_getElem? (i := 635) (by decide +kernel), List.mem_of_getElem? (i := 636) (by decide +kernel)⟩
theorem lw_p3 : lw_okq (⟨"CountedTwice$Parser", "pass", "(I)V"⟩, 10) := ⟨⟨by decide +kernel, by decide +kernel⟩, List.mem_of_getElem? (i := 227) (by decide +kernel), List.mem_of_getElem? (i := 639) (by decide +kernel), List.mem_of_getElem? (i := 640) (by decide +kernel)⟩
theorem lw_p4 : lw_okq (⟨"CountedTwice$Parser", "readAny", "(I)V"⟩, 10) := ⟨⟨by decide +kernel, by decide +kernel⟩, List.mem_of_getElem? (i := 227) (by decide +kernel), List.mem_of_getElem? (i := 643) (by decide +kernel), List.mem_of_getElem? (i := 644) (by decide +kernel)⟩
theorem lw_p5 : lw_okq (⟨"CountedTwice$Parser", "readOne", "(I)V"⟩, 10) := ⟨⟨by decide +kernel, by decide +kernel⟩, List.mem_of_getElem? (i := 227) (by decide +kernel), List.mem_of_getElem? (i := 647) (by decide +kernel), List.mem_of_getElem? (i := 648) (by decide +kernel)⟩
theorem lw_p6 : lw_okq (⟨"CountedTwice$Parser", "emit", "(I)V"⟩, 10) := ⟨⟨by decide +kernel, by decide +kernel⟩, List.mem_of_getElem? (i := 227) (by decide +kernel), List.mem_of_getElem? (i := 651) (by decide +kernel), List.mem_of_getElem? (i := 652) (by decide +kernel)⟩
theorem lw_p7 : lw_okq (⟨"CountedTwice$Parser", "readSum", "()V"⟩, 10) := ⟨⟨by decide +kernel, by decide +kernel⟩, List.mem_of_getElem? (i := 227) (by decide +kernel), List.mem_of_getElem? (i := 655) (by decide +kernel), List.mem_of_getElem? (i := 656) (by decide +kernel)⟩
theorem lw_p8 : lw_okq (⟨"CountedTwice$Parser", "readProduct", "()V"⟩, 10) := ⟨⟨by decide +kernel, by decide +kernel⟩, List.mem_of_getElem? (i := 227) (by decide +kernel), List.mem_of_getElem? (i := 659) (by decide +kernel), List.mem_of_getElem? (i := 660) (by decide +kernel)⟩
theorem lw_p9 : lw_okq (⟨"CountedTwice$Parser", "readUnit", "()V"⟩, 10) := ⟨⟨by decide +kernel, by decide +kernel⟩, List.mem_of_getElem? (i := 227) (by decide +kernel), List.mem_of_getElem? (i := 663) (by decide +kernel), List.mem_of_getElem? (i := 664) (by decide +kernel)⟩
theorem lw_p10 : lw_okq (⟨"CountedTwice$Parser", "number", "()I"⟩, 10) := ⟨⟨by decide +kernel, by decide +kernel⟩, List.mem_of_getElem? (i := 227) (by decide +kernel), List.mem_of_getElem? (i := 667) (by decide +kernel), List.mem_of_getElem? (i := 668) (by decide +kernel)⟩
theorem lw_p11 : lw_okq (⟨"CountedTwice", "isName", "(I)Z"⟩, 13) := ⟨⟨by decide +kernel, by decide +kernel⟩, List.mem_of_getElem? (i := 26) (by decide +kernel), List.mem_of_getElem? (i := 690) (by decide +kernel), List.mem_of_getElem? (i := 691) (by decide +kernel)⟩
theorem lw_p12 : lw_okq (⟨"CountedTwice$Persons", "gather", "(I)V"⟩, 14) := ⟨⟨by decide +kernel, by decide +kernel⟩, List.mem_of_getElem? (i := 292) (by decide +kernel), List.mem_of_getElem? (i := 742) (by decide +kernel), List.mem_of_getElem? (i := 743) (by decide +kernel)⟩
theorem lw_p13 : lw_okq (⟨"CountedTwice$Persons", "join", "(II)V"⟩, 14) := ⟨⟨by decide +kernel, by decide +kernel⟩, List.mem_of_getElem? (i := 292) (by decide +kernel), List.mem_of_getElem? (i := 746) (by decide +kernel), List.mem_of_getElem? (i := 747) (by decide +kernel)⟩
theorem lw_p14 : lw_okq (⟨"CountedTwice$Likeness", "compare", "(II)V"⟩, 5) := ⟨⟨by decide +kernel, by decide +kernel⟩, List.mem_of_getElem? (i := 269) (by decide +kernel), List.mem_of_getElem? (i := 764) (by decide +kernel), List.mem_of_getElem? (i := 765) (by decide +kernel)⟩
theorem lw_p15 : lw_okq (⟨"CountedTwice$Text", "operate", "(II)I"⟩, 4) := ⟨⟨by decide +kernel, by decide +kernel⟩, List.mem_of_getElem? (i := 114) (by decide +kernel), List.mem_of_getElem? (i := 788) (by decide +kernel), List.mem_of_getElem? (i := 789) (by decide +kernel)⟩
def lw_privs_1 : List (MethodName × Nat) := [(⟨"CountedTwice", "feedNumber", "(I)V"⟩, 13), (⟨"CountedTwice$Parser", "kind", "()I"⟩, 10), (⟨"CountedTwice$Parser", "refuse", "(I)V"⟩, 10), (⟨"CountedTwice$Parser", "pass", "(I)V"⟩, 10), (⟨"CountedTwice$Parser", "readAny", "(I)V"⟩, 10), (⟨"CountedTwice$Parser", "readOne", "(I)V"⟩, 10), (⟨"CountedTwice$Parser", "emit", "(I)V"⟩, 10), (⟨"CountedTwice$Parser", "readSum", "()V"⟩, 10), (⟨"CountedTwice$Parser", "readProduct", "()V"⟩, 10), (⟨"CountedTwice$Parser", "readUnit", "()V"⟩, 10), (⟨"CountedTwice$Parser", "number", "()I"⟩, 10), (⟨"CountedTwice", "isName", "(I)Z"⟩, 13), (⟨"CountedTwice$Persons", "gather", "(I)V"⟩, 14), (⟨"CountedTwice$Persons", "join", "(II)V"⟩, 14), (⟨"CountedTwice$Likeness", "compare", "(II)V"⟩, 5), (⟨"CountedTwice$Text", "operate", "(II)I"⟩, 4)]
theorem lw_r1 : ∀ q ∈ lw_privs_1, lw_okq q := List.forall_mem_cons.mpr ⟨lw_p0, List.forall_mem_cons.mpr ⟨lw_p1, List.forall_mem_cons.mpr ⟨lw_p2, List.forall_mem_cons.mpr ⟨lw_p3, List.forall_mem_cons.mpr ⟨lw_p4, List.forall_mem_cons.mpr ⟨lw_p5, List.forall_mem_cons.mpr ⟨lw_p6, List.forall_mem_cons.mpr ⟨lw_p7, List.forall_mem_cons.mpr ⟨lw_p8, List.forall_mem_cons.mpr ⟨lw_p9, List.forall_mem_cons.mpr ⟨lw_p10, List.forall_mem_cons.mpr ⟨lw_p11, List.forall_mem_cons.mpr ⟨lw_p12, List.forall_mem_cons.mpr ⟨lw_p13, List.forall_mem_cons.mpr ⟨lw_p14, List.forall_mem_cons.mpr ⟨lw_p15, fun _ h => absurd h List.not_mem_nil⟩⟩⟩⟩⟩⟩⟩⟩⟩⟩⟩⟩⟩⟩⟩⟩
theorem lw_p16 : lw_okq (⟨"CountedTwice$Persons", "isIn", "(II)Z"⟩, 14) := ⟨⟨by decide +kernel, by decide +kernel⟩, List.mem_of_getElem? (i := 292) (by decide +kernel), List.mem_of_getElem? (i := 868) (by decide +kernel), List.mem_of_getElem? (i := 869) (by decide +kernel)⟩
theorem lw_p17 : lw_okq (⟨"CountedTwice$Persons", "findPossible", "()V"⟩, 14) := ⟨⟨by decide +kernel, by decide +kernel⟩, List.mem_of_getElem? (i := 292) (by decide +kernel), List.mem_of_getElem? (i := 892) (by decide +kernel), List.mem_of_getElem? (i := 893) (by decide +kernel)⟩
theorem lw_p18 : lw_okq (⟨"CountedTwice$Persons", "findPartner", "(I)Z"⟩, 14) := ⟨⟨by decide +kernel, by decide +kernel⟩, List.mem_of_getElem? (i := 292) (by decide +kernel), List.mem_of_getElem? (i := 898) (by decide +kernel), List.mem_of_getElem? (i := 899) (by decide +kernel)⟩
theorem lw_p19 : lw_okq (⟨"CountedTwice$Persons", "change", "(I)V"⟩, 14) := ⟨⟨by decide +kernel, by decide +kernel⟩, List.mem_of_getElem? (i := 292) (by decide +kernel), List.mem_of_getElem? (i := 903) (by decide +kernel), List.mem_of_getElem? (i := 904) (by decide +kernel)⟩
theorem lw_p20 : lw_okq (⟨"CountedTwice$Checks", "isBy", "(III)Z"⟩, 3) := ⟨⟨by decide +kernel, by decide +kernel⟩, List.mem_of_getElem? (i := 342) (by decide +kernel), List.mem_of_getElem? (i := 923) (by decide +kernel), List.mem_of_getElem? (i := 924) (by decide +kernel)⟩
theorem lw_p21 : lw_okq (⟨"CountedTwice$Checks", "justAhead", "(III)I"⟩, 3) := ⟨⟨by decide +kernel, by decide +kernel⟩, List.mem_of_getElem? (i := 342) (by decide +kernel), List.mem_of_getElem? (i := 938) (by decide +kernel), List.mem_of_getElem? (i := 939) (by decide +kernel)⟩
theorem lw_p22 : lw_okq (⟨"CountedTwice$Checks", "order", "(I)I"⟩, 3) := ⟨⟨by decide +kernel, by decide +kernel⟩, List.mem_of_getElem? (i := 342) (by decide +kernel), List.mem_of_getElem? (i := 942) (by decide +kernel), List.mem_of_getElem? (i := 943) (by decide +kernel)⟩
theorem lw_p23 : lw_okq (⟨"CountedTwice$Checks", "isQuick", "(II)Z"⟩, 3) := ⟨⟨by decide +kernel, by decide +kernel⟩, List.mem_of_getElem? (i := 342) (by decide +kernel), List.mem_of_getElem? (i := 946) (by decide +kernel), List.mem_of_getElem? (i := 947) (by decide +kernel)⟩
theorem lw_p24 : lw_okq (⟨"CountedTwice$Checks", "tally", "(I)I"⟩, 3) := ⟨⟨by decide +kernel, by decide +kernel⟩, List.mem_of_getElem? (i := 342) (by decide +kernel), List.mem_of_getElem? (i := 955) (by decide +kernel), List.mem_of_getElem? (i := 956) (by decide +kernel)⟩
theorem lw_p25 : lw_okq (⟨"CountedTwice$Checks", "squares", "()I"⟩, 3) := ⟨⟨by decide +kernel, by decide +kernel⟩, List.mem_of_getElem? (i := 342) (by decide +kernel), List.mem_of_getElem? (i := 963) (by decide +kernel), List.mem_of_getElem? (i := 964) (by decide +kernel)⟩
theorem lw_p26 : lw_okq (⟨"CountedTwice$Checks", "allowDigit", "(II)V"⟩, 3) := ⟨⟨by decide +kernel, by decide +kernel⟩, List.mem_of_getElem? (i := 342) (by decide +kernel), List.mem_of_getElem? (i := 976) (by decide +kernel), List.mem_of_getElem? (i := 977) (by decide +kernel)⟩
theorem lw_p27 : lw_okq (⟨"CountedTwice$Round", "isTooSoon", "(LCountedTwice$Town;I)Z"⟩, 3) := ⟨⟨by decide +kernel, by decide +kernel⟩, List.mem_of_getElem? (i := 135) (by decide +kernel), List.mem_of_getElem? (i := 1009) (by decide +kernel), List.mem_of_getElem? (i := 1010) (by decide +kernel)⟩
theorem lw_p28 : lw_okq (⟨"CountedTwice$Search", "begin", "([I)I"⟩, 5) := ⟨⟨by decide +kernel, by decide +kernel⟩, List.mem_of_getElem? (i := 358) (by decide +kernel), List.mem_of_getElem? (i := 1095) (by decide +kernel), List.mem_of_getElem? (i := 1096) (by decide +kernel)⟩
theorem lw_p29 : lw_okq (⟨"CountedTwice$Search", "clear", "([J)V"⟩, 5) := ⟨⟨by decide +kernel, by decide +kernel⟩, List.mem_of_getElem? (i := 358) (by decide +kernel), List.mem_of_getElem? (i := 1100) (by decide +kernel), List.mem_of_getElem? (i := 1101) (by decide +kernel)⟩
theorem lw_p30 : lw_okq (⟨"CountedTwice$Search", "send", "(LCountedTwice$LastDays;II)V"⟩, 5) := ⟨⟨by decide +kernel, by decide +kernel⟩, List.mem_of_getElem? (i := 358) (by decide +kernel), List.mem_of_getElem? (i := 1106) (by decide +kernel), List.mem_of_getElem? (i := 1107) (by decide +kernel)⟩
theorem lw_p31 : lw_okq (⟨"CountedTwice$Search", "sendFrom", "(ILCountedTwice$LastDays;II)V"⟩, 5) := ⟨⟨by decide +kernel, by decide +kernel⟩, List.mem_of_getElem? (i := 358) (by decide +kernel), List.mem_of_getElem? (i := 1117) (by decide +kernel), List.mem_of_getElem? (i := 1118) (by decide +kernel)⟩
def lw_privs_2 : List (MethodName × Nat) := [(⟨"CountedTwice$Persons", "isIn", "(II)Z"⟩, 14), (⟨"CountedTwice$Persons", "findPossible", "()V"⟩, 14), (⟨"CountedTwice$Persons", "findPartner", "(I)Z"⟩, 14), (⟨"CountedTwice$Persons", "change", "(I)V"⟩, 14), (⟨"CountedTwice$Checks", "isBy", "(III)Z"⟩, 3), (⟨"CountedTwice$Checks", "justAhead", "(III)I"⟩, 3), (⟨"CountedTwice$Checks", "order", "(I)I"⟩, 3), (⟨"CountedTwice$Checks", "isQuick", "(II)Z"⟩, 3), (⟨"CountedTwice$Checks", "tally", "(I)I"⟩, 3), (⟨"CountedTwice$Checks", "squares", "()I"⟩, 3), (⟨"CountedTwice$Checks", "allowDigit", "(II)V"⟩, 3), (⟨"CountedTwice$Round", "isTooSoon", "(LCountedTwice$Town;I)Z"⟩, 3), (⟨"CountedTwice$Search", "begin", "([I)I"⟩, 5), (⟨"CountedTwice$Search", "clear", "([J)V"⟩, 5), (⟨"CountedTwice$Search", "send", "(LCountedTwice$LastDays;II)V"⟩, 5), (⟨"CountedTwice$Search", "sendFrom", "(ILCountedTwice$LastDays;II)V"⟩, 5)]
theorem lw_r2 : ∀ q ∈ lw_privs_2, lw_okq q := List.forall_mem_cons.mpr ⟨lw_p16, List.forall_mem_cons.mpr ⟨lw_p17, List.forall_mem_cons.mpr ⟨lw_p18, List.forall_mem_cons.mpr ⟨lw_p19, List.forall_mem_cons.mpr ⟨lw_p20, List.forall_mem_cons.mpr ⟨lw_p21, List.forall_mem_cons.mpr ⟨lw_p22, List.forall_mem_cons.mpr ⟨lw_p23, List.forall_mem_cons.mpr ⟨lw_p24, List.forall_mem_cons.mpr ⟨lw_p25, List.forall_mem_cons.mpr ⟨lw_p26, List.forall_mem_cons.mpr ⟨lw_p27, List.forall_mem_cons.mpr ⟨lw_p28, List.forall_mem_cons.mpr ⟨lw_p29, List.forall_mem_cons.mpr ⟨lw_p30, List.forall_mem_cons.mpr ⟨lw_p31, fun _ h => absurd h List.not_mem_nil⟩⟩⟩⟩⟩⟩⟩⟩⟩⟩⟩⟩⟩⟩⟩⟩
theorem lw_p32 : lw_okq (⟨"CountedTwice$Search", "leftIn", "(II)I"⟩, 5) := ⟨⟨by decide +kernel, by decide +kernel⟩, List.mem_of_getElem? (i := 358) (by decide +kernel), List.mem_of_getElem? (i := 1121) (by decide +kernel), List.mem_of_getElem? (i := 1122) (by decide +kernel)⟩
theorem lw_p33 : lw_okq (⟨"CountedTwice$Search", "leastLeft", "()I"⟩, 5) := ⟨⟨by decide +kernel, by decide +kernel⟩, List.mem_of_getElem? (i := 358) (by decide +kernel), List.mem_of_getElem? (i := 1126) (by decide +kernel), List.mem_of_getElem? (i := 1127) (by decide +kernel)⟩
theorem lw_p34 : lw_okq (⟨"CountedTwice", "lookInRow", "(I)I"⟩, 13) := ⟨⟨by decide +kernel, by decide +kernel⟩, List.mem_of_getElem? (i := 26) (by decide +kernel), List.mem_of_getElem? (i := 1186) (by decide +kernel), List.mem_of_getElem? (i := 1187) (by decide +kernel)⟩
theorem lw_p35 : lw_okq (⟨"CountedTwiceModel", "isHouse", "(I)Z"⟩, 43) := ⟨⟨by decide +kernel, by decide +kernel⟩, List.mem_of_getElem? (i := 1194) (by decide +kernel), List.mem_of_getElem? (i := 1357) (by decide +kernel), List.mem_of_getElem? (i := 1358) (by decide +kernel)⟩
theorem lw_p36 : lw_okq (⟨"CountedTwiceModel", "wayOf", "(II)I"⟩, 43) := ⟨⟨by decide +kernel, by decide +kernel⟩, List.mem_of_getElem? (i := 1194) (by decide +kernel), List.mem_of_getElem? (i := 1361) (by decide +kernel), List.mem_of_getElem? (i := 1362) (by decide +kernel)⟩
theorem lw_p37 : lw_okq (⟨"CountedTwiceModel", "street", "(I)I"⟩, 43) := ⟨⟨by decide +kernel, by decide +kernel⟩, List.mem_of_getElem? (i := 1194) (by decide +kernel), List.mem_of_getElem? (i := 1365) (by decide +kernel), List.mem_of_getElem? (i := 1366) (by decide +kernel)⟩
theorem lw_p38 : lw_okq (⟨"CountedTwiceModel", "number0", "(I)I"⟩, 43) := ⟨⟨by decide +kernel, by decide +kernel⟩, List.mem_of_getElem? (i := 1194) (by decide +kernel), List.mem_of_getElem? (i := 1369) (by decide +kernel), List.mem_of_getElem? (i := 1370) (by decide +kernel)⟩
theorem lw_p39 : lw_okq (⟨"CountedTwiceModel", "minutesOf", "(II)I"⟩, 43) := ⟨⟨by decide +kernel, by decide +kernel⟩, List.mem_of_getElem? (i := 1194) (by decide +kernel), List.mem_of_getElem? (i := 1376) (by decide +kernel), List.mem_of_getElem? (i := 1377) (by decide +kernel)⟩
theorem lw_p40 : lw_okq (⟨"CountedTwiceModel", "next0", "()V"⟩, 43) := ⟨⟨by decide +kernel, by decide +kernel⟩, List.mem_of_getElem? (i := 1194) (by decide +kernel), List.mem_of_getElem? (i := 1392) (by decide +kernel), List.mem_of_getElem? (i := 1393) (by decide +kernel)⟩
theorem lw_p41 : lw_okq (⟨"CountedTwiceModel", "see", "(I)I"⟩, 43) := ⟨⟨by decide +kernel, by decide +kernel⟩, List.mem_of_getElem? (i := 1194) (by decide +kernel), List.mem_of_getElem? (i := 1396) (by decide +kernel), List.mem_of_getElem? (i := 1397) (by decide +kernel)⟩
theorem lw_p42 : lw_okq (⟨"CountedTwiceModel", "word", "()I"⟩, 43) := ⟨⟨by decide +kernel, by decide +kernel⟩, List.mem_of_getElem? (i := 1194) (by decide +kernel), List.mem_of_getElem? (i := 1403) (by decide +kernel), List.mem_of_getElem? (i := 1404) (by decide +kernel)⟩
theorem lw_p43 : lw_okq (⟨"CountedTwiceModel", "is", "(Ljava/lang/String;)Z"⟩, 43) := ⟨⟨by decide +kernel, by decide +kernel⟩, List.mem_of_getElem? (i := 1194) (by decide +kernel), List.mem_of_getElem? (i := 1408) (by decide +kernel), List.mem_of_getElem? (i := 1409) (by decide +kernel)⟩
theorem lw_p44 : lw_okq (⟨"CountedTwiceModel", "likeWord", "()I"⟩, 43) := ⟨⟨by decide +kernel, by decide +kernel⟩, List.mem_of_getElem? (i := 1194) (by decide +kernel), List.mem_of_getElem? (i := 1417) (by decide +kernel), List.mem_of_getElem? (i := 1418) (by decide +kernel)⟩
theorem lw_p45 : lw_okq (⟨"CountedTwiceModel", "homeWord", "()I"⟩, 43) := ⟨⟨by decide +kernel, by decide +kernel⟩, List.mem_of_getElem? (i := 1194) (by decide +kernel), List.mem_of_getElem? (i := 1429) (by decide +kernel), List.mem_of_getElem? (i := 1430) (by decide +kernel)⟩
theorem lw_p46 : lw_okq (⟨"CountedTwiceModel", "aLine", "()Z"⟩, 43) := ⟨⟨by decide +kernel, by decide +kernel⟩, List.mem_of_getElem? (i := 1194) (by decide +kernel), List.mem_of_getElem? (i := 1443) (by decide +kernel), List.mem_of_getElem? (i := 1444) (by decide +kernel)⟩
theorem lw_p47 : lw_okq (⟨"CountedTwiceModel", "bad", "(I)Z"⟩, 43) := ⟨⟨by decide +kernel, by decide +kernel⟩, List.mem_of_getElem? (i := 1194) (by decide +kernel), List.mem_of_getElem? (i := 1447) (by decide +kernel), List.mem_of_getElem? (i := 1448) (by decide +kernel)⟩
def lw_privs_3 : List (MethodName × Nat) := [(⟨"CountedTwice$Search", "leftIn", "(II)I"⟩, 5), (⟨"CountedTwice$Search", "leastLeft", "()I"⟩, 5), (⟨"CountedTwice", "lookInRow", "(I)I"⟩, 13), (⟨"CountedTwiceModel", "isHouse", "(I)Z"⟩, 43), (⟨"CountedTwiceModel", "wayOf", "(II)I"⟩, 43), (⟨"CountedTwiceModel", "street", "(I)I"⟩, 43), (⟨"CountedTwiceModel", "number0", "(I)I"⟩, 43), (⟨"CountedTwiceModel", "minutesOf", "(II)I"⟩, 43), (⟨"CountedTwiceModel", "next0", "()V"⟩, 43), (⟨"CountedTwiceModel", "see", "(I)I"⟩, 43), (⟨"CountedTwiceModel", "word", "()I"⟩, 43), (⟨"CountedTwiceModel", "is", "(Ljava/lang/String;)Z"⟩, 43), (⟨"CountedTwiceModel", "likeWord", "()I"⟩, 43), (⟨"CountedTwiceModel", "homeWord", "()I"⟩, 43), (⟨"CountedTwiceModel", "aLine", "()Z"⟩, 43), (⟨"CountedTwiceModel", "bad", "(I)Z"⟩, 43)]
theorem lw_r3 : ∀ q ∈ lw_privs_3, lw_okq q := List.forall_mem_cons.mpr ⟨lw_p32, List.forall_mem_cons.mpr ⟨lw_p33, List.forall_mem_cons.mpr ⟨lw_p34, List.forall_mem_cons.mpr ⟨lw_p35, List.forall_mem_cons.mpr ⟨lw_p36, List.forall_mem_cons.mpr ⟨lw_p37, List.forall_mem_cons.mpr ⟨lw_p38, List.forall_mem_cons.mpr ⟨lw_p39, List.forall_mem_cons.mpr ⟨lw_p40, List.forall_mem_cons.mpr ⟨lw_p41, List.forall_mem_cons.mpr ⟨lw_p42, List.forall_mem_cons.mpr ⟨lw_p43, List.forall_mem_cons.mpr ⟨lw_p44, List.forall_mem_cons.mpr ⟨lw_p45, List.forall_mem_cons.mpr ⟨lw_p46, List.forall_mem_cons.mpr ⟨lw_p47, fun _ h => absurd h List.not_mem_nil⟩⟩⟩⟩⟩⟩⟩⟩⟩⟩⟩⟩⟩⟩⟩⟩
theorem lw_p48 : lw_okq (⟨"CountedTwiceModel", "need", "(I)Z"⟩, 43) := ⟨⟨by decide +kernel, by decide +kernel⟩, List.mem_of_getElem? (i := 1194) (by decide +kernel), List.mem_of_getElem? (i := 1451) (by decide +kernel), List.mem_of_getElem? (i := 1452) (by decide +kernel)⟩
theorem lw_p49 : lw_okq (⟨"CountedTwiceModel", "any", "()Z"⟩, 43) := ⟨⟨by decide +kernel, by decide +kernel⟩, List.mem_of_getElem? (i := 1194) (by decide +kernel), List.mem_of_getElem? (i := 1455) (by decide +kernel), List.mem_of_getElem? (i := 1456) (by decide +kernel)⟩
theorem lw_p50 : lw_okq (⟨"CountedTwiceModel", "every", "()Z"⟩, 43) := ⟨⟨by decide +kernel, by decide +kernel⟩, List.mem_of_getElem? (i := 1194) (by decide +kernel), List.mem_of_getElem? (i := 1459) (by decide +kernel), List.mem_of_getElem? (i := 1460) (by decide +kernel)⟩
theorem lw_p51 : lw_okq (⟨"CountedTwiceModel", "one", "()Z"⟩, 43) := ⟨⟨by decide +kernel, by decide +kernel⟩, List.mem_of_getElem? (i := 1194) (by decide +kernel), List.mem_of_getElem? (i := 1463) (by decide +kernel), List.mem_of_getElem? (i := 1464) (by decide +kernel)⟩
theorem lw_p52 : lw_okq (⟨"CountedTwiceModel", "opens", "()Z"⟩, 43) := ⟨⟨by decide +kernel, by decide +kernel⟩, List.mem_of_getElem? (i := 1194) (by decide +kernel), List.mem_of_getElem? (i := 1467) (by decide +kernel), List.mem_of_getElem? (i := 1468) (by decide +kernel)⟩
theorem lw_p53 : lw_okq (⟨"CountedTwiceModel", "lay", "(II)V"⟩, 43) := ⟨⟨by decide +kernel, by decide +kernel⟩, List.mem_of_getElem? (i := 1194) (by decide +kernel), List.mem_of_getElem? (i := 1471) (by decide +kernel), List.mem_of_getElem? (i := 1472) (by decide +kernel)⟩
theorem lw_p54 : lw_okq (⟨"CountedTwiceModel", "sumUp", "()Z"⟩, 43) := ⟨⟨by decide +kernel, by decide +kernel⟩, List.mem_of_getElem? (i := 1194) (by decide +kernel), List.mem_of_getElem? (i := 1475) (by decide +kernel), List.mem_of_getElem? (i := 1476) (by decide +kernel)⟩
theorem lw_p55 : lw_okq (⟨"CountedTwiceModel", "product", "()Z"⟩, 43) := ⟨⟨by decide +kernel, by decide +kernel⟩, List.mem_of_getElem? (i := 1194) (by decide +kernel), List.mem_of_getElem? (i := 1479) (by decide +kernel), List.mem_of_getElem? (i := 1480) (by decide +kernel)⟩
theorem lw_p56 : lw_okq (⟨"CountedTwiceModel", "unit", "()Z"⟩, 43) := ⟨⟨by decide +kernel, by decide +kernel⟩, List.mem_of_getElem? (i := 1194) (by decide +kernel), List.mem_of_getElem? (i := 1483) (by decide +kernel), List.mem_of_getElem? (i := 1484) (by decide +kernel)⟩
theorem lw_p57 : lw_okq (⟨"CountedTwiceModel", "isEntry", "(I)Z"⟩, 43) := ⟨⟨by decide +kernel, by decide +kernel⟩, List.mem_of_getElem? (i := 1194) (by decide +kernel), List.mem_of_getElem? (i := 1499) (by decide +kernel), List.mem_of_getElem? (i := 1500) (by decide +kernel)⟩
theorem lw_p58 : lw_okq (⟨"CountedTwiceModel", "own", "(II)I"⟩, 43) := ⟨⟨by decide +kernel, by decide +kernel⟩, List.mem_of_getElem? (i := 1194) (by decide +kernel), List.mem_of_getElem? (i := 1503) (by decide +kernel), List.mem_of_getElem? (i := 1504) (by decide +kernel)⟩
theorem lw_p59 : lw_okq (⟨"CountedTwiceModel", "letters", "(II)I"⟩, 43) := ⟨⟨by decide +kernel, by decide +kernel⟩, List.mem_of_getElem? (i := 1194) (by decide +kernel), List.mem_of_getElem? (i := 1515) (by decide +kernel), List.mem_of_getElem? (i := 1516) (by decide +kernel)⟩
theorem lw_p60 : lw_okq (⟨"CountedTwiceModel", "areAlike", "(III)Z"⟩, 43) := ⟨⟨by decide +kernel, by decide +kernel⟩, List.mem_of_getElem? (i := 1194) (by decide +kernel), List.mem_of_getElem? (i := 1519) (by decide +kernel), List.mem_of_getElem? (i := 1520) (by decide +kernel)⟩
theorem lw_p61 : lw_okq (⟨"CountedTwiceModel", "isSo", "(II)Z"⟩, 43) := ⟨⟨by decide +kernel, by decide +kernel⟩, List.mem_of_getElem? (i := 1194) (by decide +kernel), List.mem_of_getElem? (i := 1523) (by decide +kernel), List.mem_of_getElem? (i := 1524) (by decide +kernel)⟩
theorem lw_p62 : lw_okq (⟨"CountedTwiceModel", "isHome", "(III)Z"⟩, 43) := ⟨⟨by decide +kernel, by decide +kernel⟩, List.mem_of_getElem? (i := 1194) (by decide +kernel), List.mem_of_getElem? (i := 1534) (by decide +kernel), List.mem_of_getElem? (i := 1535) (by decide +kernel)⟩
theorem lw_p63 : lw_okq (⟨"CountedTwiceModel", "isKnown", "(I)Z"⟩, 43) := ⟨⟨by decide +kernel, by decide +kernel⟩, List.mem_of_getElem? (i := 1194) (by decide +kernel), List.mem_of_getElem? (i := 1542) (by decide +kernel), List.mem_of_getElem? (i := 1543) (by decide +kernel)⟩
def lw_privs_4 : List (MethodName × Nat) := [(⟨"CountedTwiceModel", "need", "(I)Z"⟩, 43), (⟨"CountedTwiceModel", "any", "()Z"⟩, 43), (⟨"CountedTwiceModel", "every", "()Z"⟩, 43), (⟨"CountedTwiceModel", "one", "()Z"⟩, 43), (⟨"CountedTwiceModel", "opens", "()Z"⟩, 43), (⟨"CountedTwiceModel", "lay", "(II)V"⟩, 43), (⟨"CountedTwiceModel", "sumUp", "()Z"⟩, 43), (⟨"CountedTwiceModel", "product", "()Z"⟩, 43), (⟨"CountedTwiceModel", "unit", "()Z"⟩, 43), (⟨"CountedTwiceModel", "isEntry", "(I)Z"⟩, 43), (⟨"CountedTwiceModel", "own", "(II)I"⟩, 43), (⟨"CountedTwiceModel", "letters", "(II)I"⟩, 43), (⟨"CountedTwiceModel", "areAlike", "(III)Z"⟩, 43), (⟨"CountedTwiceModel", "isSo", "(II)Z"⟩, 43), (⟨"CountedTwiceModel", "isHome", "(III)Z"⟩, 43), (⟨"CountedTwiceModel", "isKnown", "(I)Z"⟩, 43)]
theorem lw_r4 : ∀ q ∈ lw_privs_4, lw_okq q := List.forall_mem_cons.mpr ⟨lw_p48, List.forall_mem_cons.mpr ⟨lw_p49, List.forall_mem_cons.mpr ⟨lw_p50, List.forall_mem_cons.mpr ⟨lw_p51, List.forall_mem_cons.mpr ⟨lw_p52, List.forall_mem_cons.mpr ⟨lw_p53, List.forall_mem_cons.mpr ⟨lw_p54, List.forall_mem_cons.mpr ⟨lw_p55, List.forall_mem_cons.mpr ⟨lw_p56, List.forall_mem_cons.mpr ⟨lw_p57, List.forall_mem_cons.mpr ⟨lw_p58, List.forall_mem_cons.mpr ⟨lw_p59, List.forall_mem_cons.mpr ⟨lw_p60, List.forall_mem_cons.mpr ⟨lw_p61, List.forall_mem_cons.mpr ⟨lw_p62, List.forall_mem_cons.mpr ⟨lw_p63, fun _ h => absurd h List.not_mem_nil⟩⟩⟩⟩⟩⟩⟩⟩⟩⟩⟩⟩⟩⟩⟩⟩
theorem lw_p64 : lw_okq (⟨"CountedTwiceModel", "laysPersons", "()V"⟩, 43) := ⟨⟨by decide +kernel, by decide +kernel⟩, List.mem_of_getElem? (i := 1194) (by decide +kernel), List.mem_of_getElem? (i := 1546) (by decide +kernel), List.mem_of_getElem? (i := 1547) (by decide +kernel)⟩
theorem lw_p65 : lw_okq (⟨"CountedTwiceModel", "whatIs", "(I)I"⟩, 43) := ⟨⟨by decide +kernel, by decide +kernel⟩, List.mem_of_getElem? (i := 1194) (by decide +kernel), List.mem_of_getElem? (i := 1554) (by decide +kernel), List.mem_of_getElem? (i := 1555) (by decide +kernel)⟩
theorem lw_p66 : lw_okq (⟨"CountedTwiceModel", "housesOf", "(I)I"⟩, 43) := ⟨⟨by decide +kernel, by decide +kernel⟩, List.mem_of_getElem? (i := 1194) (by decide +kernel), List.mem_of_getElem? (i := 1558) (by decide +kernel), List.mem_of_getElem? (i := 1559) (by decide +kernel)⟩
theorem lw_p67 : lw_okq (⟨"CountedTwiceModel", "laysCouples", "()V"⟩, 43) := ⟨⟨by decide +kernel, by decide +kernel⟩, List.mem_of_getElem? (i := 1194) (by decide +kernel), List.mem_of_getElem? (i := 1570) (by decide +kernel), List.mem_of_getElem? (i := 1571) (by decide +kernel)⟩
theorem lw_p68 : lw_okq (⟨"CountedTwiceModel", "findsMate", "(I)Z"⟩, 43) := ⟨⟨by decide +kernel, by decide +kernel⟩, List.mem_of_getElem? (i := 1194) (by decide +kernel), List.mem_of_getElem? (i := 1574) (by decide +kernel), List.mem_of_getElem? (i := 1575) (by decide +kernel)⟩
theorem lw_p69 : lw_okq (⟨"CountedTwiceModel", "laysChoose", "()V"⟩, 43) := ⟨⟨by decide +kernel, by decide +kernel⟩, List.mem_of_getElem? (i := 1194) (by decide +kernel), List.mem_of_getElem? (i := 1583) (by decide +kernel), List.mem_of_getElem? (i := 1584) (by decide +kernel)⟩
theorem lw_p70 : lw_okq (⟨"CountedTwiceModel", "of0", "(II)J"⟩, 43) := ⟨⟨by decide +kernel, by decide +kernel⟩, List.mem_of_getElem? (i := 1194) (by decide +kernel), List.mem_of_getElem? (i := 1587) (by decide +kernel), List.mem_of_getElem? (i := 1588) (by decide +kernel)⟩
theorem lw_p71 : lw_okq (⟨"CountedTwiceModel", "laysBook", "(II)I"⟩, 43) := ⟨⟨by decide +kernel, by decide +kernel⟩, List.mem_of_getElem? (i := 1194) (by decide +kernel), List.mem_of_getElem? (i := 1598) (by decide +kernel), List.mem_of_getElem? (i := 1599) (by decide +kernel)⟩
theorem lw_p72 : lw_okq (⟨"CountedTwiceModel", "isAhead", "(II)Z"⟩, 43) := ⟨⟨by decide +kernel, by decide +kernel⟩, List.mem_of_getElem? (i := 1194) (by decide +kernel), List.mem_of_getElem? (i := 1602) (by decide +kernel), List.mem_of_getElem? (i := 1603) (by decide +kernel)⟩
theorem lw_p73 : lw_okq (⟨"CountedTwiceModel", "ghosts", "(I)I"⟩, 43) := ⟨⟨by decide +kernel, by decide +kernel⟩, List.mem_of_getElem? (i := 1194) (by decide +kernel), List.mem_of_getElem? (i := 1606) (by decide +kernel), List.mem_of_getElem? (i := 1607) (by decide +kernel)⟩
theorem lw_p74 : lw_okq (⟨"CountedTwiceModel", "quick", "(II)I"⟩, 43) := ⟨⟨by decide +kernel, by decide +kernel⟩, List.mem_of_getElem? (i := 1194) (by decide +kernel), List.mem_of_getElem? (i := 1610) (by decide +kernel), List.mem_of_getElem? (i := 1611) (by decide +kernel)⟩
theorem lw_p75 : lw_okq (⟨"CountedTwiceModel", "evenness", "(I)I"⟩, 43) := ⟨⟨by decide +kernel, by decide +kernel⟩, List.mem_of_getElem? (i := 1194) (by decide +kernel), List.mem_of_getElem? (i := 1614) (by decide +kernel), List.mem_of_getElem? (i := 1615) (by decide +kernel)⟩
theorem lw_p76 : lw_okq (⟨"CountedTwiceModel", "aDigit", "(I)V"⟩, 43) := ⟨⟨by decide +kernel, by decide +kernel⟩, List.mem_of_getElem? (i := 1194) (by decide +kernel), List.mem_of_getElem? (i := 1622) (by decide +kernel), List.mem_of_getElem? (i := 1623) (by decide +kernel)⟩
theorem lw_p77 : lw_okq (⟨"CountedTwiceModel", "isRight", "(II)Z"⟩, 43) := ⟨⟨by decide +kernel, by decide +kernel⟩, List.mem_of_getElem? (i := 1194) (by decide +kernel), List.mem_of_getElem? (i := 1638) (by decide +kernel), List.mem_of_getElem? (i := 1639) (by decide +kernel)⟩
theorem lw_p78 : lw_okq (⟨"CountedTwiceModel", "laysSlots", "()I"⟩, 43) := ⟨⟨by decide +kernel, by decide +kernel⟩, List.mem_of_getElem? (i := 1194) (by decide +kernel), List.mem_of_getElem? (i := 1658) (by decide +kernel), List.mem_of_getElem? (i := 1659) (by decide +kernel)⟩
theorem lw_p79 : lw_okq (⟨"CountedTwiceModel", "missed", "(I)I"⟩, 43) := ⟨⟨by decide +kernel, by decide +kernel⟩, List.mem_of_getElem? (i := 1194) (by decide +kernel), List.mem_of_getElem? (i := 1662) (by decide +kernel), List.mem_of_getElem? (i := 1663) (by decide +kernel)⟩
def lw_privs_5 : List (MethodName × Nat) := [(⟨"CountedTwiceModel", "laysPersons", "()V"⟩, 43), (⟨"CountedTwiceModel", "whatIs", "(I)I"⟩, 43), (⟨"CountedTwiceModel", "housesOf", "(I)I"⟩, 43), (⟨"CountedTwiceModel", "laysCouples", "()V"⟩, 43), (⟨"CountedTwiceModel", "findsMate", "(I)Z"⟩, 43), (⟨"CountedTwiceModel", "laysChoose", "()V"⟩, 43), (⟨"CountedTwiceModel", "of0", "(II)J"⟩, 43), (⟨"CountedTwiceModel", "laysBook", "(II)I"⟩, 43), (⟨"CountedTwiceModel", "isAhead", "(II)Z"⟩, 43), (⟨"CountedTwiceModel", "ghosts", "(I)I"⟩, 43), (⟨"CountedTwiceModel", "quick", "(II)I"⟩, 43), (⟨"CountedTwiceModel", "evenness", "(I)I"⟩, 43), (⟨"CountedTwiceModel", "aDigit", "(I)V"⟩, 43), (⟨"CountedTwiceModel", "isRight", "(II)Z"⟩, 43), (⟨"CountedTwiceModel", "laysSlots", "()I"⟩, 43), (⟨"CountedTwiceModel", "missed", "(I)I"⟩, 43)]
theorem lw_r5 : ∀ q ∈ lw_privs_5, lw_okq q := List.forall_mem_cons.mpr ⟨lw_p64, List.forall_mem_cons.mpr ⟨lw_p65, List.forall_mem_cons.mpr ⟨lw_p66, List.forall_mem_cons.mpr ⟨lw_p67, List.forall_mem_cons.mpr ⟨lw_p68, List.forall_mem_cons.mpr ⟨lw_p69, List.forall_mem_cons.mpr ⟨lw_p70, List.forall_mem_cons.mpr ⟨lw_p71, List.forall_mem_cons.mpr ⟨lw_p72, List.forall_mem_cons.mpr ⟨lw_p73, List.forall_mem_cons.mpr ⟨lw_p74, List.forall_mem_cons.mpr ⟨lw_p75, List.forall_mem_cons.mpr ⟨lw_p76, List.forall_mem_cons.mpr ⟨lw_p77, List.forall_mem_cons.mpr ⟨lw_p78, List.forall_mem_cons.mpr ⟨lw_p79, fun _ h => absurd h List.not_mem_nil⟩⟩⟩⟩⟩⟩⟩⟩⟩⟩⟩⟩⟩⟩⟩⟩
theorem lw_p80 : lw_okq (⟨"CountedTwiceModel", "isOpen", "(II)Z"⟩, 43) := ⟨⟨by decide +kernel, by decide +kernel⟩, List.mem_of_getElem? (i := 1194) (by decide +kernel), List.mem_of_getElem? (i := 1666) (by decide +kernel), List.mem_of_getElem? (i := 1667) (by decide +kernel)⟩
theorem lw_p81 : lw_okq (⟨"CountedTwiceModel", "aWalk", "(II)V"⟩, 43) := ⟨⟨by decide +kernel, by decide +kernel⟩, List.mem_of_getElem? (i := 1194) (by decide +kernel), List.mem_of_getElem? (i := 1674) (by decide +kernel), List.mem_of_getElem? (i := 1675) (by decide +kernel)⟩
theorem lw_p82 : lw_okq (⟨"CountedTwiceModel", "draw", "(I)I"⟩, 43) := ⟨⟨by decide +kernel, by decide +kernel⟩, List.mem_of_getElem? (i := 1194) (by decide +kernel), List.mem_of_getElem? (i := 1682) (by decide +kernel), List.mem_of_getElem? (i := 1683) (by decide +kernel)⟩
theorem lw_p83 : lw_okq (⟨"CountedTwiceModel", "known", "()I"⟩, 43) := ⟨⟨by decide +kernel, by decide +kernel⟩, List.mem_of_getElem? (i := 1194) (by decide +kernel), List.mem_of_getElem? (i := 1696) (by decide +kernel), List.mem_of_getElem? (i := 1697) (by decide +kernel)⟩
def lw_privs_6 : List (MethodName × Nat) := [(⟨"CountedTwiceModel", "isOpen", "(II)Z"⟩, 43), (⟨"CountedTwiceModel", "aWalk", "(II)V"⟩, 43), (⟨"CountedTwiceModel", "draw", "(I)I"⟩, 43), (⟨"CountedTwiceModel", "known", "()I"⟩, 43)]
theorem lw_r6 : ∀ q ∈ lw_privs_6, lw_okq q := List.forall_mem_cons.mpr ⟨lw_p80, List.forall_mem_cons.mpr ⟨lw_p81, List.forall_mem_cons.mpr ⟨lw_p82, List.forall_mem_cons.mpr ⟨lw_p83, fun _ h => absurd h List.not_mem_nil⟩⟩⟩⟩
def lw_privs : List (MethodName × Nat) := lw_privs_1 ++ (lw_privs_2 ++ (lw_privs_3 ++ (lw_privs_4 ++ (lw_privs_5 ++ (lw_privs_6)))))
def lw_tbl : List Cond := k2_sels lw_privs ++ tables_1
theorem lw_privs_ok : ∀ q ∈ lw_privs, lw_okq q := by
  show ∀ q ∈ lw_privs_1 ++ (lw_privs_2 ++ (lw_privs_3 ++ (lw_privs_4 ++ (lw_privs_5 ++ (lw_privs_6))))), lw_okq q
  exact List.forall_mem_append.mpr ⟨lw_r1, List.forall_mem_append.mpr ⟨lw_r2, List.forall_mem_append.mpr ⟨lw_r3, List.forall_mem_append.mpr ⟨lw_r4, List.forall_mem_append.mpr ⟨lw_r5, lw_r6⟩⟩⟩⟩⟩
-- classes: names, fields, types (out of the printed names)
def RX0 : String := "CountedTwice$Book"
def TX0 : u_T := fun k => match k with
  | 0 => ("CountedTwice$Book", "told", "I", false)
  | 1 => ("CountedTwice$Book", "time", "I", false)
  | 2 => ("CountedTwice$Book", "seenFrom", "I", false)
  | 3 => ("CountedTwice$Book", "facts", "[I", true)
  | 4 => ("CountedTwice$Book", "knownFrom", "[I", true)
  | 5 => ("CountedTwice$Book", "knownTill", "[I", true)
  | 6 => ("CountedTwice$Book", "lengths", "[I", true)
  | _ => ("CountedTwice$Book", "letters", "[B", true)
def tyX0 : Nat → FieldType := fun k => match k with
  | 0 => .int
  | 1 => .int
  | 2 => .int
  | 3 => .array .int
  | 4 => .array .int
  | 5 => .array .int
  | 6 => .array .int
  | _ => .array .byte
abbrev wsX00 : List Cond := u_ws RX0 TX0 8
theorem nmX0 : ∀ a, a < 8 → ∀ b, b < 8 → a ≠ b → (TX0 a).2.1 ≠ (TX0 b).2.1 := by decide +kernel
theorem tyX0_ok : ∀ k, k < 8 → parseFieldDescriptor (TX0 k).2.2.1 = some (tyX0 k) := by decide +kernel
def RX1 : String := "CountedTwice$Checks"
def TX1 : u_T := fun k => match k with
  | 0 => ("CountedTwice$Checks", "world", "LCountedTwice$World;", true)
  | 1 => ("CountedTwice$Checks", "often", "[I", true)
  | _ => ("CountedTwice$Checks", "ways", "[J", true)
def tyX1 : Nat → FieldType := fun k => match k with
  | 0 => .object "CountedTwice$World"
  | 1 => .array .int
  | _ => .array .long
abbrev wsX10 : List Cond := u_ws RX1 TX1 3
theorem nmX1 : ∀ a, a < 3 → ∀ b, b < 3 → a ≠ b → (TX1 a).2.1 ≠ (TX1 b).2.1 := by decide +kernel
theorem tyX1_ok : ∀ k, k < 3 → parseFieldDescriptor (TX1 k).2.2.1 = some (tyX1 k) := by decide +kernel
def RX2 : String := "CountedTwice$LastDays"
def TX2 : u_T := fun k => match k with
  | 0 => ("CountedTwice$LastDays", "days", "I", false)
  | 1 => ("CountedTwice$LastDays", "counters", "I", false)
  | 2 => ("CountedTwice$LastDays", "streets", "[I", true)
  | 3 => ("CountedTwice$LastDays", "strengths", "[I", true)
  | 4 => ("CountedTwice$LastDays", "isClosed", "[Z", true)
  | _ => ("CountedTwice$LastDays", "slots", "[I", true)
def tyX2 : Nat → FieldType := fun k => match k with
  | 0 => .int
  | 1 => .int
  | 2 => .array .int
  | 3 => .array .int
  | 4 => .array .boolean
  | _ => .array .int
abbrev wsX20 : List Cond := u_ws RX2 TX2 6
theorem nmX2 : ∀ a, a < 6 → ∀ b, b < 6 → a ≠ b → (TX2 a).2.1 ≠ (TX2 b).2.1 := by decide +kernel
theorem tyX2_ok : ∀ k, k < 6 → parseFieldDescriptor (TX2 k).2.2.1 = some (tyX2 k) := by decide +kernel
def RX3 : String := "CountedTwice$Likeness"
def TX3 : u_T := fun k => match k with
  | 0 => ("CountedTwice$Likeness", "world", "LCountedTwice$World;", true)
  | 1 => ("CountedTwice$Likeness", "given", "[I", true)
  | 2 => ("CountedTwice$Likeness", "fewest", "[I", true)
  | 3 => ("CountedTwice$Likeness", "asked", "[J", true)
  | _ => ("CountedTwice$Likeness", "agreed", "[J", true)
def tyX3 : Nat → FieldType := fun k => match k with
  | 0 => .object "CountedTwice$World"
  | 1 => .array .int
  | 2 => .array .int
  | 3 => .array .long
  | _ => .array .long
abbrev wsX30 : List Cond := u_ws RX3 TX3 5
theorem nmX3 : ∀ a, a < 5 → ∀ b, b < 5 → a ≠ b → (TX3 a).2.1 ≠ (TX3 b).2.1 := by decide +kernel
theorem tyX3_ok : ∀ k, k < 5 → parseFieldDescriptor (TX3 k).2.2.1 = some (tyX3 k) := by decide +kernel
def RX4 : String := "CountedTwice$Parser"
def TX4 : u_T := fun k => match k with
  | 0 => ("CountedTwice$Parser", "fault", "I", false)
  | 1 => ("CountedTwice$Parser", "faultPlace", "I", false)
  | 2 => ("CountedTwice$Parser", "lines", "I", false)
  | 3 => ("CountedTwice$Parser", "length", "I", false)
  | 4 => ("CountedTwice$Parser", "words", "[I", true)
  | 5 => ("CountedTwice$Parser", "kinds", "[I", true)
  | 6 => ("CountedTwice$Parser", "places", "[I", true)
  | 7 => ("CountedTwice$Parser", "numbers", "[I", true)
  | 8 => ("CountedTwice$Parser", "tokens", "I", false)
  | _ => ("CountedTwice$Parser", "at", "I", false)
def tyX4 : Nat → FieldType := fun k => match k with
  | 0 => .int
  | 1 => .int
  | 2 => .int
  | 3 => .int
  | 4 => .array .int
  | 5 => .array .int
  | 6 => .array .int
  | 7 => .array .int
  | 8 => .int
  | _ => .int
abbrev wsX40 : List Cond := u_ws RX4 TX4 10
theorem nmX4 : ∀ a, a < 10 → ∀ b, b < 10 → a ≠ b → (TX4 a).2.1 ≠ (TX4 b).2.1 := by decide +kernel
theorem tyX4_ok : ∀ k, k < 10 → parseFieldDescriptor (TX4 k).2.2.1 = some (tyX4 k) := by decide +kernel
def RX5 : String := "CountedTwice$Persons"
def TX5 : u_T := fun k => match k with
  | 0 => ("CountedTwice$Persons", "size", "I", false)
  | 1 => ("CountedTwice$Persons", "world", "LCountedTwice$World;", true)
  | 2 => ("CountedTwice$Persons", "likeness", "LCountedTwice$Likeness;", true)
  | 3 => ("CountedTwice$Persons", "isStale", "Z", false)
  | 4 => ("CountedTwice$Persons", "ofEntries", "[I", true)
  | 5 => ("CountedTwice$Persons", "entries", "[I", true)
  | 6 => ("CountedTwice$Persons", "least", "[I", true)
  | 7 => ("CountedTwice$Persons", "counts", "[I", true)
  | 8 => ("CountedTwice$Persons", "houses", "[J", true)
  | 9 => ("CountedTwice$Persons", "queue", "[I", true)
  | 10 => ("CountedTwice$Persons", "couples", "I", false)
  | 11 => ("CountedTwice$Persons", "possible", "[J", true)
  | 12 => ("CountedTwice$Persons", "partner", "[I", true)
  | _ => ("CountedTwice$Persons", "comeFrom", "[I", true)
def tyX5 : Nat → FieldType := fun k => match k with
  | 0 => .int
  | 1 => .object "CountedTwice$World"
  | 2 => .object "CountedTwice$Likeness"
  | 3 => .boolean
  | 4 => .array .int
  | 5 => .array .int
  | 6 => .array .int
  | 7 => .array .int
  | 8 => .array .long
  | 9 => .array .int
  | 10 => .int
  | 11 => .array .long
  | 12 => .array .int
  | _ => .array .int
abbrev wsX50 : List Cond := u_ws RX5 TX5 14
theorem nmX5 : ∀ a, a < 14 → ∀ b, b < 14 → a ≠ b → (TX5 a).2.1 ≠ (TX5 b).2.1 := by decide +kernel
theorem tyX5_ok : ∀ k, k < 14 → parseFieldDescriptor (TX5 k).2.2.1 = some (tyX5 k) := by decide +kernel
def RX6 : String := "CountedTwice$Round"
def TX6 : u_T := fun k => match k with
  | 0 => ("CountedTwice$Round", "steps", "I", false)
  | 1 => ("CountedTwice$Round", "houses", "[I", true)
  | _ => ("CountedTwice$Round", "minutes", "[I", true)
def tyX6 : Nat → FieldType := fun k => match k with
  | 0 => .int
  | 1 => .array .int
  | _ => .array .int
abbrev wsX60 : List Cond := u_ws RX6 TX6 3
theorem nmX6 : ∀ a, a < 3 → ∀ b, b < 3 → a ≠ b → (TX6 a).2.1 ≠ (TX6 b).2.1 := by decide +kernel
theorem tyX6_ok : ∀ k, k < 3 → parseFieldDescriptor (TX6 k).2.2.1 = some (tyX6 k) := by decide +kernel
def RX7 : String := "CountedTwice$Search"
def TX7 : u_T := fun k => match k with
  | 0 => ("CountedTwice$Search", "reached", "[J", false)
  | 1 => ("CountedTwice$Search", "next", "[J", false)
  | 2 => ("CountedTwice$Search", "weights", "[I", true)
  | 3 => ("CountedTwice$Search", "bases", "[I", true)
  | _ => ("CountedTwice$Search", "wordsUsed", "I", false)
def tyX7 : Nat → FieldType := fun k => match k with
  | 0 => .array .long
  | 1 => .array .long
  | 2 => .array .int
  | 3 => .array .int
  | _ => .int
abbrev wsX70 : List Cond := u_ws RX7 TX7 5
theorem nmX7 : ∀ a, a < 5 → ∀ b, b < 5 → a ≠ b → (TX7 a).2.1 ≠ (TX7 b).2.1 := by decide +kernel
theorem tyX7_ok : ∀ k, k < 5 → parseFieldDescriptor (TX7 k).2.2.1 = some (tyX7 k) := by decide +kernel
def RX8 : String := "CountedTwice$Text"
def TX8 : u_T := fun k => match k with
  | 0 => ("CountedTwice$Text", "lines", "I", false)
  | 1 => ("CountedTwice$Text", "words", "[I", true)
  | 2 => ("CountedTwice$Text", "length", "I", false)
  | _ => ("CountedTwice$Text", "stack", "[I", true)
def tyX8 : Nat → FieldType := fun k => match k with
  | 0 => .int
  | 1 => .array .int
  | 2 => .int
  | _ => .array .int
abbrev wsX80 : List Cond := u_ws RX8 TX8 4
theorem nmX8 : ∀ a, a < 4 → ∀ b, b < 4 → a ≠ b → (TX8 a).2.1 ≠ (TX8 b).2.1 := by decide +kernel
theorem tyX8_ok : ∀ k, k < 4 → parseFieldDescriptor (TX8 k).2.2.1 = some (tyX8 k) := by decide +kernel
def RX9 : String := "CountedTwice$Town"
def TX9 : u_T := fun k => match k with
  | 0 => ("CountedTwice$Town", "houses", "I", false)
  | 1 => ("CountedTwice$Town", "pace", "I", false)
  | 2 => ("CountedTwice$Town", "sit", "I", false)
  | 3 => ("CountedTwice$Town", "streets", "[I", true)
  | 4 => ("CountedTwice$Town", "numbers", "[I", true)
  | 5 => ("CountedTwice$Town", "kinds", "[I", true)
  | _ => ("CountedTwice$Town", "gaps", "[I", true)
def tyX9 : Nat → FieldType := fun k => match k with
  | 0 => .int
  | 1 => .int
  | 2 => .int
  | 3 => .array .int
  | 4 => .array .int
  | 5 => .array .int
  | _ => .array .int
abbrev wsX90 : List Cond := u_ws RX9 TX9 7
theorem nmX9 : ∀ a, a < 7 → ∀ b, b < 7 → a ≠ b → (TX9 a).2.1 ≠ (TX9 b).2.1 := by decide +kernel
theorem tyX9_ok : ∀ k, k < 7 → parseFieldDescriptor (TX9 k).2.2.1 = some (tyX9 k) := by decide +kernel
def RX10 : String := "CountedTwice$World"
def TX10 : u_T := fun k => match k with
  | 0 => ("CountedTwice$World", "draws", "I", false)
  | 1 => ("CountedTwice$World", "town", "LCountedTwice$Town;", true)
  | 2 => ("CountedTwice$World", "book", "LCountedTwice$Book;", true)
  | 3 => ("CountedTwice$World", "same", "LCountedTwice$Text;", true)
  | 4 => ("CountedTwice$World", "maybe", "LCountedTwice$Text;", true)
  | 5 => ("CountedTwice$World", "home", "LCountedTwice$Text;", true)
  | 6 => ("CountedTwice$World", "round", "LCountedTwice$Round;", true)
  | 7 => ("CountedTwice$World", "last", "LCountedTwice$LastDays;", true)
  | _ => ("CountedTwice$World", "given", "[I", true)
def tyX10 : Nat → FieldType := fun k => match k with
  | 0 => .int
  | 1 => .object "CountedTwice$Town"
  | 2 => .object "CountedTwice$Book"
  | 3 => .object "CountedTwice$Text"
  | 4 => .object "CountedTwice$Text"
  | 5 => .object "CountedTwice$Text"
  | 6 => .object "CountedTwice$Round"
  | 7 => .object "CountedTwice$LastDays"
  | _ => .array .int
abbrev wsX100 : List Cond := u_ws RX10 TX10 9
theorem nmX10 : ∀ a, a < 9 → ∀ b, b < 9 → a ≠ b → (TX10 a).2.1 ≠ (TX10 b).2.1 := by decide +kernel
theorem tyX10_ok : ∀ k, k < 9 → parseFieldDescriptor (TX10 k).2.2.1 = some (tyX10 k) := by decide +kernel
def RX11 : String := "CountedTwice"
def TX11 : u_T := fun k => match k with
  | 0 => ("CountedTwice", "now", "LCountedTwice$World;", true)
  | 1 => ("CountedTwice", "kept", "LCountedTwice$World;", true)
  | 2 => ("CountedTwice", "isKept", "Z", false)
  | 3 => ("CountedTwice", "tape", "[B", true)
  | 4 => ("CountedTwice", "tapeLength", "I", false)
  | 5 => ("CountedTwice", "faultKind", "I", false)
  | 6 => ("CountedTwice", "faultPlace", "I", false)
  | 7 => ("CountedTwice", "parser", "LCountedTwice$Parser;", true)
  | 8 => ("CountedTwice", "likeness", "LCountedTwice$Likeness;", true)
  | 9 => ("CountedTwice", "persons", "LCountedTwice$Persons;", true)
  | 10 => ("CountedTwice", "checks", "LCountedTwice$Checks;", true)
  | 11 => ("CountedTwice", "search", "LCountedTwice$Search;", true)
  | _ => ("CountedTwice", "slotMissed", "[I", true)
def tyX11 : Nat → FieldType := fun k => match k with
  | 0 => .object "CountedTwice$World"
  | 1 => .object "CountedTwice$World"
  | 2 => .boolean
  | 3 => .array .byte
  | 4 => .int
  | 5 => .int
  | 6 => .int
  | 7 => .object "CountedTwice$Parser"
  | 8 => .object "CountedTwice$Likeness"
  | 9 => .object "CountedTwice$Persons"
  | 10 => .object "CountedTwice$Checks"
  | 11 => .object "CountedTwice$Search"
  | _ => .array .int
abbrev wsX110 : List Cond := u_ws RX11 TX11 13
theorem nmX11 : ∀ a, a < 13 → ∀ b, b < 13 → a ≠ b → (TX11 a).2.1 ≠ (TX11 b).2.1 := by decide +kernel
theorem tyX11_ok : ∀ k, k < 13 → parseFieldDescriptor (TX11 k).2.2.1 = some (tyX11 k) := by decide +kernel
def RX12 : String := "CountedTwiceModel"
def TX12 : u_T := fun k => match k with
  | 0 => ("CountedTwiceModel", "w", "[I", true)
  | 1 => ("CountedTwiceModel", "kept", "[I", true)
  | 2 => ("CountedTwiceModel", "hasImage", "Z", false)
  | 3 => ("CountedTwiceModel", "freshLine", "[I", true)
  | 4 => ("CountedTwiceModel", "freshStep", "[I", true)
  | 5 => ("CountedTwiceModel", "tape", "[I", true)
  | 6 => ("CountedTwiceModel", "pile", "[I", true)
  | 7 => ("CountedTwiceModel", "facts", "[I", true)
  | 8 => ("CountedTwiceModel", "which", "I", false)
  | 9 => ("CountedTwiceModel", "lines", "I", false)
  | 10 => ("CountedTwiceModel", "steps", "I", false)
  | 11 => ("CountedTwiceModel", "taped", "I", false)
  | 12 => ("CountedTwiceModel", "at", "I", false)
  | 13 => ("CountedTwiceModel", "token", "I", false)
  | 14 => ("CountedTwiceModel", "tokenAt", "I", false)
  | 15 => ("CountedTwiceModel", "value", "I", false)
  | 16 => ("CountedTwiceModel", "wrong", "I", false)
  | 17 => ("CountedTwiceModel", "wrongAt", "I", false)
  | 18 => ("CountedTwiceModel", "faultKind", "I", false)
  | 19 => ("CountedTwiceModel", "depth", "I", false)
  | 20 => ("CountedTwiceModel", "faultPlace", "I", false)
  | 21 => ("CountedTwiceModel", "above", "[I", true)
  | 22 => ("CountedTwiceModel", "below", "[I", true)
  | 23 => ("CountedTwiceModel", "classOf", "[I", true)
  | 24 => ("CountedTwiceModel", "leastOf", "[I", true)
  | 25 => ("CountedTwiceModel", "waiting", "[I", true)
  | 26 => ("CountedTwiceModel", "persons", "I", false)
  | 27 => ("CountedTwiceModel", "kinds", "[I", true)
  | 28 => ("CountedTwiceModel", "isWhat", "[I", true)
  | 29 => ("CountedTwiceModel", "mate", "[I", true)
  | 30 => ("CountedTwiceModel", "seen", "[Z", true)
  | 31 => ("CountedTwiceModel", "canBeOne", "[Z", true)
  | 32 => ("CountedTwiceModel", "choose", "[J", true)
  | 33 => ("CountedTwiceModel", "book", "[I", true)
  | 34 => ("CountedTwiceModel", "digits", "[I", true)
  | 35 => ("CountedTwiceModel", "digitMany", "I", false)
  | 36 => ("CountedTwiceModel", "ways", "[J", false)
  | 37 => ("CountedTwiceModel", "nextWays", "[J", false)
  | 38 => ("CountedTwiceModel", "isSeen", "[Z", true)
  | 39 => ("CountedTwiceModel", "has", "[I", true)
  | 40 => ("CountedTwiceModel", "canBe", "[Z", false)
  | 41 => ("CountedTwiceModel", "canBeNext", "[Z", false)
  | _ => ("CountedTwiceModel", "lot", "[I", true)
def tyX12 : Nat → FieldType := fun k => match k with
  | 0 => .array .int
  | 1 => .array .int
  | 2 => .boolean
  | 3 => .array .int
  | 4 => .array .int
  | 5 => .array .int
  | 6 => .array .int
  | 7 => .array .int
  | 8 => .int
  | 9 => .int
  | 10 => .int
  | 11 => .int
  | 12 => .int
  | 13 => .int
  | 14 => .int
  | 15 => .int
  | 16 => .int
  | 17 => .int
  | 18 => .int
  | 19 => .int
  | 20 => .int
  | 21 => .array .int
  | 22 => .array .int
  | 23 => .array .int
  | 24 => .array .int
  | 25 => .array .int
  | 26 => .int
  | 27 => .array .int
  | 28 => .array .int
  | 29 => .array .int
  | 30 => .array .boolean
  | 31 => .array .boolean
  | 32 => .array .long
  | 33 => .array .int
  | 34 => .array .int
  | 35 => .int
  | 36 => .array .long
  | 37 => .array .long
  | 38 => .array .boolean
  | 39 => .array .int
  | 40 => .array .boolean
  | 41 => .array .boolean
  | _ => .array .int
abbrev wsX120 : List Cond := u_ws RX12 TX12 43
theorem nmX12 : ∀ a, a < 43 → ∀ b, b < 43 → a ≠ b → (TX12 a).2.1 ≠ (TX12 b).2.1 := by decide +kernel
theorem tyX12_ok : ∀ k, k < 43 → parseFieldDescriptor (TX12 k).2.2.1 = some (tyX12 k) := by decide +kernel
abbrev vwCl : List vw_C := [(RX0, TX0, 8), (RX1, TX1, 3), (RX2, TX2, 6), (RX3, TX3, 5), (RX4, TX4, 10), (RX5, TX5, 14), (RX6, TX6, 3), (RX7, TX7, 5), (RX8, TX8, 4), (RX9, TX9, 7), (RX10, TX10, 9), (RX11, TX11, 13), (RX12, TX12, 43)]
def lw_good : List Cond := lw_tbl.filter goodWord
theorem good_in {w : Cond} (h : w ∈ lw_good) : w ∈ lw_tbl := (List.mem_filter.mp h).1
theorem mem_ps {big ws : List Cond} (ps : List Nat) (h : ws.map some = ps.map (fun i => big[i]?)) : ∀ w ∈ ws, w ∈ big := by
  intro w hw
  have h1 : some w ∈ ws.map some := List.mem_map_of_mem hw
  rw [h] at h1
  obtain ⟨i, -, hi⟩ := List.mem_map.mp h1
  exact List.mem_of_getElem? hi
theorem mem_g {ws : List Cond} (ps : List Nat) (h : ws.map some = ps.map (fun i => lw_tbl[i]?)) (hg : ws.all goodWord = true) : ∀ w ∈ ws, w ∈ lw_good := fun w hw => List.mem_filter.mpr ⟨mem_ps ps h w hw, List.all_eq_true.mp hg w hw⟩
theorem good_all : GoodIn lw_good lw_good := fun w hw => ⟨hw, good_of_word (List.mem_filter.mp hw).2⟩
set_option maxRecDepth 100000 in
theorem inX0 : ∀ w ∈ wsX00, w ∈ lw_good := mem_g [179, 181, 183, 185, 187, 189, 191, 193] (by decide +kernel) (by decide +kernel)
set_option maxRecDepth 100000 in
theorem inX1 : ∀ w ∈ wsX10, w ∈ lw_good := mem_g [434, 436, 438] (by decide +kernel) (by decide +kernel)
set_option maxRecDepth 100000 in
theorem inX2 : ∀ w ∈ wsX20, w ∈ lw_good := mem_g [256, 258, 260, 262, 264, 266] (by decide +kernel) (by decide +kernel)
set_option maxRecDepth 100000 in
theorem inX3 : ∀ w ∈ wsX30, w ∈ lw_good := mem_g [363, 365, 367, 369, 371] (by decide +kernel) (by decide +kernel)
set_option maxRecDepth 100000 in
theorem inX4 : ∀ w ∈ wsX40, w ∈ lw_good := mem_g [331, 333, 335, 337, 339, 341, 343, 345, 347, 349] (by decide +kernel) (by decide +kernel)
set_option maxRecDepth 100000 in
theorem inX5 : ∀ w ∈ wsX50, w ∈ lw_good := mem_g [396, 398, 400, 402, 404, 406, 408, 410, 412, 414, 416, 418, 420, 422] (by decide +kernel) (by decide +kernel)
set_option maxRecDepth 100000 in
theorem inX6 : ∀ w ∈ wsX60, w ∈ lw_good := mem_g [228, 230, 232] (by decide +kernel) (by decide +kernel)
set_option maxRecDepth 100000 in
theorem inX7 : ∀ w ∈ wsX70, w ∈ lw_good := mem_g [452, 454, 456, 458, 460] (by decide +kernel) (by decide +kernel)
set_option maxRecDepth 100000 in
theorem inX8 : ∀ w ∈ wsX80, w ∈ lw_good := mem_g [209, 211, 213, 215] (by decide +kernel) (by decide +kernel)
set_option maxRecDepth 100000 in
theorem inX9 : ∀ w ∈ wsX90, w ∈ lw_good := mem_g [143, 145, 147, 149, 151, 153, 155] (by decide +kernel) (by decide +kernel)
set_option maxRecDepth 100000 in
theorem inX10 : ∀ w ∈ wsX100, w ∈ lw_good := mem_g [291, 293, 295, 297, 299, 301, 303, 305, 307] (by decide +kernel) (by decide +kernel)
set_option maxRecDepth 100000 in
theorem inX11 : ∀ w ∈ wsX110, w ∈ lw_good := mem_g [476, 478, 480, 482, 484, 486, 488, 490, 492, 494, 496, 498, 500] (by decide +kernel) (by decide +kernel)
set_option maxRecDepth 100000 in
theorem inX12 : ∀ w ∈ wsX120, w ∈ lw_good := mem_g [1327, 1329, 1331, 1333, 1335, 1337, 1339, 1341, 1343, 1345, 1347, 1349, 1351, 1353, 1355, 1357, 1359, 1361, 1363, 1365, 1367, 1369, 1371, 1373, 1375, 1377, 1379, 1381, 1383, 1385, 1387, 1389, 1391, 1393, 1395, 1397, 1399, 1401, 1403, 1405, 1407, 1409, 1411] (by decide +kernel) (by decide +kernel)
end
section
def RC : Nat → String := fun k => ([RX0, RX1, RX2, RX3, RX4, RX5, RX6, RX7, RX8, RX9, RX10, RX11, RX12, "java/util/Arrays", "java/lang/Math", "java/lang/String", "java/lang/StringLatin1", "jdk/internal/util/Preconditions", "java/lang/Long", "java/lang/Integer", "CountedTwiceLaw"] : List String).getD k ""
abbrev Mth : Type := MethodName × ByteArray × Nat × Option FieldType
def mtab_0 : List Mth := [(⟨"java/util/Arrays", "fill", "([II)V"⟩, prog_24_method_103_code, 4, none),
  (⟨"java/util/Arrays", "fill", "([JJ)V"⟩, prog_24_method_101_code, 5, none),
  (⟨"java/lang/Math", "abs", "(I)I"⟩, prog_18_method_59_code, 1, (some .int)),
  (⟨"java/lang/Math", "min", "(II)I"⟩, prog_18_method_69_code, 2, (some .int)),
  (⟨"java/lang/String", "length", "()I"⟩, prog_20_method_54_code, 1, (some .int)),
  (⟨"java/lang/String", "coder", "()B"⟩, prog_20_method_152_code, 1, (some .byte)),
  (⟨"java/lang/String", "charAt", "(I)C"⟩, prog_20_method_56_code, 2, (some .char)),
  (⟨"java/lang/String", "isLatin1", "()Z"⟩, prog_20_method_154_code, 1, (some .boolean)),
  (⟨"java/lang/StringLatin1", "charAt", "([BI)C"⟩, prog_21_method_2_code, 2, (some .char)),
  (⟨"java/lang/String", "checkIndex", "(II)V"⟩, prog_20_method_155_code, 2, none),
  (⟨"jdk/internal/util/Preconditions", "checkIndex", "(IILjava/util/function/BiFunction;)I"⟩, prog_25_method_11_code, 3, (some .int)),
  (⟨"java/lang/String", "indexOf", "(I)I"⟩, prog_20_method_79_code, 2, (some .int)),
  (⟨"java/lang/String", "indexOf", "(II)I"⟩, prog_20_method_80_code, 3, (some .int)),
  (⟨"java/lang/StringLatin1", "indexOf", "([BIII)I"⟩, prog_21_method_22_code, 4, (some .int)),
  (⟨"java/lang/StringLatin1", "canEncode", "(I)Z"⟩, prog_21_method_4_code, 1, (some .boolean)),
  (⟨"java/lang/Math", "max", "(II)I"⟩, prog_18_method_65_code, 2, (some .int)),
  (⟨"java/lang/StringLatin1", "indexOfChar", "([BIII)I"⟩, prog_21_method_23_code, 6, (some .int)),
  (⟨"java/lang/Long", "bitCount", "(J)I"⟩, prog_17_method_50_code, 2, (some .int)),
  (⟨"java/lang/Math", "floorMod", "(II)I"⟩, prog_18_method_50_code, 3, (some .int)),
  (⟨"java/lang/Long", "numberOfTrailingZeros", "(J)I"⟩, prog_17_method_49_code, 3, (some .int)),
  (⟨"java/lang/Integer", "numberOfTrailingZeros", "(I)I"⟩, prog_16_method_48_code, 2, (some .int)),
  (⟨"CountedTwice$Book", "<init>", "()V"⟩, prog_2_method_1_code, 1, none),
  (⟨"CountedTwice$Book", "copyFrom", "(LCountedTwice$Book;)V"⟩, prog_2_method_2_code, 2, none),
  (⟨"CountedTwice$Book", "sign", "([BI)V"⟩, prog_2_method_3_code, 4, none),
  (⟨"CountedTwice$Book", "write", "(IIIIII)I"⟩, prog_2_method_4_code, 8, (some .int)),
  (⟨"CountedTwice$Book", "strike", "(I)V"⟩, prog_2_method_5_code, 2, none),
  (⟨"CountedTwice$Book", "isVoid", "(I)Z"⟩, prog_2_method_6_code, 2, (some .boolean)),
  (⟨"CountedTwice$Book", "isKnown", "(I)Z"⟩, prog_2_method_7_code, 3, (some .boolean)),
  (⟨"CountedTwice$Book", "knownEntries", "()I"⟩, prog_2_method_8_code, 3, (some .int)),
  (⟨"CountedTwice$Book", "fact", "(II)I"⟩, prog_2_method_9_code, 3, (some .int)),
  (⟨"CountedTwice$Book", "nameLength", "(I)I"⟩, prog_2_method_10_code, 2, (some .int)),
  (⟨"CountedTwice$Book", "letter", "(II)I"⟩, prog_2_method_11_code, 3, (some .int)),
  (⟨"CountedTwice$Checks", "<init>", "(LCountedTwice$World;)V"⟩, prog_3_method_1_code, 2, none),
  (⟨"CountedTwice$Checks", "isBy", "(III)Z"⟩, prog_3_method_2_code, 5, (some .boolean)),
  (⟨"CountedTwice$Checks", "entriesOf", "(II)I"⟩, prog_3_method_3_code, 5, (some .int)),
  (⟨"CountedTwice$Checks", "ghosts", "(I)I"⟩, prog_3_method_4_code, 5, (some .int)),
  (⟨"CountedTwice$Checks", "quick", "(II)I"⟩, prog_3_method_5_code, 6, (some .int)),
  (⟨"CountedTwice$Checks", "order", "(I)I"⟩, prog_3_method_6_code, 3, (some .int)),
  (⟨"CountedTwice$Checks", "justAhead", "(III)I"⟩, prog_3_method_7_code, 9, (some .int)),
  (⟨"CountedTwice$Checks", "isQuick", "(II)Z"⟩, prog_3_method_8_code, 7, (some .boolean)),
  (⟨"CountedTwice$Checks", "tally", "(I)I"⟩, prog_3_method_9_code, 4, (some .int)),
  (⟨"CountedTwice$Checks", "squares", "()I"⟩, prog_3_method_10_code, 3, (some .int)),
  (⟨"CountedTwice$Checks", "evenness", "(I)I"⟩, prog_3_method_11_code, 2, (some .int)),
  (⟨"CountedTwice$Checks", "evenWays", "(I)J"⟩, prog_3_method_12_code, 7, (some .long)),
  (⟨"CountedTwice$Checks", "allowDigit", "(II)V"⟩, prog_3_method_13_code, 8, none),
  (⟨"CountedTwice$Checks", "mostSuspicious", "()I"⟩, prog_3_method_14_code, 5, (some .int)),
  (⟨"CountedTwice$LastDays", "<init>", "()V"⟩, prog_4_method_1_code, 1, none),
  (⟨"CountedTwice$LastDays", "copyFrom", "(LCountedTwice$LastDays;)V"⟩, prog_4_method_2_code, 2, none),
  (⟨"CountedTwice$LastDays", "giveStreet", "(II)Z"⟩, prog_4_method_3_code, 4, (some .boolean)),
  (⟨"CountedTwice$LastDays", "giveStrength", "(II)Z"⟩, prog_4_method_4_code, 3, (some .boolean))]
def mtab_1 : List Mth := [(⟨"CountedTwice$LastDays", "giveDays", "(I)Z"⟩, prog_4_method_5_code, 2, (some .boolean)),
  (⟨"CountedTwice$LastDays", "giveCounters", "(I)Z"⟩, prog_4_method_6_code, 2, (some .boolean)),
  (⟨"CountedTwice$LastDays", "close", "(IIZ)V"⟩, prog_4_method_7_code, 4, none),
  (⟨"CountedTwice$LastDays", "isOpen", "(II)Z"⟩, prog_4_method_8_code, 3, (some .boolean)),
  (⟨"CountedTwice$LastDays", "send", "(III)V"⟩, prog_4_method_9_code, 4, none),
  (⟨"CountedTwice$LastDays", "seenByPlan", "([I)I"⟩, prog_4_method_10_code, 7, (some .int)),
  (⟨"CountedTwice$Likeness", "<init>", "(LCountedTwice$World;)V"⟩, prog_5_method_1_code, 2, none),
  (⟨"CountedTwice$Likeness", "forget", "()V"⟩, prog_5_method_2_code, 1, none),
  (⟨"CountedTwice$Likeness", "agree", "(III)Z"⟩, prog_5_method_3_code, 7, (some .boolean)),
  (⟨"CountedTwice$Likeness", "compare", "(II)V"⟩, prog_5_method_4_code, 6, none),
  (⟨"CountedTwice$Likeness", "wayApart", "(II)I"⟩, prog_5_method_5_code, 3, (some .int)),
  (⟨"CountedTwice$Likeness", "lettersApart", "(II)I"⟩, prog_5_method_6_code, 11, (some .int)),
  (⟨"CountedTwice$Parser", "<init>", "()V"⟩, prog_6_method_1_code, 1, none),
  (⟨"CountedTwice$Parser", "read", "([BIZ)V"⟩, prog_6_method_2_code, 9, none),
  (⟨"CountedTwice$Parser", "tokenEnd", "([BII)I"⟩, prog_6_method_3_code, 6, (some .int)),
  (⟨"CountedTwice$Parser", "kindOf", "([BIILjava/lang/String;)I"⟩, prog_6_method_4_code, 5, (some .int)),
  (⟨"CountedTwice$Parser", "keyword", "([BIILjava/lang/String;)I"⟩, prog_6_method_5_code, 8, (some .int)),
  (⟨"CountedTwice$Parser", "numberIn", "([BII)I"⟩, prog_6_method_6_code, 5, (some .int)),
  (⟨"CountedTwice$Parser", "parse", "()V"⟩, prog_6_method_7_code, 3, none),
  (⟨"CountedTwice$Parser", "readAny", "(I)V"⟩, prog_6_method_8_code, 5, none),
  (⟨"CountedTwice$Parser", "readOne", "(I)V"⟩, prog_6_method_9_code, 4, none),
  (⟨"CountedTwice$Parser", "readSum", "()V"⟩, prog_6_method_10_code, 3, none),
  (⟨"CountedTwice$Parser", "readProduct", "()V"⟩, prog_6_method_11_code, 3, none),
  (⟨"CountedTwice$Parser", "readUnit", "()V"⟩, prog_6_method_12_code, 2, none),
  (⟨"CountedTwice$Parser", "kind", "()I"⟩, prog_6_method_13_code, 1, (some .int)),
  (⟨"CountedTwice$Parser", "number", "()I"⟩, prog_6_method_14_code, 1, (some .int)),
  (⟨"CountedTwice$Parser", "pass", "(I)V"⟩, prog_6_method_15_code, 2, none),
  (⟨"CountedTwice$Parser", "refuse", "(I)V"⟩, prog_6_method_16_code, 2, none),
  (⟨"CountedTwice$Parser", "emit", "(I)V"⟩, prog_6_method_17_code, 2, none),
  (⟨"CountedTwice$Persons", "<init>", "(LCountedTwice$World;LCountedTwice$Likeness;)V"⟩, prog_7_method_1_code, 3, none),
  (⟨"CountedTwice$Persons", "forget", "()V"⟩, prog_7_method_2_code, 1, none),
  (⟨"CountedTwice$Persons", "refresh", "()V"⟩, prog_7_method_3_code, 2, none),
  (⟨"CountedTwice$Persons", "gather", "(I)V"⟩, prog_7_method_4_code, 5, none),
  (⟨"CountedTwice$Persons", "join", "(II)V"⟩, prog_7_method_5_code, 4, none),
  (⟨"CountedTwice$Persons", "ofEntry", "(I)I"⟩, prog_7_method_6_code, 2, (some .int)),
  (⟨"CountedTwice$Persons", "entriesOf", "(I)I"⟩, prog_7_method_7_code, 2, (some .int)),
  (⟨"CountedTwice$Persons", "leastOf", "(I)I"⟩, prog_7_method_8_code, 2, (some .int)),
  (⟨"CountedTwice$Persons", "sortOf", "(I)I"⟩, prog_7_method_9_code, 2, (some .int)),
  (⟨"CountedTwice$Persons", "housesOf", "(I)I"⟩, prog_7_method_10_code, 2, (some .int)),
  (⟨"CountedTwice$Persons", "isIn", "(II)Z"⟩, prog_7_method_11_code, 3, (some .boolean)),
  (⟨"CountedTwice$Persons", "manyOfSort", "(II)I"⟩, prog_7_method_12_code, 5, (some .int)),
  (⟨"CountedTwice$Persons", "missedByBoth", "(I)I"⟩, prog_7_method_13_code, 3, (some .int)),
  (⟨"CountedTwice$Persons", "doubles", "(I)I"⟩, prog_7_method_14_code, 4, (some .int)),
  (⟨"CountedTwice$Persons", "mostCouples", "()I"⟩, prog_7_method_15_code, 2, (some .int)),
  (⟨"CountedTwice$Persons", "findPossible", "()V"⟩, prog_7_method_16_code, 5, none),
  (⟨"CountedTwice$Persons", "findPartner", "(I)Z"⟩, prog_7_method_17_code, 5, (some .boolean)),
  (⟨"CountedTwice$Persons", "change", "(I)V"⟩, prog_7_method_18_code, 6, none),
  (⟨"CountedTwice$Round", "<init>", "()V"⟩, prog_8_method_1_code, 1, none),
  (⟨"CountedTwice$Round", "copyFrom", "(LCountedTwice$Round;)V"⟩, prog_8_method_2_code, 2, none),
  (⟨"CountedTwice$Round", "put", "(III)I"⟩, prog_8_method_3_code, 4, (some .int))]
def mtab_2 : List Mth := [(⟨"CountedTwice$Round", "firstWrong", "(LCountedTwice$World;I)I"⟩, prog_8_method_4_code, 5, (some .int)),
  (⟨"CountedTwice$Round", "isTooSoon", "(LCountedTwice$Town;I)Z"⟩, prog_8_method_5_code, 3, (some .boolean)),
  (⟨"CountedTwice$Round", "seen", "(LCountedTwice$World;I)I"⟩, prog_8_method_6_code, 8, (some .int)),
  (⟨"CountedTwice$Search", "<init>", "()V"⟩, prog_9_method_1_code, 1, none),
  (⟨"CountedTwice$Search", "mostSeen", "(LCountedTwice$LastDays;[I)I"⟩, prog_9_method_2_code, 7, (some .int)),
  (⟨"CountedTwice$Search", "begin", "([I)I"⟩, prog_9_method_3_code, 7, (some .int)),
  (⟨"CountedTwice$Search", "clear", "([J)V"⟩, prog_9_method_4_code, 3, none),
  (⟨"CountedTwice$Search", "send", "(LCountedTwice$LastDays;II)V"⟩, prog_9_method_5_code, 8, none),
  (⟨"CountedTwice$Search", "sendFrom", "(ILCountedTwice$LastDays;II)V"⟩, prog_9_method_6_code, 8, none),
  (⟨"CountedTwice$Search", "leftIn", "(II)I"⟩, prog_9_method_7_code, 5, (some .int)),
  (⟨"CountedTwice$Search", "leastLeft", "()I"⟩, prog_9_method_8_code, 9, (some .int)),
  (⟨"CountedTwice$Text", "<init>", "()V"⟩, prog_10_method_1_code, 1, none),
  (⟨"CountedTwice$Text", "copyFrom", "(LCountedTwice$Text;)V"⟩, prog_10_method_2_code, 2, none),
  (⟨"CountedTwice$Text", "take", "(LCountedTwice$Parser;)V"⟩, prog_10_method_3_code, 2, none),
  (⟨"CountedTwice$Text", "firstLine", "([I)I"⟩, prog_10_method_4_code, 5, (some .int)),
  (⟨"CountedTwice$Text", "valueOf", "(I[I)I"⟩, prog_10_method_5_code, 2, (some .int)),
  (⟨"CountedTwice$Text", "operate", "(II)I"⟩, prog_10_method_6_code, 3, (some .int)),
  (⟨"CountedTwice$Text", "joined", "(III)I"⟩, prog_10_method_7_code, 3, (some .int)),
  (⟨"CountedTwice$Town", "<init>", "()V"⟩, prog_11_method_1_code, 1, none),
  (⟨"CountedTwice$Town", "copyFrom", "(LCountedTwice$Town;)V"⟩, prog_11_method_2_code, 2, none),
  (⟨"CountedTwice$Town", "build", "(III)I"⟩, prog_11_method_3_code, 4, (some .int)),
  (⟨"CountedTwice$Town", "streetOf", "(I)I"⟩, prog_11_method_4_code, 2, (some .int)),
  (⟨"CountedTwice$Town", "numberOf", "(I)I"⟩, prog_11_method_5_code, 2, (some .int)),
  (⟨"CountedTwice$Town", "kindOf", "(I)I"⟩, prog_11_method_6_code, 2, (some .int)),
  (⟨"CountedTwice$Town", "setGap", "(III)V"⟩, prog_11_method_7_code, 4, none),
  (⟨"CountedTwice$Town", "wayBetween", "(II)I"⟩, prog_11_method_8_code, 3, (some .int)),
  (⟨"CountedTwice$Town", "minutesBetween", "(II)I"⟩, prog_11_method_9_code, 3, (some .int)),
  (⟨"CountedTwice$Town", "housesIn", "(I)J"⟩, prog_11_method_10_code, 5, (some .long)),
  (⟨"CountedTwice$World", "<init>", "()V"⟩, prog_12_method_1_code, 1, none),
  (⟨"CountedTwice$World", "copyFrom", "(LCountedTwice$World;)V"⟩, prog_12_method_2_code, 2, none),
  (⟨"CountedTwice$World", "textOf", "(I)LCountedTwice$Text;"⟩, prog_12_method_3_code, 2, (some (.object "CountedTwice$Text"))),
  (⟨"CountedTwice$World", "draw", "(I)I"⟩, prog_12_method_4_code, 2, (some .int)),
  (⟨"CountedTwice$World", "somebodyHome", "(III)Z"⟩, prog_12_method_5_code, 4, (some .boolean)),
  (⟨"CountedTwice$World", "missed", "()J"⟩, prog_12_method_6_code, 4, (some .long)),
  (⟨"CountedTwice$World", "missedIn", "(I)I"⟩, prog_12_method_7_code, 2, (some .int)),
  (⟨"CountedTwice$World", "countSlots", "([I)V"⟩, prog_12_method_8_code, 7, none),
  (⟨"CountedTwice", "<init>", "()V"⟩, prog_1_method_1_code, 1, none),
  (⟨"CountedTwice", "state", "(I)I"⟩, prog_1_method_2_code, 3, (some .int)),
  (⟨"CountedTwice", "house", "(III)I"⟩, prog_1_method_3_code, 4, (some .int)),
  (⟨"CountedTwice", "gap", "(III)Z"⟩, prog_1_method_4_code, 4, (some .boolean)),
  (⟨"CountedTwice", "set", "(II)Z"⟩, prog_1_method_5_code, 3, (some .boolean)),
  (⟨"CountedTwice", "way", "(III)I"⟩, prog_1_method_6_code, 4, (some .int)),
  (⟨"CountedTwice", "feed", "(IIIII)I"⟩, prog_1_method_7_code, 6, (some .int)),
  (⟨"CountedTwice", "feedNumber", "(I)V"⟩, prog_1_method_8_code, 3, none),
  (⟨"CountedTwice", "end", "(I)Z"⟩, prog_1_method_9_code, 2, (some .boolean)),
  (⟨"CountedTwice", "text", "(I)I"⟩, prog_1_method_10_code, 4, (some .int)),
  (⟨"CountedTwice", "fault", "(I)I"⟩, prog_1_method_11_code, 2, (some .int)),
  (⟨"CountedTwice", "entry", "(IIIIII)I"⟩, prog_1_method_12_code, 10, (some .int)),
  (⟨"CountedTwice", "isName", "(I)Z"⟩, prog_1_method_13_code, 3, (some .boolean)),
  (⟨"CountedTwice", "voids", "(I)Z"⟩, prog_1_method_14_code, 2, (some .boolean))]
def mtab_3 : List Mth := [(⟨"CountedTwice", "view", "(I)Z"⟩, prog_1_method_15_code, 2, (some .boolean)),
  (⟨"CountedTwice", "of", "(II)I"⟩, prog_1_method_16_code, 4, (some .int)),
  (⟨"CountedTwice", "alike", "(III)I"⟩, prog_1_method_17_code, 4, (some .int)),
  (⟨"CountedTwice", "home", "(III)I"⟩, prog_1_method_18_code, 4, (some .int)),
  (⟨"CountedTwice", "person", "(II)I"⟩, prog_1_method_19_code, 3, (some .int)),
  (⟨"CountedTwice", "table", "(II)I"⟩, prog_1_method_20_code, 3, (some .int)),
  (⟨"CountedTwice", "ends", "(I)I"⟩, prog_1_method_21_code, 2, (some .int)),
  (⟨"CountedTwice", "luck", "(IIII)J"⟩, prog_1_method_22_code, 8, (some .long)),
  (⟨"CountedTwice", "counter", "(II)I"⟩, prog_1_method_23_code, 3, (some .int)),
  (⟨"CountedTwice", "even", "(I)J"⟩, prog_1_method_24_code, 2, (some .long)),
  (⟨"CountedTwice", "suspect", "()I"⟩, prog_1_method_25_code, 1, (some .int)),
  (⟨"CountedTwice", "step", "(III)I"⟩, prog_1_method_26_code, 5, (some .int)),
  (⟨"CountedTwice", "round", "(II)I"⟩, prog_1_method_27_code, 3, (some .int)),
  (⟨"CountedTwice", "last", "(III)Z"⟩, prog_1_method_28_code, 4, (some .boolean)),
  (⟨"CountedTwice", "closed", "(IIZ)Z"⟩, prog_1_method_29_code, 4, (some .boolean)),
  (⟨"CountedTwice", "plan", "(III)Z"⟩, prog_1_method_30_code, 5, (some .boolean)),
  (⟨"CountedTwice", "planned", "()I"⟩, prog_1_method_31_code, 1, (some .int)),
  (⟨"CountedTwice", "best", "()I"⟩, prog_1_method_32_code, 1, (some .int)),
  (⟨"CountedTwice", "lots", "(I)J"⟩, prog_1_method_33_code, 10, (some .long)),
  (⟨"CountedTwice", "image", "(Z)Z"⟩, prog_1_method_34_code, 2, (some .boolean)),
  (⟨"CountedTwice", "look", "(I)I"⟩, prog_1_method_35_code, 2, (some .int)),
  (⟨"CountedTwice", "lookInRow", "(I)I"⟩, prog_1_method_36_code, 2, (some .int)),
  (⟨"CountedTwice", "below", "(II)Z"⟩, prog_1_method_37_code, 2, (some .boolean)),
  (⟨"CountedTwice", "isSmallLetter", "(I)Z"⟩, prog_1_method_38_code, 1, (some .boolean)),
  (⟨"CountedTwice", "isLetter", "(I)Z"⟩, prog_1_method_39_code, 1, (some .boolean)),
  (⟨"CountedTwice", "isDigit", "(I)Z"⟩, prog_1_method_40_code, 1, (some .boolean)),
  (⟨"CountedTwice", "hasBit", "([JI)Z"⟩, prog_1_method_41_code, 3, (some .boolean)),
  (⟨"CountedTwice", "setBit", "([JI)V"⟩, prog_1_method_42_code, 3, none),
  (⟨"CountedTwice", "bitInOrder", "(JI)J"⟩, prog_1_method_43_code, 6, (some .long)),
  (⟨"CountedTwice", "choose", "(II)J"⟩, prog_1_method_44_code, 5, (some .long)),
  (⟨"CountedTwiceModel", "<init>", "()V"⟩, prog_14_method_1_code, 3, none),
  (⟨"CountedTwiceModel", "isIn", "(III)Z"⟩, prog_14_method_2_code, 3, (some .boolean)),
  (⟨"CountedTwiceModel", "apart", "(II)I"⟩, prog_14_method_3_code, 2, (some .int)),
  (⟨"CountedTwiceModel", "state", "(I)I"⟩, prog_14_method_4_code, 3, (some .int)),
  (⟨"CountedTwiceModel", "draw", "(I)I"⟩, prog_14_method_5_code, 2, (some .int)),
  (⟨"CountedTwiceModel", "isHouse", "(I)Z"⟩, prog_14_method_6_code, 2, (some .boolean)),
  (⟨"CountedTwiceModel", "isStreet", "(I)Z"⟩, prog_14_method_7_code, 1, (some .boolean)),
  (⟨"CountedTwiceModel", "isEntry", "(I)Z"⟩, prog_14_method_8_code, 2, (some .boolean)),
  (⟨"CountedTwiceModel", "own", "(II)I"⟩, prog_14_method_9_code, 3, (some .int)),
  (⟨"CountedTwiceModel", "street", "(I)I"⟩, prog_14_method_10_code, 2, (some .int)),
  (⟨"CountedTwiceModel", "number0", "(I)I"⟩, prog_14_method_11_code, 2, (some .int)),
  (⟨"CountedTwiceModel", "house", "(III)I"⟩, prog_14_method_12_code, 5, (some .int)),
  (⟨"CountedTwiceModel", "gap", "(III)Z"⟩, prog_14_method_13_code, 4, (some .boolean)),
  (⟨"CountedTwiceModel", "set", "(II)Z"⟩, prog_14_method_14_code, 3, (some .boolean)),
  (⟨"CountedTwiceModel", "wayOf", "(II)I"⟩, prog_14_method_15_code, 3, (some .int)),
  (⟨"CountedTwiceModel", "minutesOf", "(II)I"⟩, prog_14_method_16_code, 3, (some .int)),
  (⟨"CountedTwiceModel", "way", "(III)I"⟩, prog_14_method_17_code, 4, (some .int)),
  (⟨"CountedTwiceModel", "feed", "(IIIII)I"⟩, prog_14_method_18_code, 8, (some .int)),
  (⟨"CountedTwiceModel", "end", "(I)Z"⟩, prog_14_method_19_code, 2, (some .boolean)),
  (⟨"CountedTwiceModel", "see", "(I)I"⟩, prog_14_method_20_code, 2, (some .int))]
def mtab_4 : List Mth := [(⟨"CountedTwiceModel", "isLetter", "(I)Z"⟩, prog_14_method_21_code, 1, (some .boolean)),
  (⟨"CountedTwiceModel", "isDigit", "(I)Z"⟩, prog_14_method_22_code, 1, (some .boolean)),
  (⟨"CountedTwiceModel", "is", "(Ljava/lang/String;)Z"⟩, prog_14_method_23_code, 4, (some .boolean)),
  (⟨"CountedTwiceModel", "likeWord", "()I"⟩, prog_14_method_24_code, 1, (some .int)),
  (⟨"CountedTwiceModel", "homeWord", "()I"⟩, prog_14_method_25_code, 1, (some .int)),
  (⟨"CountedTwiceModel", "word", "()I"⟩, prog_14_method_26_code, 1, (some .int)),
  (⟨"CountedTwiceModel", "next0", "()V"⟩, prog_14_method_27_code, 3, none),
  (⟨"CountedTwiceModel", "bad", "(I)Z"⟩, prog_14_method_28_code, 2, (some .boolean)),
  (⟨"CountedTwiceModel", "need", "(I)Z"⟩, prog_14_method_29_code, 2, (some .boolean)),
  (⟨"CountedTwiceModel", "lay", "(II)V"⟩, prog_14_method_30_code, 3, none),
  (⟨"CountedTwiceModel", "opens", "()Z"⟩, prog_14_method_31_code, 1, (some .boolean)),
  (⟨"CountedTwiceModel", "sumUp", "()Z"⟩, prog_14_method_32_code, 2, (some .boolean)),
  (⟨"CountedTwiceModel", "product", "()Z"⟩, prog_14_method_33_code, 3, (some .boolean)),
  (⟨"CountedTwiceModel", "unit", "()Z"⟩, prog_14_method_34_code, 2, (some .boolean)),
  (⟨"CountedTwiceModel", "any", "()Z"⟩, prog_14_method_35_code, 1, (some .boolean)),
  (⟨"CountedTwiceModel", "every", "()Z"⟩, prog_14_method_36_code, 1, (some .boolean)),
  (⟨"CountedTwiceModel", "one", "()Z"⟩, prog_14_method_37_code, 2, (some .boolean)),
  (⟨"CountedTwiceModel", "aLine", "()Z"⟩, prog_14_method_38_code, 2, (some .boolean)),
  (⟨"CountedTwiceModel", "text", "(I)I"⟩, prog_14_method_39_code, 4, (some .int)),
  (⟨"CountedTwiceModel", "fault", "(I)I"⟩, prog_14_method_40_code, 2, (some .int)),
  (⟨"CountedTwiceModel", "both", "(III)I"⟩, prog_14_method_41_code, 3, (some .int)),
  (⟨"CountedTwiceModel", "isSo", "(II)Z"⟩, prog_14_method_42_code, 7, (some .boolean)),
  (⟨"CountedTwiceModel", "entry", "(IIIIII)I"⟩, prog_14_method_43_code, 10, (some .int)),
  (⟨"CountedTwiceModel", "voids", "(I)Z"⟩, prog_14_method_44_code, 2, (some .boolean)),
  (⟨"CountedTwiceModel", "view", "(I)Z"⟩, prog_14_method_45_code, 2, (some .boolean)),
  (⟨"CountedTwiceModel", "isKnown", "(I)Z"⟩, prog_14_method_46_code, 3, (some .boolean)),
  (⟨"CountedTwiceModel", "letters", "(II)I"⟩, prog_14_method_47_code, 7, (some .int)),
  (⟨"CountedTwiceModel", "areAlike", "(III)Z"⟩, prog_14_method_48_code, 5, (some .boolean)),
  (⟨"CountedTwiceModel", "alike", "(III)I"⟩, prog_14_method_49_code, 4, (some .int)),
  (⟨"CountedTwiceModel", "isHome", "(III)Z"⟩, prog_14_method_50_code, 5, (some .boolean)),
  (⟨"CountedTwiceModel", "home", "(III)I"⟩, prog_14_method_51_code, 4, (some .int)),
  (⟨"CountedTwiceModel", "laysPersons", "()V"⟩, prog_14_method_52_code, 5, none),
  (⟨"CountedTwiceModel", "whatIs", "(I)I"⟩, prog_14_method_53_code, 4, (some .int)),
  (⟨"CountedTwiceModel", "housesOf", "(I)I"⟩, prog_14_method_54_code, 6, (some .int)),
  (⟨"CountedTwiceModel", "of", "(II)I"⟩, prog_14_method_55_code, 3, (some .int)),
  (⟨"CountedTwiceModel", "person", "(II)I"⟩, prog_14_method_56_code, 5, (some .int)),
  (⟨"CountedTwiceModel", "table", "(II)I"⟩, prog_14_method_57_code, 4, (some .int)),
  (⟨"CountedTwiceModel", "laysCouples", "()V"⟩, prog_14_method_58_code, 3, none),
  (⟨"CountedTwiceModel", "findsMate", "(I)Z"⟩, prog_14_method_59_code, 3, (some .boolean)),
  (⟨"CountedTwiceModel", "ends", "(I)I"⟩, prog_14_method_60_code, 5, (some .int)),
  (⟨"CountedTwiceModel", "laysChoose", "()V"⟩, prog_14_method_61_code, 3, none),
  (⟨"CountedTwiceModel", "of0", "(II)J"⟩, prog_14_method_62_code, 3, (some .long)),
  (⟨"CountedTwiceModel", "luck", "(IIII)J"⟩, prog_14_method_63_code, 8, (some .long)),
  (⟨"CountedTwiceModel", "isAhead", "(II)Z"⟩, prog_14_method_64_code, 3, (some .boolean)),
  (⟨"CountedTwiceModel", "laysBook", "(II)I"⟩, prog_14_method_65_code, 6, (some .int)),
  (⟨"CountedTwiceModel", "ghosts", "(I)I"⟩, prog_14_method_66_code, 5, (some .int)),
  (⟨"CountedTwiceModel", "quick", "(II)I"⟩, prog_14_method_67_code, 8, (some .int)),
  (⟨"CountedTwiceModel", "evenness", "(I)I"⟩, prog_14_method_68_code, 4, (some .int)),
  (⟨"CountedTwiceModel", "isCounter", "(I)Z"⟩, prog_14_method_69_code, 1, (some .boolean)),
  (⟨"CountedTwiceModel", "counter", "(II)I"⟩, prog_14_method_70_code, 3, (some .int))]
def mtab_5 : List Mth := [(⟨"CountedTwiceModel", "aDigit", "(I)V"⟩, prog_14_method_71_code, 5, none),
  (⟨"CountedTwiceModel", "even", "(I)J"⟩, prog_14_method_72_code, 7, (some .long)),
  (⟨"CountedTwiceModel", "suspect", "()I"⟩, prog_14_method_73_code, 5, (some .int)),
  (⟨"CountedTwiceModel", "step", "(III)I"⟩, prog_14_method_74_code, 4, (some .int)),
  (⟨"CountedTwiceModel", "isRight", "(II)Z"⟩, prog_14_method_75_code, 5, (some .boolean)),
  (⟨"CountedTwiceModel", "round", "(II)I"⟩, prog_14_method_76_code, 8, (some .int)),
  (⟨"CountedTwiceModel", "missed", "(I)I"⟩, prog_14_method_77_code, 4, (some .int)),
  (⟨"CountedTwiceModel", "last", "(III)Z"⟩, prog_14_method_78_code, 5, (some .boolean)),
  (⟨"CountedTwiceModel", "closed", "(IIZ)Z"⟩, prog_14_method_79_code, 4, (some .boolean)),
  (⟨"CountedTwiceModel", "plan", "(III)Z"⟩, prog_14_method_80_code, 4, (some .boolean)),
  (⟨"CountedTwiceModel", "laysSlots", "()I"⟩, prog_14_method_81_code, 4, (some .int)),
  (⟨"CountedTwiceModel", "isOpen", "(II)Z"⟩, prog_14_method_82_code, 3, (some .boolean)),
  (⟨"CountedTwiceModel", "planned", "()I"⟩, prog_14_method_83_code, 6, (some .int)),
  (⟨"CountedTwiceModel", "aWalk", "(II)V"⟩, prog_14_method_84_code, 8, none),
  (⟨"CountedTwiceModel", "best", "()I"⟩, prog_14_method_85_code, 6, (some .int)),
  (⟨"CountedTwiceModel", "lots", "(I)J"⟩, prog_14_method_86_code, 9, (some .long)),
  (⟨"CountedTwiceModel", "image", "(Z)Z"⟩, prog_14_method_87_code, 3, (some .boolean)),
  (⟨"CountedTwiceModel", "known", "()I"⟩, prog_14_method_88_code, 3, (some .int)),
  (⟨"CountedTwiceModel", "look", "(I)I"⟩, prog_14_method_89_code, 2, (some .int)),
  (⟨"CountedTwiceLaw", "law", "([I)Z"⟩, code, 4, (some .boolean))]
def mtab : List Mth := mtab_0 ++ (mtab_1 ++ (mtab_2 ++ (mtab_3 ++ (mtab_4 ++ (mtab_5)))))
def mM (i : Nat) : Mth := mtab.getD i (⟨"", "", ""⟩, ⟨#[]⟩, 0, none)
def yM (i : Nat) : MethodName := (mM i).1
def bM (i : Nat) : ByteArray := (mM i).2.1
def lM (i : Nat) : Nat := (mM i).2.2.1
def rM (i : Nat) : Option FieldType := (mM i).2.2.2
def wM (i : Nat) : Cond := Cond.code (yM i) (bM i) (lM i) (rM i)
/-- what a method returns: 0 nothing, 1 int, 2 long, 3 reference, 4 boolean, 5 char, 6 byte -/
def rtT : List Nat := [0, 0, 1, 1, 1, 6, 5, 4, 5, 0, 1, 1, 1, 1, 4, 1, 1, 1, 1, 1, 1, 0, 0, 0, 1, 0, 4, 4, 1, 1, 1, 1, 0, 4, 1, 1, 1, 1, 1, 4, 1, 1, 1, 2, 0, 1, 0, 0, 4, 4, 4, 4, 0, 4, 0, 1, 0, 0, 4, 0, 1, 1, 0, 0, 1, 1, 1, 1, 0, 0, 0, 0, 0, 0, 1, 1, 0, 0, 0, 0, 0, 0, 0, 0, 1, 1, 1, 1, 1, 4, 1, 1, 1, 1, 0, 4, 0, 0, 0, 1, 1, 4, 1, 0, 1, 1, 0, 0, 0, 1, 1, 0, 0, 0, 1, 1, 1, 1, 0, 0, 1, 1, 1, 1, 0, 1, 1, 2, 0, 0, 3, 1, 4, 2, 1, 0, 0, 1, 1, 4, 4, 1, 1, 0, 4, 1, 1, 1, 4, 4, 4, 1, 1, 1, 1, 1, 1, 2, 1, 2, 1, 1, 1, 4, 4, 4, 1, 1, 2, 4, 1, 1, 4, 4, 4, 4, 4, 0, 2, 2, 0, 4, 1, 1, 1, 4, 4, 4, 1, 1, 1, 1, 4, 4, 1, 1, 1, 1, 4, 1, 4, 4, 4, 1, 1, 1, 0, 4, 4, 0, 4, 4, 4, 4, 4, 4, 4, 4, 1, 1, 1, 4, 1, 4, 4, 4, 1, 4, 1, 4, 1, 0, 1, 1, 1, 1, 1, 0, 4, 1, 0, 2, 2, 4, 1, 1, 1, 1, 4, 1, 0, 2, 1, 1, 4, 1, 1, 4, 4, 4, 1, 4, 1, 0, 1, 2, 4, 1, 1, 4]
def rt (i : Nat) : Nat := rtT.getD i 0
/-- own class -/
def ocT : List Nat := [13, 13, 14, 14, 15, 15, 15, 15, 16, 15, 17, 15, 15, 16, 16, 14, 16, 18, 14, 18, 19, 0, 0, 0, 0, 0, 0, 0, 0, 0, 0, 0, 1, 1, 1, 1, 1, 1, 1, 1, 1, 1, 1, 1, 1, 1, 2, 2, 2, 2, 2, 2, 2, 2, 2, 2, 3, 3, 3, 3, 3, 3, 4, 4, 4, 4, 4, 4, 4, 4, 4, 4, 4, 4, 4, 4, 4, 4, 4, 5, 5, 5, 5, 5, 5, 5, 5, 5, 5, 5, 5, 5, 5, 5, 5, 5, 5, 6, 6, 6, 6, 6, 6, 7, 7, 7, 7, 7, 7, 7, 7, 8, 8, 8, 8, 8, 8, 8, 9, 9, 9, 9, 9, 9, 9, 9, 9, 9, 10, 10, 10, 10, 10, 10, 10, 10, 11, 11, 11, 11, 11, 11, 11, 11, 11, 11, 11, 11, 11, 11, 11, 11, 11, 11, 11, 11, 11, 11, 11, 11, 11, 11, 11, 11, 11, 11, 11, 11, 11, 11, 11, 11, 11, 11, 11, 11, 11, 11, 11, 11, 12, 12, 12, 12, 12, 12, 12, 12, 12, 12, 12, 12, 12, 12, 12, 12, 12, 12, 12, 12, 12, 12, 12, 12, 12, 12, 12, 12, 12, 12, 12, 12, 12, 12, 12, 12, 12, 12, 12, 12, 12, 12, 12, 12, 12, 12, 12, 12, 12, 12, 12, 12, 12, 12, 12, 12, 12, 12, 12, 12, 12, 12, 12, 12, 12, 12, 12, 12, 12, 12, 12, 12, 12, 12, 12, 12, 12, 12, 12, 12, 12, 12, 12, 12, 12, 12, 12, 12, 12, 20]
def oc (i : Nat) : Nat := ocT.getD i 0
/-- kind: 0 static, 1 of an object, 2 a constructor -/
def mkT : List Nat := [0, 0, 0, 0, 1, 1, 1, 1, 0, 0, 0, 1, 1, 0, 0, 0, 0, 0, 0, 0, 0, 2, 1, 1, 1, 1, 1, 1, 1, 1, 1, 1, 2, 1, 1, 1, 1, 1, 1, 1, 1, 1, 1, 1, 1, 1, 2, 1, 1, 1, 1, 1, 1, 1, 1, 1, 2, 1, 1, 1, 1, 1, 2, 1, 0, 0, 0, 0, 1, 1, 1, 1, 1, 1, 1, 1, 1, 1, 1, 2, 1, 1, 1, 1, 1, 1, 1, 1, 1, 1, 1, 1, 1, 1, 1, 1, 1, 2, 1, 1, 1, 1, 1, 2, 1, 1, 1, 1, 1, 1, 1, 2, 1, 1, 1, 0, 1, 0, 2, 1, 1, 1, 1, 1, 1, 1, 1, 1, 2, 1, 1, 1, 1, 1, 1, 1, 2, 1, 1, 1, 1, 1, 1, 1, 1, 1, 1, 1, 1, 1, 1, 1, 1, 1, 1, 1, 1, 1, 1, 1, 1, 1, 1, 1, 1, 1, 1, 1, 1, 1, 1, 1, 0, 0, 0, 0, 0, 0, 0, 0, 2, 0, 0, 1, 1, 1, 0, 1, 1, 1, 1, 1, 1, 1, 1, 1, 1, 1, 1, 1, 0, 0, 1, 1, 1, 1, 1, 1, 1, 1, 1, 1, 1, 1, 1, 1, 1, 1, 1, 1, 0, 1, 1, 1, 1, 1, 1, 1, 1, 1, 1, 1, 1, 1, 1, 1, 1, 1, 1, 1, 1, 1, 1, 1, 1, 1, 1, 1, 0, 1, 1, 1, 1, 1, 1, 1, 1, 1, 1, 1, 1, 1, 1, 1, 1, 1, 1, 1, 1, 0]
def mk (i : Nat) : Nat := mkT.getD i 3
/-- how many arguments, the object not counted -/
def agT : List Nat := [2, 2, 1, 2, 0, 0, 1, 0, 2, 2, 3, 1, 2, 4, 1, 2, 4, 1, 2, 1, 1, 0, 1, 2, 6, 1, 1, 1, 0, 2, 1, 2, 1, 3, 2, 1, 2, 1, 3, 2, 1, 0, 1, 1, 2, 0, 0, 1, 2, 2, 1, 1, 3, 2, 3, 1, 1, 0, 3, 2, 2, 2, 0, 3, 3, 4, 4, 3, 0, 1, 1, 0, 0, 0, 0, 0, 1, 1, 1, 2, 0, 0, 1, 2, 1, 1, 1, 1, 1, 2, 2, 1, 1, 0, 0, 1, 1, 0, 1, 3, 2, 2, 2, 0, 2, 1, 1, 3, 4, 2, 0, 0, 1, 1, 1, 2, 2, 3, 0, 1, 3, 1, 1, 1, 3, 2, 2, 1, 0, 1, 1, 1, 3, 0, 1, 1, 0, 1, 3, 3, 2, 3, 5, 1, 1, 1, 1, 6, 1, 1, 1, 2, 3, 3, 2, 2, 1, 4, 2, 1, 0, 3, 2, 3, 3, 3, 0, 0, 1, 1, 1, 1, 2, 1, 1, 1, 2, 2, 2, 2, 0, 3, 2, 1, 1, 1, 1, 1, 2, 1, 1, 3, 3, 2, 2, 2, 3, 5, 1, 1, 1, 1, 1, 0, 0, 0, 0, 1, 1, 2, 0, 0, 0, 0, 0, 0, 0, 0, 1, 1, 3, 2, 6, 1, 1, 1, 2, 3, 3, 3, 3, 0, 1, 1, 2, 2, 2, 0, 1, 1, 0, 2, 4, 2, 2, 1, 2, 1, 1, 2, 1, 1, 0, 3, 2, 2, 1, 3, 3, 3, 0, 2, 0, 2, 0, 1, 1, 0, 1, 1]
def ag (i : Nat) : Nat := agT.getD i 99
/-- how many cells it makes -/
def alT : List Nat := [0, 0, 0, 0, 0, 0, 0, 0, 0, 0, 0, 0, 0, 0, 0, 0, 0, 0, 0, 0, 0, 5, 0, 0, 0, 0, 0, 0, 0, 0, 0, 0, 2, 0, 0, 0, 0, 0, 0, 0, 0, 0, 0, 0, 0, 0, 4, 0, 0, 0, 0, 0, 0, 0, 0, 0, 4, 0, 0, 0, 0, 0, 4, 0, 0, 0, 0, 0, 0, 0, 0, 0, 0, 0, 0, 0, 0, 0, 0, 9, 0, 0, 0, 0, 0, 0, 0, 0, 0, 0, 0, 0, 0, 0, 0, 0, 0, 2, 0, 0, 0, 0, 0, 4, 0, 0, 0, 0, 0, 0, 0, 2, 0, 0, 0, 0, 0, 0, 4, 0, 0, 0, 0, 0, 0, 0, 0, 0, 29, 0, 0, 0, 0, 0, 0, 0, 90, 0, 0, 0, 0, 0, 0, 0, 0, 0, 0, 0, 0, 0, 0, 0, 0, 0, 0, 0, 0, 0, 0, 0, 0, 0, 0, 0, 0, 0, 0, 0, 0, 0, 0, 0, 0, 0, 0, 0, 0, 0, 0, 0, 27, 0, 0, 0, 0, 0, 0, 0, 0, 0, 0, 0, 0, 0, 0, 0, 0, 0, 0, 0, 0, 0, 0, 0, 0, 0, 0, 0, 0, 0, 0, 0, 0, 0, 0, 0, 0, 0, 0, 0, 0, 0, 0, 0, 0, 0, 0, 0, 0, 0, 0, 0, 0, 0, 0, 0, 0, 0, 0, 0, 0, 0, 0, 0, 0, 0, 0, 0, 0, 0, 0, 0, 0, 0, 0, 0, 0, 0, 0, 0, 0, 0, 0, 0, 0, 0, 0, 0, 0, 0]
def al (i : Nat) : Nat := alT.getD i 0
def NM : Nat := 270
set_option maxRecDepth 1000000 in
set_option maxHeartbeats 0 in
theorem wM_in : ∀ i, i < 269 → wM i ∈ lw_good := by
  have h : ∀ w ∈ (List.range 269).map wM, w ∈ lw_good := mem_g [131, 533, 552, 582, 607, 611, 617, 621, 624, 627, 632, 656, 660, 664, 667, 670, 674, 938, 1045, 1195, 1198, 163, 1244, 780, 785, 798, 793, 818, 1267, 810, 814, 860, 429, 1009, 1005, 1015, 1020, 1028, 1024, 1032, 1041, 1049, 1037, 1057, 1062, 1071, 239, 1258, 1110, 1115, 1119, 1123, 1131, 1168, 1139, 1164, 356, 530, 837, 850, 865, 855, 314, 577, 585, 600, 603, 597, 713, 729, 733, 741, 745, 749, 717, 753, 725, 721, 737, 379, 537, 822, 828, 832, 885, 923, 927, 931, 935, 954, 949, 960, 965, 974, 978, 984, 989, 222, 1253, 1081, 1090, 1095, 1100, 445, 1177, 1181, 1186, 1192, 1203, 1207, 1212, 201, 1249, 761, 870, 881, 874, 878, 127, 1239, 517, 906, 910, 914, 525, 549, 556, 1158, 121, 1235, 757, 1222, 902, 1151, 1276, 1147, 113, 506, 510, 521, 541, 545, 561, 565, 569, 573, 768, 772, 776, 789, 802, 806, 891, 898, 919, 945, 970, 993, 1001, 1053, 1067, 1077, 1086, 1106, 1127, 1135, 1143, 1173, 1216, 1231, 1263, 1272, 513, 591, 588, 594, 843, 846, 1227, 997, 1281, 1427, 1458, 1417, 1768, 1443, 1424, 1585, 1589, 1451, 1455, 1421, 1431, 1435, 1447, 1462, 1439, 1466, 1470, 1482, 1485, 1525, 1494, 1503, 1515, 1489, 1478, 1533, 1537, 1557, 1553, 1561, 1565, 1569, 1541, 1545, 1549, 1529, 1474, 1573, 1612, 1609, 1577, 1581, 1593, 1628, 1601, 1605, 1597, 1620, 1616, 1632, 1640, 1644, 1624, 1636, 1648, 1656, 1660, 1652, 1669, 1673, 1664, 1688, 1684, 1692, 1696, 1700, 1680, 1677, 1708, 1704, 1712, 1716, 1724, 1720, 1748, 1728, 1732, 1736, 1744, 1752, 1740, 1760, 1756, 1764, 1774, 1782, 1778] (by rfl) (by decide +kernel)
  intro i hi
  exact h _ (List.mem_map.mpr ⟨i, List.mem_range.mpr hi, rfl⟩)
theorem oc_ok : ∀ i, i < NM → (yM i).cls = RC (oc i) := by decide +kernel
theorem pl_ok : ∀ i, i < NM → plainFor (yM i) = true := by decide +kernel
theorem mh_ok : ∀ i, i < NM → (yM i).cls ≠ "java/lang/invoke/MethodHandle" ∧ (yM i).cls ≠ "java/lang/invoke/VarHandle" := by decide +kernel
theorem ag_ok : ∀ i, i < NM → (parseMethodDescriptor (yM i).desc).map (fun d => d.parameters.length) = some (ag i) := by decide +kernel
theorem rt_ok : ∀ i, i < NM → (rt i = 0 → rM i = none) ∧ (rt i = 1 → rM i = some .int) ∧ (rt i = 2 → rM i = some .long) ∧ (rt i = 4 → rM i = some .boolean) ∧ (rt i = 5 → rM i = some .char) ∧ (rt i = 6 → rM i = some .byte) := by decide +kernel
theorem rt_okR : ∀ i, i < NM → rt i = 3 → rM i = some (.object "CountedTwice$Text") := by decide +kernel
theorem lM_ok : ∀ i, i < NM → lM i ≤ 45 := by decide +kernel
def v_inst_l : List Nat := [4, 5, 6, 7, 11, 12, 22, 23, 24, 25, 26, 27, 28, 29, 30, 31, 33, 34, 35, 36, 37, 38, 39, 40, 41, 42, 43, 44, 45, 47, 48, 49, 50, 51, 52, 53, 54, 55, 57, 58, 59, 60, 61, 63, 68, 69, 70, 71, 72, 73, 74, 75, 76, 77, 78, 80, 81, 82, 83, 84, 85, 86, 87, 88, 89, 90, 91, 92, 93, 94, 95, 96, 98, 99, 100, 101, 102, 104, 105, 106, 107, 108, 109, 110, 112, 113, 114, 116, 119, 120, 121, 122, 123, 124, 125, 126, 127, 129, 130, 131, 132, 133, 134, 135, 137, 138, 139, 140, 141, 142, 143, 144, 145, 146, 147, 148, 149, 150, 151, 152, 153, 154, 155, 156, 157, 158, 159, 160, 161, 162, 163, 164, 165, 166, 167, 168, 169, 170, 171, 183, 184, 185, 187, 188, 189, 190, 191, 192, 193, 194, 195, 196, 197, 198, 199, 202, 203, 204, 205, 206, 207, 208, 209, 210, 211, 212, 213, 214, 215, 216, 217, 218, 219, 221, 222, 223, 224, 225, 226, 227, 228, 229, 230, 231, 232, 233, 234, 235, 236, 237, 238, 239, 240, 241, 242, 243, 244, 245, 246, 247, 249, 250, 251, 252, 253, 254, 255, 256, 257, 258, 259, 260, 261, 262, 263, 264, 265, 266, 267, 268]
theorem v_inst : ∀ i ∈ v_inst_l, Cond.instanceMethod (yM i) ∈ lw_good := by
  have h : ∀ w ∈ v_inst_l.map (fun i => Cond.instanceMethod (yM i)), w ∈ lw_good := mem_g [605, 609, 615, 619, 654, 658, 1242, 778, 783, 796, 791, 816, 1265, 808, 812, 858, 1008, 1003, 1013, 1018, 1027, 1023, 1031, 1040, 1048, 1035, 1055, 1061, 1069, 1256, 1108, 1113, 1117, 1121, 1129, 1166, 1137, 1162, 528, 835, 849, 863, 853, 575, 711, 728, 732, 740, 744, 748, 716, 752, 724, 720, 736, 535, 820, 827, 831, 883, 921, 925, 929, 933, 953, 947, 958, 963, 972, 977, 983, 988, 1251, 1079, 1088, 1094, 1098, 1175, 1180, 1185, 1191, 1202, 1206, 1211, 1247, 759, 868, 873, 1237, 515, 904, 908, 912, 523, 547, 554, 1156, 1233, 755, 1220, 900, 1149, 1274, 1145, 504, 508, 519, 539, 543, 559, 564, 567, 571, 766, 770, 775, 787, 800, 804, 889, 896, 917, 943, 968, 991, 999, 1051, 1065, 1075, 1084, 1104, 1125, 1133, 1141, 1171, 1214, 1229, 1261, 1271, 1415, 1767, 1442, 1584, 1588, 1450, 1454, 1419, 1429, 1433, 1446, 1461, 1437, 1464, 1468, 1481, 1493, 1502, 1514, 1488, 1477, 1532, 1536, 1556, 1552, 1560, 1564, 1568, 1540, 1544, 1548, 1528, 1472, 1571, 1608, 1575, 1579, 1591, 1627, 1600, 1604, 1595, 1619, 1614, 1631, 1639, 1643, 1622, 1634, 1646, 1655, 1659, 1650, 1668, 1672, 1662, 1687, 1683, 1691, 1695, 1699, 1675, 1707, 1702, 1710, 1714, 1723, 1718, 1747, 1726, 1730, 1734, 1743, 1751, 1738, 1759, 1754, 1762, 1772, 1781, 1776] (by decide +kernel) (by decide +kernel)
  intro i hi
  exact h _ (List.mem_map.mpr ⟨i, hi, rfl⟩)
def v_sel_l : List Nat := [4, 5, 6, 7, 11, 12, 22, 23, 24, 25, 26, 27, 28, 29, 30, 31, 33, 34, 35, 36, 37, 38, 39, 40, 41, 42, 43, 44, 45, 47, 48, 49, 50, 51, 52, 53, 54, 55, 57, 58, 59, 60, 61, 63, 68, 69, 70, 71, 72, 73, 74, 75, 76, 77, 78, 80, 81, 82, 83, 84, 85, 86, 87, 88, 89, 90, 91, 92, 93, 94, 95, 96, 98, 99, 100, 101, 102, 104, 105, 106, 107, 108, 109, 110, 112, 113, 114, 116, 119, 120, 121, 122, 123, 124, 125, 126, 127, 129, 130, 131, 132, 133, 134, 135, 137, 138, 139, 140, 141, 142, 143, 144, 145, 146, 147, 148, 149, 150, 151, 152, 153, 154, 155, 156, 157, 158, 159, 160, 161, 162, 163, 164, 165, 166, 167, 168, 169, 170, 171, 183, 184, 185, 187, 188, 189, 190, 191, 192, 193, 194, 195, 196, 197, 198, 199, 202, 203, 204, 205, 206, 207, 208, 209, 210, 211, 212, 213, 214, 215, 216, 217, 218, 219, 221, 222, 223, 224, 225, 226, 227, 228, 229, 230, 231, 232, 233, 234, 235, 236, 237, 238, 239, 240, 241, 242, 243, 244, 245, 246, 247, 249, 250, 251, 252, 253, 254, 255, 256, 257, 258, 259, 260, 261, 262, 263, 264, 265, 266, 267, 268]
theorem v_sel : ∀ i ∈ v_sel_l, Cond.selects (yM i).cls (yM i) (yM i) ∈ lw_good := by
  have h : ∀ w ∈ v_sel_l.map (fun i => Cond.selects (yM i).cls (yM i) (yM i)), w ∈ lw_good := mem_g [606, 610, 616, 620, 655, 659, 1243, 779, 784, 797, 792, 817, 1266, 809, 813, 859, 20, 1004, 1014, 1019, 22, 21, 23, 24, 25, 1036, 1056, 26, 1070, 1257, 1109, 1114, 1118, 1122, 1130, 1167, 1138, 1163, 529, 836, 14, 864, 854, 576, 712, 4, 5, 7, 8, 9, 1, 10, 3, 2, 6, 536, 821, 12, 13, 884, 922, 926, 930, 934, 16, 948, 959, 964, 973, 17, 18, 19, 1252, 1080, 1089, 27, 1099, 1176, 28, 29, 30, 31, 32, 33, 1248, 760, 869, 15, 1238, 516, 905, 909, 913, 524, 548, 555, 1157, 1234, 756, 1221, 901, 1150, 1275, 1146, 505, 509, 520, 540, 544, 560, 0, 568, 572, 767, 771, 11, 788, 801, 805, 890, 897, 918, 944, 969, 992, 1000, 1052, 1066, 1076, 1085, 1105, 1126, 1134, 1142, 1172, 1215, 1230, 1262, 34, 1416, 82, 35, 57, 58, 37, 38, 1420, 1430, 1434, 36, 39, 1438, 1465, 1469, 41, 43, 44, 45, 42, 40, 47, 48, 53, 52, 54, 55, 56, 49, 50, 51, 46, 1473, 1572, 61, 1576, 1580, 1592, 63, 59, 60, 1596, 62, 1615, 64, 65, 66, 1623, 1635, 1647, 67, 68, 1651, 69, 70, 1663, 72, 71, 73, 74, 75, 1676, 76, 1703, 1711, 1715, 77, 1719, 79, 1727, 1731, 1735, 78, 80, 1739, 81, 1755, 1763, 1773, 83, 1777] (by decide +kernel) (by decide +kernel)
  intro i hi
  exact h _ (List.mem_map.mpr ⟨i, hi, rfl⟩)
def c_inst_l : List Nat := [21, 32, 46, 56, 62, 79, 97, 103, 111, 118, 128, 136, 180]
theorem c_inst : ∀ i ∈ c_inst_l, Cond.instanceMethod (yM i) ∈ lw_good := by
  have h : ∀ w ∈ c_inst_l.map (fun i => Cond.instanceMethod (yM i)), w ∈ lw_good := mem_g [162, 428, 238, 355, 313, 378, 221, 444, 200, 126, 120, 112, 1280] (by decide +kernel) (by decide +kernel)
  intro i hi
  exact h _ (List.mem_map.mpr ⟨i, hi, rfl⟩)
def s_stat_l : List Nat := [0, 1, 2, 3, 8, 9, 10, 13, 14, 15, 16, 17, 18, 19, 20, 64, 65, 66, 67, 115, 117, 172, 173, 174, 175, 176, 177, 178, 179, 181, 182, 186, 200, 201, 220, 248]
theorem s_stat : ∀ i ∈ s_stat_l, Cond.static (yM i) ∈ lw_good := by
  have h : ∀ w ∈ s_stat_l.map (fun i => Cond.static (yM i)), w ∈ lw_good := mem_g [130, 532, 551, 581, 623, 626, 631, 663, 666, 669, 673, 937, 1044, 1194, 1197, 584, 599, 602, 596, 880, 877, 512, 590, 587, 593, 842, 845, 1226, 996, 1426, 1457, 1423, 1484, 1524, 1611, 1679] (by decide +kernel) (by decide +kernel)
  intro i hi
  exact h _ (List.mem_map.mpr ⟨i, hi, rfl⟩)
def a_init_l : List Nat := [0, 1, 2, 3, 4, 5, 6, 7, 8, 9, 10, 11, 12, 13, 14, 15, 16, 17, 18, 19, 20]
theorem a_init : ∀ i ∈ a_init_l, Cond.initialized (RC i) ∈ lw_good := by
  have h : ∀ w ∈ a_init_l.map (fun i => Cond.initialized (RC i)), w ∈ lw_good := mem_g [89, 96, 92, 94, 93, 95, 91, 97, 90, 87, 86, 85, 98, 88, 99, 100, 101, 102, 107, 108, 84] (by decide +kernel) (by decide +kernel)
  intro i hi
  exact h _ (List.mem_map.mpr ⟨i, hi, rfl⟩)
theorem v_all : ∀ i, i < NM → mk i = 1 → i ∈ v_inst_l := by decide +kernel
theorem v_all2 : ∀ i, i < NM → mk i = 1 → i ∈ v_sel_l := by decide +kernel
theorem c_all : ∀ i, i < NM → mk i = 2 → i ∈ c_inst_l ∧ (yM i).name = "<init>" ∧ rM i = none := by decide +kernel
theorem s_all : ∀ i, i < NM - 1 → mk i = 0 → i ∈ s_stat_l := by decide +kernel
theorem oc_lt : ∀ i, i < NM → oc i ∈ a_init_l := by decide +kernel
abbrev L4 : Type := Nat × Nat × Nat × Nat
abbrev L3 : Type := Nat × Nat × Nat
def fT (a k : Nat) : String × String × String × Bool := (vwCl.getD a ("", fun _ => ("", "", "", false), 0)).2.1 k
def flC (q : L4) : Cond := Cond.fieldLink (RC q.1) q.2.1 (fT q.2.2.1 q.2.2.2).1 (fT q.2.2.1 q.2.2.2).2.1 (fT q.2.2.1 q.2.2.2).2.2.1
def mlC (q : L3) : Cond := Cond.methodLink (RC q.1) q.2.1 (yM q.2.2)
def nlC (q : L3) : Cond := Cond.methodLinkNest (RC q.1) q.2.1 (yM q.2.2) "CountedTwice"
def flT : List L4 := [(0, 9, 0, 0), (0, 15, 0, 1), (0, 18, 0, 2), (0, 21, 0, 3), (0, 25, 0, 4), (0, 28, 0, 5), (0, 31, 0, 6), (0, 34, 0, 7), (1, 11, 1, 0), (1, 15, 1, 1), (1, 19, 1, 2), (1, 23, 10, 2), (1, 39, 0, 0), (1, 62, 10, 1), (2, 9, 2, 0), (2, 15, 2, 1), (2, 18, 2, 2), (2, 22, 2, 3), (2, 25, 2, 4), (2, 29, 2, 5), (3, 11, 3, 0), (3, 17, 3, 1), (3, 21, 3, 2), (3, 24, 3, 3), (3, 28, 3, 4), (3, 43, 8, 0), (3, 72, 10, 2), (3, 94, 10, 1), (4, 9, 4, 0), (4, 15, 4, 1), (4, 18, 4, 2), (4, 21, 4, 3), (4, 24, 4, 4), (4, 28, 4, 5), (4, 31, 4, 6), (4, 34, 4, 7), (4, 37, 4, 8), (4, 40, 4, 9), (5, 9, 5, 0), (5, 15, 5, 1), (5, 19, 5, 2), (5, 23, 5, 3), (5, 27, 5, 4), (5, 31, 5, 5), (5, 34, 5, 6), (5, 37, 5, 7), (5, 40, 5, 8), (5, 44, 5, 9), (5, 47, 5, 10), (5, 50, 5, 11), (5, 53, 5, 12), (5, 56, 5, 13), (5, 65, 10, 2), (5, 71, 0, 0), (5, 108, 10, 1), (6, 9, 6, 0), (6, 15, 6, 1), (6, 19, 6, 2), (6, 38, 10, 1), (7, 11, 7, 0), (7, 15, 7, 1), (7, 18, 7, 2), (7, 22, 7, 3), (7, 25, 7, 4), (7, 33, 2, 0), (7, 38, 2, 1), (7, 45, 2, 3), (8, 9, 8, 0), (8, 15, 8, 1), (8, 19, 8, 2), (8, 22, 8, 3), (8, 31, 4, 2), (8, 34, 4, 3), (8, 35, 4, 4), (9, 9, 9, 0), (9, 15, 9, 1), (9, 18, 9, 2), (9, 21, 9, 3), (9, 25, 9, 4), (9, 28, 9, 5), (9, 31, 9, 6), (10, 9, 10, 0), (10, 18, 10, 1), (10, 25, 10, 2), (10, 32, 10, 3), (10, 36, 10, 4), (10, 39, 10, 5), (10, 45, 10, 6), (10, 52, 10, 7), (10, 56, 10, 8), (10, 92, 0, 0), (10, 103, 9, 0), (10, 122, 2, 2), (11, 10, 11, 0), (11, 16, 11, 1), (11, 19, 11, 2), (11, 23, 11, 3), (11, 27, 11, 4), (11, 31, 11, 5), (11, 34, 11, 6), (11, 40, 11, 7), (11, 49, 11, 8), (11, 58, 11, 9), (11, 65, 11, 10), (11, 72, 11, 11), (11, 76, 11, 12), (11, 80, 10, 0), (11, 87, 10, 1), (11, 105, 9, 1), (11, 108, 9, 2), (11, 111, 9, 0), (11, 132, 4, 0), (11, 135, 4, 1), (11, 146, 8, 0), (11, 153, 10, 2), (11, 157, 0, 0), (11, 179, 0, 1), (11, 182, 0, 2), (11, 238, 5, 0), (11, 269, 10, 6), (11, 273, 6, 0), (11, 288, 10, 7), (11, 348, 2, 0), (11, 351, 2, 1), (11, 360, 2, 2), (11, 363, 2, 3), (12, 7, 12, 0), (12, 13, 12, 1), (12, 16, 12, 3), (12, 19, 12, 4), (12, 22, 12, 5), (12, 25, 12, 6), (12, 28, 12, 7), (12, 31, 12, 20), (12, 35, 12, 21), (12, 38, 12, 22), (12, 41, 12, 23), (12, 44, 12, 24), (12, 47, 12, 25), (12, 50, 12, 27), (12, 53, 12, 28), (12, 56, 12, 29), (12, 59, 12, 30), (12, 63, 12, 31), (12, 66, 12, 32), (12, 70, 12, 33), (12, 73, 12, 34), (12, 76, 12, 36), (12, 79, 12, 37), (12, 82, 12, 38), (12, 85, 12, 39), (12, 89, 12, 40), (12, 92, 12, 41), (12, 95, 12, 42), (12, 128, 12, 11), (12, 131, 12, 12), (12, 134, 12, 14), (12, 187, 12, 8), (12, 199, 12, 13), (12, 211, 12, 15), (12, 214, 12, 16), (12, 217, 12, 17), (12, 226, 12, 10), (12, 229, 12, 19), (12, 261, 12, 9), (12, 264, 12, 18), (12, 292, 12, 26), (12, 328, 12, 35), (12, 365, 12, 2)]
def mlT : List L3 := [(15, 335, 5), (15, 492, 7), (15, 495, 8), (16, 9, 9), (15, 1059, 10), (15, 633, 12), (15, 505, 4), (15, 637, 13), (16, 88, 14), (16, 92, 15), (16, 38, 3), (16, 95, 16), (18, 311, 20), (0, 44, 3), (0, 54, 27), (1, 31, 29), (1, 35, 27), (1, 43, 33), (1, 47, 132), (1, 50, 38), (1, 54, 39), (1, 58, 37), (1, 66, 126), (1, 71, 0), (1, 77, 18), (1, 82, 40), (1, 85, 41), (1, 89, 1), (1, 92, 44), (1, 100, 35), (1, 103, 36), (2, 32, 0), (2, 48, 53), (2, 51, 3), (3, 31, 1), (3, 37, 130), (3, 47, 15), (3, 53, 3), (3, 64, 59), (3, 68, 114), (3, 78, 29), (3, 81, 61), (3, 84, 31), (3, 87, 2), (3, 91, 60), (3, 98, 125), (3, 103, 30), (4, 47, 3), (4, 53, 64), (4, 57, 67), (4, 60, 65), (4, 71, 66), (4, 76, 11), (4, 82, 4), (4, 85, 6), (4, 89, 74), (4, 92, 77), (4, 96, 76), (4, 99, 69), (4, 104, 78), (4, 107, 70), (4, 110, 71), (4, 113, 72), (4, 116, 73), (4, 119, 75), (5, 59, 0), (5, 76, 27), (5, 80, 82), (5, 84, 83), (5, 88, 58), (5, 94, 29), (5, 102, 17), (5, 112, 86), (5, 116, 121), (5, 121, 87), (5, 124, 89), (5, 127, 90), (5, 130, 88), (5, 133, 94), (5, 136, 95), (5, 139, 1), (5, 150, 96), (6, 32, 132), (6, 42, 101), (6, 46, 126), (6, 52, 100), (6, 56, 17), (7, 29, 105), (7, 48, 107), (7, 52, 110), (7, 56, 3), (7, 62, 106), (7, 70, 19), (7, 76, 108), (7, 80, 109), (7, 83, 53), (8, 36, 116), (8, 40, 115), (8, 48, 117), (9, 34, 0), (9, 50, 2), (9, 56, 125), (10, 17, 118), (10, 24, 21), (10, 31, 111), (10, 44, 97), (10, 51, 46), (10, 60, 119), (10, 64, 22), (10, 67, 112), (10, 70, 98), (10, 73, 47), (10, 78, 121), (10, 82, 122), (10, 85, 123), (10, 88, 114), (10, 95, 27), (10, 99, 29), (10, 108, 133), (10, 112, 127), (10, 116, 17), (10, 125, 3), (11, 9, 128), (11, 39, 62), (11, 46, 56), (11, 55, 79), (11, 64, 32), (11, 71, 103), (11, 83, 172), (11, 91, 120), (11, 97, 124), (11, 101, 57), (11, 104, 80), (11, 114, 125), (11, 118, 126), (11, 121, 143), (11, 125, 63), (11, 129, 68), (11, 136, 130), (11, 140, 113), (11, 149, 148), (11, 162, 23), (11, 166, 24), (11, 170, 173), (11, 173, 26), (11, 176, 25), (11, 185, 29), (11, 188, 30), (11, 192, 27), (11, 195, 81), (11, 198, 84), (11, 201, 31), (11, 204, 58), (11, 208, 61), (11, 211, 60), (11, 214, 132), (11, 217, 85), (11, 220, 86), (11, 223, 87), (11, 226, 88), (11, 229, 90), (11, 232, 91), (11, 235, 92), (11, 241, 93), (11, 247, 179), (11, 251, 34), (11, 253, 35), (11, 256, 36), (11, 259, 42), (11, 262, 43), (11, 266, 45), (11, 278, 99), (11, 281, 100), (11, 285, 102), (11, 292, 48), (11, 297, 49), (11, 300, 50), (11, 303, 51), (11, 306, 52), (11, 310, 54), (11, 313, 135), (11, 317, 55), (11, 321, 104), (11, 325, 133), (11, 329, 17), (11, 335, 131), (11, 338, 178), (11, 342, 129), (11, 345, 28), (11, 354, 171), (11, 357, 134), (12, 100, 181), (12, 104, 186), (12, 108, 189), (12, 112, 190), (12, 115, 182), (12, 119, 194), (12, 122, 185), (12, 125, 195), (12, 137, 4), (12, 143, 6), (12, 149, 202), (12, 190, 203), (12, 193, 204), (12, 196, 199), (12, 202, 200), (12, 205, 205), (12, 208, 201), (12, 220, 207), (12, 223, 206), (12, 232, 212), (12, 236, 209), (12, 240, 213), (12, 243, 215), (12, 246, 216), (12, 249, 210), (12, 252, 214), (12, 255, 208), (12, 258, 211), (12, 267, 217), (12, 270, 220), (12, 274, 187), (12, 277, 188), (12, 280, 226), (12, 282, 221), (12, 286, 227), (12, 289, 229), (12, 295, 225), (12, 298, 231), (12, 301, 232), (12, 304, 233), (12, 307, 238), (12, 310, 237), (12, 315, 240), (12, 318, 241), (12, 322, 243), (12, 325, 244), (12, 331, 248), (12, 334, 245), (12, 337, 246), (12, 340, 247), (12, 343, 250), (12, 347, 254), (12, 350, 256), (12, 353, 260), (12, 356, 261), (12, 359, 263), (12, 362, 184), (12, 369, 267), (20, 9, 136), (20, 12, 180), (20, 13, 137), (20, 17, 183), (20, 18, 138), (20, 22, 191), (20, 23, 139), (20, 27, 192), (20, 28, 140), (20, 32, 193), (20, 33, 141), (20, 36, 196), (20, 37, 142), (20, 41, 197), (20, 42, 144), (20, 46, 198), (20, 47, 145), (20, 50, 218), (20, 51, 146), (20, 54, 219), (20, 55, 147), (20, 59, 222), (20, 60, 149), (20, 63, 223), (20, 64, 150), (20, 67, 224), (20, 68, 151), (20, 72, 234), (20, 73, 152), (20, 76, 228), (20, 77, 153), (20, 80, 230), (20, 81, 154), (20, 84, 235), (20, 85, 155), (20, 88, 236), (20, 89, 156), (20, 92, 239), (20, 93, 157), (20, 97, 242), (20, 98, 158), (20, 101, 249), (20, 102, 159), (20, 106, 251), (20, 107, 160), (20, 111, 252), (20, 112, 161), (20, 115, 253), (20, 116, 162), (20, 119, 255), (20, 120, 163), (20, 123, 257), (20, 124, 164), (20, 128, 258), (20, 129, 165), (20, 132, 259), (20, 133, 166), (20, 136, 262), (20, 137, 167), (20, 140, 264), (20, 141, 168), (20, 144, 265), (20, 145, 169), (20, 149, 266), (20, 150, 170), (20, 153, 268)]
def nlT : List L3 := [(0, 50, 172), (1, 96, 179), (2, 44, 172), (3, 56, 176), (3, 60, 177), (4, 64, 174), (4, 68, 175), (5, 98, 172), (5, 142, 177), (5, 146, 176), (6, 28, 172), (7, 41, 176), (7, 66, 177), (8, 44, 172), (9, 46, 172)]
set_option maxRecDepth 100000 in
theorem fl_ok : ∀ q ∈ flT, flC q ∈ lw_good := by
  have h : ∀ w ∈ flT.map flC, w ∈ lw_good := mem_g [165, 170, 172, 174, 175, 176, 177, 178, 431, 432, 433, 279, 166, 276, 242, 245, 248, 251, 254, 255, 358, 359, 360, 361, 362, 204, 281, 275, 316, 318, 320, 322, 324, 326, 327, 328, 329, 330, 381, 383, 384, 385, 386, 387, 388, 389, 390, 391, 392, 393, 394, 395, 280, 167, 277, 224, 226, 227, 274, 447, 448, 449, 450, 451, 243, 246, 252, 203, 206, 207, 208, 321, 323, 325, 132, 135, 137, 139, 140, 141, 142, 270, 272, 278, 283, 284, 285, 286, 288, 290, 168, 134, 249, 463, 464, 465, 466, 467, 468, 469, 470, 471, 472, 473, 474, 475, 271, 273, 136, 138, 133, 317, 319, 205, 282, 169, 171, 173, 382, 287, 225, 289, 244, 247, 250, 253, 1284, 1285, 1287, 1288, 1289, 1290, 1291, 1304, 1305, 1306, 1307, 1308, 1309, 1311, 1312, 1313, 1314, 1315, 1316, 1317, 1318, 1320, 1321, 1322, 1323, 1324, 1325, 1326, 1295, 1296, 1298, 1292, 1297, 1299, 1300, 1301, 1294, 1303, 1293, 1302, 1310, 1319, 1286] (by decide +kernel) (by decide +kernel)
  exact fun q hq => h _ (List.mem_map_of_mem hq)
set_option maxRecDepth 100000 in
theorem ml_ok : ∀ q ∈ mlT, mlC q ∈ lw_good := by
  have h : ∀ w ∈ mlT.map mlC, w ∈ lw_good := mem_g [608, 618, 622, 625, 630, 657, 661, 662, 665, 668, 671, 672, 1196, 781, 1268, 1010, 1011, 1006, 1016, 1021, 1029, 1025, 1033, 1042, 1043, 1038, 1046, 1058, 1059, 1072, 1073, 241, 1165, 1169, 531, 838, 839, 840, 847, 867, 851, 852, 857, 861, 862, 866, 856, 580, 583, 595, 598, 601, 653, 604, 614, 714, 718, 722, 726, 734, 730, 738, 742, 746, 750, 823, 824, 825, 829, 834, 833, 936, 955, 956, 950, 951, 961, 966, 975, 981, 979, 986, 1091, 1092, 1096, 1101, 1102, 1178, 1189, 1209, 1182, 1183, 1193, 1200, 1204, 1208, 871, 879, 876, 129, 550, 557, 125, 161, 199, 220, 237, 1236, 1241, 1246, 1250, 1255, 903, 907, 911, 915, 1152, 1153, 1148, 1155, 1159, 1160, 119, 312, 354, 377, 427, 443, 511, 514, 522, 527, 534, 546, 553, 562, 574, 710, 754, 758, 773, 777, 782, 589, 790, 795, 807, 811, 815, 819, 882, 887, 892, 893, 894, 899, 920, 924, 928, 932, 946, 957, 962, 971, 995, 1002, 1012, 1017, 1034, 1054, 1068, 1078, 1087, 1097, 1107, 1112, 1116, 1120, 1128, 1136, 1144, 1161, 1174, 1217, 1218, 1219, 1225, 1232, 1264, 1269, 1273, 1425, 1422, 1448, 1452, 1456, 1444, 1440, 1459, 1495, 1496, 1491, 1500, 1512, 1479, 1483, 1486, 1523, 1530, 1475, 1562, 1554, 1566, 1542, 1546, 1550, 1538, 1534, 1558, 1526, 1610, 1582, 1586, 1598, 1606, 1602, 1617, 1625, 1629, 1637, 1641, 1657, 1653, 1666, 1670, 1685, 1681, 1678, 1689, 1693, 1697, 1705, 1721, 1745, 1741, 1749, 1757, 1765, 1779, 111, 1279, 503, 1414, 507, 1418, 518, 1428, 538, 1432, 542, 1436, 558, 1463, 566, 1467, 570, 1471, 765, 1570, 769, 1574, 786, 1578, 799, 1590, 803, 1621, 888, 1594, 895, 1613, 916, 1633, 942, 1645, 967, 1649, 990, 1661, 998, 1674, 1050, 1701, 1064, 1709, 1074, 1713, 1083, 1717, 1103, 1725, 1124, 1729, 1132, 1733, 1140, 1737, 1170, 1753, 1213, 1761, 1228, 1771, 1260, 1775] (by decide +kernel) (by decide +kernel)
  exact fun q hq => h _ (List.mem_map_of_mem hq)
set_option maxRecDepth 100000 in
theorem nl_ok : ∀ q ∈ nlT, nlC q ∈ lw_tbl := by
  have h : ∀ w ∈ nlT.map nlC, w ∈ lw_tbl := mem_ps [794, 1063, 1111, 841, 844, 586, 592, 886, 980, 985, 1082, 1188, 1187, 875, 526] (by decide +kernel)
  exact fun q hq => h _ (List.mem_map_of_mem hq)
def kiT : List (Nat × Nat × Int) := [(19, 264, 65536), (10, 76, 1664525), (10, 77, 1013904223), (12, 88, 100000), (12, 98, 1664525), (12, 99, 1013904223)]
def klT : List (Nat × Nat × Int) := [(18, 314, 6148914691236517205), (18, 316, 3689348814741910323), (18, 318, 1085102592571150095), (11, 245, -1), (10, 106, -1), (12, 313, -1)]
def kiC (q : Nat × Nat × Int) : Cond := Cond.constant (RC q.1) q.2.1 (Int32.ofInt q.2.2)
def klC (q : Nat × Nat × Int) : Cond := Cond.constantLong (RC q.1) q.2.1 (Int64.ofInt q.2.2)
set_option maxRecDepth 100000 in
theorem ki_ok : ∀ q ∈ kiT, kiC q ∈ lw_good := by
  have h : ∀ w ∈ kiT.map kiC, w ∈ lw_good := mem_g [1199, 1223, 1224, 1283, 1769, 1770] (by decide +kernel) (by decide +kernel)
  exact fun q hq => h _ (List.mem_map_of_mem hq)
set_option maxRecDepth 100000 in
theorem kl_ok : ∀ q ∈ klT, klC q ∈ lw_good := by
  have h : ∀ w ∈ klT.map klC, w ∈ lw_good := mem_g [939, 940, 941, 994, 1154, 1665] (by decide +kernel) (by decide +kernel)
  exact fun q hq => h _ (List.mem_map_of_mem hq)
def clT : List L3 := [(20, 7, 11), (11, 7, 10), (10, 15, 9), (10, 22, 0), (10, 29, 8), (10, 42, 6), (10, 49, 2), (11, 37, 4), (11, 44, 3), (11, 53, 5), (11, 62, 1), (11, 69, 7), (20, 10, 12)]
def clC (q : L3) : Cond := Cond.classLink (RC q.1) q.2.1 (RC q.2.2)
set_option maxRecDepth 100000 in
theorem cl_ok : ∀ q ∈ clT, clC q ∈ lw_good := by
  have h : ∀ w ∈ clT.map clC, w ∈ lw_good := mem_g [109, 117, 123, 159, 197, 218, 235, 310, 352, 375, 425, 441, 1277] (by decide +kernel) (by decide +kernel)
  exact fun q hq => h _ (List.mem_map_of_mem hq)
def cnT : List Nat := [8, 3, 6, 5, 10, 14, 3, 5, 4, 7, 9, 13, 43]
def cN (c : Nat) : Nat := cnT.getD c 0
def n_inst_l : List Nat := [0, 1, 2, 3, 4, 5, 6, 7, 8, 9, 10, 11, 12]
theorem n_inst : ∀ i ∈ n_inst_l, Cond.instantiable (RC i) (cN i) ∈ lw_good := by
  have h : ∀ w ∈ n_inst_l.map (fun i => Cond.instantiable (RC i) (cN i)), w ∈ lw_good := mem_g [160, 426, 236, 353, 311, 376, 219, 442, 198, 124, 118, 110, 1278] (by decide +kernel) (by decide +kernel)
  intro i hi
  exact h _ (List.mem_map.mpr ⟨i, hi, rfl⟩)
def oiT : List (Nat × Nat) := [(11, 1), (10, 3), (9, 3), (0, 3), (8, 3), (6, 3), (2, 3), (4, 3), (3, 5), (5, 3), (1, 5), (7, 5), (12, 1)]
def oiC (q : Nat × Nat) : Cond := Cond.methodLink (RC q.1) q.2 Lib.objectInit
set_option maxRecDepth 100000 in
theorem oi_ok : ∀ q ∈ oiT, oiC q ∈ lw_good := by
  have h : ∀ w ∈ oiT.map oiC, w ∈ lw_good := mem_g [114, 122, 128, 164, 202, 223, 240, 315, 357, 380, 430, 446, 1282] (by decide +kernel) (by decide +kernel)
  exact fun q hq => h _ (List.mem_map_of_mem hq)
theorem oi_inst : Cond.instanceMethod Lib.objectInit ∈ lw_good := mem_g (ws := [Cond.instanceMethod Lib.objectInit]) [115] (by decide +kernel) (by decide +kernel) _ List.mem_cons_self
theorem oi_code : Cond.code Lib.objectInit ⟨#[0xb1]⟩ 1 none ∈ lw_good := mem_g (ws := [Cond.code Lib.objectInit ⟨#[0xb1]⟩ 1 none]) [116] (by decide +kernel) (by decide +kernel) _ List.mem_cons_self
def acT : List (Nat × Nat) := [(8, 25), (9, 40), (0, 38), (6, 22), (2, 38)]
def acC (q : Nat × Nat) : Cond := Cond.methodLink (RC q.1) q.2 arraycopyName
set_option maxRecDepth 100000 in
theorem ac_ok : ∀ q ∈ acT, acC q ∈ lw_good := by
  have h : ∀ w ∈ acT.map acC, w ∈ lw_good := mem_g [762, 1240, 1245, 1254, 1259] (by decide +kernel) (by decide +kernel)
  exact fun q hq => h _ (List.mem_map_of_mem hq)
theorem ac_rest : ∀ w ∈ [Cond.native arraycopyName, Cond.static arraycopyName, Cond.initialized "java/lang/System"], w ∈ lw_good := mem_g [764, 763, 105] (by decide +kernel) (by decide +kernel)
def sfT : List L3 := [(15, 9, 0), (15, 15, 1)]
def sfC (q : L3) : Cond := Cond.fieldLink (RC q.1) q.2.1 "java/lang/String" (if q.2.2 = 0 then "value" else "coder") (if q.2.2 = 0 then "[B" else "B")
set_option maxRecDepth 100000 in
theorem sf_ok : ∀ q ∈ sfT, sfC q ∈ lw_good := by
  have h : ∀ w ∈ sfT.map sfC, w ∈ lw_good := mem_g [1783, 1784] (by decide +kernel) (by decide +kernel)
  exact fun q hq => h _ (List.mem_map_of_mem hq)
def gsT : List L3 := [(15, 38, 0), (15, 1053, 1)]
def gsC (q : L3) : Cond := if q.2.2 = 0 then Cond.fieldLink (RC q.1) q.2.1 "java/lang/String" "COMPACT_STRINGS" "Z" else Cond.fieldLink (RC q.1) q.2.1 "jdk/internal/util/Preconditions" "SIOOBE_FORMATTER" "Ljava/util/function/BiFunction;"
set_option maxRecDepth 100000 in
theorem gs_ok : ∀ q ∈ gsT, gsC q ∈ lw_good := by
  have h : ∀ w ∈ gsT.map gsC, w ∈ lw_good := mem_g [612, 628] (by decide +kernel) (by decide +kernel)
  exact fun q hq => h _ (List.mem_map_of_mem hq)
def akT : List FieldType := [.int, .long, .byte, .boolean]
theorem ar_ok : ∀ t ∈ akT, Cond.arrayClass t ∈ lw_good := by
  have h : ∀ w ∈ akT.map Cond.arrayClass, w ∈ lw_good := mem_g [158, 374, 196, 269] (by decide +kernel) (by decide +kernel)
  exact fun q hq => h _ (List.mem_map_of_mem hq)
end
section
/-! THE LOGIC over the machine: small values, a state of numbers, cells by their places, and a predicate 'Tri' at a frame. -/
abbrev MV : Type := Int ⊕ (BitVec 64 ⊕ Nat)
abbrev vi (x : Int) : MV := Sum.inl x
abbrev vl (x : BitVec 64) : MV := Sum.inr (Sum.inl x)
abbrev vr (x : Nat) : MV := Sum.inr (Sum.inr x)
/-- what all cells hold: whole numbers, longs, references, by cell and place -/
abbrev MS : Type := (Nat → Nat → Int) × (Nat → Nat → BitVec 64) × (Nat → Nat → Nat)
abbrev ML : Type := List (Option MV)
abbrev MP : Type := Option MV → MS → Prop
def u2 {α : Type} (f : Nat → Nat → α) (k j : Nat) (x : α) : Nat → Nat → α := fun a b => if a = k ∧ b = j then x else f a b
def u1 {α : Type} (f : Nat → Nat → α) (k : Nat) (g : Nat → α) : Nat → Nat → α := fun a b => if a = k then g b else f a b
abbrev sI (σ : MS) (k j : Nat) (x : Int) : MS := (u2 σ.1 k j x, σ.2)
abbrev sJ (σ : MS) (k j : Nat) (x : BitVec 64) : MS := (σ.1, u2 σ.2.1 k j x, σ.2.2)
abbrev sP (σ : MS) (k j : Nat) (x : Nat) : MS := (σ.1, σ.2.1, u2 σ.2.2 k j x)
/-- a cell that is new -/
abbrev sN (σ : MS) (k : Nat) : MS := (u1 σ.1 k (fun _ => 0), u1 σ.2.1 k (fun _ => 0), u1 σ.2.2 k (fun _ => 1000))
/-- a row copied: from src at sp to dst at dp, so many -/
abbrev sC (σ : MS) (src sp dst dp len : Nat) : MS := (u1 σ.1 dst (fun j => if dp ≤ j ∧ j < dp + len then σ.1 src (sp + (j - dp)) else σ.1 dst j), σ.2)
def inR (x : Int) : Prop := -2147483648 ≤ x ∧ x < 2147483648
def w32 (x : Int) : Int := x.bmod 4294967296
def w8 (x : Int) : Int := (Int32.ofInt x).toInt8.toInt
def i2c (x : Int) : Int := ((Int32.ofInt x).toUInt32 % 65536).toInt32.toInt
def iDiv (a b : Int) : Int := (Int32.ofInt a / Int32.ofInt b).toInt
def iRem (a b : Int) : Int := (Int32.ofInt a - Int32.ofInt a / Int32.ofInt b * Int32.ofInt b).toInt
def iAnd (a b : Int) : Int := (Int32.ofInt a &&& Int32.ofInt b).toInt
def iOr (a b : Int) : Int := (Int32.ofInt a ||| Int32.ofInt b).toInt
def iXor (a b : Int) : Int := (Int32.ofInt a ^^^ Int32.ofInt b).toInt
def iShl (a b : Int) : Int := (Int32.ofInt a <<< (Int32.ofInt b &&& 31)).toInt
def iShr (a b : Int) : Int := (Int32.ofInt a >>> (Int32.ofInt b &&& 31)).toInt
def iUsh (a b : Int) : Int := ((Int32.ofInt a).toUInt32 >>> ((Int32.ofInt b).toUInt32 &&& Int32.toUInt32 31)).toInt32.toInt
def lShl (a : BitVec 64) (b : Int) : BitVec 64 := (Int64.ofBitVec a <<< ((Int32.ofInt b).toInt64 &&& 63)).toBitVec
def lUsh (a : BitVec 64) (b : Int) : BitVec 64 := ((Int64.ofBitVec a).toUInt64 >>> ((Int32.ofInt b).toInt64.toUInt64 &&& Int64.toUInt64 63)).toInt64.toBitVec
def lDiv (a b : BitVec 64) : BitVec 64 := (Int64.ofBitVec a / Int64.ofBitVec b).toBitVec
def lCmp (a b : BitVec 64) : Int := (lg_cmp (Int64.ofBitVec a) (Int64.ofBitVec b)).toInt
def i2l (x : Int) : BitVec 64 := (Int32.ofInt x).toInt64.toBitVec
def l2i (x : BitVec 64) : Int := (Int64.ofBitVec x).toInt32.toInt
/-- the shapes of the cells: 0 int[], 1 long[], 2 byte[], 3 boolean[], 4 + c an object of class c; how long -/
def shT : List (Nat × Nat) := [(15, 13), (14, 9), (13, 7), (0, 60), (0, 60), (0, 60), (0, 144), (4, 8), (0, 720), (0, 120), (0, 120), (0, 120), (2, 960), (12, 4), (0, 400), (0, 32), (12, 4), (0, 400), (0, 32), (12, 4), (0, 400), (0, 32), (10, 3), (0, 24), (0, 24), (6, 6), (0, 5), (0, 6), (3, 20), (0, 24), (0, 7), (14, 9), (13, 7), (0, 60), (0, 60), (0, 60), (0, 144), (4, 8), (0, 720), (0, 120), (0, 120), (0, 120), (2, 960), (12, 4), (0, 400), (0, 32), (12, 4), (0, 400), (0, 32), (12, 4), (0, 400), (0, 32), (10, 3), (0, 24), (0, 24), (6, 6), (0, 5), (0, 6), (3, 20), (0, 24), (0, 7), (2, 400), (8, 10), (0, 400), (0, 401), (0, 401), (0, 401), (7, 5), (0, 7), (0, 9), (1, 224), (1, 224), (9, 14), (0, 120), (0, 120), (0, 120), (0, 120), (1, 120), (0, 120), (1, 240), (0, 120), (0, 120), (5, 3), (0, 10), (1, 3616), (11, 5), (1, 1563), (1, 1563), (0, 5), (0, 5), (0, 5), (16, 43), (0, 5120), (0, 5120), (0, 48), (0, 820), (0, 400), (0, 420), (0, 13), (0, 9), (0, 9), (0, 120), (0, 120), (0, 120), (0, 4), (0, 120), (0, 120), (3, 120), (3, 14400), (1, 3721), (0, 120), (0, 10), (1, 3616), (1, 3616), (3, 60), (0, 5), (3, 100000), (3, 100000), (0, 60)]
def sh (k : Nat) : Nat × Nat := shT.getD k (99, 0)
def NC : Nat := 119
/-- how many slots the first n cells have -/
def slT : List Nat := [0, 13, 22, 29, 89, 149, 209, 353, 361, 1081, 1201, 1321, 1441, 2401, 2405, 2805, 2837, 2841, 3241, 3273, 3277, 3677, 3709, 3712, 3736, 3760, 3766, 3771, 3777, 3797, 3821, 3828, 3837, 3844, 3904, 3964, 4024, 4168, 4176, 4896, 5016, 5136, 5256, 6216, 6220, 6620, 6652, 6656, 7056, 7088, 7092, 7492, 7524, 7527, 7551, 7575, 7581, 7586, 7592, 7612, 7636, 7643, 8043, 8053, 8453, 8854, 9255, 9656, 9661, 9668, 9677, 9901, 10125, 10139, 10259, 10379, 10499, 10619, 10739, 10859, 11099, 11219, 11339, 11342, 11352, 14968, 14973, 16536, 18099, 18104, 18109, 18114, 18157, 23277, 28397, 28445, 29265, 29665, 30085, 30098, 30107, 30116, 30236, 30356, 30476, 30480, 30600, 30720, 30840, 45240, 48961, 49081, 49091, 52707, 56323, 56383, 56388, 156388, 256388, 256448]
def slt (n : Nat) : Nat := slT.getD n 0
/-- kinds of the fields: 0 a number, 1 a reference, 2 a boolean -/
def fkT : List (List Nat) := [[0, 0, 0, 1, 1, 1, 1, 1], [1, 1, 1], [0, 0, 1, 1, 1, 1], [1, 1, 1, 1, 1], [0, 0, 0, 0, 1, 1, 1, 1, 0, 0], [0, 1, 1, 2, 1, 1, 1, 1, 1, 1, 0, 1, 1, 1], [0, 1, 1], [1, 1, 1, 1, 0], [0, 1, 0, 1], [0, 0, 0, 1, 1, 1, 1], [0, 1, 1, 1, 1, 1, 1, 1, 1], [1, 1, 2, 1, 0, 0, 0, 1, 1, 1, 1, 1, 1], [1, 1, 2, 1, 1, 1, 1, 1, 0, 0, 0, 0, 0, 0, 0, 0, 0, 0, 0, 0, 0, 1, 1, 1, 1, 1, 0, 1, 1, 1, 1, 1, 1, 1, 1, 0, 1, 1, 1, 1, 1, 1, 1]]
def fk (c j : Nat) : Nat := (fkT.getD c []).getD j 9
/-- the Strings: how long, their bytes; whose they are -/
def stO : List Nat := [4, 4, 4, 12, 12, 12, 12, 12, 12, 12, 12, 12, 12, 12, 12, 12, 12, 12, 12, 12, 12, 12]
def stI : List Nat := [43, 45, 74, 179, 181, 183, 185, 147, 153, 155, 157, 159, 161, 163, 164, 166, 168, 170, 172, 174, 175, 177]
def stX : List String := ["home away when or and not hour day street number kind", "like - when or and not letters first ages near days book house", ";+-*/()<=>", "when", "or", "and", "not", "like", "letters", "first", "ages", "near", "days", "book", "house", "home", "away", "hour", "day", "street", "number", "kind"]
def stN : List Nat := [53, 62, 10, 4, 2, 3, 3, 4, 7, 5, 4, 4, 4, 4, 5, 4, 4, 4, 3, 6, 6, 4]
def stB : List (List Int32) := [[104, 111, 109, 101, 32, 97, 119, 97, 121, 32, 119, 104, 101, 110, 32, 111, 114, 32, 97, 110, 100, 32, 110, 111, 116, 32, 104, 111, 117, 114, 32, 100, 97, 121, 32, 115, 116, 114, 101, 101, 116, 32, 110, 117, 109, 98, 101, 114, 32, 107, 105, 110, 100], [108, 105, 107, 101, 32, 45, 32, 119, 104, 101, 110, 32, 111, 114, 32, 97, 110, 100, 32, 110, 111, 116, 32, 108, 101, 116, 116, 101, 114, 115, 32, 102, 105, 114, 115, 116, 32, 97, 103, 101, 115, 32, 110, 101, 97, 114, 32, 100, 97, 121, 115, 32, 98, 111, 111, 107, 32, 104, 111, 117, 115, 101], [59, 43, 45, 42, 47, 40, 41, 60, 61, 62], [119, 104, 101, 110], [111, 114], [97, 110, 100], [110, 111, 116], [108, 105, 107, 101], [108, 101, 116, 116, 101, 114, 115], [102, 105, 114, 115, 116], [97, 103, 101, 115], [110, 101, 97, 114], [100, 97, 121, 115], [98, 111, 111, 107], [104, 111, 117, 115, 101], [104, 111, 109, 101], [97, 119, 97, 121], [104, 111, 117, 114], [100, 97, 121], [115, 116, 114, 101, 101, 116], [110, 117, 109, 98, 101, 114], [107, 105, 110, 100]]
abbrev Ctx : Type := Launch × (Nat → ClassId) × (Nat → Nat → Nat) × Nat × (Nat → ClassId) × (Nat → Nat) × (Nat → Nat) × Nat × Value × Nat × (Nat → Int32)
abbrev cL (G : Ctx) : Launch := G.1
abbrev cC (G : Ctx) : Nat → ClassId := G.2.1
abbrev cI (G : Ctx) : Nat → Nat → Nat := G.2.2.1
abbrev cB (G : Ctx) : Nat := G.2.2.2.1
abbrev cA (G : Ctx) : Nat → ClassId := G.2.2.2.2.1
abbrev cK (G : Ctx) : Nat → Nat := G.2.2.2.2.2.1
abbrev cV (G : Ctx) : Nat → Nat := G.2.2.2.2.2.2.1
abbrev cS (G : Ctx) : Nat := G.2.2.2.2.2.2.2.1
abbrev cF (G : Ctx) : Value := G.2.2.2.2.2.2.2.2.1
abbrev cNn (G : Ctx) : Nat := G.2.2.2.2.2.2.2.2.2.1
abbrev cX (G : Ctx) : Nat → Int32 := G.2.2.2.2.2.2.2.2.2.2
/-- a reference: below 1000 a cell; 1000 null; 2000 and on a String; 3000 and on its bytes; 4000 the script; else the formatter -/
def trR (G : Ctx) (r : Nat) : Value := if r < 1000 then .ref (cB G + r) else if r = 1000 then .null else if r < 3000 then .ref (cK G (r - 2000)) else if r < 4000 then .ref (cV G (r - 3000)) else if r = 4000 then .ref (cS G) else cF G
def trV (G : Ctx) : MV → Value
  | .inl x => .int (Int32.ofInt x)
  | .inr (.inl b) => .long (Int64.ofBitVec b)
  | .inr (.inr r) => trR G r
def okV : MV → Prop
  | .inl x => inR x
  | _ => True
def okC (t : Nat) (x : Int) : Prop := if t = 2 then -128 ≤ x ∧ x < 128 else if t = 3 then x = 0 ∨ x = 1 else inR x
def okS (σ : MS) : Prop := ∀ k j, okC (sh k).1 (σ.1 k j)
def fldV (G : Ctx) (σ : MS) (k c j : Nat) : Value := if fk c j = 1 then trR G (σ.2.2 k j) else .int (Int32.ofInt (σ.1 k j))
def flds (G : Ctx) (σ : MS) (k c : Nat) : List Value := (List.range (cN c)).map (fldV G σ k c)
def celE (G : Ctx) (σ : MS) (k : Nat) : va_E := if (sh k).1 = 1 then .inl (cA G 1, (sh k).2, .inr (.inl (fun j => Int64.ofBitVec (σ.2.1 k j)))) else if (sh k).1 < 4 then .inl (cA G (sh k).1, (sh k).2, .inl (fun j => Int32.ofInt (σ.1 k j))) else .inr ((sh k).1 - 4, flds G σ k ((sh k).1 - 4))
def wsO (G : Ctx) (n : Nat) (σ : MS) : va_W := (List.range n).map (fun k => (cB G + k, celE G σ k))
def AO (G : Ctx) : Nat → Prop := fun q => cB G ≤ q
def tyA (G : Ctx) : List (ClassId × FieldType) := [(cA G 0, .int), (cA G 1, .long), (cA G 2, .byte), (cA G 3, .boolean)]
/-- what the tables say, at a state -/
def KW (G : Ctx) (U : State) : Prop := va_K (cC G, cI G) vwCl (tyA G) U ∧ (∀ i, i < 22 → vk_R (RC (stO.getD i 0)) (stI.getD i 0) (stX.getD i "") (cK G i) U) ∧ (∀ q ∈ nlT, va_Nw (nlC q) U) ∧ (cF G = .null ∨ ∃ t, cF G = .ref t)
/-- what the heap holds that nobody writes -/
def HW (G : Ctx) (U : State) (H : Heap) : Prop := vk_S 22 stN stB (cK G) (cV G) (AO G) U H ∧ va_Z "java/lang/String" "COMPACT_STRINGS" "Z" (.int 1) (AO G) U H ∧ va_Z "jdk/internal/util/Preconditions" "SIOOBE_FORMATTER" "Ljava/util/function/BiFunction;" (cF G) (AO G) U H ∧ (va_X (cS G) (cNn G) (cX G) U H ∧ ¬ AO G (cS G) ∧ cNn G < 2147483648)
def aslF (G : Ctx) : Nat → ML → List (Nat × Value)
  | _, [] => []
  | i, none :: r => aslF G (i + 1) r
  | i, some v :: r => (i, trV G v) :: aslF G (i + 1) r
/-- a method's frame: what is fixed -/
def Fix (G : Ctx) (h mi nf n0 : Nat) (p : Program) (R : Room) (s : State) (m : MethodId) (args : Array Value) (meth : Method) (c : Code) : Prop :=
  p.tables.exec = Jvm.exec ∧ c.code = bM mi ∧ c.maxLocals = lM mi ∧ meth.sig.returnType = rM mi ∧ s.vm.findClass (RC (oc mi)) = some m.cls ∧ (∀ w ∈ lw_good, w.before args s = true) ∧ meth.locks = false ∧ meth.name = (yM mi).name ∧ KW G s ∧ HW G s s.heap ∧ s.heap.size = cB G + n0 ∧ n0 ≤ nf ∧ h ≤ R.frames ∧ 64 * h ≤ R.locals ∧ nf - n0 ≤ R.cells ∧ slt nf - slt n0 ≤ R.slots ∧ nf ≤ NC
/-- which answer a return instruction gives -/
def retI (mi pc : Nat) : Option MV → Prop
  | none => decode (bM mi) pc = .ok (.return_, 1) ∧ rM mi = none
  | some (.inl x) => decode (bM mi) pc = .ok (.ireturn, 1) ∧ ∃ ty, rM mi = some ty ∧ narrow ty (.int (Int32.ofInt x)) = .int (Int32.ofInt x)
  | some (.inr (.inl _)) => decode (bM mi) pc = .ok (.lreturn, 1) ∧ rM mi = some .long
  | some (.inr (.inr _)) => decode (bM mi) pc = .ok (.areturn, 1) ∧ ∃ C, rM mi = some (.object C)
def retS (G : Ctx) : Option MV → List Value
  | none => []
  | some v => [trV G v]
def RetOK (G : Ctx) (mi nf n0 : Nat) (p : Program) (e : Env) (R : Room) (s : State) (m : MethodId) (args : Array Value) (below : List Frame) (meth : Method) (c : Code) (Z : State → Prop) (Q : MP) : Prop :=
  ∀ (H : Heap) (locs : List Loc) (als : Array Slot) (σ : MS) (pc : Nat) (r : Option MV), retI mi pc r → va_P (cC G, cI G) vwCl (wsO G nf σ) H → va_S (AO G) s.heap H locs → okS σ → (∀ v, r = some v → okV v) → Q r σ →
    W p (cL G) e R s m args below meth c H locs (nf - n0) (slt nf - slt n0) Z (F0 m pc als (retS G r))
/-- from this frame, with this state, the method comes to its end, with Q of its answer and the state -/
def Tri (G : Ctx) (h mi nf n pc : Nat) (ls : ML) (st : List MV) (σ : MS) (Q : MP) : Prop :=
  ∀ (p : Program) (e : Env) (R : Room) (s : State) (m : MethodId) (args : Array Value) (below : List Frame) (meth : Method) (c : Code) (n0 : Nat) (Z : State → Prop) (H : Heap) (locs : List Loc) (als : Array Slot),
    Fix G h mi nf n0 p R s m args meth c → RetOK G mi nf n0 p e R s m args below meth c Z Q →
    n0 ≤ n → n ≤ nf → va_P (cC G, cI G) vwCl (wsO G n σ) H → va_S (AO G) s.heap H locs → okS σ → (∀ v ∈ st, okV v) → (∀ v, some v ∈ ls → okV v) → lv_has als (lM mi) (aslF G 0 ls) →
    W p (cL G) e R s m args below meth c H locs (n - n0) (slt n - slt n0) Z (F0 m pc als (st.map (trV G)))
def rmO (h mc ms : Nat) : Room := { frames := h, cells := mc, slots := ms, locals := 64 * h }
def PcO (G : Ctx) (n : Nat) (av : List MV) (σ : MS) : Array Value → State → Prop := fun v U => v = (av.map (trV G)).toArray ∧ U.heap.size = cB G + n ∧ va_P (cC G, cI G) vwCl (wsO G n σ) U.heap ∧ KW G U ∧ HW G U U.heap ∧ okS σ ∧ ∀ v ∈ av, okV v
def QcO (G : Ctx) (nf : Nat) (Q : MP) : Array Value → State → Outcome → State → Prop := fun _ st o t => (∃ (r : Option MV) (σ : MS), o = .returned (r.map (trV G)) ∧ (∀ v, r = some v → okV v) ∧ okS σ ∧ Q r σ ∧ va_P (cC G, cI G) vwCl (wsO G nf σ) t.heap) ∧ va_F (AO G) st t
/-- a call of method mi from a frame that has room for h more -/
def TriM (G : Ctx) (h mi n nf : Nat) (av : List MV) (σ : MS) (Q : MP) : Prop :=
  ∃ h', h' < h ∧ Met (cL G) (yM mi) (wM mi :: lw_good) (rmO h' (nf - n) (slt nf - slt n)) (PcO G n av σ) (QcO G nf Q) (nf - n) (slt nf - slt n) (AO G)
/-- an answer of a kind -/
def cI' (K : Int → MS → Prop) : MP := fun r σ => ∃ x, r = some (vi x) ∧ (inR x → K x σ)
def cJ' (K : BitVec 64 → MS → Prop) : MP := fun r σ => ∃ x, r = some (vl x) ∧ K x σ
def cR' (K : Nat → MS → Prop) : MP := fun r σ => ∃ x, r = some (vr x) ∧ K x σ
def cV' (K : MS → Prop) : MP := fun r σ => r = none ∧ K σ
/-! numbers -/
theorem inR_to (x : Int32) : inR x.toInt := ⟨x.le_toInt, x.toInt_lt⟩
theorem w32_eq {x : Int} (h : inR x) : w32 x = x := by unfold w32; unfold inR at h; exact Int.bmod_eq_of_le (by omega) (by omega)
theorem w32_in (x : Int) : inR (w32 x) := by
  unfold w32 inR
  have h1 := Int.le_bmod (x := x) (m := 4294967296) (by omega)
  have h2 := Int.bmod_lt (x := x) (m := 4294967296) (by omega)
  omega
theorem toI {x : Int} (h : inR x) : (Int32.ofInt x).toInt = x := by
  rw [Int32.toInt_ofInt]
  exact w32_eq h
theorem ofI_w32 (x : Int) : Int32.ofInt (w32 x) = Int32.ofInt x := by
  rw [← Int32.toInt_inj, toI (w32_in x), Int32.toInt_ofInt]; rfl
theorem okV_to (x : Int32) : okV (vi x.toInt) := inR_to x
end
section

abbrev Ent : Type := Nat × Instr × Nat × Nat × Int
def insLen : Instr → Nat
  | .bipush _ | .ldc _ | .iload _ | .lload _ | .aload _ | .istore _ | .lstore _ | .astore _ | .newarray _ => 2
  | .sipush _ | .ldc_w _ | .ldc2_w _ | .iinc _ _ | .ifCond _ _ | .if_icmp _ _ | .goto _ | .getstatic _ | .getfield _ | .putfield _ | .invokevirtual _ | .invokespecial _ | .invokestatic _ | .new _ => 3
  | .tableswitch _ _ _ _ | .lookupswitch _ _ => 0
  | _ => 1
def chkL (mi : Nat) (ins : Instr) (a : Nat) (b : Int) : Bool := match ins with
  | .iconst v => decide (-2147483648 ≤ v ∧ v < 2147483648)
  | .bipush v => decide (-128 ≤ v ∧ v < 128)
  | .sipush v => decide (-32768 ≤ v ∧ v < 32768)
  | .iinc i v => decide (i < lM mi) && decide (-2147483648 ≤ v ∧ v < 2147483648)
  | .istore i => decide (i < lM mi)
  | .istore_n i => decide (i.val < lM mi)
  | .astore i => decide (i < lM mi)
  | .astore_n i => decide (i.val < lM mi)
  | .lstore i => decide (i + 1 < lM mi)
  | .lstore_n i => decide (i.val + 1 < lM mi)
  | .ldc i => (a == 0 && (decide (-2147483648 ≤ b ∧ b < 2147483648) && decide ((oc mi, i, b) ∈ kiT))) || (a == 1 && (decide (stO.getD b.toNat 0 = oc mi) && (decide (stI.getD b.toNat 0 = i) && decide (b.toNat < 22))))
  | .ldc_w i => decide (-2147483648 ≤ b ∧ b < 2147483648) && decide ((oc mi, i, b) ∈ kiT)
  | .ldc2_w i => decide ((oc mi, i, b) ∈ klT)
  | .getfield i => (a == 100 && (decide ((oc mi, i, b.toNat) ∈ sfT) && decide (b.toNat < 2))) || (decide (a < 13) && (decide (b.toNat < cN a) && decide ((oc mi, i, a, b.toNat) ∈ flT)))
  | .putfield i => decide (a < 13) && (decide (b.toNat < cN a) && (decide ((oc mi, i, a, b.toNat) ∈ flT) && (!(fT a b.toNat).2.2.2 || (mk mi == 2 && oc mi == a))))
  | .getstatic i => decide ((oc mi, i, a) ∈ gsT) && decide (a < 2)
  | .invokevirtual i => decide (a < 269) && (mk a == 1 && decide ((oc mi, i, a) ∈ mlT))
  | .invokestatic i => (a == 998 && decide ((oc mi, i) ∈ acT)) || (decide (a < 269) && (mk a == 0 && ((b == 0 && decide ((oc mi, i, a) ∈ mlT)) || (b == 1 && decide ((oc mi, i, a) ∈ nlT)))))
  | .invokespecial i => (a == 999 && decide ((oc mi, i) ∈ oiT)) || (decide (a < 269) && (mk a == 2 && decide ((oc mi, i, a) ∈ mlT)))
  | .new i => decide (a < 13) && decide ((oc mi, i, a) ∈ clT)
  | .lookupswitch _ ps => (ps.toList.zip (ps.toList.drop 1)).all (fun (x : (Int × Int) × (Int × Int)) => decide (x.1.1 < x.2.1))
  | .tableswitch _ lo hi offs => decide (hi + 1 - lo = offs.size)
  | _ => true
def EOK (mi : Nat) (q : Ent) : Prop := mi < NM ∧ decode (bM mi) q.1 = .ok (q.2.1, q.2.2.1) ∧ (insLen q.2.1 = 0 ∨ q.2.2.1 = insLen q.2.1) ∧ chkL mi q.2.1 q.2.2.2.1 q.2.2.2.2 = true
theorem EOK.dec {mi pc len a : Nat} {ins : Instr} {b : Int} (h : EOK mi (pc, ins, len, a, b)) {k : Nat} (hk : insLen ins = k) (h0 : k ≠ 0) : len = k ∧ decode (bM mi) pc = .ok (ins, k) := by
  obtain ⟨-, h1, h2, -⟩ := h
  have hl : len = k := by
    rcases h2 with h2 | h2
    · exact absurd (hk.symm.trans h2) h0
    · exact h2.trans hk
  exact ⟨hl, by rw [← hl]; exact h1⟩
/-! locals -/
def lget : ML → Nat → Option MV
  | [], _ => none
  | v :: _, 0 => v
  | _ :: r, i + 1 => lget r i
def mset : ML → Nat → Option MV → ML
  | [], 0, v => [v]
  | [], i + 1, v => none :: mset [] i v
  | _ :: r, 0, v => v :: r
  | a :: r, i + 1, v => a :: mset r i v
def isLg : Option MV → Bool
  | some (.inr (.inl _)) => true
  | _ => false
def killp (ls : ML) : Nat → ML
  | 0 => ls
  | i + 1 => match isLg (lget ls i) with
    | true => mset ls i none
    | false => ls
def mst (ls : ML) (i : Nat) (v : MV) : ML := mset (killp ls i) i (some v)
def mst2 (ls : ML) (i : Nat) (v : MV) : ML := mset (mset (killp ls i) i (some v)) (i + 1) none
def maskL : List Bool → ML → ML
  | [], _ => []
  | _, [] => []
  | true :: m, v :: r => v :: maskL m r
  | false :: m, _ :: r => none :: maskL m r
theorem lget_mem {ls : ML} {i : Nat} {v : MV} (h : lget ls i = some v) : some v ∈ ls := by
  induction ls generalizing i with
  | nil => cases h
  | cons a r ih =>
    cases i with
    | zero => exact List.mem_cons.mpr (Or.inl h.symm)
    | succ i => exact List.mem_cons_of_mem _ (ih h)
theorem mem_lget {ls : ML} {v : MV} (h : some v ∈ ls) : ∃ i, lget ls i = some v := by
  induction ls with
  | nil => cases h
  | cons a r ih =>
    rcases List.mem_cons.mp h with h | h
    · exact ⟨0, h.symm⟩
    · obtain ⟨i, hi⟩ := ih h
      exact ⟨i + 1, hi⟩
theorem mem_asl {G : Ctx} {ls : ML} {j : Nat} {q : Nat × Value} : q ∈ aslF G j ls ↔ ∃ i v, lget ls i = some v ∧ q = (j + i, trV G v) := by
  induction ls generalizing j with
  | nil => simp [aslF, lget]
  | cons a r ih =>
    cases a with
    | none =>
      rw [aslF, ih]
      constructor
      · rintro ⟨i, v, h1, h2⟩
        exact ⟨i + 1, v, h1, by rw [h2]; congr 1; omega⟩
      · rintro ⟨i, v, h1, h2⟩
        cases i with
        | zero => cases h1
        | succ i => exact ⟨i, v, h1, by rw [h2]; congr 1; omega⟩
    | some w =>
      rw [aslF, List.mem_cons, ih]
      constructor
      · rintro (h | ⟨i, v, h1, h2⟩)
        · exact ⟨0, w, rfl, h⟩
        · exact ⟨i + 1, v, h1, by rw [h2]; congr 1; omega⟩
      · rintro ⟨i, v, h1, h2⟩
        cases i with
        | zero => left; cases h1; exact h2
        | succ i => exact Or.inr ⟨i, v, h1, by rw [h2]; congr 1; omega⟩
theorem lv_of {G : Ctx} {als : Array Slot} {nL : Nat} {ls : ML} {i : Nat} {v : MV} (h : lv_has als nL (aslF G 0 ls)) (hv : lget ls i = some v) : als[i]? = some (.val (trV G v)) := h.2.2 (i, trV G v) (mem_asl.mpr ⟨i, v, hv, by rw [Nat.zero_add]⟩)
theorem lget_mset {ls : ML} {i k : Nat} {w : Option MV} : lget (mset ls i w) k = if k = i then w else lget ls k := by
  induction ls generalizing i k with
  | nil =>
    induction i generalizing k with
    | zero => cases k with
      | zero => simp [mset, lget]
      | succ k => simp [mset, lget]
    | succ i ih => cases k with
      | zero => simp [mset, lget]
      | succ k => simp only [mset, lget, ih, Nat.add_right_cancel_iff]
  | cons a r ih =>
    cases i with
    | zero => cases k with
      | zero => simp [mset, lget]
      | succ k => simp [mset, lget]
    | succ i => cases k with
      | zero => simp [mset, lget]
      | succ k => simp only [mset, lget, ih, Nat.add_right_cancel_iff]
theorem lget_killp {ls : ML} {i k : Nat} {v : MV} (h : lget (killp ls i) k = some v) : lget ls k = some v ∧ ¬ (k + 1 = i ∧ isLg (some v) = true) := by
  cases i with
  | zero => exact ⟨h, fun q => by omega⟩
  | succ i =>
    rw [show killp ls (i + 1) = (match isLg (lget ls i) with
      | true => mset ls i none
      | false => ls) from rfl] at h
    cases hl : isLg (lget ls i) with
    | true =>
      rw [hl] at h
      dsimp only at h
      rw [lget_mset] at h
      by_cases hk : k = i
      · rw [if_pos hk] at h; cases h
      · rw [if_neg hk] at h
        exact ⟨h, fun q => hk (by omega)⟩
    | false =>
      rw [hl] at h
      dsimp only at h
      refine ⟨h, fun q => ?_⟩
      have : k = i := by omega
      subst this
      rw [h] at hl
      rw [hl] at q
      exact absurd q.2 (by decide)
theorem cat_tr {G : Ctx} (hF : cF G = .null ∨ ∃ t, cF G = .ref t) (v : MV) : (trV G v).category = if isLg (some v) = true then 2 else 1 := by
  rcases v with x | x | x
  · rfl
  · rfl
  · show (trR G x).category = 1
    unfold trR
    repeat' split
    all_goals first | rfl | (rcases hF with h | ⟨t, h⟩ <;> rw [h] <;> rfl)
theorem trR_cases {G : Ctx} (hF : cF G = .null ∨ ∃ t, cF G = .ref t) (x : Nat) : trR G x = .null ∨ ∃ a, trR G x = .ref a := by
  unfold trR
  repeat' split
  all_goals first | exact Or.inl rfl | exact Or.inr ⟨_, rfl⟩ | exact hF
theorem lv_less {als : Array Slot} {nL : Nat} {l l' : List (Nat × Value)} (h : lv_has als nL l) (hs : ∀ q ∈ l', q ∈ l) : lv_has als nL l' := ⟨h.1, h.2.1, fun q hq => h.2.2 q (hs q hq)⟩
theorem asl_st {G : Ctx} (hF : cF G = .null ∨ ∃ t, cF G = .ref t) {ls : ML} {i : Nat} {v : MV} : ∀ q ∈ aslF G 0 (mst ls i v), q ∈ (i, trV G v) :: (aslF G 0 ls).filter (fun q => !(q.1 == i) && !(q.1 + 1 == i && q.2.category == 2)) := by
  intro q hq
  obtain ⟨k, u, h1, rfl⟩ := mem_asl.mp hq
  unfold mst at h1
  rw [lget_mset] at h1
  by_cases hk : k = i
  · rw [if_pos hk] at h1
    cases h1
    rw [hk, Nat.zero_add]
    exact List.mem_cons_self
  · rw [if_neg hk] at h1
    obtain ⟨h2, h3⟩ := lget_killp h1
    refine List.mem_cons_of_mem _ (List.mem_filter.mpr ⟨mem_asl.mpr ⟨k, u, h2, rfl⟩, ?_⟩)
    rw [Nat.zero_add]
    have e1 : (k == i) = false := by simpa using hk
    show (!(k == i) && !(k + 1 == i && (trV G u).category == 2)) = true
    rw [e1, cat_tr hF]
    by_cases h4 : k + 1 = i
    · have h5 : isLg (some u) ≠ true := fun h => h3 ⟨h4, h⟩
      rw [if_neg h5]
      simp
    · have e2 : (k + 1 == i) = false := by simpa using h4
      rw [e2]; rfl
theorem asl_st2 {G : Ctx} (hF : cF G = .null ∨ ∃ t, cF G = .ref t) {ls : ML} {i : Nat} {v : MV} : ∀ q ∈ aslF G 0 (mst2 ls i v), q ∈ (i, trV G v) :: (aslF G 0 ls).filter (fun q => !(q.1 == i) && (!(q.1 == i + 1) && !(q.1 + 1 == i && q.2.category == 2))) := by
  intro q hq
  obtain ⟨k, u, h1, rfl⟩ := mem_asl.mp hq
  unfold mst2 at h1
  rw [lget_mset] at h1
  by_cases hj : k = i + 1
  · rw [if_pos hj] at h1; cases h1
  rw [if_neg hj, lget_mset] at h1
  by_cases hk : k = i
  · rw [if_pos hk] at h1
    cases h1
    rw [hk, Nat.zero_add]
    exact List.mem_cons_self
  · rw [if_neg hk] at h1
    obtain ⟨h2, h3⟩ := lget_killp h1
    refine List.mem_cons_of_mem _ (List.mem_filter.mpr ⟨mem_asl.mpr ⟨k, u, h2, rfl⟩, ?_⟩)
    rw [Nat.zero_add]
    have e1 : (k == i) = false := by simpa using hk
    have e3 : (k == i + 1) = false := by simpa using hj
    show (!(k == i) && (!(k == i + 1) && !(k + 1 == i && (trV G u).category == 2))) = true
    rw [e1, e3, cat_tr hF]
    by_cases h4 : k + 1 = i
    · have h5 : isLg (some u) ≠ true := fun h => h3 ⟨h4, h⟩
      rw [if_neg h5]
      simp
    · have e2 : (k + 1 == i) = false := by simpa using h4
      rw [e2]; rfl
theorem ok_mst {ls : ML} {i : Nat} {v : MV} (h : ∀ u, some u ∈ ls → okV u) (hv : okV v) : ∀ u, some u ∈ mst ls i v → okV u := by
  intro u hu
  obtain ⟨k, hk⟩ := mem_lget hu
  unfold mst at hk
  rw [lget_mset] at hk
  by_cases he : k = i
  · rw [if_pos he] at hk; cases hk; exact hv
  · rw [if_neg he] at hk
    exact h u (lget_mem (lget_killp hk).1)
theorem ok_mst2 {ls : ML} {i : Nat} {v : MV} (h : ∀ u, some u ∈ ls → okV u) (hv : okV v) : ∀ u, some u ∈ mst2 ls i v → okV u := by
  intro u hu
  obtain ⟨k, hk⟩ := mem_lget hu
  unfold mst2 at hk
  rw [lget_mset] at hk
  by_cases hj : k = i + 1
  · rw [if_pos hj] at hk; cases hk
  rw [if_neg hj, lget_mset] at hk
  by_cases he : k = i
  · rw [if_pos he] at hk; cases hk; exact hv
  · rw [if_neg he] at hk
    exact h u (lget_mem (lget_killp hk).1)
theorem lget_mask {ms : List Bool} {ls : ML} {k : Nat} {v : MV} (h : lget (maskL ms ls) k = some v) : lget ls k = some v := by
  induction ms generalizing ls k with
  | nil => cases h
  | cons a r ih =>
    cases ls with
    | nil => cases a <;> cases h
    | cons x l =>
      cases a with
      | true => cases k with
        | zero => exact h
        | succ k => exact ih (ls := l) (k := k) h
      | false => cases k with
        | zero => cases h
        | succ k => exact ih (ls := l) (k := k) h
theorem Tri.mask {G : Ctx} {h mi nf n pc : Nat} {ls : ML} {st : List MV} {σ : MS} {Q : MP} (ms : List Bool) (k : Tri G h mi nf n pc (maskL ms ls) st σ Q) : Tri G h mi nf n pc ls st σ Q := by
  intro p e R s m args below meth c n0 Z H locs als F RO hn hnf hP hS hσ hst hls hal
  refine k p e R s m args below meth c n0 Z H locs als F RO hn hnf hP hS hσ hst (fun v hv => ?_) (lv_less hal (fun q hq => ?_))
  · obtain ⟨i, hi⟩ := mem_lget hv
    exact hls v (lget_mem (lget_mask hi))
  · obtain ⟨i, v, h1, h2⟩ := mem_asl.mp hq
    exact mem_asl.mpr ⟨i, v, lget_mask h1, h2⟩
theorem ok_c {v : MV} {st : List MV} (hv : okV v) (h : ∀ u ∈ st, okV u) : ∀ u ∈ v :: st, okV u := fun u hu => by
  rcases List.mem_cons.mp hu with rfl | hu
  · exact hv
  · exact h u hu
theorem ok_t {v : MV} {st : List MV} (h : ∀ u ∈ v :: st, okV u) : ∀ u ∈ st, okV u := fun u hu => h u (List.mem_cons_of_mem _ hu)
theorem ok_h {v : MV} {st : List MV} (h : ∀ u ∈ v :: st, okV u) : okV v := h v List.mem_cons_self
section STEPS
variable {G : Ctx} {h mi nf n pc len a : Nat} {b : Int} {ls : ML} {st : List MV} {σ : MS} {Q : MP}

theorem T_iconst {v : Int} (he : EOK mi (pc, .iconst v, len, a, b)) (k : Tri G h mi nf n (pc + len) ls (vi v :: st) σ Q) : Tri G h mi nf n pc ls st σ Q := by
  intro p e R s m args below meth c n0 Z H locs als F RO hn hnf hP hS hσ hst hls hal
  obtain ⟨hx, hb, hml, hr, hown, hts, hlk, hnm, hK, hW, hsz, hn0, hRf, hRl, hRc, hRs, hNC⟩ := id F
  obtain ⟨rfl, hd⟩ := he.dec (k := 1) rfl (by decide)
  have hv : -2147483648 ≤ v ∧ v < 2147483648 := of_decide_eq_true he.2.2.2
  exact lv_iconst hx hb hd rfl (k p e R s m args below meth c n0 Z H locs als F RO hn hnf hP hS hσ (ok_c hv hst) hls hal)
theorem T_bipush {v : Int} (he : EOK mi (pc, .bipush v, len, a, b)) (k : Tri G h mi nf n (pc + len) ls (vi v :: st) σ Q) : Tri G h mi nf n pc ls st σ Q := by
  intro p e R s m args below meth c n0 Z H locs als F RO hn hnf hP hS hσ hst hls hal
  obtain ⟨hx, hb, hml, hr, hown, hts, hlk, hnm, hK, hW, hsz, hn0, hRf, hRl, hRc, hRs, hNC⟩ := id F
  obtain ⟨rfl, hd⟩ := he.dec (k := 2) rfl (by decide)
  have hv : -128 ≤ v ∧ v < 128 := of_decide_eq_true he.2.2.2
  refine lv_bipush hx hb hd (v := Int32.ofInt v) ?_ (k p e R s m args below meth c n0 Z H locs als F RO hn hnf hP hS hσ (ok_c (show inR v by unfold inR; omega) hst) hls hal)
  rw [← Int32.toInt_inj, Int8.toInt_toInt32, Int8.toInt_ofInt_of_le (by omega) (by omega), toI (by unfold inR; omega)]
theorem T_sipush {v : Int} (he : EOK mi (pc, .sipush v, len, a, b)) (k : Tri G h mi nf n (pc + len) ls (vi v :: st) σ Q) : Tri G h mi nf n pc ls st σ Q := by
  intro p e R s m args below meth c n0 Z H locs als F RO hn hnf hP hS hσ hst hls hal
  obtain ⟨hx, hb, hml, hr, hown, hts, hlk, hnm, hK, hW, hsz, hn0, hRf, hRl, hRc, hRs, hNC⟩ := id F
  obtain ⟨rfl, hd⟩ := he.dec (k := 3) rfl (by decide)
  have hv : -32768 ≤ v ∧ v < 32768 := of_decide_eq_true he.2.2.2
  refine lv_sipush hx hb hd (v := Int32.ofInt v) ?_ (k p e R s m args below meth c n0 Z H locs als F RO hn hnf hP hS hσ (ok_c (show inR v by unfold inR; omega) hst) hls hal)
  rw [← Int32.toInt_inj, Int16.toInt_toInt32, Int16.toInt_ofInt_of_le (by omega) (by omega), toI (by unfold inR; omega)]
theorem T_lconst {v : Fin 2} (he : EOK mi (pc, .lconst v, len, a, b)) (k : Tri G h mi nf n (pc + len) ls (vl (BitVec.ofNat 64 v) :: st) σ Q) : Tri G h mi nf n pc ls st σ Q := by
  intro p e R s m args below meth c n0 Z H locs als F RO hn hnf hP hS hσ hst hls hal
  obtain ⟨hx, hb, hml, hr, hown, hts, hlk, hnm, hK, hW, hsz, hn0, hRf, hRl, hRc, hRs, hNC⟩ := id F
  obtain ⟨rfl, hd⟩ := he.dec (k := 1) rfl (by decide)
  exact lv_lconst hx hb hd (v := Int64.ofBitVec (BitVec.ofNat 64 v)) rfl (k p e R s m args below meth c n0 Z H locs als F RO hn hnf hP hS hσ (ok_c trivial hst) hls hal)
theorem T_iload {i : Nat} {x : Int} (he : EOK mi (pc, .iload i, len, a, b)) (hl : lget ls i = some (vi x)) (k : Tri G h mi nf n (pc + len) ls (vi x :: st) σ Q) : Tri G h mi nf n pc ls st σ Q := by
  intro p e R s m args below meth c n0 Z H locs als F RO hn hnf hP hS hσ hst hls hal
  obtain ⟨hx, hb, hml, hr, hown, hts, hlk, hnm, hK, hW, hsz, hn0, hRf, hRl, hRc, hRs, hNC⟩ := id F
  obtain ⟨rfl, hd⟩ := he.dec (k := 2) rfl (by decide)
  exact lv_iload hx hb hd (lv_of hal hl) (k p e R s m args below meth c n0 Z H locs als F RO hn hnf hP hS hσ (ok_c (hls _ (lget_mem hl)) hst) hls hal)
theorem T_iload_n {i : Fin 4} {x : Int} (he : EOK mi (pc, .iload_n i, len, a, b)) (hl : lget ls i.val = some (vi x)) (k : Tri G h mi nf n (pc + len) ls (vi x :: st) σ Q) : Tri G h mi nf n pc ls st σ Q := by
  intro p e R s m args below meth c n0 Z H locs als F RO hn hnf hP hS hσ hst hls hal
  obtain ⟨hx, hb, hml, hr, hown, hts, hlk, hnm, hK, hW, hsz, hn0, hRf, hRl, hRc, hRs, hNC⟩ := id F
  obtain ⟨rfl, hd⟩ := he.dec (k := 1) rfl (by decide)
  exact lv_iload_n hx hb hd rfl (lv_of hal hl) (k p e R s m args below meth c n0 Z H locs als F RO hn hnf hP hS hσ (ok_c (hls _ (lget_mem hl)) hst) hls hal)
theorem T_lload {i : Nat} {x : BitVec 64} (he : EOK mi (pc, .lload i, len, a, b)) (hl : lget ls i = some (vl x)) (k : Tri G h mi nf n (pc + len) ls (vl x :: st) σ Q) : Tri G h mi nf n pc ls st σ Q := by
  intro p e R s m args below meth c n0 Z H locs als F RO hn hnf hP hS hσ hst hls hal
  obtain ⟨hx, hb, hml, hr, hown, hts, hlk, hnm, hK, hW, hsz, hn0, hRf, hRl, hRc, hRs, hNC⟩ := id F
  obtain ⟨rfl, hd⟩ := he.dec (k := 2) rfl (by decide)
  exact lv_lload hx hb hd (lv_of hal hl) (k p e R s m args below meth c n0 Z H locs als F RO hn hnf hP hS hσ (ok_c trivial hst) hls hal)
theorem T_lload_n {i : Fin 4} {x : BitVec 64} (he : EOK mi (pc, .lload_n i, len, a, b)) (hl : lget ls i.val = some (vl x)) (k : Tri G h mi nf n (pc + len) ls (vl x :: st) σ Q) : Tri G h mi nf n pc ls st σ Q := by
  intro p e R s m args below meth c n0 Z H locs als F RO hn hnf hP hS hσ hst hls hal
  obtain ⟨hx, hb, hml, hr, hown, hts, hlk, hnm, hK, hW, hsz, hn0, hRf, hRl, hRc, hRs, hNC⟩ := id F
  obtain ⟨rfl, hd⟩ := he.dec (k := 1) rfl (by decide)
  exact lv_lload_n hx hb hd rfl (lv_of hal hl) (k p e R s m args below meth c n0 Z H locs als F RO hn hnf hP hS hσ (ok_c trivial hst) hls hal)
theorem T_aload {i : Nat} {x : Nat} (he : EOK mi (pc, .aload i, len, a, b)) (hl : lget ls i = some (vr x)) (k : Tri G h mi nf n (pc + len) ls (vr x :: st) σ Q) : Tri G h mi nf n pc ls st σ Q := by
  intro p e R s m args below meth c n0 Z H locs als F RO hn hnf hP hS hσ hst hls hal
  obtain ⟨hx, hb, hml, hr, hown, hts, hlk, hnm, hK, hW, hsz, hn0, hRf, hRl, hRc, hRs, hNC⟩ := id F
  obtain ⟨rfl, hd⟩ := he.dec (k := 2) rfl (by decide)
  have h1 := lv_of hal hl
  have k1 := k p e R s m args below meth c n0 Z H locs als F RO hn hnf hP hS hσ (ok_c (v := vr x) trivial hst) hls hal
  have e1 : trV G (vr x) = trR G x := rfl
  rw [List.map_cons, e1] at k1
  rw [e1] at h1
  rcases trR_cases hK.2.2.2 x with h2 | ⟨w, h2⟩
  · rw [h2] at h1 k1
    exact lv_aloadN hx hb hd h1 k1
  · rw [h2] at h1 k1
    exact lv_aload hx hb hd h1 k1
theorem T_aload_n {i : Fin 4} {x : Nat} (he : EOK mi (pc, .aload_n i, len, a, b)) (hl : lget ls i.val = some (vr x)) (k : Tri G h mi nf n (pc + len) ls (vr x :: st) σ Q) : Tri G h mi nf n pc ls st σ Q := by
  intro p e R s m args below meth c n0 Z H locs als F RO hn hnf hP hS hσ hst hls hal
  obtain ⟨hx, hb, hml, hr, hown, hts, hlk, hnm, hK, hW, hsz, hn0, hRf, hRl, hRc, hRs, hNC⟩ := id F
  obtain ⟨rfl, hd⟩ := he.dec (k := 1) rfl (by decide)
  have h1 := lv_of hal hl
  have k1 := k p e R s m args below meth c n0 Z H locs als F RO hn hnf hP hS hσ (ok_c (v := vr x) trivial hst) hls hal
  have e1 : trV G (vr x) = trR G x := rfl
  rw [List.map_cons, e1] at k1
  rw [e1] at h1
  rcases trR_cases hK.2.2.2 x with h2 | ⟨w, h2⟩
  · rw [h2] at h1 k1
    exact lv_aload_nN hx hb hd rfl h1 k1
  · rw [h2] at h1 k1
    exact lv_aload_n hx hb hd rfl h1 k1
theorem T_istore {i : Nat} {x : Int} (he : EOK mi (pc, .istore i, len, a, b)) (k : Tri G h mi nf n (pc + len) (mst ls i (vi x)) st σ Q) : Tri G h mi nf n pc ls (vi x :: st) σ Q := by
  intro p e R s m args below meth c n0 Z H locs als F RO hn hnf hP hS hσ hst hls hal
  obtain ⟨hx, hb, hml, hr, hown, hts, hlk, hnm, hK, hW, hsz, hn0, hRf, hRl, hRc, hRs, hNC⟩ := id F
  obtain ⟨rfl, hd⟩ := he.dec (k := 2) rfl (by decide)
  have hi : i < lM mi := of_decide_eq_true he.2.2.2
  refine lv_istore hx hb hd hal hi rfl (fun als2 hal2 => ?_)
  exact k p e R s m args below meth c n0 Z H locs als2 F RO hn hnf hP hS hσ (ok_t hst) (ok_mst hls (ok_h hst)) (lv_less hal2 (asl_st (v := vi x) hK.2.2.2))
theorem T_istore_n {i : Fin 4} {x : Int} (he : EOK mi (pc, .istore_n i, len, a, b)) (k : Tri G h mi nf n (pc + len) (mst ls i.val (vi x)) st σ Q) : Tri G h mi nf n pc ls (vi x :: st) σ Q := by
  intro p e R s m args below meth c n0 Z H locs als F RO hn hnf hP hS hσ hst hls hal
  obtain ⟨hx, hb, hml, hr, hown, hts, hlk, hnm, hK, hW, hsz, hn0, hRf, hRl, hRc, hRs, hNC⟩ := id F
  obtain ⟨rfl, hd⟩ := he.dec (k := 1) rfl (by decide)
  have hi : i.val < lM mi := of_decide_eq_true he.2.2.2
  refine lv_istore_n hx hb hd rfl hal hi rfl (fun als2 hal2 => ?_)
  exact k p e R s m args below meth c n0 Z H locs als2 F RO hn hnf hP hS hσ (ok_t hst) (ok_mst hls (ok_h hst)) (lv_less hal2 (asl_st (v := vi x) hK.2.2.2))
theorem T_lstore {i : Nat} {x : BitVec 64} (he : EOK mi (pc, .lstore i, len, a, b)) (k : Tri G h mi nf n (pc + len) (mst2 ls i (vl x)) st σ Q) : Tri G h mi nf n pc ls (vl x :: st) σ Q := by
  intro p e R s m args below meth c n0 Z H locs als F RO hn hnf hP hS hσ hst hls hal
  obtain ⟨hx, hb, hml, hr, hown, hts, hlk, hnm, hK, hW, hsz, hn0, hRf, hRl, hRc, hRs, hNC⟩ := id F
  obtain ⟨rfl, hd⟩ := he.dec (k := 2) rfl (by decide)
  have hi : i + 1 < lM mi := of_decide_eq_true he.2.2.2
  refine lv_lstore hx hb hd hal hi rfl (fun als2 hal2 => ?_)
  exact k p e R s m args below meth c n0 Z H locs als2 F RO hn hnf hP hS hσ (ok_t hst) (ok_mst2 hls (ok_h hst)) (lv_less hal2 (asl_st2 (v := vl x) hK.2.2.2))
theorem T_lstore_n {i : Fin 4} {x : BitVec 64} (he : EOK mi (pc, .lstore_n i, len, a, b)) (k : Tri G h mi nf n (pc + len) (mst2 ls i.val (vl x)) st σ Q) : Tri G h mi nf n pc ls (vl x :: st) σ Q := by
  intro p e R s m args below meth c n0 Z H locs als F RO hn hnf hP hS hσ hst hls hal
  obtain ⟨hx, hb, hml, hr, hown, hts, hlk, hnm, hK, hW, hsz, hn0, hRf, hRl, hRc, hRs, hNC⟩ := id F
  obtain ⟨rfl, hd⟩ := he.dec (k := 1) rfl (by decide)
  have hi : i.val + 1 < lM mi := of_decide_eq_true he.2.2.2
  refine lv_lstore_n hx hb hd rfl hal hi rfl (fun als2 hal2 => ?_)
  exact k p e R s m args below meth c n0 Z H locs als2 F RO hn hnf hP hS hσ (ok_t hst) (ok_mst2 hls (ok_h hst)) (lv_less hal2 (asl_st2 (v := vl x) hK.2.2.2))
theorem T_astore {i : Nat} {x : Nat} (he : EOK mi (pc, .astore i, len, a, b)) (k : Tri G h mi nf n (pc + len) (mst ls i (vr x)) st σ Q) : Tri G h mi nf n pc ls (vr x :: st) σ Q := by
  intro p e R s m args below meth c n0 Z H locs als F RO hn hnf hP hS hσ hst hls hal
  obtain ⟨hx, hb, hml, hr, hown, hts, hlk, hnm, hK, hW, hsz, hn0, hRf, hRl, hRc, hRs, hNC⟩ := id F
  obtain ⟨rfl, hd⟩ := he.dec (k := 2) rfl (by decide)
  have hi : i < lM mi := of_decide_eq_true he.2.2.2
  have kk : ∀ als2, lv_has als2 (lM mi) ((i, trR G x) :: (aslF G 0 ls).filter (fun q => !(q.1 == i) && !(q.1 + 1 == i && q.2.category == 2))) → _ := fun als2 hal2 => k p e R s m args below meth c n0 Z H locs als2 F RO hn hnf hP hS hσ (ok_t hst) (ok_mst hls (ok_h hst)) (lv_less hal2 (asl_st (v := vr x) hK.2.2.2))
  show W p (cL G) e R s m args below meth c H locs (n - n0) (slt n - slt n0) Z (F0 m pc als (trR G x :: st.map (trV G)))
  rcases trR_cases hK.2.2.2 x with h2 | ⟨w, h2⟩
  · rw [h2] at kk ⊢
    exact lv_astoreN hx hb hd hal hi rfl kk
  · rw [h2] at kk ⊢
    exact lv_astore hx hb hd hal hi rfl kk
theorem T_astore_n {i : Fin 4} {x : Nat} (he : EOK mi (pc, .astore_n i, len, a, b)) (k : Tri G h mi nf n (pc + len) (mst ls i.val (vr x)) st σ Q) : Tri G h mi nf n pc ls (vr x :: st) σ Q := by
  intro p e R s m args below meth c n0 Z H locs als F RO hn hnf hP hS hσ hst hls hal
  obtain ⟨hx, hb, hml, hr, hown, hts, hlk, hnm, hK, hW, hsz, hn0, hRf, hRl, hRc, hRs, hNC⟩ := id F
  obtain ⟨rfl, hd⟩ := he.dec (k := 1) rfl (by decide)
  have hi : i.val < lM mi := of_decide_eq_true he.2.2.2
  have kk : ∀ als2, lv_has als2 (lM mi) ((i.val, trR G x) :: (aslF G 0 ls).filter (fun q => !(q.1 == i.val) && !(q.1 + 1 == i.val && q.2.category == 2))) → _ := fun als2 hal2 => k p e R s m args below meth c n0 Z H locs als2 F RO hn hnf hP hS hσ (ok_t hst) (ok_mst hls (ok_h hst)) (lv_less hal2 (asl_st (v := vr x) hK.2.2.2))
  show W p (cL G) e R s m args below meth c H locs (n - n0) (slt n - slt n0) Z (F0 m pc als (trR G x :: st.map (trV G)))
  rcases trR_cases hK.2.2.2 x with h2 | ⟨w, h2⟩
  · rw [h2] at kk ⊢
    exact lv_astore_nN hx hb hd rfl hal hi rfl kk
  · rw [h2] at kk ⊢
    exact lv_astore_n hx hb hd rfl hal hi rfl kk
theorem T_iinc {i : Nat} {v x : Int} (he : EOK mi (pc, .iinc i v, len, a, b)) (hl : lget ls i = some (vi x)) (k : Tri G h mi nf n (pc + len) (mst ls i (vi (w32 (x + v)))) st σ Q) : Tri G h mi nf n pc ls st σ Q := by
  intro p e R s m args below meth c n0 Z H locs als F RO hn hnf hP hS hσ hst hls hal
  obtain ⟨hx, hb, hml, hr, hown, hts, hlk, hnm, hK, hW, hsz, hn0, hRf, hRl, hRc, hRs, hNC⟩ := id F
  obtain ⟨rfl, hd⟩ := he.dec (k := 3) rfl (by decide)
  have hc := he.2.2.2
  have h12 := (Bool.and_eq_true _ _).mp hc
  have hi : i < lM mi := of_decide_eq_true h12.1
  obtain ⟨k0, hk0⟩ := List.getElem?_of_mem (mem_asl (G := G) (j := 0).mpr ⟨i, vi x, hl, by rw [Nat.zero_add]⟩)
  refine lv_iinc (v := Int32.ofInt (w32 (x + v))) hx hb hd hal (k := k0) hk0 (by rw [ofI_w32, Int32.ofInt_add]) hi rfl (fun als2 hal2 => ?_)
  exact k p e R s m args below meth c n0 Z H locs als2 F RO hn hnf hP hS hσ hst (ok_mst hls (w32_in _)) (lv_less hal2 (asl_st (v := vi (w32 (x + v))) hK.2.2.2))
theorem T_iadd {x y : Int} (he : EOK mi (pc, .iadd, len, a, b)) (k : Tri G h mi nf n (pc + len) ls (vi (w32 (x + y)) :: st) σ Q) : Tri G h mi nf n pc ls (vi y :: vi x :: st) σ Q := by
  intro p e R s m args below meth c n0 Z H locs als F RO hn hnf hP hS hσ hst hls hal
  obtain ⟨hx, hb, hml, hr, hown, hts, hlk, hnm, hK, hW, hsz, hn0, hRf, hRl, hRc, hRs, hNC⟩ := id F
  obtain ⟨rfl, hd⟩ := he.dec (k := 1) rfl (by decide)
  have k1 := k p e R s m args below meth c n0 Z H locs als F RO hn hnf hP hS hσ (ok_c (w32_in _) (ok_t (ok_t hst))) hls hal
  rw [List.map_cons] at k1
  refine lv_iadd hx hb hd  ?_
  rw [show trV G (vi (w32 (x + y))) = .int (Int32.ofInt (w32 (x + y))) from rfl, ofI_w32, Int32.ofInt_add] at k1
  exact k1
theorem T_isub {x y : Int} (he : EOK mi (pc, .isub, len, a, b)) (k : Tri G h mi nf n (pc + len) ls (vi (w32 (x - y)) :: st) σ Q) : Tri G h mi nf n pc ls (vi y :: vi x :: st) σ Q := by
  intro p e R s m args below meth c n0 Z H locs als F RO hn hnf hP hS hσ hst hls hal
  obtain ⟨hx, hb, hml, hr, hown, hts, hlk, hnm, hK, hW, hsz, hn0, hRf, hRl, hRc, hRs, hNC⟩ := id F
  obtain ⟨rfl, hd⟩ := he.dec (k := 1) rfl (by decide)
  have k1 := k p e R s m args below meth c n0 Z H locs als F RO hn hnf hP hS hσ (ok_c (w32_in _) (ok_t (ok_t hst))) hls hal
  rw [List.map_cons] at k1
  refine lv_isub hx hb hd  ?_
  rw [show trV G (vi (w32 (x - y))) = .int (Int32.ofInt (w32 (x - y))) from rfl, ofI_w32, Int32.ofInt_sub] at k1
  exact k1
theorem T_imul {x y : Int} (he : EOK mi (pc, .imul, len, a, b)) (k : Tri G h mi nf n (pc + len) ls (vi (w32 (x * y)) :: st) σ Q) : Tri G h mi nf n pc ls (vi y :: vi x :: st) σ Q := by
  intro p e R s m args below meth c n0 Z H locs als F RO hn hnf hP hS hσ hst hls hal
  obtain ⟨hx, hb, hml, hr, hown, hts, hlk, hnm, hK, hW, hsz, hn0, hRf, hRl, hRc, hRs, hNC⟩ := id F
  obtain ⟨rfl, hd⟩ := he.dec (k := 1) rfl (by decide)
  have k1 := k p e R s m args below meth c n0 Z H locs als F RO hn hnf hP hS hσ (ok_c (w32_in _) (ok_t (ok_t hst))) hls hal
  rw [List.map_cons] at k1
  refine lv_imul hx hb hd  ?_
  rw [show trV G (vi (w32 (x * y))) = .int (Int32.ofInt (w32 (x * y))) from rfl, ofI_w32, Int32.ofInt_mul] at k1
  exact k1
theorem T_iand {x y : Int} (he : EOK mi (pc, .iand, len, a, b)) (k : Tri G h mi nf n (pc + len) ls (vi (iAnd x y) :: st) σ Q) : Tri G h mi nf n pc ls (vi y :: vi x :: st) σ Q := by
  intro p e R s m args below meth c n0 Z H locs als F RO hn hnf hP hS hσ hst hls hal
  obtain ⟨hx, hb, hml, hr, hown, hts, hlk, hnm, hK, hW, hsz, hn0, hRf, hRl, hRc, hRs, hNC⟩ := id F
  obtain ⟨rfl, hd⟩ := he.dec (k := 1) rfl (by decide)
  have k1 := k p e R s m args below meth c n0 Z H locs als F RO hn hnf hP hS hσ (ok_c (inR_to _) (ok_t (ok_t hst))) hls hal
  rw [List.map_cons] at k1
  refine lv_iand hx hb hd  ?_
  rw [show trV G (vi (iAnd x y)) = .int (Int32.ofInt (iAnd x y)) from rfl, show Int32.ofInt (iAnd x y) = _ from Int32.ofInt_toInt _] at k1
  exact k1
theorem T_ior {x y : Int} (he : EOK mi (pc, .ior, len, a, b)) (k : Tri G h mi nf n (pc + len) ls (vi (iOr x y) :: st) σ Q) : Tri G h mi nf n pc ls (vi y :: vi x :: st) σ Q := by
  intro p e R s m args below meth c n0 Z H locs als F RO hn hnf hP hS hσ hst hls hal
  obtain ⟨hx, hb, hml, hr, hown, hts, hlk, hnm, hK, hW, hsz, hn0, hRf, hRl, hRc, hRs, hNC⟩ := id F
  obtain ⟨rfl, hd⟩ := he.dec (k := 1) rfl (by decide)
  have k1 := k p e R s m args below meth c n0 Z H locs als F RO hn hnf hP hS hσ (ok_c (inR_to _) (ok_t (ok_t hst))) hls hal
  rw [List.map_cons] at k1
  refine lv_ior hx hb hd  ?_
  rw [show trV G (vi (iOr x y)) = .int (Int32.ofInt (iOr x y)) from rfl, show Int32.ofInt (iOr x y) = _ from Int32.ofInt_toInt _] at k1
  exact k1
theorem T_ixor {x y : Int} (he : EOK mi (pc, .ixor, len, a, b)) (k : Tri G h mi nf n (pc + len) ls (vi (iXor x y) :: st) σ Q) : Tri G h mi nf n pc ls (vi y :: vi x :: st) σ Q := by
  intro p e R s m args below meth c n0 Z H locs als F RO hn hnf hP hS hσ hst hls hal
  obtain ⟨hx, hb, hml, hr, hown, hts, hlk, hnm, hK, hW, hsz, hn0, hRf, hRl, hRc, hRs, hNC⟩ := id F
  obtain ⟨rfl, hd⟩ := he.dec (k := 1) rfl (by decide)
  have k1 := k p e R s m args below meth c n0 Z H locs als F RO hn hnf hP hS hσ (ok_c (inR_to _) (ok_t (ok_t hst))) hls hal
  rw [List.map_cons] at k1
  refine lv_ixor hx hb hd  ?_
  rw [show trV G (vi (iXor x y)) = .int (Int32.ofInt (iXor x y)) from rfl, show Int32.ofInt (iXor x y) = _ from Int32.ofInt_toInt _] at k1
  exact k1
theorem T_ishl {x y : Int} (he : EOK mi (pc, .ishl, len, a, b)) (k : Tri G h mi nf n (pc + len) ls (vi (iShl x y) :: st) σ Q) : Tri G h mi nf n pc ls (vi y :: vi x :: st) σ Q := by
  intro p e R s m args below meth c n0 Z H locs als F RO hn hnf hP hS hσ hst hls hal
  obtain ⟨hx, hb, hml, hr, hown, hts, hlk, hnm, hK, hW, hsz, hn0, hRf, hRl, hRc, hRs, hNC⟩ := id F
  obtain ⟨rfl, hd⟩ := he.dec (k := 1) rfl (by decide)
  have k1 := k p e R s m args below meth c n0 Z H locs als F RO hn hnf hP hS hσ (ok_c (inR_to _) (ok_t (ok_t hst))) hls hal
  rw [List.map_cons] at k1
  refine lv_ishl hx hb hd  ?_
  rw [show trV G (vi (iShl x y)) = .int (Int32.ofInt (iShl x y)) from rfl, show Int32.ofInt (iShl x y) = _ from Int32.ofInt_toInt _] at k1
  exact k1
theorem T_ishr {x y : Int} (he : EOK mi (pc, .ishr, len, a, b)) (k : Tri G h mi nf n (pc + len) ls (vi (iShr x y) :: st) σ Q) : Tri G h mi nf n pc ls (vi y :: vi x :: st) σ Q := by
  intro p e R s m args below meth c n0 Z H locs als F RO hn hnf hP hS hσ hst hls hal
  obtain ⟨hx, hb, hml, hr, hown, hts, hlk, hnm, hK, hW, hsz, hn0, hRf, hRl, hRc, hRs, hNC⟩ := id F
  obtain ⟨rfl, hd⟩ := he.dec (k := 1) rfl (by decide)
  have k1 := k p e R s m args below meth c n0 Z H locs als F RO hn hnf hP hS hσ (ok_c (inR_to _) (ok_t (ok_t hst))) hls hal
  rw [List.map_cons] at k1
  refine lv_ishr hx hb hd  ?_
  rw [show trV G (vi (iShr x y)) = .int (Int32.ofInt (iShr x y)) from rfl, show Int32.ofInt (iShr x y) = _ from Int32.ofInt_toInt _] at k1
  exact k1
theorem T_idiv {x y : Int} (he : EOK mi (pc, .idiv, len, a, b)) (hne : y ≠ 0) (k : Tri G h mi nf n (pc + len) ls (vi (iDiv x y) :: st) σ Q) : Tri G h mi nf n pc ls (vi y :: vi x :: st) σ Q := by
  intro p e R s m args below meth c n0 Z H locs als F RO hn hnf hP hS hσ hst hls hal
  obtain ⟨hx, hb, hml, hr, hown, hts, hlk, hnm, hK, hW, hsz, hn0, hRf, hRl, hRc, hRs, hNC⟩ := id F
  obtain ⟨rfl, hd⟩ := he.dec (k := 1) rfl (by decide)
  have k1 := k p e R s m args below meth c n0 Z H locs als F RO hn hnf hP hS hσ (ok_c (inR_to _) (ok_t (ok_t hst))) hls hal
  rw [List.map_cons] at k1
  refine lv_idiv hx hb hd (fun h0 => hne (by have h1 := toI (show inR y from ok_h hst); rw [h0] at h1; exact h1.symm)) ?_
  rw [show trV G (vi (iDiv x y)) = .int (Int32.ofInt (iDiv x y)) from rfl, show Int32.ofInt (iDiv x y) = _ from Int32.ofInt_toInt _] at k1
  exact k1
theorem T_irem {x y : Int} (he : EOK mi (pc, .irem, len, a, b)) (hne : y ≠ 0) (k : Tri G h mi nf n (pc + len) ls (vi (iRem x y) :: st) σ Q) : Tri G h mi nf n pc ls (vi y :: vi x :: st) σ Q := by
  intro p e R s m args below meth c n0 Z H locs als F RO hn hnf hP hS hσ hst hls hal
  obtain ⟨hx, hb, hml, hr, hown, hts, hlk, hnm, hK, hW, hsz, hn0, hRf, hRl, hRc, hRs, hNC⟩ := id F
  obtain ⟨rfl, hd⟩ := he.dec (k := 1) rfl (by decide)
  have k1 := k p e R s m args below meth c n0 Z H locs als F RO hn hnf hP hS hσ (ok_c (inR_to _) (ok_t (ok_t hst))) hls hal
  rw [List.map_cons] at k1
  refine lv_irem hx hb hd (fun h0 => hne (by have h1 := toI (show inR y from ok_h hst); rw [h0] at h1; exact h1.symm)) ?_
  rw [show trV G (vi (iRem x y)) = .int (Int32.ofInt (iRem x y)) from rfl, show Int32.ofInt (iRem x y) = _ from Int32.ofInt_toInt _] at k1
  exact k1
theorem T_iushr {x y : Int} (he : EOK mi (pc, .iushr, len, a, b)) (k : Tri G h mi nf n (pc + len) ls (vi (iUsh x y) :: st) σ Q) : Tri G h mi nf n pc ls (vi y :: vi x :: st) σ Q := by
  intro p e R s m args below meth c n0 Z H locs als F RO hn hnf hP hS hσ hst hls hal
  obtain ⟨hx, hb, hml, hr, hown, hts, hlk, hnm, hK, hW, hsz, hn0, hRf, hRl, hRc, hRs, hNC⟩ := id F
  obtain ⟨rfl, hd⟩ := he.dec (k := 1) rfl (by decide)
  exact lv_iushr hx hb hd (Int32.ofInt_toInt _).symm (k p e R s m args below meth c n0 Z H locs als F RO hn hnf hP hS hσ (ok_c (inR_to _) (ok_t (ok_t hst))) hls hal)
theorem T_ineg {x : Int} (he : EOK mi (pc, .ineg, len, a, b)) (k : Tri G h mi nf n (pc + len) ls (vi (w32 (-x)) :: st) σ Q) : Tri G h mi nf n pc ls (vi x :: st) σ Q := by
  intro p e R s m args below meth c n0 Z H locs als F RO hn hnf hP hS hσ hst hls hal
  obtain ⟨hx, hb, hml, hr, hown, hts, hlk, hnm, hK, hW, hsz, hn0, hRf, hRl, hRc, hRs, hNC⟩ := id F
  obtain ⟨rfl, hd⟩ := he.dec (k := 1) rfl (by decide)
  have k1 := k p e R s m args below meth c n0 Z H locs als F RO hn hnf hP hS hσ (ok_c (w32_in _) (ok_t hst)) hls hal
  rw [List.map_cons] at k1
  refine lv_ineg hx hb hd ?_
  rw [show trV G (vi (w32 (-x))) = .int (Int32.ofInt (w32 (-x))) from rfl, ofI_w32, Int32.ofInt_neg] at k1
  exact k1
theorem T_i2b {x : Int} (he : EOK mi (pc, .i2b, len, a, b)) (k : Tri G h mi nf n (pc + len) ls (vi (w8 x) :: st) σ Q) : Tri G h mi nf n pc ls (vi x :: st) σ Q := by
  intro p e R s m args below meth c n0 Z H locs als F RO hn hnf hP hS hσ hst hls hal
  obtain ⟨hx, hb, hml, hr, hown, hts, hlk, hnm, hK, hW, hsz, hn0, hRf, hRl, hRc, hRs, hNC⟩ := id F
  obtain ⟨rfl, hd⟩ := he.dec (k := 1) rfl (by decide)
  exact lv_i2b hx hb hd (v := Int32.ofInt (w8 x)) rfl (k p e R s m args below meth c n0 Z H locs als F RO hn hnf hP hS hσ (ok_c (by have h1 := Int8.le_toInt (Int32.ofInt x).toInt8; have h2 := Int8.toInt_lt (Int32.ofInt x).toInt8; show inR (Int32.ofInt x).toInt8.toInt; unfold inR; omega) (ok_t hst)) hls hal)
theorem T_i2c {x : Int} (he : EOK mi (pc, .i2c, len, a, b)) (k : Tri G h mi nf n (pc + len) ls (vi (i2c x) :: st) σ Q) : Tri G h mi nf n pc ls (vi x :: st) σ Q := by
  intro p e R s m args below meth c n0 Z H locs als F RO hn hnf hP hS hσ hst hls hal
  obtain ⟨hx, hb, hml, hr, hown, hts, hlk, hnm, hK, hW, hsz, hn0, hRf, hRl, hRc, hRs, hNC⟩ := id F
  obtain ⟨rfl, hd⟩ := he.dec (k := 1) rfl (by decide)
  exact lv_i2c hx hb hd (Int32.ofInt_toInt _).symm (k p e R s m args below meth c n0 Z H locs als F RO hn hnf hP hS hσ (ok_c (inR_to _) (ok_t hst)) hls hal)
theorem T_i2l {x : Int} (he : EOK mi (pc, .i2l, len, a, b)) (k : Tri G h mi nf n (pc + len) ls (vl (i2l x) :: st) σ Q) : Tri G h mi nf n pc ls (vi x :: st) σ Q := by
  intro p e R s m args below meth c n0 Z H locs als F RO hn hnf hP hS hσ hst hls hal
  obtain ⟨hx, hb, hml, hr, hown, hts, hlk, hnm, hK, hW, hsz, hn0, hRf, hRl, hRc, hRs, hNC⟩ := id F
  obtain ⟨rfl, hd⟩ := he.dec (k := 1) rfl (by decide)
  exact lv_i2l hx hb hd rfl (k p e R s m args below meth c n0 Z H locs als F RO hn hnf hP hS hσ (ok_c trivial (ok_t hst)) hls hal)
theorem T_l2i {x : BitVec 64} (he : EOK mi (pc, .l2i, len, a, b)) (k : Tri G h mi nf n (pc + len) ls (vi (l2i x) :: st) σ Q) : Tri G h mi nf n pc ls (vl x :: st) σ Q := by
  intro p e R s m args below meth c n0 Z H locs als F RO hn hnf hP hS hσ hst hls hal
  obtain ⟨hx, hb, hml, hr, hown, hts, hlk, hnm, hK, hW, hsz, hn0, hRf, hRl, hRc, hRs, hNC⟩ := id F
  obtain ⟨rfl, hd⟩ := he.dec (k := 1) rfl (by decide)
  exact lv_l2i hx hb hd (Int32.ofInt_toInt _).symm (k p e R s m args below meth c n0 Z H locs als F RO hn hnf hP hS hσ (ok_c (inR_to _) (ok_t hst)) hls hal)
theorem T_ladd {x y : BitVec 64} (he : EOK mi (pc, .ladd, len, a, b)) (k : Tri G h mi nf n (pc + len) ls (vl (x + y) :: st) σ Q) : Tri G h mi nf n pc ls (vl y :: vl x :: st) σ Q := by
  intro p e R s m args below meth c n0 Z H locs als F RO hn hnf hP hS hσ hst hls hal
  obtain ⟨hx, hb, hml, hr, hown, hts, hlk, hnm, hK, hW, hsz, hn0, hRf, hRl, hRc, hRs, hNC⟩ := id F
  obtain ⟨rfl, hd⟩ := he.dec (k := 1) rfl (by decide)
  exact lv_ladd hx hb hd (k p e R s m args below meth c n0 Z H locs als F RO hn hnf hP hS hσ (ok_c trivial (ok_t (ok_t hst))) hls hal)
theorem T_lsub {x y : BitVec 64} (he : EOK mi (pc, .lsub, len, a, b)) (k : Tri G h mi nf n (pc + len) ls (vl (x - y) :: st) σ Q) : Tri G h mi nf n pc ls (vl y :: vl x :: st) σ Q := by
  intro p e R s m args below meth c n0 Z H locs als F RO hn hnf hP hS hσ hst hls hal
  obtain ⟨hx, hb, hml, hr, hown, hts, hlk, hnm, hK, hW, hsz, hn0, hRf, hRl, hRc, hRs, hNC⟩ := id F
  obtain ⟨rfl, hd⟩ := he.dec (k := 1) rfl (by decide)
  exact lv_lsub hx hb hd (k p e R s m args below meth c n0 Z H locs als F RO hn hnf hP hS hσ (ok_c trivial (ok_t (ok_t hst))) hls hal)
theorem T_lmul {x y : BitVec 64} (he : EOK mi (pc, .lmul, len, a, b)) (k : Tri G h mi nf n (pc + len) ls (vl (x * y) :: st) σ Q) : Tri G h mi nf n pc ls (vl y :: vl x :: st) σ Q := by
  intro p e R s m args below meth c n0 Z H locs als F RO hn hnf hP hS hσ hst hls hal
  obtain ⟨hx, hb, hml, hr, hown, hts, hlk, hnm, hK, hW, hsz, hn0, hRf, hRl, hRc, hRs, hNC⟩ := id F
  obtain ⟨rfl, hd⟩ := he.dec (k := 1) rfl (by decide)
  exact lv_lmul hx hb hd (k p e R s m args below meth c n0 Z H locs als F RO hn hnf hP hS hσ (ok_c trivial (ok_t (ok_t hst))) hls hal)
theorem T_land {x y : BitVec 64} (he : EOK mi (pc, .land, len, a, b)) (k : Tri G h mi nf n (pc + len) ls (vl (x &&& y) :: st) σ Q) : Tri G h mi nf n pc ls (vl y :: vl x :: st) σ Q := by
  intro p e R s m args below meth c n0 Z H locs als F RO hn hnf hP hS hσ hst hls hal
  obtain ⟨hx, hb, hml, hr, hown, hts, hlk, hnm, hK, hW, hsz, hn0, hRf, hRl, hRc, hRs, hNC⟩ := id F
  obtain ⟨rfl, hd⟩ := he.dec (k := 1) rfl (by decide)
  exact lv_land hx hb hd (k p e R s m args below meth c n0 Z H locs als F RO hn hnf hP hS hσ (ok_c trivial (ok_t (ok_t hst))) hls hal)
theorem T_lor {x y : BitVec 64} (he : EOK mi (pc, .lor, len, a, b)) (k : Tri G h mi nf n (pc + len) ls (vl (x ||| y) :: st) σ Q) : Tri G h mi nf n pc ls (vl y :: vl x :: st) σ Q := by
  intro p e R s m args below meth c n0 Z H locs als F RO hn hnf hP hS hσ hst hls hal
  obtain ⟨hx, hb, hml, hr, hown, hts, hlk, hnm, hK, hW, hsz, hn0, hRf, hRl, hRc, hRs, hNC⟩ := id F
  obtain ⟨rfl, hd⟩ := he.dec (k := 1) rfl (by decide)
  exact lv_lor hx hb hd (k p e R s m args below meth c n0 Z H locs als F RO hn hnf hP hS hσ (ok_c trivial (ok_t (ok_t hst))) hls hal)
theorem T_lxor {x y : BitVec 64} (he : EOK mi (pc, .lxor, len, a, b)) (k : Tri G h mi nf n (pc + len) ls (vl (x ^^^ y) :: st) σ Q) : Tri G h mi nf n pc ls (vl y :: vl x :: st) σ Q := by
  intro p e R s m args below meth c n0 Z H locs als F RO hn hnf hP hS hσ hst hls hal
  obtain ⟨hx, hb, hml, hr, hown, hts, hlk, hnm, hK, hW, hsz, hn0, hRf, hRl, hRc, hRs, hNC⟩ := id F
  obtain ⟨rfl, hd⟩ := he.dec (k := 1) rfl (by decide)
  exact lv_lxor hx hb hd (k p e R s m args below meth c n0 Z H locs als F RO hn hnf hP hS hσ (ok_c trivial (ok_t (ok_t hst))) hls hal)
theorem T_lneg {x : BitVec 64} (he : EOK mi (pc, .lneg, len, a, b)) (k : Tri G h mi nf n (pc + len) ls (vl (-x) :: st) σ Q) : Tri G h mi nf n pc ls (vl x :: st) σ Q := by
  intro p e R s m args below meth c n0 Z H locs als F RO hn hnf hP hS hσ hst hls hal
  obtain ⟨hx, hb, hml, hr, hown, hts, hlk, hnm, hK, hW, hsz, hn0, hRf, hRl, hRc, hRs, hNC⟩ := id F
  obtain ⟨rfl, hd⟩ := he.dec (k := 1) rfl (by decide)
  exact lv_lneg hx hb hd (k p e R s m args below meth c n0 Z H locs als F RO hn hnf hP hS hσ (ok_c trivial (ok_t hst)) hls hal)
theorem T_ldiv {x y : BitVec 64} (he : EOK mi (pc, .ldiv, len, a, b)) (hne : y ≠ 0) (k : Tri G h mi nf n (pc + len) ls (vl (lDiv x y) :: st) σ Q) : Tri G h mi nf n pc ls (vl y :: vl x :: st) σ Q := by
  intro p e R s m args below meth c n0 Z H locs als F RO hn hnf hP hS hσ hst hls hal
  obtain ⟨hx, hb, hml, hr, hown, hts, hlk, hnm, hK, hW, hsz, hn0, hRf, hRl, hRc, hRs, hNC⟩ := id F
  obtain ⟨rfl, hd⟩ := he.dec (k := 1) rfl (by decide)
  exact lv_ldiv hx hb hd (fun h0 => hne (by have h1 := congrArg Int64.toBitVec h0; exact h1)) (k p e R s m args below meth c n0 Z H locs als F RO hn hnf hP hS hσ (ok_c trivial (ok_t (ok_t hst))) hls hal)
theorem T_lshl {x : BitVec 64} {y : Int} (he : EOK mi (pc, .lshl, len, a, b)) (k : Tri G h mi nf n (pc + len) ls (vl (lShl x y) :: st) σ Q) : Tri G h mi nf n pc ls (vi y :: vl x :: st) σ Q := by
  intro p e R s m args below meth c n0 Z H locs als F RO hn hnf hP hS hσ hst hls hal
  obtain ⟨hx, hb, hml, hr, hown, hts, hlk, hnm, hK, hW, hsz, hn0, hRf, hRl, hRc, hRs, hNC⟩ := id F
  obtain ⟨rfl, hd⟩ := he.dec (k := 1) rfl (by decide)
  exact lv_lshl hx hb hd rfl (k p e R s m args below meth c n0 Z H locs als F RO hn hnf hP hS hσ (ok_c trivial (ok_t (ok_t hst))) hls hal)
theorem T_lushr {x : BitVec 64} {y : Int} (he : EOK mi (pc, .lushr, len, a, b)) (k : Tri G h mi nf n (pc + len) ls (vl (lUsh x y) :: st) σ Q) : Tri G h mi nf n pc ls (vi y :: vl x :: st) σ Q := by
  intro p e R s m args below meth c n0 Z H locs als F RO hn hnf hP hS hσ hst hls hal
  obtain ⟨hx, hb, hml, hr, hown, hts, hlk, hnm, hK, hW, hsz, hn0, hRf, hRl, hRc, hRs, hNC⟩ := id F
  obtain ⟨rfl, hd⟩ := he.dec (k := 1) rfl (by decide)
  exact lv_lushr hx hb hd rfl (k p e R s m args below meth c n0 Z H locs als F RO hn hnf hP hS hσ (ok_c trivial (ok_t (ok_t hst))) hls hal)
theorem T_lcmp {x y : BitVec 64} (he : EOK mi (pc, .lcmp, len, a, b)) (k : Tri G h mi nf n (pc + len) ls (vi (lCmp x y) :: st) σ Q) : Tri G h mi nf n pc ls (vl y :: vl x :: st) σ Q := by
  intro p e R s m args below meth c n0 Z H locs als F RO hn hnf hP hS hσ hst hls hal
  obtain ⟨hx, hb, hml, hr, hown, hts, hlk, hnm, hK, hW, hsz, hn0, hRf, hRl, hRc, hRs, hNC⟩ := id F
  obtain ⟨rfl, hd⟩ := he.dec (k := 1) rfl (by decide)
  have k1 := k p e R s m args below meth c n0 Z H locs als F RO hn hnf hP hS hσ (ok_c (inR_to _) (ok_t (ok_t hst))) hls hal
  rw [List.map_cons, show trV G (vi (lCmp x y)) = .int (Int32.ofInt (lCmp x y)) from rfl, show Int32.ofInt (lCmp x y) = _ from Int32.ofInt_toInt _] at k1
  exact W.lcmp hx hb hd k1
theorem T_dup {v : MV} (he : EOK mi (pc, .dup, len, a, b)) (hv : isLg (some v) = false) (k : Tri G h mi nf n (pc + len) ls (v :: v :: st) σ Q) : Tri G h mi nf n pc ls (v :: st) σ Q := by
  intro p e R s m args below meth c n0 Z H locs als F RO hn hnf hP hS hσ hst hls hal
  obtain ⟨hx, hb, hml, hr, hown, hts, hlk, hnm, hK, hW, hsz, hn0, hRf, hRl, hRc, hRs, hNC⟩ := id F
  obtain ⟨rfl, hd⟩ := he.dec (k := 1) rfl (by decide)
  exact lv_dup hx hb hd (by rw [cat_tr hK.2.2.2, hv]; rfl) (k p e R s m args below meth c n0 Z H locs als F RO hn hnf hP hS hσ (ok_c (ok_h hst) hst) hls hal)
theorem T_pop {v : MV} (he : EOK mi (pc, .pop, len, a, b)) (hv : isLg (some v) = false) (k : Tri G h mi nf n (pc + len) ls st σ Q) : Tri G h mi nf n pc ls (v :: st) σ Q := by
  intro p e R s m args below meth c n0 Z H locs als F RO hn hnf hP hS hσ hst hls hal
  obtain ⟨hx, hb, hml, hr, hown, hts, hlk, hnm, hK, hW, hsz, hn0, hRf, hRl, hRc, hRs, hNC⟩ := id F
  obtain ⟨rfl, hd⟩ := he.dec (k := 1) rfl (by decide)
  exact lv_pop hx hb hd (by rw [cat_tr hK.2.2.2, hv]; rfl) (k p e R s m args below meth c n0 Z H locs als F RO hn hnf hP hS hσ (ok_t hst) hls hal)
theorem T_dup2 {v w : MV} (he : EOK mi (pc, .dup2, len, a, b)) (hv : isLg (some v) = false) (hw : isLg (some w) = false) (k : Tri G h mi nf n (pc + len) ls (v :: w :: v :: w :: st) σ Q) : Tri G h mi nf n pc ls (v :: w :: st) σ Q := by
  intro p e R s m args below meth c n0 Z H locs als F RO hn hnf hP hS hσ hst hls hal
  obtain ⟨hx, hb, hml, hr, hown, hts, hlk, hnm, hK, hW, hsz, hn0, hRf, hRl, hRc, hRs, hNC⟩ := id F
  obtain ⟨rfl, hd⟩ := he.dec (k := 1) rfl (by decide)
  exact lv_dup2_11 hx hb hd (by rw [cat_tr hK.2.2.2, hv]; rfl) (by rw [cat_tr hK.2.2.2, hw]; rfl) (k p e R s m args below meth c n0 Z H locs als F RO hn hnf hP hS hσ (ok_c (ok_h hst) (ok_c (ok_h (ok_t hst)) hst)) hls hal)
def cmpc : ClassFile.Cond → Int → Int → Prop
  | .eq, x, y => x = y
  | .ne, x, y => ¬ x = y
  | .lt, x, y => x < y
  | .ge, x, y => y ≤ x
  | .gt, x, y => y < x
  | .le, x, y => x ≤ y
theorem ofI_eq {x y : Int} (hx : inR x) (hy : inR y) : Int32.ofInt x = Int32.ofInt y ↔ x = y := by rw [← Int32.toInt_inj, toI hx, toI hy]
theorem ofI_lt {x y : Int} (hx : inR x) (hy : inR y) : Int32.ofInt x < Int32.ofInt y ↔ x < y := by rw [Int32.lt_iff_toInt_lt, toI hx, toI hy]
theorem ofI_le {x y : Int} (hx : inR x) (hy : inR y) : Int32.ofInt x ≤ Int32.ofInt y ↔ x ≤ y := by rw [Int32.le_iff_toInt_le, toI hx, toI hy]
theorem inR0 : inR 0 := by unfold inR; omega
theorem T_icmp_eq {x y : Int} {off : Int} {tgt : Nat} (he : EOK mi (pc, .if_icmp .eq off, len, a, b)) (ht : (pc : Int) + off = (tgt : Int)) (kt : x = y → Tri G h mi nf n tgt ls st σ Q) (kf : ¬ (x = y) → Tri G h mi nf n (pc + len) ls st σ Q) : Tri G h mi nf n pc ls (vi y :: vi x :: st) σ Q := by
  obtain ⟨rfl, hd⟩ := he.dec (k := 3) rfl (by decide)
  intro p e R s m args below meth c n0 Z H locs als F RO hn hnf hP hS hσ hst hls hal
  obtain ⟨hx, hb, hml, hr, hown, hts, hlk, hnm, hK, hW, hsz, hn0, hRf, hRl, hRc, hRs, hNC⟩ := id F
  have kt := fun q => kt q p e R s m args below meth c n0 Z H locs als F RO hn hnf hP hS hσ (ok_t (ok_t hst)) hls hal
  have kf := fun q => kf q p e R s m args below meth c n0 Z H locs als F RO hn hnf hP hS hσ (ok_t (ok_t hst)) hls hal
  exact lv_icmp_eq hx hb hd ht (fun q => kt ((ofI_eq (show inR x from ok_h (ok_t hst)) (show inR y from ok_h hst)).mp q)) (fun q => kf (fun z => q ((ofI_eq (show inR x from ok_h (ok_t hst)) (show inR y from ok_h hst)).mpr z)))
theorem T_if_eq {x : Int} {off : Int} {tgt : Nat} (he : EOK mi (pc, .ifCond .eq off, len, a, b)) (ht : (pc : Int) + off = (tgt : Int)) (kt : x = 0 → Tri G h mi nf n tgt ls st σ Q) (kf : ¬ (x = 0) → Tri G h mi nf n (pc + len) ls st σ Q) : Tri G h mi nf n pc ls (vi x :: st) σ Q := by
  obtain ⟨rfl, hd⟩ := he.dec (k := 3) rfl (by decide)
  intro p e R s m args below meth c n0 Z H locs als F RO hn hnf hP hS hσ hst hls hal
  obtain ⟨hx, hb, hml, hr, hown, hts, hlk, hnm, hK, hW, hsz, hn0, hRf, hRl, hRc, hRs, hNC⟩ := id F
  have kt := fun q => kt q p e R s m args below meth c n0 Z H locs als F RO hn hnf hP hS hσ (ok_t hst) hls hal
  have kf := fun q => kf q p e R s m args below meth c n0 Z H locs als F RO hn hnf hP hS hσ (ok_t hst) hls hal
  exact lv_if_eq hx hb hd ht (fun q => kt ((ofI_eq (show inR x from ok_h hst) inR0).mp q)) (fun q => kf (fun z => q ((ofI_eq (show inR x from ok_h hst) inR0).mpr z)))
theorem T_icmp_ne {x y : Int} {off : Int} {tgt : Nat} (he : EOK mi (pc, .if_icmp .ne off, len, a, b)) (ht : (pc : Int) + off = (tgt : Int)) (kt : ¬ x = y → Tri G h mi nf n tgt ls st σ Q) (kf : ¬ (¬ x = y) → Tri G h mi nf n (pc + len) ls st σ Q) : Tri G h mi nf n pc ls (vi y :: vi x :: st) σ Q := by
  obtain ⟨rfl, hd⟩ := he.dec (k := 3) rfl (by decide)
  intro p e R s m args below meth c n0 Z H locs als F RO hn hnf hP hS hσ hst hls hal
  obtain ⟨hx, hb, hml, hr, hown, hts, hlk, hnm, hK, hW, hsz, hn0, hRf, hRl, hRc, hRs, hNC⟩ := id F
  have kt := fun q => kt q p e R s m args below meth c n0 Z H locs als F RO hn hnf hP hS hσ (ok_t (ok_t hst)) hls hal
  have kf := fun q => kf q p e R s m args below meth c n0 Z H locs als F RO hn hnf hP hS hσ (ok_t (ok_t hst)) hls hal
  exact lv_icmp_ne hx hb hd ht (fun q => kt (fun z => q ((ofI_eq (show inR x from ok_h (ok_t hst)) (show inR y from ok_h hst)).mpr z))) (fun q => kf (fun z => z ((ofI_eq (show inR x from ok_h (ok_t hst)) (show inR y from ok_h hst)).mp q)))
theorem T_if_ne {x : Int} {off : Int} {tgt : Nat} (he : EOK mi (pc, .ifCond .ne off, len, a, b)) (ht : (pc : Int) + off = (tgt : Int)) (kt : ¬ x = 0 → Tri G h mi nf n tgt ls st σ Q) (kf : ¬ (¬ x = 0) → Tri G h mi nf n (pc + len) ls st σ Q) : Tri G h mi nf n pc ls (vi x :: st) σ Q := by
  obtain ⟨rfl, hd⟩ := he.dec (k := 3) rfl (by decide)
  intro p e R s m args below meth c n0 Z H locs als F RO hn hnf hP hS hσ hst hls hal
  obtain ⟨hx, hb, hml, hr, hown, hts, hlk, hnm, hK, hW, hsz, hn0, hRf, hRl, hRc, hRs, hNC⟩ := id F
  have kt := fun q => kt q p e R s m args below meth c n0 Z H locs als F RO hn hnf hP hS hσ (ok_t hst) hls hal
  have kf := fun q => kf q p e R s m args below meth c n0 Z H locs als F RO hn hnf hP hS hσ (ok_t hst) hls hal
  exact lv_if_ne hx hb hd ht (fun q => kt (fun z => q ((ofI_eq (show inR x from ok_h hst) inR0).mpr z))) (fun q => kf (fun z => z ((ofI_eq (show inR x from ok_h hst) inR0).mp q)))
theorem T_icmp_lt {x y : Int} {off : Int} {tgt : Nat} (he : EOK mi (pc, .if_icmp .lt off, len, a, b)) (ht : (pc : Int) + off = (tgt : Int)) (kt : x < y → Tri G h mi nf n tgt ls st σ Q) (kf : ¬ (x < y) → Tri G h mi nf n (pc + len) ls st σ Q) : Tri G h mi nf n pc ls (vi y :: vi x :: st) σ Q := by
  obtain ⟨rfl, hd⟩ := he.dec (k := 3) rfl (by decide)
  intro p e R s m args below meth c n0 Z H locs als F RO hn hnf hP hS hσ hst hls hal
  obtain ⟨hx, hb, hml, hr, hown, hts, hlk, hnm, hK, hW, hsz, hn0, hRf, hRl, hRc, hRs, hNC⟩ := id F
  have kt := fun q => kt q p e R s m args below meth c n0 Z H locs als F RO hn hnf hP hS hσ (ok_t (ok_t hst)) hls hal
  have kf := fun q => kf q p e R s m args below meth c n0 Z H locs als F RO hn hnf hP hS hσ (ok_t (ok_t hst)) hls hal
  exact lv_icmp_lt hx hb hd ht (fun q => kt ((ofI_lt (show inR x from ok_h (ok_t hst)) (show inR y from ok_h hst)).mp q)) (fun q => kf (fun z => q ((ofI_lt (show inR x from ok_h (ok_t hst)) (show inR y from ok_h hst)).mpr z)))
theorem T_if_lt {x : Int} {off : Int} {tgt : Nat} (he : EOK mi (pc, .ifCond .lt off, len, a, b)) (ht : (pc : Int) + off = (tgt : Int)) (kt : x < 0 → Tri G h mi nf n tgt ls st σ Q) (kf : ¬ (x < 0) → Tri G h mi nf n (pc + len) ls st σ Q) : Tri G h mi nf n pc ls (vi x :: st) σ Q := by
  obtain ⟨rfl, hd⟩ := he.dec (k := 3) rfl (by decide)
  intro p e R s m args below meth c n0 Z H locs als F RO hn hnf hP hS hσ hst hls hal
  obtain ⟨hx, hb, hml, hr, hown, hts, hlk, hnm, hK, hW, hsz, hn0, hRf, hRl, hRc, hRs, hNC⟩ := id F
  have kt := fun q => kt q p e R s m args below meth c n0 Z H locs als F RO hn hnf hP hS hσ (ok_t hst) hls hal
  have kf := fun q => kf q p e R s m args below meth c n0 Z H locs als F RO hn hnf hP hS hσ (ok_t hst) hls hal
  exact lv_if_lt hx hb hd ht (fun q => kt ((ofI_lt (show inR x from ok_h hst) inR0).mp q)) (fun q => kf (fun z => q ((ofI_lt (show inR x from ok_h hst) inR0).mpr z)))
theorem T_icmp_ge {x y : Int} {off : Int} {tgt : Nat} (he : EOK mi (pc, .if_icmp .ge off, len, a, b)) (ht : (pc : Int) + off = (tgt : Int)) (kt : y ≤ x → Tri G h mi nf n tgt ls st σ Q) (kf : ¬ (y ≤ x) → Tri G h mi nf n (pc + len) ls st σ Q) : Tri G h mi nf n pc ls (vi y :: vi x :: st) σ Q := by
  obtain ⟨rfl, hd⟩ := he.dec (k := 3) rfl (by decide)
  intro p e R s m args below meth c n0 Z H locs als F RO hn hnf hP hS hσ hst hls hal
  obtain ⟨hx, hb, hml, hr, hown, hts, hlk, hnm, hK, hW, hsz, hn0, hRf, hRl, hRc, hRs, hNC⟩ := id F
  have kt := fun q => kt q p e R s m args below meth c n0 Z H locs als F RO hn hnf hP hS hσ (ok_t (ok_t hst)) hls hal
  have kf := fun q => kf q p e R s m args below meth c n0 Z H locs als F RO hn hnf hP hS hσ (ok_t (ok_t hst)) hls hal
  exact lv_icmp_ge hx hb hd ht (fun q => kt ((ofI_le (show inR y from ok_h hst) (show inR x from ok_h (ok_t hst))).mp q)) (fun q => kf (fun z => q ((ofI_le (show inR y from ok_h hst) (show inR x from ok_h (ok_t hst))).mpr z)))
theorem T_if_ge {x : Int} {off : Int} {tgt : Nat} (he : EOK mi (pc, .ifCond .ge off, len, a, b)) (ht : (pc : Int) + off = (tgt : Int)) (kt : 0 ≤ x → Tri G h mi nf n tgt ls st σ Q) (kf : ¬ (0 ≤ x) → Tri G h mi nf n (pc + len) ls st σ Q) : Tri G h mi nf n pc ls (vi x :: st) σ Q := by
  obtain ⟨rfl, hd⟩ := he.dec (k := 3) rfl (by decide)
  intro p e R s m args below meth c n0 Z H locs als F RO hn hnf hP hS hσ hst hls hal
  obtain ⟨hx, hb, hml, hr, hown, hts, hlk, hnm, hK, hW, hsz, hn0, hRf, hRl, hRc, hRs, hNC⟩ := id F
  have kt := fun q => kt q p e R s m args below meth c n0 Z H locs als F RO hn hnf hP hS hσ (ok_t hst) hls hal
  have kf := fun q => kf q p e R s m args below meth c n0 Z H locs als F RO hn hnf hP hS hσ (ok_t hst) hls hal
  exact lv_if_ge hx hb hd ht (fun q => kt ((ofI_le inR0 (show inR x from ok_h hst)).mp q)) (fun q => kf (fun z => q ((ofI_le inR0 (show inR x from ok_h hst)).mpr z)))
theorem T_icmp_gt {x y : Int} {off : Int} {tgt : Nat} (he : EOK mi (pc, .if_icmp .gt off, len, a, b)) (ht : (pc : Int) + off = (tgt : Int)) (kt : y < x → Tri G h mi nf n tgt ls st σ Q) (kf : ¬ (y < x) → Tri G h mi nf n (pc + len) ls st σ Q) : Tri G h mi nf n pc ls (vi y :: vi x :: st) σ Q := by
  obtain ⟨rfl, hd⟩ := he.dec (k := 3) rfl (by decide)
  intro p e R s m args below meth c n0 Z H locs als F RO hn hnf hP hS hσ hst hls hal
  obtain ⟨hx, hb, hml, hr, hown, hts, hlk, hnm, hK, hW, hsz, hn0, hRf, hRl, hRc, hRs, hNC⟩ := id F
  have kt := fun q => kt q p e R s m args below meth c n0 Z H locs als F RO hn hnf hP hS hσ (ok_t (ok_t hst)) hls hal
  have kf := fun q => kf q p e R s m args below meth c n0 Z H locs als F RO hn hnf hP hS hσ (ok_t (ok_t hst)) hls hal
  exact lv_icmp_gt hx hb hd ht (fun q => kt ((ofI_lt (show inR y from ok_h hst) (show inR x from ok_h (ok_t hst))).mp q)) (fun q => kf (fun z => q ((ofI_lt (show inR y from ok_h hst) (show inR x from ok_h (ok_t hst))).mpr z)))
theorem T_if_gt {x : Int} {off : Int} {tgt : Nat} (he : EOK mi (pc, .ifCond .gt off, len, a, b)) (ht : (pc : Int) + off = (tgt : Int)) (kt : 0 < x → Tri G h mi nf n tgt ls st σ Q) (kf : ¬ (0 < x) → Tri G h mi nf n (pc + len) ls st σ Q) : Tri G h mi nf n pc ls (vi x :: st) σ Q := by
  obtain ⟨rfl, hd⟩ := he.dec (k := 3) rfl (by decide)
  intro p e R s m args below meth c n0 Z H locs als F RO hn hnf hP hS hσ hst hls hal
  obtain ⟨hx, hb, hml, hr, hown, hts, hlk, hnm, hK, hW, hsz, hn0, hRf, hRl, hRc, hRs, hNC⟩ := id F
  have kt := fun q => kt q p e R s m args below meth c n0 Z H locs als F RO hn hnf hP hS hσ (ok_t hst) hls hal
  have kf := fun q => kf q p e R s m args below meth c n0 Z H locs als F RO hn hnf hP hS hσ (ok_t hst) hls hal
  exact lv_if_gt hx hb hd ht (fun q => kt ((ofI_lt inR0 (show inR x from ok_h hst)).mp q)) (fun q => kf (fun z => q ((ofI_lt inR0 (show inR x from ok_h hst)).mpr z)))
theorem T_icmp_le {x y : Int} {off : Int} {tgt : Nat} (he : EOK mi (pc, .if_icmp .le off, len, a, b)) (ht : (pc : Int) + off = (tgt : Int)) (kt : x ≤ y → Tri G h mi nf n tgt ls st σ Q) (kf : ¬ (x ≤ y) → Tri G h mi nf n (pc + len) ls st σ Q) : Tri G h mi nf n pc ls (vi y :: vi x :: st) σ Q := by
  obtain ⟨rfl, hd⟩ := he.dec (k := 3) rfl (by decide)
  intro p e R s m args below meth c n0 Z H locs als F RO hn hnf hP hS hσ hst hls hal
  obtain ⟨hx, hb, hml, hr, hown, hts, hlk, hnm, hK, hW, hsz, hn0, hRf, hRl, hRc, hRs, hNC⟩ := id F
  have kt := fun q => kt q p e R s m args below meth c n0 Z H locs als F RO hn hnf hP hS hσ (ok_t (ok_t hst)) hls hal
  have kf := fun q => kf q p e R s m args below meth c n0 Z H locs als F RO hn hnf hP hS hσ (ok_t (ok_t hst)) hls hal
  exact lv_icmp_le hx hb hd ht (fun q => kt ((ofI_le (show inR x from ok_h (ok_t hst)) (show inR y from ok_h hst)).mp q)) (fun q => kf (fun z => q ((ofI_le (show inR x from ok_h (ok_t hst)) (show inR y from ok_h hst)).mpr z)))
theorem T_if_le {x : Int} {off : Int} {tgt : Nat} (he : EOK mi (pc, .ifCond .le off, len, a, b)) (ht : (pc : Int) + off = (tgt : Int)) (kt : x ≤ 0 → Tri G h mi nf n tgt ls st σ Q) (kf : ¬ (x ≤ 0) → Tri G h mi nf n (pc + len) ls st σ Q) : Tri G h mi nf n pc ls (vi x :: st) σ Q := by
  obtain ⟨rfl, hd⟩ := he.dec (k := 3) rfl (by decide)
  intro p e R s m args below meth c n0 Z H locs als F RO hn hnf hP hS hσ hst hls hal
  obtain ⟨hx, hb, hml, hr, hown, hts, hlk, hnm, hK, hW, hsz, hn0, hRf, hRl, hRc, hRs, hNC⟩ := id F
  have kt := fun q => kt q p e R s m args below meth c n0 Z H locs als F RO hn hnf hP hS hσ (ok_t hst) hls hal
  have kf := fun q => kf q p e R s m args below meth c n0 Z H locs als F RO hn hnf hP hS hσ (ok_t hst) hls hal
  exact lv_if_le hx hb hd ht (fun q => kt ((ofI_le (show inR x from ok_h hst) inR0).mp q)) (fun q => kf (fun z => q ((ofI_le (show inR x from ok_h hst) inR0).mpr z)))
theorem T_goto {off : Int} {tgt : Nat} (he : EOK mi (pc, .goto off, len, a, b)) (ht : (pc : Int) + off = (tgt : Int)) (k : Tri G h mi nf n tgt ls st σ Q) : Tri G h mi nf n pc ls st σ Q := by
  obtain ⟨rfl, hd⟩ := he.dec (k := 3) rfl (by decide)
  intro p e R s m args below meth c n0 Z H locs als F RO hn hnf hP hS hσ hst hls hal
  obtain ⟨hx, hb, hml, hr, hown, hts, hlk, hnm, hK, hW, hsz, hn0, hRf, hRl, hRc, hRs, hNC⟩ := id F
  exact lv_goto hx hb hd ht (k p e R s m args below meth c n0 Z H locs als F RO hn hnf hP hS hσ hst hls hal)
end STEPS
end
section
/-! the world's cells, by their places -/
theorem ws_at {G : Ctx} {n k : Nat} (σ : MS) (hk : k < n) : (wsO G n σ)[k]? = some (cB G + k, celE G σ k) := by
  unfold wsO
  rw [List.getElem?_map, List.getElem?_range hk]
  rfl
theorem ws_len {G : Ctx} {n : Nat} {σ : MS} : (wsO G n σ).length = n := by simp [wsO]
theorem ws_of {G : Ctx} {n i : Nat} {σ : MS} {q : Nat × va_E} (h : (wsO G n σ)[i]? = some q) : i < n ∧ q = (cB G + i, celE G σ i) := by
  have hl : i < n := by have := (List.getElem?_eq_some_iff.mp h).1; rwa [ws_len] at this
  rw [ws_at σ hl] at h
  exact ⟨hl, (Option.some.inj h).symm⟩
theorem ws_D (G : Ctx) (n : Nat) (σ : MS) : va_D (AO G) (wsO G n σ) := by
  refine ⟨fun i j p q hi hj he => ?_, fun k q hk => ?_⟩
  · have h1 := (ws_of hi).2
    have h2 := (ws_of hj).2
    subst h1; subst h2
    dsimp only at he
    omega
  · have h1 := (ws_of hk).2
    subst h1
    show cB G ≤ cB G + k
    omega
theorem ws_set {G : Ctx} {n k : Nat} {σ σ' : MS} (hk : k < n) {e : va_E} (h1 : celE G σ' k = e) (h2 : ∀ j, j ≠ k → celE G σ' j = celE G σ j) : (wsO G n σ).set k (cB G + k, e) = wsO G n σ' := by
  apply List.ext_getElem?
  intro i
  by_cases hi : i < n
  · rw [ws_at σ' hi]
    by_cases he : i = k
    · subst he
      rw [List.getElem?_set_self (by rw [ws_len]; exact hi), h1]
    · rw [List.getElem?_set_ne (Ne.symm he), ws_at σ hi, h2 i he]
  · rw [List.getElem?_eq_none (by rw [List.length_set, ws_len]; omega), List.getElem?_eq_none (by rw [ws_len]; omega)]
theorem ws_push {G : Ctx} {n : Nat} {σ σ' : MS} {e : va_E} (h1 : celE G σ' n = e) (h2 : ∀ j, j < n → celE G σ' j = celE G σ j) : wsO G n σ ++ [(cB G + n, e)] = wsO G (n + 1) σ' := by
  unfold wsO
  rw [List.range_succ, List.map_append, List.map_singleton, h1]
  congr 1
  apply List.map_congr_left
  intro j hj
  rw [h2 j (List.mem_range.mp hj)]
/-- cells of a kind -/
def shIs (n k t : Nat) : Option Nat := match Nat.blt k n && Nat.beq (sh k).1 t with
  | true => some (sh k).2
  | false => none
def isObj (n k c : Nat) : Bool := Nat.blt k n && (Nat.blt c 13 && Nat.beq (sh k).1 (4 + c))
theorem shIs_spec {n k t L : Nat} (h : shIs n k t = some L) : k < n ∧ (sh k).1 = t ∧ (sh k).2 = L := by
  unfold shIs at h
  cases hc : Nat.blt k n && Nat.beq (sh k).1 t with
  | true =>
    rw [hc] at h
    have h1 := (Bool.and_eq_true _ _).mp hc
    exact ⟨Nat.le_of_ble_eq_true h1.1, Nat.eq_of_beq_eq_true h1.2, Option.some.inj h⟩
  | false => rw [hc] at h; cases h
theorem isObj_spec {n k c : Nat} (h : isObj n k c = true) : k < n ∧ c < 13 ∧ (sh k).1 = 4 + c := by
  have h1 := (Bool.and_eq_true _ _).mp h
  have h2 := (Bool.and_eq_true _ _).mp h1.2
  exact ⟨Nat.le_of_ble_eq_true h1.1, Nat.le_of_ble_eq_true h2.1, Nat.eq_of_beq_eq_true h2.2⟩
theorem cel_i {G : Ctx} {σ : MS} {k t : Nat} (h : (sh k).1 = t) (h1 : t ≠ 1) (h4 : t < 4) : celE G σ k = .inl (cA G t, (sh k).2, .inl (fun j => Int32.ofInt (σ.1 k j))) := by
  subst h
  unfold celE
  rw [if_neg h1, if_pos h4]
theorem cel_l {G : Ctx} {σ : MS} {k : Nat} (h : (sh k).1 = 1) : celE G σ k = .inl (cA G 1, (sh k).2, .inr (.inl (fun j => Int64.ofBitVec (σ.2.1 k j)))) := by
  unfold celE
  rw [if_pos h]
theorem cel_o {G : Ctx} {σ : MS} {k c : Nat} (h : (sh k).1 = 4 + c) : celE G σ k = .inr (c, flds G σ k c) := by
  unfold celE
  rw [if_neg (by omega), if_neg (by omega), h, show 4 + c - 4 = c by omega]
theorem u2_ne {α : Type} {f : Nat → Nat → α} {k j a : Nat} {x : α} (h : a ≠ k) : u2 f k j x a = f a := by
  funext b
  unfold u2
  rw [if_neg (fun q => h q.1)]
theorem u2_at {α : Type} {f : Nat → Nat → α} {k j b : Nat} {x : α} : u2 f k j x k b = if b = j then x else f k b := by
  unfold u2
  by_cases h : b = j
  · rw [if_pos ⟨rfl, h⟩, if_pos h]
  · rw [if_neg (fun q => h q.2), if_neg h]
theorem u1_ne {α : Type} {f : Nat → Nat → α} {k a : Nat} {g : Nat → α} (h : a ≠ k) : u1 f k g a = f a := by
  funext b
  unfold u1
  rw [if_neg h]
theorem u1_at {α : Type} {f : Nat → Nat → α} {k : Nat} {g : Nat → α} : u1 f k g k = g := by
  funext b
  unfold u1
  rw [if_pos rfl]
theorem cel_sI {G : Ctx} {σ : MS} {k j a : Nat} {x : Int} (h : a ≠ k) : celE G (sI σ k j x) a = celE G σ a := by
  unfold celE flds fldV
  simp only [u2_ne h]
theorem cel_sJ {G : Ctx} {σ : MS} {k j a : Nat} {x : BitVec 64} (h : a ≠ k) : celE G (sJ σ k j x) a = celE G σ a := by
  unfold celE flds fldV
  simp only [u2_ne h]
theorem cel_sP {G : Ctx} {σ : MS} {k j a : Nat} {x : Nat} (h : a ≠ k) : celE G (sP σ k j x) a = celE G σ a := by
  unfold celE flds fldV
  simp only [u2_ne h]
theorem cel_sC {G : Ctx} {σ : MS} {src sp k dp len a : Nat} (h : a ≠ k) : celE G (sC σ src sp k dp len) a = celE G σ a := by
  unfold celE flds fldV
  simp only [u1_ne h]
theorem cel_sN {G : Ctx} {σ : MS} {k a : Nat} (h : a ≠ k) : celE G (sN σ k) a = celE G σ a := by
  unfold celE flds fldV
  simp only [u1_ne h]
theorem idx_in {i : Int} {L : Nat} (hr : inR i) (h : 0 ≤ i ∧ i < L) : vp_in (Int32.ofInt i) L := by
  rw [vp_in_iff, toI hr]
  exact h
theorem idx_cl {i : Int} (hr : inR i) : (Int32.ofInt i).toNatClampNeg = i.toNat := by
  show (Int32.ofInt i).toInt.toNat = i.toNat
  rw [toI hr]
theorem trR_c {G : Ctx} {k : Nat} (h : k < 1000) : trR G k = .ref (cB G + k) := by
  unfold trR
  rw [if_pos h]
theorem okC_in {t : Nat} {x : Int} (h : okC t x) : inR x := by
  unfold okC at h
  unfold inR
  split at h
  · omega
  · split at h
    · omega
    · exact h
theorem NC_lt : NC < 1000 := by decide
theorem ok_sI {σ : MS} {k j : Nat} {x : Int} (h : okS σ) (hx : okC (sh k).1 x) : okS (sI σ k j x) := by
  intro a b
  show okC (sh a).1 (u2 σ.1 k j x a b)
  unfold u2
  split
  · next q => rw [q.1]; exact hx
  · exact h a b
/-! what a class's tables are -/
theorem clsAt : ∀ c, c < 13 → ∃ (T : u_T) (ty : Nat → FieldType), vwCl[c]? = some (RC c, T, cN c) ∧ (∀ k, T k = fT c k) ∧ (∀ w ∈ u_ws (RC c) T (cN c), w ∈ lw_good) ∧ (∀ k, k < cN c → parseFieldDescriptor (T k).2.2.1 = some (ty k)) ∧ (∀ a, a < cN c → ∀ b, b < cN c → a ≠ b → (T a).2.1 ≠ (T b).2.1) := by
  intro c hc
  match c, hc with
  | 0, _ => exact ⟨TX0, tyX0, rfl, fun _ => rfl, inX0, tyX0_ok, nmX0⟩
  | 1, _ => exact ⟨TX1, tyX1, rfl, fun _ => rfl, inX1, tyX1_ok, nmX1⟩
  | 2, _ => exact ⟨TX2, tyX2, rfl, fun _ => rfl, inX2, tyX2_ok, nmX2⟩
  | 3, _ => exact ⟨TX3, tyX3, rfl, fun _ => rfl, inX3, tyX3_ok, nmX3⟩
  | 4, _ => exact ⟨TX4, tyX4, rfl, fun _ => rfl, inX4, tyX4_ok, nmX4⟩
  | 5, _ => exact ⟨TX5, tyX5, rfl, fun _ => rfl, inX5, tyX5_ok, nmX5⟩
  | 6, _ => exact ⟨TX6, tyX6, rfl, fun _ => rfl, inX6, tyX6_ok, nmX6⟩
  | 7, _ => exact ⟨TX7, tyX7, rfl, fun _ => rfl, inX7, tyX7_ok, nmX7⟩
  | 8, _ => exact ⟨TX8, tyX8, rfl, fun _ => rfl, inX8, tyX8_ok, nmX8⟩
  | 9, _ => exact ⟨TX9, tyX9, rfl, fun _ => rfl, inX9, tyX9_ok, nmX9⟩
  | 10, _ => exact ⟨TX10, tyX10, rfl, fun _ => rfl, inX10, tyX10_ok, nmX10⟩
  | 11, _ => exact ⟨TX11, tyX11, rfl, fun _ => rfl, inX11, tyX11_ok, nmX11⟩
  | 12, _ => exact ⟨TX12, tyX12, rfl, fun _ => rfl, inX12, tyX12_ok, nmX12⟩
  | c + 13, h => exact absurd h (by omega)
/-- a field's kind and its descriptor -/
theorem fk_ok : ∀ c, c < 13 → ∀ j, j < cN c → (fT c j).1 = RC c ∧ ((fk c j = 0 ∧ (fT c j).2.2.1 = "I") ∨ (fk c j = 2 ∧ (fT c j).2.2.1 = "Z") ∨ (fk c j = 1 ∧ (match parseFieldDescriptor (fT c j).2.2.1 with | some (.object _) => true | some (.array _) => true | _ => false) = true)) := by decide +kernel
def fval (σ : MS) (k c j : Nat) : MV := match Nat.beq (fk c j) 1 with
  | true => vr (σ.2.2 k j)
  | false => vi (σ.1 k j)
theorem fval_tr {G : Ctx} {σ : MS} {k c j : Nat} : trV G (fval σ k c j) = fldV G σ k c j := by
  unfold fval fldV
  cases hb : Nat.beq (fk c j) 1 with
  | true => rw [if_pos (Nat.eq_of_beq_eq_true hb)]; rfl
  | false => rw [if_neg (fun q => by rw [q] at hb; cases hb)]; rfl
theorem flds_at {G : Ctx} {σ : MS} {k c j : Nat} (hj : j < cN c) : (flds G σ k c)[j]? = some (fldV G σ k c j) := by
  unfold flds
  rw [List.getElem?_map, List.getElem?_range hj]
  rfl
theorem flds_len {G : Ctx} {σ : MS} {k c : Nat} : (flds G σ k c).length = cN c := by simp [flds]
theorem flds_set {G : Ctx} {σ σ' : MS} {k c j : Nat} {v : Value} (hj : j < cN c) (h1 : fldV G σ' k c j = v) (h2 : ∀ i, i ≠ j → fldV G σ' k c i = fldV G σ k c i) : (flds G σ k c).set j v = flds G σ' k c := by
  apply List.ext_getElem?
  intro i
  by_cases hi : i < cN c
  · rw [flds_at hi]
    by_cases he : i = j
    · subst he
      rw [List.getElem?_set_self (by rw [flds_len]; exact hi), h1]
    · rw [List.getElem?_set_ne (Ne.symm he), flds_at hi, h2 i he]
  · rw [List.getElem?_eq_none (by rw [List.length_set, flds_len]; omega), List.getElem?_eq_none (by rw [flds_len]; omega)]
theorem sl_step : ∀ k, k < NC → slt (k + 1) = slt k + (sh k).2 := by decide +kernel
theorem slt_mono {x y : Nat} (h : x ≤ y) (hy : y ≤ NC) : slt x ≤ slt y := by
  induction y with
  | zero => have : x = 0 := by omega
            subst this; exact Nat.le_refl _
  | succ y ih =>
    by_cases he : x = y + 1
    · subst he; exact Nat.le_refl _
    · have h1 := ih (by omega) (by omega)
      rw [sl_step y (by omega)]
      omega
theorem ty_at {G : Ctx} {t : Nat} {ty : FieldType} (h : akT[t]? = some ty) : (tyA G)[t]? = some (cA G t, ty) := by
  match t, h with
  | 0, h => cases h; rfl
  | 1, h => cases h; rfl
  | 2, h => cases h; rfl
  | 3, h => cases h; rfl
section HEAP
variable {G : Ctx} {h mi nf n pc len a : Nat} {b : Int} {ls : ML} {st : List MV} {σ : MS} {Q : MP}
theorem T_iaload {k L : Nat} {i : Int} (he : EOK mi (pc, .iaload, len, a, b)) (hk : shIs n k 0 = some L) (hi : 0 ≤ i ∧ i < L) (kk : Tri G h mi nf n (pc + len) ls (vi (σ.1 k i.toNat) :: st) σ Q) : Tri G h mi nf n pc ls (vi i :: vr k :: st) σ Q := by
  obtain ⟨rfl, hd⟩ := he.dec (k := 1) rfl (by decide)
  obtain ⟨h1, h2, h3⟩ := shIs_spec hk
  intro p e R s m args below meth c n0 Z H locs als F RO hn hnf hP hS hσ hst hls hal
  obtain ⟨hx, hb, hml, hr, hown, hts, hlk, hnm, hK, hW, hsz, hn0, hRf, hRl, hRc, hRs, hNC⟩ := id F
  have hr9 : inR i := ok_h hst
  have k1 := kk p e R s m args below meth c n0 Z H locs als F RO hn hnf hP hS hσ (ok_c (okC_in (hσ k i.toNat)) (ok_t (ok_t hst))) hls hal
  rw [List.map_cons, List.map_cons, show trV G (vr k) = trR G k from rfl, trR_c (by have := NC_lt; omega)]
  have hw := ws_at (G := G) σ h1
  rw [cel_i h2 (by decide) (by decide), h3] at hw
  refine va_iald hx hb hK.1 hP k 0 hw (ty_at (t := 0) rfl) (idx_in hr9 hi) hd ?_
  rw [idx_cl hr9]
  exact k1
theorem T_baload {k L t : Nat} {i : Int} (ht : t = 2 ∨ t = 3) (he : EOK mi (pc, .baload, len, a, b)) (hk : shIs n k t = some L) (hi : 0 ≤ i ∧ i < L) (kk : Tri G h mi nf n (pc + len) ls (vi (σ.1 k i.toNat) :: st) σ Q) : Tri G h mi nf n pc ls (vi i :: vr k :: st) σ Q := by
  obtain ⟨rfl, hd⟩ := he.dec (k := 1) rfl (by decide)
  obtain ⟨h1, h2, h3⟩ := shIs_spec hk
  intro p e R s m args below meth c n0 Z H locs als F RO hn hnf hP hS hσ hst hls hal
  obtain ⟨hx, hb, hml, hr, hown, hts, hlk, hnm, hK, hW, hsz, hn0, hRf, hRl, hRc, hRs, hNC⟩ := id F
  have hr9 : inR i := ok_h hst
  have k1 := kk p e R s m args below meth c n0 Z H locs als F RO hn hnf hP hS hσ (ok_c (okC_in (hσ k i.toNat)) (ok_t (ok_t hst))) hls hal
  rw [List.map_cons, List.map_cons, show trV G (vr k) = trR G k from rfl, trR_c (by have := NC_lt; omega)]
  have hw := ws_at (G := G) σ h1
  rcases ht with rfl | rfl
  · rw [cel_i h2 (by decide) (by decide), h3] at hw
    refine va_bald hx hb hK.1 hP k 2 hw (ty_at (t := 2) rfl) (idx_in hr9 hi) hd ?_
    rw [idx_cl hr9]
    exact k1
  · rw [cel_i h2 (by decide) (by decide), h3] at hw
    refine va_zald hx hb hK.1 hP k 3 hw (ty_at (t := 3) rfl) (idx_in hr9 hi) hd ?_
    rw [idx_cl hr9]
    exact k1
theorem T_laload {k L : Nat} {i : Int} (he : EOK mi (pc, .laload, len, a, b)) (hk : shIs n k 1 = some L) (hi : 0 ≤ i ∧ i < L) (kk : Tri G h mi nf n (pc + len) ls (vl (σ.2.1 k i.toNat) :: st) σ Q) : Tri G h mi nf n pc ls (vi i :: vr k :: st) σ Q := by
  obtain ⟨rfl, hd⟩ := he.dec (k := 1) rfl (by decide)
  obtain ⟨h1, h2, h3⟩ := shIs_spec hk
  intro p e R s m args below meth c n0 Z H locs als F RO hn hnf hP hS hσ hst hls hal
  obtain ⟨hx, hb, hml, hr, hown, hts, hlk, hnm, hK, hW, hsz, hn0, hRf, hRl, hRc, hRs, hNC⟩ := id F
  have hr9 : inR i := ok_h hst
  have k1 := kk p e R s m args below meth c n0 Z H locs als F RO hn hnf hP hS hσ (ok_c trivial (ok_t (ok_t hst))) hls hal
  rw [List.map_cons, List.map_cons, show trV G (vr k) = trR G k from rfl, trR_c (by have := NC_lt; omega)]
  have hw := ws_at (G := G) σ h1
  rw [cel_l h2, h3] at hw
  refine va_lald hx hb hK.1 hP k 1 hw (ty_at (t := 1) rfl) (idx_in hr9 hi) hd ?_
  rw [idx_cl hr9]
  exact k1
theorem T_iastore {k L : Nat} {i x : Int} (he : EOK mi (pc, .iastore, len, a, b)) (hk : shIs n k 0 = some L) (hi : 0 ≤ i ∧ i < L) (kk : Tri G h mi nf n (pc + len) ls st (sI σ k i.toNat x) Q) : Tri G h mi nf n pc ls (vi x :: vi i :: vr k :: st) σ Q := by
  obtain ⟨rfl, hd⟩ := he.dec (k := 1) rfl (by decide)
  obtain ⟨h1, h2, h3⟩ := shIs_spec hk
  intro p e R s m args below meth c n0 Z H locs als F RO hn hnf hP hS hσ hst hls hal
  obtain ⟨hx, hb, hml, hr, hown, hts, hlk, hnm, hK, hW, hsz, hn0, hRf, hRl, hRc, hRs, hNC⟩ := id F
  have hr9 : inR i := ok_h (ok_t hst)
  have hx9 : inR x := ok_h hst
  rw [List.map_cons, List.map_cons, List.map_cons, show trV G (vr k) = trR G k from rfl, trR_c (by have := NC_lt; omega)]
  have hw := ws_at (G := G) σ h1
  rw [cel_i h2 (by decide) (by decide), h3] at hw
  refine va_iast hx hb hK.1 hP (ws_D G n σ) hS k 0 hw (ty_at (t := 0) rfl) (idx_in hr9 hi) hd (fun H1 locs1 hP1 hD1 hS1 => ?_)
  rw [idx_cl hr9] at hP1
  rw [ws_set (σ' := sI σ k i.toNat x) h1 (by
    rw [cel_i h2 (by decide) (by decide), h3]
    congr 4
    funext j
    show Int32.ofInt (u2 σ.1 k i.toNat x k j) = _
    rw [u2_at]
    unfold upd
    split <;> rfl) (fun j hj => cel_sI hj)] at hP1
  exact kk p e R s m args below meth c n0 Z H1 locs1 als F RO hn hnf hP1 hS1 (ok_sI hσ (by rw [h2]; exact hx9)) (ok_t (ok_t (ok_t hst))) hls hal
theorem nar_b (x : Int) : vp_nar .byte (Int32.ofInt x) = Int32.ofInt (w8 x) := by
  rw [vp_nar_byte]
  rfl
theorem w8_in (x : Int) : -128 ≤ w8 x ∧ w8 x < 128 := by
  have h1 := Int8.le_toInt (Int32.ofInt x).toInt8
  have h2 := Int8.toInt_lt (Int32.ofInt x).toInt8
  unfold w8
  omega
theorem T_bastore {k L : Nat} {i x : Int} (he : EOK mi (pc, .bastore, len, a, b)) (hk : shIs n k 2 = some L) (hi : 0 ≤ i ∧ i < L) (kk : Tri G h mi nf n (pc + len) ls st (sI σ k i.toNat (w8 x)) Q) : Tri G h mi nf n pc ls (vi x :: vi i :: vr k :: st) σ Q := by
  obtain ⟨rfl, hd⟩ := he.dec (k := 1) rfl (by decide)
  obtain ⟨h1, h2, h3⟩ := shIs_spec hk
  intro p e R s m args below meth c n0 Z H locs als F RO hn hnf hP hS hσ hst hls hal
  obtain ⟨hx, hb, hml, hr, hown, hts, hlk, hnm, hK, hW, hsz, hn0, hRf, hRl, hRc, hRs, hNC⟩ := id F
  have hr9 : inR i := ok_h (ok_t hst)
  rw [List.map_cons, List.map_cons, List.map_cons, show trV G (vr k) = trR G k from rfl, trR_c (by have := NC_lt; omega)]
  have hw := ws_at (G := G) σ h1
  rw [cel_i h2 (by decide) (by decide), h3] at hw
  refine va_bast hx hb hK.1 hP (ws_D G n σ) hS k 2 hw (ty_at (t := 2) rfl) (idx_in hr9 hi) hd (fun H1 locs1 hP1 hD1 hS1 => ?_)
  rw [idx_cl hr9, nar_b] at hP1
  rw [ws_set (σ' := sI σ k i.toNat (w8 x)) h1 (by
    rw [cel_i h2 (by decide) (by decide), h3]
    congr 4
    funext j
    show Int32.ofInt (u2 σ.1 k i.toNat (w8 x) k j) = _
    rw [u2_at]
    unfold upd
    split <;> rfl) (fun j hj => cel_sI hj)] at hP1
  exact kk p e R s m args below meth c n0 Z H1 locs1 als F RO hn hnf hP1 hS1 (ok_sI hσ (by rw [h2]; exact w8_in x)) (ok_t (ok_t (ok_t hst))) hls hal
theorem T_zastore {k L : Nat} {i x : Int} (he : EOK mi (pc, .bastore, len, a, b)) (hk : shIs n k 3 = some L) (hi : 0 ≤ i ∧ i < L) (h01 : x = 0 ∨ x = 1) (kk : Tri G h mi nf n (pc + len) ls st (sI σ k i.toNat x) Q) : Tri G h mi nf n pc ls (vi x :: vi i :: vr k :: st) σ Q := by
  obtain ⟨rfl, hd⟩ := he.dec (k := 1) rfl (by decide)
  obtain ⟨h1, h2, h3⟩ := shIs_spec hk
  intro p e R s m args below meth c n0 Z H locs als F RO hn hnf hP hS hσ hst hls hal
  obtain ⟨hx, hb, hml, hr, hown, hts, hlk, hnm, hK, hW, hsz, hn0, hRf, hRl, hRc, hRs, hNC⟩ := id F
  have hr9 : inR i := ok_h (ok_t hst)
  rw [List.map_cons, List.map_cons, List.map_cons, show trV G (vr k) = trR G k from rfl, trR_c (by have := NC_lt; omega)]
  have hw := ws_at (G := G) σ h1
  rw [cel_i h2 (by decide) (by decide), h3] at hw
  have hnz : vp_nar .boolean (Int32.ofInt x) = Int32.ofInt x := by rcases h01 with rfl | rfl <;> rfl
  refine va_zast hx hb hK.1 hP (ws_D G n σ) hS k 3 hw (ty_at (t := 3) rfl) (idx_in hr9 hi) hd (fun H1 locs1 hP1 hD1 hS1 => ?_)
  rw [idx_cl hr9, hnz] at hP1
  rw [ws_set (σ' := sI σ k i.toNat x) h1 (by
    rw [cel_i h2 (by decide) (by decide), h3]
    congr 4
    funext j
    show Int32.ofInt (u2 σ.1 k i.toNat x k j) = _
    rw [u2_at]
    unfold upd
    split <;> rfl) (fun j hj => cel_sI hj)] at hP1
  exact kk p e R s m args below meth c n0 Z H1 locs1 als F RO hn hnf hP1 hS1 (ok_sI hσ (by rw [h2]; exact h01)) (ok_t (ok_t (ok_t hst))) hls hal
theorem T_lastore {k L : Nat} {i : Int} {x : BitVec 64} (he : EOK mi (pc, .lastore, len, a, b)) (hk : shIs n k 1 = some L) (hi : 0 ≤ i ∧ i < L) (kk : Tri G h mi nf n (pc + len) ls st (sJ σ k i.toNat x) Q) : Tri G h mi nf n pc ls (vl x :: vi i :: vr k :: st) σ Q := by
  obtain ⟨rfl, hd⟩ := he.dec (k := 1) rfl (by decide)
  obtain ⟨h1, h2, h3⟩ := shIs_spec hk
  intro p e R s m args below meth c n0 Z H locs als F RO hn hnf hP hS hσ hst hls hal
  obtain ⟨hx, hb, hml, hr, hown, hts, hlk, hnm, hK, hW, hsz, hn0, hRf, hRl, hRc, hRs, hNC⟩ := id F
  have hr9 : inR i := ok_h (ok_t hst)
  rw [List.map_cons, List.map_cons, List.map_cons, show trV G (vr k) = trR G k from rfl, trR_c (by have := NC_lt; omega)]
  have hw := ws_at (G := G) σ h1
  rw [cel_l h2, h3] at hw
  refine va_last hx hb hK.1 hP (ws_D G n σ) hS k 1 hw (ty_at (t := 1) rfl) (idx_in hr9 hi) hd (fun H1 locs1 hP1 hD1 hS1 => ?_)
  rw [idx_cl hr9] at hP1
  rw [ws_set (σ' := sJ σ k i.toNat x) h1 (by
    rw [cel_l h2, h3]
    congr 5
    funext j
    show Int64.ofBitVec (u2 σ.2.1 k i.toNat x k j) = _
    rw [u2_at]
    unfold vp_updL
    split <;> rfl) (fun j hj => cel_sJ hj)] at hP1
  exact kk p e R s m args below meth c n0 Z H1 locs1 als F RO hn hnf hP1 hS1 hσ (ok_t (ok_t (ok_t hst))) hls hal
/-- how long an array is, whatever its kind -/
def arrN (n k : Nat) : Option Nat := match Nat.blt k n && Nat.blt (sh k).1 4 with
  | true => some (sh k).2
  | false => none
theorem sh_small : ∀ k, k < NC → (sh k).2 < 2147483648 := by decide +kernel
theorem T_alen {k L : Nat} (he : EOK mi (pc, .arraylength, len, a, b)) (hk : arrN n k = some L) (kk : Tri G h mi nf n (pc + len) ls (vi (L : Int) :: st) σ Q) : Tri G h mi nf n pc ls (vr k :: st) σ Q := by
  obtain ⟨rfl, hd⟩ := he.dec (k := 1) rfl (by decide)
  have hsp : k < n ∧ (sh k).1 < 4 ∧ (sh k).2 = L := by
    unfold arrN at hk
    cases hc : Nat.blt k n && Nat.blt (sh k).1 4 with
    | true =>
      rw [hc] at hk
      have h1 := (Bool.and_eq_true _ _).mp hc
      exact ⟨Nat.le_of_ble_eq_true h1.1, Nat.le_of_ble_eq_true h1.2, Option.some.inj hk⟩
    | false => rw [hc] at hk; cases hk
  obtain ⟨h1, h2, h3⟩ := hsp
  intro p e R s m args below meth c n0 Z H locs als F RO hn hnf hP hS hσ hst hls hal
  obtain ⟨hx, hb, hml, hr, hown, hts, hlk, hnm, hK, hW, hsz, hn0, hRf, hRl, hRc, hRs, hNC⟩ := id F
  have hL : L < 2147483648 := by rw [← h3]; exact sh_small k (by omega)
  have k1 := kk p e R s m args below meth c n0 Z H locs als F RO hn hnf hP hS hσ (ok_c (show inR (L : Int) by unfold inR; omega) (ok_t hst)) hls hal
  rw [List.map_cons, show trV G (vr k) = trR G k from rfl, trR_c (by have := NC_lt; omega)]
  rw [List.map_cons, show trV G (vi (L : Int)) = .int (Int32.ofInt (L : Int)) from rfl, Int32.ofInt_eq_ofNat] at k1
  have hw := ws_at (G := G) σ h1
  by_cases h4 : (sh k).1 = 1
  · rw [cel_l h4, h3] at hw
    exact va_alen hx hb hK.1 hP k 1 hw (ty_at (t := 1) rfl) rfl hd k1
  · have hcs : (sh k).1 = 0 ∨ (sh k).1 = 2 ∨ (sh k).1 = 3 := by omega
    rcases hcs with h5 | h5 | h5
    · rw [cel_i h5 (by decide) (by decide), h3] at hw
      exact va_alen hx hb hK.1 hP k 0 hw (ty_at (t := 0) rfl) rfl hd k1
    · rw [cel_i h5 (by decide) (by decide), h3] at hw
      exact va_alen hx hb hK.1 hP k 2 hw (ty_at (t := 2) rfl) rfl hd k1
    · rw [cel_i h5 (by decide) (by decide), h3] at hw
      exact va_alen hx hb hK.1 hP k 3 hw (ty_at (t := 3) rfl) rfl hd k1
/-! Strings and the script -/
theorem trR_s {G : Ctx} {i : Nat} (h : i < 22) : trR G (2000 + i) = .ref (cK G i) := by
  unfold trR
  rw [if_neg (by omega), if_neg (by omega), if_pos (by omega), show 2000 + i - 2000 = i by omega]
theorem trR_b {G : Ctx} {i : Nat} (h : i < 22) : trR G (3000 + i) = .ref (cV G i) := by
  unfold trR
  rw [if_neg (by omega), if_neg (by omega), if_neg (by omega), if_pos (by omega), show 3000 + i - 3000 = i by omega]
theorem trR_x {G : Ctx} : trR G 4000 = .ref (cS G) := by
  unfold trR
  rw [if_neg (by omega), if_neg (by omega), if_neg (by omega), if_neg (by omega), if_pos rfl]
def stC (i j : Nat) : Int := ((stB.getD i []).getD j 0).toInt
theorem st_small : ∀ i, i < 22 → stN.getD i 0 < 2147483648 := by decide +kernel
theorem T_alenS {i : Nat} (hi : i < 22) (he : EOK mi (pc, .arraylength, len, a, b)) (kk : Tri G h mi nf n (pc + len) ls (vi ((stN.getD i 0 : Nat) : Int) :: st) σ Q) : Tri G h mi nf n pc ls (vr (3000 + i) :: st) σ Q := by
  obtain ⟨rfl, hd⟩ := he.dec (k := 1) rfl (by decide)
  intro p e R s m args below meth c n0 Z H locs als F RO hn hnf hP hS hσ hst hls hal
  obtain ⟨hx, hb, hml, hr, hown, hts, hlk, hnm, hK, hW, hsz, hn0, hRf, hRl, hRc, hRs, hNC⟩ := id F
  have hL := st_small i hi
  have k1 := kk p e R s m args below meth c n0 Z H locs als F RO hn hnf hP hS hσ (ok_c (show inR ((stN.getD i 0 : Nat) : Int) by unfold inR; omega) (ok_t hst)) hls hal
  rw [List.map_cons, show trV G (vr (3000 + i)) = trR G (3000 + i) from rfl, trR_b hi]
  rw [List.map_cons, show trV G (vi ((stN.getD i 0 : Nat) : Int)) = .int (Int32.ofInt ((stN.getD i 0 : Nat) : Int)) from rfl, Int32.ofInt_eq_ofNat] at k1
  exact va_tlen hx hb (hW.1.1 i hi).2.2.2 hS rfl hd k1
theorem T_baloadS {i : Nat} {j : Int} (hi : i < 22) (he : EOK mi (pc, .baload, len, a, b)) (hj : 0 ≤ j ∧ j < (stN.getD i 0 : Nat)) (kk : Tri G h mi nf n (pc + len) ls (vi (stC i j.toNat) :: st) σ Q) : Tri G h mi nf n pc ls (vi j :: vr (3000 + i) :: st) σ Q := by
  obtain ⟨rfl, hd⟩ := he.dec (k := 1) rfl (by decide)
  intro p e R s m args below meth c n0 Z H locs als F RO hn hnf hP hS hσ hst hls hal
  obtain ⟨hx, hb, hml, hr, hown, hts, hlk, hnm, hK, hW, hsz, hn0, hRf, hRl, hRc, hRs, hNC⟩ := id F
  have hr9 : inR j := ok_h hst
  have k1 := kk p e R s m args below meth c n0 Z H locs als F RO hn hnf hP hS hσ (ok_c (inR_to _) (ok_t (ok_t hst))) hls hal
  rw [List.map_cons, List.map_cons, show trV G (vr (3000 + i)) = trR G (3000 + i) from rfl, trR_b hi]
  refine va_tb hx hb (hW.1.1 i hi).2.2.2 hS (idx_in hr9 hj) ?_ hd k1
  rw [idx_cl hr9]
  exact congrArg Value.int (Int32.ofInt_toInt _).symm
theorem T_getS {i : Nat} {ix : Nat} (hi : i < 22) (he : EOK mi (pc, .getfield ix, len, 100, b)) (kk : Tri G h mi nf n (pc + len) ls ((match Nat.beq b.toNat 0 with | true => vr (3000 + i) | false => vi 0) :: st) σ Q) : Tri G h mi nf n pc ls (vr (2000 + i) :: st) σ Q := by
  obtain ⟨rfl, hd⟩ := he.dec (k := 3) rfl (by decide)
  have hc : (((100 : Nat) == 100 && (decide ((oc mi, ix, b.toNat) ∈ sfT) && decide (b.toNat < 2))) || (decide ((100 : Nat) < 13) && (decide (b.toNat < cN 100) && decide ((oc mi, ix, 100, b.toNat) ∈ flT)))) = true := he.2.2.2
  have hc1 : (oc mi, ix, b.toNat) ∈ sfT ∧ b.toNat < 2 := by simpa using hc
  intro p e R s m args below meth c n0 Z H locs als F RO hn hnf hP hS hσ hst hls hal
  obtain ⟨hx, hb, hml, hr, hown, hts, hlk, hnm, hK, hW, hsz, hn0, hRf, hRl, hRc, hRs, hNC⟩ := id F
  have hl := hts _ (sf_ok _ hc1.1)
  rw [List.map_cons, show trV G (vr (2000 + i)) = trR G (2000 + i) from rfl, trR_s hi]
  rcases (show b.toNat = 0 ∨ b.toNat = 1 by omega) with h0 | h0
  · rw [h0] at hl kk
    have k1 := kk p e R s m args below meth c n0 Z H locs als F RO hn hnf hP hS hσ (ok_c (v := vr (3000 + i)) trivial (ok_t hst)) hls hal
    have k1 : W p (cL G) e R s m args below meth c H locs (n - n0) (slt n - slt n0) Z (F0 m (pc + 3) als (trR G (3000 + i) :: List.map (trV G) st)) := k1
    rw [trR_b hi] at k1
    exact vk_getf hx hb (hW.1.1 i hi).2.2.1 hS hown hl (fun x h => h) hd k1
  · rw [h0] at hl kk
    exact vk_getf hx hb (hW.1.1 i hi).2.1 hS hown hl (fun x h => h) hd (kk p e R s m args below meth c n0 Z H locs als F RO hn hnf hP hS hσ (ok_c (v := vi 0) inR0 (ok_t hst)) hls hal)
theorem T_sld {i : Int} (he : EOK mi (pc, .iaload, len, a, b)) (hi : 0 ≤ i ∧ i < (cNn G : Int)) (kk : Tri G h mi nf n (pc + len) ls (vi (cX G i.toNat).toInt :: st) σ Q) : Tri G h mi nf n pc ls (vi i :: vr 4000 :: st) σ Q := by
  obtain ⟨rfl, hd⟩ := he.dec (k := 1) rfl (by decide)
  intro p e R s m args below meth c n0 Z H locs als F RO hn hnf hP hS hσ hst hls hal
  obtain ⟨hx, hb, hml, hr, hown, hts, hlk, hnm, hK, hW, hsz, hn0, hRf, hRl, hRc, hRs, hNC⟩ := id F
  have hr9 : inR i := ok_h hst
  have k1 := kk p e R s m args below meth c n0 Z H locs als F RO hn hnf hP hS hσ (ok_c (inR_to _) (ok_t (ok_t hst))) hls hal
  rw [List.map_cons, List.map_cons, show trV G (vr 4000) = trR G 4000 from rfl, trR_x]
  rw [List.map_cons, show trV G (vi (cX G i.toNat).toInt) = .int (Int32.ofInt (cX G i.toNat).toInt) from rfl, Int32.ofInt_toInt] at k1
  obtain ⟨hX1, hX2, hX3⟩ := hW.2.2.2
  have hbl : cS G < s.heap.size := by have := hX2; unfold AO at this; omega
  refine va_sld hx hb hX1 hbl hX2 hS (idx_in hr9 hi) hd ?_
  rw [idx_cl hr9]
  exact k1
theorem T_slen (he : EOK mi (pc, .arraylength, len, a, b)) (kk : Tri G h mi nf n (pc + len) ls (vi (cNn G : Int) :: st) σ Q) : Tri G h mi nf n pc ls (vr 4000 :: st) σ Q := by
  obtain ⟨rfl, hd⟩ := he.dec (k := 1) rfl (by decide)
  intro p e R s m args below meth c n0 Z H locs als F RO hn hnf hP hS hσ hst hls hal
  obtain ⟨hx, hb, hml, hr, hown, hts, hlk, hnm, hK, hW, hsz, hn0, hRf, hRl, hRc, hRs, hNC⟩ := id F
  obtain ⟨hX1, hX2, hX3⟩ := hW.2.2.2
  have k1 := kk p e R s m args below meth c n0 Z H locs als F RO hn hnf hP hS hσ (ok_c (show inR (cNn G : Int) by unfold inR; omega) (ok_t hst)) hls hal
  rw [List.map_cons, show trV G (vr 4000) = trR G 4000 from rfl, trR_x]
  rw [List.map_cons, show trV G (vi (cNn G : Int)) = .int (Int32.ofInt (cNn G : Int)) from rfl, Int32.ofInt_eq_ofNat] at k1
  have hbl : cS G < s.heap.size := by have := hX2; unfold AO at this; omega
  exact va_slen hx hb hX1 hbl hX2 hS hd k1
/-! constants of the pool -/
theorem T_ldc {i : Nat} (he : EOK mi (pc, .ldc i, len, 0, b)) (kk : Tri G h mi nf n (pc + len) ls (vi b :: st) σ Q) : Tri G h mi nf n pc ls st σ Q := by
  obtain ⟨rfl, hd⟩ := he.dec (k := 2) rfl (by decide)
  have hc := he.2.2.2
  have hc1 : (-2147483648 ≤ b ∧ b < 2147483648) ∧ (oc mi, i, b) ∈ kiT := by simpa [chkL] using hc
  intro p e R s m args below meth c n0 Z H locs als F RO hn hnf hP hS hσ hst hls hal
  obtain ⟨hx, hb, hml, hr, hown, hts, hlk, hnm, hK, hW, hsz, hn0, hRf, hRl, hRc, hRs, hNC⟩ := id F
  exact lv_ldc hx hb hown (hts _ (ki_ok _ hc1.2)) hd (kk p e R s m args below meth c n0 Z H locs als F RO hn hnf hP hS hσ (ok_c (v := vi b) hc1.1 hst) hls hal)
theorem T_ldcw {i : Nat} (he : EOK mi (pc, .ldc_w i, len, a, b)) (kk : Tri G h mi nf n (pc + len) ls (vi b :: st) σ Q) : Tri G h mi nf n pc ls st σ Q := by
  obtain ⟨rfl, hd⟩ := he.dec (k := 3) rfl (by decide)
  have hc := he.2.2.2
  have hc1 : (-2147483648 ≤ b ∧ b < 2147483648) ∧ (oc mi, i, b) ∈ kiT := by simpa [chkL] using hc
  intro p e R s m args below meth c n0 Z H locs als F RO hn hnf hP hS hσ hst hls hal
  obtain ⟨hx, hb, hml, hr, hown, hts, hlk, hnm, hK, hW, hsz, hn0, hRf, hRl, hRc, hRs, hNC⟩ := id F
  exact lv_ldcw hx hb hown (hts _ (ki_ok _ hc1.2)) hd (kk p e R s m args below meth c n0 Z H locs als F RO hn hnf hP hS hσ (ok_c (v := vi b) hc1.1 hst) hls hal)
theorem T_ldcS {i : Nat} (he : EOK mi (pc, .ldc i, len, 1, b)) (kk : Tri G h mi nf n (pc + len) ls (vr (2000 + b.toNat) :: st) σ Q) : Tri G h mi nf n pc ls st σ Q := by
  obtain ⟨rfl, hd⟩ := he.dec (k := 2) rfl (by decide)
  have hc := he.2.2.2
  have hc1 : stO.getD b.toNat 0 = oc mi ∧ stI.getD b.toNat 0 = i ∧ b.toNat < 22 := by
    simpa only [chkL, show ((1 : Nat) == 0) = false from rfl, show ((1 : Nat) == 1) = true from rfl, Bool.false_and, Bool.true_and, Bool.false_or, Bool.and_eq_true, decide_eq_true_eq] using hc
  intro p e R s m args below meth c n0 Z H locs als F RO hn hnf hP hS hσ hst hls hal
  obtain ⟨hx, hb, hml, hr, hown, hts, hlk, hnm, hK, hW, hsz, hn0, hRf, hRl, hRc, hRs, hNC⟩ := id F
  have hR := hK.2.1 b.toNat hc1.2.2
  rw [hc1.1, hc1.2.1] at hR
  have k1 : W p (cL G) e R s m args below meth c H locs (n - n0) (slt n - slt n0) Z (F0 m (pc + 2) als (trR G (2000 + b.toNat) :: List.map (trV G) st)) := kk p e R s m args below meth c n0 Z H locs als F RO hn hnf hP hS hσ (ok_c (v := vr (2000 + b.toNat)) trivial hst) hls hal
  rw [trR_s hc1.2.2] at k1
  exact va_ldcS hx hb hown hR hd k1
theorem T_ldc2 {i : Nat} (he : EOK mi (pc, .ldc2_w i, len, a, b)) (kk : Tri G h mi nf n (pc + len) ls (vl (BitVec.ofInt 64 b) :: st) σ Q) : Tri G h mi nf n pc ls st σ Q := by
  obtain ⟨rfl, hd⟩ := he.dec (k := 3) rfl (by decide)
  have hc := he.2.2.2
  have hc1 : (oc mi, i, b) ∈ klT := by simpa [chkL] using hc
  intro p e R s m args below meth c n0 Z H locs als F RO hn hnf hP hS hσ hst hls hal
  obtain ⟨hx, hb, hml, hr, hown, hts, hlk, hnm, hK, hW, hsz, hn0, hRf, hRl, hRc, hRs, hNC⟩ := id F
  exact lv_ldc2 hx hb hown (hts _ (kl_ok _ hc1)) hd (kk p e R s m args below meth c n0 Z H locs als F RO hn hnf hP hS hσ (ok_c (v := vl (BitVec.ofInt 64 b)) trivial hst) hls hal)
theorem T_gets {i : Nat} (he : EOK mi (pc, .getstatic i, len, a, b)) (kk : Tri G h mi nf n (pc + len) ls ((match Nat.beq a 0 with | true => vi 1 | false => vr 5000) :: st) σ Q) : Tri G h mi nf n pc ls st σ Q := by
  obtain ⟨rfl, hd⟩ := he.dec (k := 3) rfl (by decide)
  have hc := he.2.2.2
  have hc1 : (oc mi, i, a) ∈ gsT ∧ a < 2 := by simpa [chkL] using hc
  intro p e R s m args below meth c n0 Z H locs als F RO hn hnf hP hS hσ hst hls hal
  obtain ⟨hx, hb, hml, hr, hown, hts, hlk, hnm, hK, hW, hsz, hn0, hRf, hRl, hRc, hRs, hNC⟩ := id F
  have hl := hts _ (gs_ok _ hc1.1)
  rcases (show a = 0 ∨ a = 1 by omega) with rfl | rfl
  · exact va_gets hx hb hW.2.1 hS hown hl (fun x h => h) hd (kk p e R s m args below meth c n0 Z H locs als F RO hn hnf hP hS hσ (ok_c (v := vi 1) (by show inR 1; unfold inR; omega) hst) hls hal)
  · have k1 : W p (cL G) e R s m args below meth c H locs (n - n0) (slt n - slt n0) Z (F0 m (pc + 3) als (trR G 5000 :: List.map (trV G) st)) := kk p e R s m args below meth c n0 Z H locs als F RO hn hnf hP hS hσ (ok_c (v := vr 5000) trivial hst) hls hal
    rw [show trR G 5000 = cF G from rfl] at k1
    exact va_gets hx hb hW.2.2.1 hS hown hl (fun x h => h) hd k1
/-! fields -/
theorem T_get {k ix : Nat} (he : EOK mi (pc, .getfield ix, len, a, b)) (hk : isObj n k a = true) (kk : Tri G h mi nf n (pc + len) ls (fval σ k a b.toNat :: st) σ Q) : Tri G h mi nf n pc ls (vr k :: st) σ Q := by
  obtain ⟨rfl, hd⟩ := he.dec (k := 3) rfl (by decide)
  obtain ⟨h1, h2, h3⟩ := isObj_spec hk
  have hc := he.2.2.2
  have hc1 : b.toNat < cN a ∧ (oc mi, ix, a, b.toNat) ∈ flT := by
    have h4 : a ≠ 100 := by omega
    simpa [chkL, h4, h2] using hc
  obtain ⟨T, ty, t1, t2, t3, t4, t5⟩ := clsAt a h2
  intro p e R s m args below meth c n0 Z H locs als F RO hn hnf hP hS hσ hst hls hal
  obtain ⟨hx, hb, hml, hr, hown, hts, hlk, hnm, hK, hW, hsz, hn0, hRf, hRl, hRc, hRs, hNC⟩ := id F
  have hl := hts _ (fl_ok _ hc1.2)
  unfold flC at hl
  dsimp only at hl
  rw [← t2] at hl
  have hw := ws_at (G := G) σ h1
  rw [cel_o h3] at hw
  have hok : okV (fval σ k a b.toNat) := by
    unfold fval
    cases Nat.beq (fk a b.toNat) 1
    · exact okC_in (hσ k b.toNat)
    · trivial
  have k1 := kk p e R s m args below meth c n0 Z H locs als F RO hn hnf hP hS hσ (ok_c hok (ok_t hst)) hls hal
  rw [List.map_cons, fval_tr] at k1
  rw [List.map_cons, show trV G (vr k) = trR G k from rfl, trR_c (by have := NC_lt; omega)]
  exact va_get hx hb hts t3 hown hK.1 hP k hw t1 b.toNat hc1.1 hl (fun x h => h) (flds_at hc1.1) hd k1
theorem put_any {k ix : Nat} {v : MV} {σ' : MS} (he : EOK mi (pc, .putfield ix, len, a, b)) (hk : isObj n k a = true) (hok : okS σ → okV v → okS σ')
    (hcel : ∀ j, j ≠ k → celE G σ' j = celE G σ j) (hf1 : fldV G σ' k a b.toNat = trV G v) (hf2 : ∀ i, i ≠ b.toNat → fldV G σ' k a i = fldV G σ k a i)
    (hty : (cF G = .null ∨ ∃ t, cF G = .ref t) → ∀ ty, parseFieldDescriptor (fT a b.toNat).2.2.1 = some ty → narrow ty (trV G v) = trV G v ∧ fits ty (trV G v) = true)
    (kk : Tri G h mi nf n (pc + len) ls st σ' Q) : Tri G h mi nf n pc ls (v :: vr k :: st) σ Q := by
  obtain ⟨rfl, hd⟩ := he.dec (k := 3) rfl (by decide)
  obtain ⟨h1, h2, h3⟩ := isObj_spec hk
  have hc := he.2.2.2
  have hc1 : a < 13 ∧ b.toNat < cN a ∧ (oc mi, ix, a, b.toNat) ∈ flT ∧ ((fT a b.toNat).2.2.2 = false ∨ (mk mi = 2 ∧ oc mi = a)) := by
    simpa only [chkL, Bool.and_eq_true, Bool.or_eq_true, decide_eq_true_eq, Bool.not_eq_true', beq_iff_eq] using hc
  obtain ⟨T, ty, t1, t2, t3, t4, t5⟩ := clsAt a h2
  intro p e R s m args below meth c n0 Z H locs als F RO hn hnf hP hS hσ hst hls hal
  obtain ⟨hx, hb, hml, hr, hown, hts, hlk, hnm, hK, hW, hsz, hn0, hRf, hRl, hRc, hRs, hNC⟩ := id F
  have hl := hts _ (fl_ok _ hc1.2.2.1)
  unfold flC at hl
  dsimp only at hl
  rw [← t2] at hl
  have hw := ws_at (G := G) σ h1
  rw [cel_o h3] at hw
  have hd4 := t4 b.toNat hc1.2.1
  have hnf0 := hnf
  have hnf := hty hK.2.2.2 (ty b.toNat) (by rw [← t2]; exact hd4)
  rw [List.map_cons, List.map_cons, show trV G (vr k) = trR G k from rfl, trR_c (by have := NC_lt; omega)]
  have fin : ∀ (H1 : Heap) (locs1 : List Loc), va_P (cC G, cI G) vwCl ((wsO G n σ).set k (cB G + k, .inr (a, (flds G σ k a).set b.toNat (trV G v)))) H1 → va_D (AO G) ((wsO G n σ).set k (cB G + k, .inr (a, (flds G σ k a).set b.toNat (trV G v)))) → va_S (AO G) s.heap H1 locs1 → W p (cL G) e R s m args below meth c H1 locs1 (n - n0) (slt n - slt n0) Z (F0 m (pc + 3) als (st.map (trV G))) := by
    intro H1 locs1 hP1 _ hS1
    rw [ws_set (σ' := σ') h1 (by rw [cel_o h3, flds_set hc1.2.1 hf1 hf2]) hcel] at hP1
    exact kk p e R s m args below meth c n0 Z H1 locs1 als F RO hn hnf0 hP1 hS1 (hok hσ (ok_h hst)) (ok_t (ok_t hst)) hls hal
  rcases hc1.2.2.2 with hfin | ⟨hm2, hoc⟩
  · exact va_put hx hb hts t3 ty t4 t5 hown hK.1 hP (ws_D G n σ) hS k hw t1 b.toNat hc1.2.1 hl (fun x h => h) (by rw [t2]; exact hfin) hd4 hnf.1 hnf.2 (by rw [flds_len]; exact hc1.2.1) hd fin
  · by_cases hfin : (fT a b.toNat).2.2.2 = false
    · exact va_put hx hb hts t3 ty t4 t5 hown hK.1 hP (ws_D G n σ) hS k hw t1 b.toNat hc1.2.1 hl (fun x h => h) (by rw [t2]; exact hfin) hd4 hnf.1 hnf.2 (by rw [flds_len]; exact hc1.2.1) hd fin
    · exact va_putF hx hb hts t3 ty t4 t5 hown hK.1 hP (ws_D G n σ) hS k hw t1 b.toNat hc1.2.1 hl (fun x h => h) (by rw [t2]; simpa using hfin) (by rw [hnm]; exact (c_all mi he.1 hm2).2.1) (by rw [t2, (fk_ok a h2 b.toNat hc1.2.1).1, hoc]) hd4 hnf.1 hnf.2 (by rw [flds_len]; exact hc1.2.1) hd fin
theorem T_putI {k ix : Nat} {x : Int} (he : EOK mi (pc, .putfield ix, len, a, b)) (hk : isObj n k a = true) (hf : fk a b.toNat = 0) (kk : Tri G h mi nf n (pc + len) ls st (sI σ k b.toNat x) Q) : Tri G h mi nf n pc ls (vi x :: vr k :: st) σ Q := by
  obtain ⟨h1, h2, h3⟩ := isObj_spec hk
  refine put_any (v := vi x) (σ' := sI σ k b.toNat x) he hk (fun q1 q2 => ok_sI q1 (by rw [h3]; unfold okC; rw [if_neg (by omega), if_neg (by omega)]; exact q2)) (fun j hj => cel_sI hj) ?_ ?_ (fun _ ty hty => ?_) kk
  · show fldV G (sI σ k b.toNat x) k a b.toNat = .int (Int32.ofInt x)
    unfold fldV
    rw [if_neg (by omega)]
    show Value.int (Int32.ofInt (u2 σ.1 k b.toNat x k b.toNat)) = _
    rw [u2_at, if_pos rfl]
  · intro i hi
    unfold fldV
    show (if fk a i = 1 then _ else Value.int (Int32.ofInt (u2 σ.1 k b.toNat x k i))) = _
    rw [u2_at, if_neg hi]
  · have hc := he.2.2.2
    have hc1 : b.toNat < cN a := by
      have := hc
      simp only [chkL, Bool.and_eq_true, decide_eq_true_eq] at this
      exact this.2.1
    rcases (fk_ok a h2 b.toNat hc1).2 with ⟨-, e1⟩ | ⟨e1, -⟩ | ⟨e1, -⟩
    · rw [e1] at hty
      cases hty
      exact ⟨rfl, rfl⟩
    · omega
    · omega
theorem T_putZ {k ix : Nat} {x : Int} (he : EOK mi (pc, .putfield ix, len, a, b)) (hk : isObj n k a = true) (hf : fk a b.toNat = 2) (h01 : x = 0 ∨ x = 1) (kk : Tri G h mi nf n (pc + len) ls st (sI σ k b.toNat x) Q) : Tri G h mi nf n pc ls (vi x :: vr k :: st) σ Q := by
  obtain ⟨h1, h2, h3⟩ := isObj_spec hk
  refine put_any (v := vi x) (σ' := sI σ k b.toNat x) he hk (fun q1 q2 => ok_sI q1 (by rw [h3]; unfold okC; rw [if_neg (by omega), if_neg (by omega)]; exact q2)) (fun j hj => cel_sI hj) ?_ ?_ (fun _ ty hty => ?_) kk
  · show fldV G (sI σ k b.toNat x) k a b.toNat = .int (Int32.ofInt x)
    unfold fldV
    rw [if_neg (by omega)]
    show Value.int (Int32.ofInt (u2 σ.1 k b.toNat x k b.toNat)) = _
    rw [u2_at, if_pos rfl]
  · intro i hi
    unfold fldV
    show (if fk a i = 1 then _ else Value.int (Int32.ofInt (u2 σ.1 k b.toNat x k i))) = _
    rw [u2_at, if_neg hi]
  · have hc := he.2.2.2
    have hc1 : b.toNat < cN a := by
      have := hc
      simp only [chkL, Bool.and_eq_true, decide_eq_true_eq] at this
      exact this.2.1
    rcases (fk_ok a h2 b.toNat hc1).2 with ⟨e1, -⟩ | ⟨-, e1⟩ | ⟨e1, -⟩
    · omega
    · rw [e1] at hty
      cases hty
      rcases h01 with rfl | rfl <;> exact ⟨rfl, rfl⟩
    · omega
theorem T_putR {k ix : Nat} {x : Nat} (he : EOK mi (pc, .putfield ix, len, a, b)) (hk : isObj n k a = true) (hf : fk a b.toNat = 1) (kk : Tri G h mi nf n (pc + len) ls st (sP σ k b.toNat x) Q) : Tri G h mi nf n pc ls (vr x :: vr k :: st) σ Q := by
  obtain ⟨h1, h2, h3⟩ := isObj_spec hk
  refine put_any (v := vr x) (σ' := sP σ k b.toNat x) he hk (fun q1 q2 => q1) (fun j hj => cel_sP hj) ?_ ?_ (fun hF ty hty => ?_) kk
  · show fldV G (sP σ k b.toNat x) k a b.toNat = trR G x
    unfold fldV
    rw [if_pos hf]
    show trR G (u2 σ.2.2 k b.toNat x k b.toNat) = _
    rw [u2_at, if_pos rfl]
  · intro i hi
    unfold fldV
    show (if fk a i = 1 then trR G (u2 σ.2.2 k b.toNat x k i) else _) = _
    rw [u2_at, if_neg hi]
  · have hc := he.2.2.2
    have hc1 : b.toNat < cN a := by
      have := hc
      simp only [chkL, Bool.and_eq_true, decide_eq_true_eq] at this
      exact this.2.1
    rcases (fk_ok a h2 b.toNat hc1).2 with ⟨e1, -⟩ | ⟨e1, -⟩ | ⟨-, e1⟩
    · omega
    · omega
    · rw [hty] at e1
      show narrow ty (trR G x) = trR G x ∧ fits ty (trR G x) = true
      cases ty <;> first | (exact absurd e1 (by decide)) | (rcases trR_cases hF x with h5 | ⟨w, h5⟩ <;> rw [h5] <;> exact ⟨rfl, rfl⟩)
end HEAP
end
section
/-! calls, returns, new cells, copies, switches -/
theorem W_size {G : Ctx} {p : Program} {e : Env} {R : Room} {s : State} {m : MethodId} {args : Array Value} {below : List Frame} {meth : Method} {c : Code} {H : Heap} {locs : List Loc} {n n0 slots : Nat} {σ : MS} {Z : State → Prop} {g : JFrame}
    (hsz : s.heap.size = cB G + n0) (hn : n0 ≤ n) (hP : va_P (cC G, cI G) vwCl (wsO G n σ) H) (hS : va_S (AO G) s.heap H locs) (k : H.size = cB G + n → W p (cL G) e R s m args below meth c H locs (n - n0) slots Z g) : W p (cL G) e R s m args below meth c H locs (n - n0) slots Z g := by
  intro T hT X
  have h1 := X.heapSize
  rw [hT, hsz] at h1
  refine k ?_ T hT X
  by_cases h0 : n0 < n
  · have h2 := (hP (n - 1) _ (ws_at (G := G) σ (show n - 1 < n by omega))).lt
    dsimp only at h2
    omega
  · have h2 := hS.1
    rw [hsz] at h2
    omega
theorem KW.warm {G : Ctx} {s U : State} (hW : s.WarmedH U.vm) (h : KW G s) : KW G U := ⟨va_K.moved hW.alike h.1, fun i hi => vk_R.warm hW (h.2.1 i hi), fun q hq => va_Nw.warmM hW (h.2.2.1 q hq), h.2.2.2⟩
theorem KW.same {G : Ctx} {s U : State} (hv : U.vm = s.vm) (h : KW G s) : KW G U := ⟨va_K.moved (by rw [hv]; exact Vm.Alike.refl _) h.1, fun i hi => vk_R.same hv (h.2.1 i hi), fun q hq => va_Nw.same rfl hv.symm (h.2.2.1 q hq), h.2.2.2⟩
theorem HW.go {G : Ctx} {s U : State} {H H1 : Heap} (hA : s.vm.Alike U.vm) (hq : ∀ a : Nat, a < H.size → ¬ AO G a → H1[a]? = H[a]?) (h : HW G s H) : HW G U H1 := by
  obtain ⟨h1, h2, h3, h4, h5, h6⟩ := h
  have hlt : cS G < H.size := by
    obtain ⟨scr, q1, -⟩ := h4
    exact (Array.getElem?_eq_some_iff.mp q1).1
  exact ⟨(h1.moved hA).kept hq, (h2.moved hA).kept hq, (h3.moved hA).kept hq, (h4.moved hA).kept (hq _ hlt h5), h5, h6⟩
theorem Pc_blind {G : Ctx} {n : Nat} {av : List MV} {σ : MS} : FrameBlind (PcO G n av σ) := by
  intro a U g mk q
  obtain ⟨q1, q2, q3, q4, q5, q6, q7⟩ := q
  exact ⟨q1, q2, q3, q4.same rfl, HW.go (s := U) (Vm.Alike.refl U.vm) (fun _ _ _ => rfl) q5, q6, q7⟩
def pushR : Option MV → List MV → List MV
  | none, st => st
  | some v, st => v :: st
def catS : List MV → Nat
  | [] => 0
  | v :: r => (match isLg (some v) with
    | true => 2
    | false => 1) + catS r
theorem catS_ok {G : Ctx} (hF : cF G = .null ∨ ∃ t, cF G = .ref t) (st : List MV) : ((st.map (trV G)).map fun v => v.category).sum = catS st := by
  induction st with
  | nil => rfl
  | cons v r ih =>
    rw [List.map_cons, List.map_cons, List.sum_cons, ih, cat_tr hF]
    show _ = (match isLg (some v) with
      | true => 2
      | false => 1) + catS r
    cases isLg (some v) <;> rfl
theorem call_go {G : Ctx} {p : Program} {e : Env} {R : Room} {s : State} {m : MethodId} {args : Array Value} {below : List Frame} {meth : Method} {c : Code} {H : Heap} {locs : List Loc} {cells slots mc ms pc n' : Nat} {als : Array Slot} {st0 rest : List Value} {Q' : MP} {a : Array Value} {Z : State → Prop}
    (hr : va_Run p (cL G) e R s m args below meth c H locs cells slots mc ms (F0 m pc als st0) rest (QcO G n' Q' a) (AO G)) (hS : va_S (AO G) s.heap H locs)
    (kk : ∀ (r : Option MV) (σ' : MS) (H1 : Heap) (locs1 : List Loc), (∀ v, r = some v → okV v) → okS σ' → Q' r σ' → va_P (cC G, cI G) vwCl (wsO G n' σ') H1 → va_S (AO G) s.heap H1 locs1 → W p (cL G) e R s m args below meth c H1 locs1 (cells + mc) (slots + ms) Z (F0 m (pc + 3) als ((r.map (trV G)).toList ++ rest))) : W p (cL G) e R s m args below meth c H locs cells slots Z (F0 m pc als st0) := by
  intro T hT X
  obtain ⟨v, st₀, t, T', L, h0, X', hL, e1, e2, ⟨⟨r, σ', hv, hok, hoS, hQ, hP1⟩, hz, hk⟩, st⟩ := hr T hT X
  cases hv
  rw [h0] at hz hk
  obtain ⟨t2, a1, b1⟩ := kk r σ' T'.heap (locs ++ L) hok hoS hQ (by rw [e1]; exact hP1)
    ⟨Nat.le_trans hS.1 (by rw [e1]; exact hz), fun q h1 h2 => by rw [e1, hk q (Nat.lt_of_lt_of_le h1 hS.1) h2]; exact hS.2.1 q h1 h2, fun q hq => by
      rcases List.mem_append.mp hq with h | h
      · exact hS.2.2 q h
      · exact hL q h⟩ T' rfl X'
  exact ⟨t2, st t2 a1, b1⟩
section CALLS
variable {G : Ctx} {h mi nf n pc len a : Nat} {b : Int} {ls : ML} {st : List MV} {σ : MS} {Q : MP}
theorem gi_c {a : Nat} (ha : a < 269) : GoodIn lw_good (wM a :: lw_good) := by
  intro w hw
  rcases List.mem_cons.mp hw with rfl | hw
  · exact good_all _ (wM_in a ha)
  · exact good_all _ hw
theorem gi_app {ws1 ws2 : List Cond} (h1 : ∀ w ∈ ws1, w ∈ lw_good) (h2 : GoodIn lw_good ws2) : GoodIn lw_good (ws1 ++ ws2) := fun w hw => (List.mem_append.mp hw).elim (fun q => good_all w (h1 w q)) (h2 w)
theorem ini_in {a : Nat} (ha : a < 269) : Cond.initialized (yM a).cls ∈ lw_good := by
  rw [oc_ok a (by show a < 270; omega)]
  exact a_init _ (oc_lt a (by show a < 270; omega))
/-- the call's own facts, for every kind of call -/
theorem pre_of {n' : Nat} {av : List MV} {s : State} {H : Heap} {locs : List Loc} (hK : KW G s) (hW : HW G s s.heap) (hS : va_S (AO G) s.heap H locs) (hP : va_P (cC G, cI G) vwCl (wsO G n σ) H) (hσ : okS σ) (hav : ∀ v ∈ av, okV v) (hsz : H.size = cB G + n) : ∀ U : State, U.heap = H → s.WarmedH U.vm → PcO G n av σ ((av.map (trV G)).toArray) U := by
  intro U hU hw
  refine ⟨rfl, by rw [hU]; exact hsz, by rw [hU]; exact hP, hK.warm hw, ?_, hσ, hav⟩
  rw [hU]
  exact HW.go hw.alike hS.2.1 hW
theorem T_callS {i : Nat} {av : List MV} {n' : Nat} {Q' : MP} (he : EOK mi (pc, .invokestatic i, len, a, b)) (ha : a < 269) (hag : av.length = ag a) (hm0 : mk a = 0) (hcat : catS st ≤ 8) (hn1 : n ≤ n') (hn2 : n' ≤ nf) (hM : TriM G h a n n' av σ Q')
    (kk : ∀ (r : Option MV) (σ' : MS), Q' r σ' → (∀ v, r = some v → okV v) → Tri G h mi nf n' (pc + len) ls (pushR r st) σ' Q) : Tri G h mi nf n pc ls (av.reverse ++ st) σ Q := by
  obtain ⟨rfl, hd⟩ := he.dec (k := 3) rfl (by decide)
  have hc := he.2.2.2
  have hc1 : ((oc mi, i, a) ∈ mlT) ∨ ((oc mi, i, a) ∈ nlT) := by
    have h998 : a ≠ 998 := by omega
    have : (b = 0 ∧ (oc mi, i, a) ∈ mlT) ∨ (b = 1 ∧ (oc mi, i, a) ∈ nlT) := by
      simpa [chkL, h998, ha, hm0] using hc
    rcases this with h1 | h1
    · exact Or.inl h1.2
    · exact Or.inr h1.2
  obtain ⟨h', hh, hMet⟩ := hM
  intro p e R s m args below meth c n0 Z H locs als F RO hn hnf hP hS hσ hst hls hal
  obtain ⟨hx, hb, hml, hr, hown, hts, hlk, hnm, hK, hW, hsz, hn0, hRf, hRl, hRc, hRs, hNC⟩ := id F
  refine W_size hsz hn hP hS (fun hHs => ?_)
  have hav : ∀ v ∈ av, okV v := fun v hv => hst v (List.mem_append_left _ (List.mem_reverse.mpr hv))
  have hst2 : ∀ v ∈ st, okV v := fun v hv => hst v (List.mem_append_right _ hv)
  have hNM : a < NM := by show a < 270; omega
  have hl45 := lM_ok a hNM
  have fin : va_Run p (cL G) e R s m args below meth c H locs (n - n0) (slt n - slt n0) (n' - n) (slt n' - slt n) (F0 m pc als ((av.reverse ++ st).map (trV G))) (st.map (trV G)) (QcO G n' Q' ((av.map (trV G)).toArray)) (AO G) := by
    have hR : (rmO h' (n' - n) (slt n' - slt n)).frames + 1 ≤ R.frames ∧ 8 + (lM a + 11) + (rmO h' (n' - n) (slt n' - slt n)).locals ≤ R.locals := by
      show h' + 1 ≤ R.frames ∧ 8 + (lM a + 11) + 64 * h' ≤ R.locals
      omega
    have hst9 : ((av.reverse ++ st).map (trV G)) = (av.map (trV G)).reverse ++ st.map (trV G) := by rw [List.map_append, List.map_reverse]
    have hf : (n - n0) + (n' - n) ≤ R.cells ∧ (slt n - slt n0) + (slt n' - slt n) ≤ R.slots := by
      have q1 := slt_mono hn (show n ≤ NC by omega)
      have q2 := slt_mono hn1 (show n' ≤ NC by omega)
      have q3 := slt_mono hn2 hNC
      omega
    have hdd : (yM a).cls ≠ "java/lang/invoke/MethodHandle" ∧ (yM a).cls ≠ "java/lang/invoke/VarHandle" ∧ (parseMethodDescriptor (yM a).desc).map (fun d => d.parameters.length) = some (ag a) := ⟨(mh_ok a hNM).1, (mh_ok a hNM).2, ag_ok a hNM⟩
    have hwm : wM a :: lw_good = Cond.code (yM a) (bM a) (lM a) (rM a) :: lw_good := rfl
    have hpre : PreS s H (PcO G n av σ) (av.map (trV G)) := ⟨Pc_blind, pre_of (n' := n') hK hW hS hP hσ hav hHs⟩
    have hsta : Cond.static (yM a) ∈ lw_good := s_stat a (s_all a (by show a < 269; exact ha) hm0)
    have hlen : (av.map (trV G)).length = ag a := by rw [List.length_map]; exact hag
    have hroom : 2 * (F0 m pc als ((av.reverse ++ st).map (trV G))).monitorRoom + ((st.map (trV G)).map fun v => v.category).sum ≤ 8 := lv_room (by rw [catS_ok hK.2.2.2]; exact hcat)
    rcases hc1 with hl | hl
    · have hml9 : Cond.methodLink (RC (oc mi)) i (yM a) ∈ lw_good := ml_ok (oc mi, i, a) hl
      have hgi : GoodIn lw_good (va_wsS (RC (oc mi)) i (yM a) (wM a :: lw_good)) := gi_app (fun w hw => by
          rcases List.mem_cons.mp hw with rfl | hw
          · exact hml9
          · rcases List.mem_cons.mp hw with rfl | hw
            · exact hsta
            · rcases List.mem_cons.mp hw with rfl | hw
              · exact ini_in ha
              · cases hw) (gi_c ha)
      have hcw := va_cwS (R := R) (args := args) (rm := rmO h' (n' - n) (slt n' - slt n)) (mc := n' - n) (ms := slt n' - slt n) (ag a) hts hgi hwm rfl rfl hdd hR
      exact va_runS (g := F0 m pc als ((av.reverse ++ st).map (trV G))) ⟨hx, hb, hml, hown, hts⟩ hMet hcw hpre rfl hlen hal.1 hst9 hroom hd hf
    · have hnl : va_Nw (.methodLinkNest (RC (oc mi)) i (yM a) "CountedTwice") s := hK.2.2.1 (oc mi, i, a) hl
      have hcn := va_cnB (R := R) (args := args) (rm := rmO h' (n' - n) (slt n' - slt n)) (mc := n' - n) (ms := slt n' - slt n) (ag a) hts (gi_c ha) hwm rfl rfl hnl (hts _ (ini_in ha)) hdd hR
      exact va_runSN (g := F0 m pc als ((av.reverse ++ st).map (trV G))) ⟨hx, hb, hml, hown, hts⟩ hMet ⟨hcn, hts _ hsta, trivial⟩ hpre rfl hlen hal.1 hst9 hroom hd hf
  refine call_go fin hS (fun r σ' H1 locs1 hok hoS hQ hP1 hS1 => ?_)
  have k1 := kk r σ' hQ hok p e R s m args below meth c n0 Z H1 locs1 als F RO (Nat.le_trans hn hn1) hn2 hP1 hS1 hoS (by
    cases r with
    | none => exact hst2
    | some v => exact ok_c (hok v rfl) hst2) hls hal
  have q1 := slt_mono hn (show n ≤ NC by omega)
  have q2 := slt_mono hn1 (show n' ≤ NC by omega)
  rw [show n - n0 + (n' - n) = n' - n0 by omega, show slt n - slt n0 + (slt n' - slt n) = slt n' - slt n0 by omega]
  cases r with
  | none => exact k1
  | some v => exact k1
theorem T_callV {i k0 c0 : Nat} {av : List MV} {n' : Nat} {Q' : MP} (he : EOK mi (pc, .invokevirtual i, len, a, b)) (ha : a < 269) (hag : av.length = ag a) (hm0 : mk a = 1) (hrc : ∀ (s : State) (H : Heap) (locs : List Loc), KW G s → HW G s s.heap → va_P (cC G, cI G) vwCl (wsO G n σ) H → va_S (AO G) s.heap H locs → ∃ q, trR G k0 = .ref q ∧ ∃ cellB : Cell, H[q]? = some cellB ∧ cellB.vm.isStatics = false ∧ s.vm.findClass (yM a).cls = some cellB.cls) (hcat : catS st ≤ 8) (hn1 : n ≤ n') (hn2 : n' ≤ nf) (hM : TriM G h a n n' (vr k0 :: av) σ Q')
    (kk : ∀ (r : Option MV) (σ' : MS), Q' r σ' → (∀ v, r = some v → okV v) → Tri G h mi nf n' (pc + len) ls (pushR r st) σ' Q) : Tri G h mi nf n pc ls (av.reverse ++ vr k0 :: st) σ Q := by
  obtain ⟨rfl, hd⟩ := he.dec (k := 3) rfl (by decide)
  have hc := he.2.2.2
  have hc1 : (oc mi, i, a) ∈ mlT := by
    have : a < 269 ∧ mk a = 1 ∧ (oc mi, i, a) ∈ mlT := by
      simpa only [chkL, Bool.and_eq_true, decide_eq_true_eq, beq_iff_eq] using hc
    exact this.2.2
  obtain ⟨h', hh, hMet⟩ := hM
  intro p e R s m args below meth c n0 Z H locs als F RO hn hnf hP hS hσ hst hls hal
  obtain ⟨hx, hb, hml, hr, hown, hts, hlk, hnm, hK, hW, hsz, hn0, hRf, hRl, hRc, hRs, hNC⟩ := id F
  refine W_size hsz hn hP hS (fun hHs => ?_)
  have hav : ∀ v ∈ vr k0 :: av, okV v := fun v hv => by
    rcases List.mem_cons.mp hv with rfl | hv
    · trivial
    · exact hst v (List.mem_append_left _ (List.mem_reverse.mpr hv))
  have hst2 : ∀ v ∈ st, okV v := fun v hv => hst v (List.mem_append_right _ (List.mem_cons_of_mem _ hv))
  obtain ⟨q, hq0, hcell⟩ := hrc s H locs hK hW hP hS
  have hNM : a < NM := by show a < 270; omega
  have hl45 := lM_ok a hNM
  have fin : va_Run p (cL G) e R s m args below meth c H locs (n - n0) (slt n - slt n0) (n' - n) (slt n' - slt n) (F0 m pc als ((av.reverse ++ vr k0 :: st).map (trV G))) (st.map (trV G)) (QcO G n' Q' ((Value.ref q :: av.map (trV G)).toArray)) (AO G) := by
    have hR : (rmO h' (n' - n) (slt n' - slt n)).frames + 1 ≤ R.frames ∧ 8 + (lM a + 11) + (rmO h' (n' - n) (slt n' - slt n)).locals ≤ R.locals := by
      show h' + 1 ≤ R.frames ∧ 8 + (lM a + 11) + 64 * h' ≤ R.locals
      omega
    have hst9 : ((av.reverse ++ vr k0 :: st).map (trV G)) = (av.map (trV G)).reverse ++ .ref q :: st.map (trV G) := by rw [List.map_append, List.map_reverse, List.map_cons, show trV G (vr k0) = trR G k0 from rfl, hq0]
    have hf : (n - n0) + (n' - n) ≤ R.cells ∧ (slt n - slt n0) + (slt n' - slt n) ≤ R.slots := by
      have q1 := slt_mono hn (show n ≤ NC by omega)
      have q2 := slt_mono hn1 (show n' ≤ NC by omega)
      have q3 := slt_mono hn2 hNC
      omega
    have hdd : (yM a).cls ≠ "java/lang/invoke/MethodHandle" ∧ (yM a).cls ≠ "java/lang/invoke/VarHandle" ∧ (parseMethodDescriptor (yM a).desc).map (fun d => d.parameters.length) = some (ag a) := ⟨(mh_ok a hNM).1, (mh_ok a hNM).2, ag_ok a hNM⟩
    have hwm : wM a :: lw_good = Cond.code (yM a) (bM a) (lM a) (rM a) :: lw_good := rfl
    have hpre : PreV s H (yM a).cls q (PcO G n (vr k0 :: av) σ) (av.map (trV G)) := ⟨Pc_blind, hcell, fun U hU hw => by
      have h9 := pre_of (n' := n') hK hW hS hP hσ hav hHs U hU hw
      rw [List.map_cons, show trV G (vr k0) = trR G k0 from rfl, hq0] at h9
      exact h9⟩
    have hlen : (av.map (trV G)).length = ag a := by rw [List.length_map]; exact hag
    have hroom : 2 * (F0 m pc als ((av.reverse ++ vr k0 :: st).map (trV G))).monitorRoom + ((st.map (trV G)).map fun v => v.category).sum ≤ 8 := lv_room (by rw [catS_ok hK.2.2.2]; exact hcat)
    have hml9 : Cond.methodLink (RC (oc mi)) i (yM a) ∈ lw_good := ml_ok (oc mi, i, a) hc1
    have hgi : GoodIn lw_good (wsV (RC (oc mi)) i (yM a).cls (yM a) (wM a :: lw_good)) := gi_app (fun w hw => by
        rcases List.mem_cons.mp hw with rfl | hw
        · exact hml9
        · rcases List.mem_cons.mp hw with rfl | hw
          · exact v_inst a (v_all a hNM hm0)
          · rcases List.mem_cons.mp hw with rfl | hw
            · exact v_sel a (v_all2 a hNM hm0)
            · rcases List.mem_cons.mp hw with rfl | hw
              · exact ini_in ha
              · cases hw) (gi_c ha)
    have hcw := cwV (R := R) (args := args) (rm := rmO h' (n' - n) (slt n' - slt n)) (mc := n' - n) (ms := slt n' - slt n) (ag a) hts hgi hwm rfl rfl ⟨rfl, hdd⟩ hR
    exact va_runV (g := F0 m pc als ((av.reverse ++ vr k0 :: st).map (trV G))) ⟨hx, hb, hml, hown, hts⟩ hMet hcw hpre rfl hlen hal.1 hst9 hroom hd hf
  refine call_go fin hS (fun r σ' H1 locs1 hok hoS hQ hP1 hS1 => ?_)
  have k1 := kk r σ' hQ hok p e R s m args below meth c n0 Z H1 locs1 als F RO (Nat.le_trans hn hn1) hn2 hP1 hS1 hoS (by
    cases r with
    | none => exact hst2
    | some v => exact ok_c (hok v rfl) hst2) hls hal
  have q1 := slt_mono hn (show n ≤ NC by omega)
  have q2 := slt_mono hn1 (show n' ≤ NC by omega)
  rw [show n - n0 + (n' - n) = n' - n0 by omega, show slt n - slt n0 + (slt n' - slt n) = slt n' - slt n0 by omega]
  cases r with
  | none => exact k1
  | some v => exact k1
theorem T_callI {i k0 c0 : Nat} {av : List MV} {n' : Nat} {Q' : MP} (he : EOK mi (pc, .invokespecial i, len, a, b)) (ha : a < 269) (hag : av.length = ag a) (hm0 : mk a = 2) (hrc : k0 < 1000) (hcat : catS st ≤ 8) (hn1 : n ≤ n') (hn2 : n' ≤ nf) (hM : TriM G h a n n' (vr k0 :: av) σ Q')
    (kk : ∀ (r : Option MV) (σ' : MS), Q' r σ' → (∀ v, r = some v → okV v) → Tri G h mi nf n' (pc + len) ls (pushR r st) σ' Q) : Tri G h mi nf n pc ls (av.reverse ++ vr k0 :: st) σ Q := by
  obtain ⟨rfl, hd⟩ := he.dec (k := 3) rfl (by decide)
  have hc := he.2.2.2
  have hc1 : (oc mi, i, a) ∈ mlT := by
    have h999 : a ≠ 999 := by omega
    have : (oc mi, i, a) ∈ mlT := by
      simpa [chkL, h999, ha, hm0] using hc
    exact this
  obtain ⟨h', hh, hMet⟩ := hM
  intro p e R s m args below meth c n0 Z H locs als F RO hn hnf hP hS hσ hst hls hal
  obtain ⟨hx, hb, hml, hr, hown, hts, hlk, hnm, hK, hW, hsz, hn0, hRf, hRl, hRc, hRs, hNC⟩ := id F
  refine W_size hsz hn hP hS (fun hHs => ?_)
  have hav : ∀ v ∈ vr k0 :: av, okV v := fun v hv => by
    rcases List.mem_cons.mp hv with rfl | hv
    · trivial
    · exact hst v (List.mem_append_left _ (List.mem_reverse.mpr hv))
  have hst2 : ∀ v ∈ st, okV v := fun v hv => hst v (List.mem_append_right _ (List.mem_cons_of_mem _ hv))
  obtain ⟨q, hq0⟩ : ∃ q, trR G k0 = .ref q := ⟨_, trR_c hrc⟩
  have hNM : a < NM := by show a < 270; omega
  have hl45 := lM_ok a hNM
  have fin : va_Run p (cL G) e R s m args below meth c H locs (n - n0) (slt n - slt n0) (n' - n) (slt n' - slt n) (F0 m pc als ((av.reverse ++ vr k0 :: st).map (trV G))) (st.map (trV G)) (QcO G n' Q' ((Value.ref q :: av.map (trV G)).toArray)) (AO G) := by
    have hR : (rmO h' (n' - n) (slt n' - slt n)).frames + 1 ≤ R.frames ∧ 8 + (lM a + 11) + (rmO h' (n' - n) (slt n' - slt n)).locals ≤ R.locals := by
      show h' + 1 ≤ R.frames ∧ 8 + (lM a + 11) + 64 * h' ≤ R.locals
      omega
    have hst9 : ((av.reverse ++ vr k0 :: st).map (trV G)) = (av.map (trV G)).reverse ++ .ref q :: st.map (trV G) := by rw [List.map_append, List.map_reverse, List.map_cons, show trV G (vr k0) = trR G k0 from rfl, hq0]
    have hf : (n - n0) + (n' - n) ≤ R.cells ∧ (slt n - slt n0) + (slt n' - slt n) ≤ R.slots := by
      have q1 := slt_mono hn (show n ≤ NC by omega)
      have q2 := slt_mono hn1 (show n' ≤ NC by omega)
      have q3 := slt_mono hn2 hNC
      omega
    have hdd : (yM a).cls ≠ "java/lang/invoke/MethodHandle" ∧ (yM a).cls ≠ "java/lang/invoke/VarHandle" ∧ (parseMethodDescriptor (yM a).desc).map (fun d => d.parameters.length) = some (ag a) := ⟨(mh_ok a hNM).1, (mh_ok a hNM).2, ag_ok a hNM⟩
    have hwm : wM a :: lw_good = Cond.code (yM a) (bM a) (lM a) (rM a) :: lw_good := rfl
    have hpre : PreS s H (PcO G n (vr k0 :: av) σ) (.ref q :: av.map (trV G)) := ⟨Pc_blind, fun U hU hw => by
      have h9 := pre_of (n' := n') hK hW hS hP hσ hav hHs U hU hw
      rw [List.map_cons, show trV G (vr k0) = trR G k0 from rfl, hq0] at h9
      exact h9⟩
    have hlen : (av.map (trV G)).length = ag a := by rw [List.length_map]; exact hag
    have hroom : 2 * (F0 m pc als ((av.reverse ++ vr k0 :: st).map (trV G))).monitorRoom + ((st.map (trV G)).map fun v => v.category).sum ≤ 8 := lv_room (by rw [catS_ok hK.2.2.2]; exact hcat)
    have hml9 : Cond.methodLink (RC (oc mi)) i (yM a) ∈ lw_good := ml_ok (oc mi, i, a) hc1
    have hca := c_all a hNM hm0
    have hwm2 : wM a :: lw_good = Cond.code (yM a) (bM a) (lM a) none :: lw_good := by rw [← hca.2.2]; rfl
    have hcw := cwI (R := R) (args := args) (rm := rmO h' (n' - n) (slt n' - slt n)) (mc := n' - n) (ms := slt n' - slt n) (ag a) hts (gi_c ha) hwm2 rfl rfl (hts _ (ini_in ha)) (hts _ hml9) (hts _ (c_inst a hca.1)) hca.2.1 hdd hR
    exact va_runI (g := F0 m pc als ((av.reverse ++ vr k0 :: st).map (trV G))) ⟨hx, hb, hml, hown, hts⟩ hMet hcw hpre rfl hlen hal.1 hst9 hroom hd hf
  refine call_go fin hS (fun r σ' H1 locs1 hok hoS hQ hP1 hS1 => ?_)
  have k1 := kk r σ' hQ hok p e R s m args below meth c n0 Z H1 locs1 als F RO (Nat.le_trans hn hn1) hn2 hP1 hS1 hoS (by
    cases r with
    | none => exact hst2
    | some v => exact ok_c (hok v rfl) hst2) hls hal
  have q1 := slt_mono hn (show n ≤ NC by omega)
  have q2 := slt_mono hn1 (show n' ≤ NC by omega)
  rw [show n - n0 + (n' - n) = n' - n0 by omega, show slt n - slt n0 + (slt n' - slt n) = slt n' - slt n0 by omega]
  cases r with
  | none => exact k1
  | some v => exact k1
end CALLS
end
section
section MORE
variable {G : Ctx} {h mi nf n pc len a : Nat} {b : Int} {ls : ML} {st : List MV} {σ : MS} {Q : MP}
/-- the object that is called -/
theorem rc_o {k0 : Nat} (ha : a < 269) (hk : isObj n k0 (oc a) = true) (hk0 : k0 < 1000) : ∀ (s : State) (H : Heap) (locs : List Loc), KW G s → HW G s s.heap → va_P (cC G, cI G) vwCl (wsO G n σ) H → va_S (AO G) s.heap H locs → ∃ q, trR G k0 = .ref q ∧ ∃ cellB : Cell, H[q]? = some cellB ∧ cellB.vm.isStatics = false ∧ s.vm.findClass (yM a).cls = some cellB.cls := by
  intro s H locs hK hW hP hS
  obtain ⟨h1, h2, h3⟩ := isObj_spec hk
  obtain ⟨T, ty, t1, t2, t3, t4, t5⟩ := clsAt (oc a) h2
  have hw := ws_at (G := G) σ h1
  rw [cel_o h3] at hw
  refine ⟨_, trR_c hk0, ?_⟩
  rw [oc_ok a (by show a < 270; omega)]
  exact va_recv hK.1 hP t1 hw
theorem rc_s {i : Nat} (hi : i < 22) (ha : (yM a).cls = "java/lang/String") : ∀ (s : State) (H : Heap) (locs : List Loc), KW G s → HW G s s.heap → va_P (cC G, cI G) vwCl (wsO G n σ) H → va_S (AO G) s.heap H locs → ∃ q, trR G (2000 + i) = .ref q ∧ ∃ cellB : Cell, H[q]? = some cellB ∧ cellB.vm.isStatics = false ∧ s.vm.findClass (yM a).cls = some cellB.cls := by
  intro s H locs hK hW hP hS
  refine ⟨_, trR_s hi, ?_⟩
  rw [ha]
  exact vk_recv hW.1 hi hS
/-! returns -/
theorem T_ret (he : EOK mi (pc, .return_, len, a, b)) (hrt : rt mi = 0) (hnn : n = nf) (hq : Q none σ) : Tri G h mi nf n pc ls [] σ Q := by
  obtain ⟨rfl, hd⟩ := he.dec (k := 1) rfl (by decide)
  subst hnn
  intro p e R s m args below meth c n0 Z H locs als F RO hn hnf hP hS hσ hst hls hal
  obtain ⟨hx, hb, hml, hr, hown, hts, hlk, hnm, hK, hW, hsz, hn0, hRf, hRl, hRc, hRs, hNC⟩ := id F
  exact RO H locs als σ pc none ⟨hd, (rt_ok mi he.1).1 hrt⟩ hP hS hσ (fun v hv => by cases hv) hq
theorem T_iret {x : Int} (he : EOK mi (pc, .ireturn, len, a, b)) (hnn : n = nf) (hrt : (rt mi = 1) ∨ (rt mi = 4 ∧ (x = 0 ∨ x = 1)) ∨ (rt mi = 5 ∧ 0 ≤ x ∧ x < 65536) ∨ (rt mi = 6 ∧ -128 ≤ x ∧ x < 128)) (hq : Q (some (vi x)) σ) : Tri G h mi nf n pc ls [vi x] σ Q := by
  obtain ⟨rfl, hd⟩ := he.dec (k := 1) rfl (by decide)
  subst hnn
  intro p e R s m args below meth c n0 Z H locs als F RO hn hnf hP hS hσ hst hls hal
  obtain ⟨hx, hb, hml, hr, hown, hts, hlk, hnm, hK, hW, hsz, hn0, hRf, hRl, hRc, hRs, hNC⟩ := id F
  have hR := rt_ok mi he.1
  have hx9 : inR x := ok_h hst
  refine RO H locs als σ pc (some (vi x)) ⟨hd, ?_⟩ hP hS hσ (fun v hv => by cases hv; exact hx9) hq
  rcases hrt with h1 | ⟨h1, h2⟩ | ⟨h1, h2, h3⟩ | ⟨h1, h2, h3⟩
  · exact ⟨_, hR.2.1 h1, rfl⟩
  · refine ⟨_, hR.2.2.2.1 h1, ?_⟩
    rcases h2 with rfl | rfl <;> rfl
  · refine ⟨_, hR.2.2.2.2.1 h1, ?_⟩
    have e1 : Int32.ofInt x = nI x.toNat := by
      rw [show x = ((x.toNat : Nat) : Int) by omega, Int32.ofInt_eq_ofNat]; rfl
    rw [e1]
    exact (pk_charN (by omega)).1
  · refine ⟨_, hR.2.2.2.2.2 h1, ?_⟩
    have e1 : Int32.ofInt x = (Int32.ofInt x).toInt8.toInt32 := by
      rw [← Int32.toInt_inj, Int8.toInt_toInt32, Int32.toInt_toInt8, toI hx9]
      exact (Int.bmod_eq_of_le (by omega) (by omega)).symm
    rw [e1]
    exact pk_nb _
theorem T_lret {x : BitVec 64} (he : EOK mi (pc, .lreturn, len, a, b)) (hrt : rt mi = 2) (hnn : n = nf) (hq : Q (some (vl x)) σ) : Tri G h mi nf n pc ls [vl x] σ Q := by
  obtain ⟨rfl, hd⟩ := he.dec (k := 1) rfl (by decide)
  subst hnn
  intro p e R s m args below meth c n0 Z H locs als F RO hn hnf hP hS hσ hst hls hal
  obtain ⟨hx, hb, hml, hr, hown, hts, hlk, hnm, hK, hW, hsz, hn0, hRf, hRl, hRc, hRs, hNC⟩ := id F
  exact RO H locs als σ pc (some (vl x)) ⟨hd, (rt_ok mi he.1).2.2.1 hrt⟩ hP hS hσ (fun v hv => by cases hv; trivial) hq
theorem T_aret {x : Nat} (he : EOK mi (pc, .areturn, len, a, b)) (hrt : rt mi = 3) (hnn : n = nf) (hq : Q (some (vr x)) σ) : Tri G h mi nf n pc ls [vr x] σ Q := by
  obtain ⟨rfl, hd⟩ := he.dec (k := 1) rfl (by decide)
  subst hnn
  intro p e R s m args below meth c n0 Z H locs als F RO hn hnf hP hS hσ hst hls hal
  obtain ⟨hx, hb, hml, hr, hown, hts, hlk, hnm, hK, hW, hsz, hn0, hRf, hRl, hRc, hRs, hNC⟩ := id F
  exact RO H locs als σ pc (some (vr x)) ⟨hd, _, rt_okR mi he.1 hrt⟩ hP hS hσ (fun v hv => by cases hv; trivial) hq
/-! a method's contract out of its walk -/
def entL : List MV → ML
  | [] => []
  | v :: r => match isLg (some v) with
    | true => some v :: none :: entL r
    | false => some v :: entL r
theorem lvargs_in (hF : cF G = .null ∨ ∃ t, cF G = .ref t) : ∀ (av : List MV) (j : Nat) (q : Nat × Value), q ∈ aslF G j (entL av) → q ∈ lv_args j (av.map (trV G)) := by
  intro av
  induction av with
  | nil => intro j q h; exact h
  | cons v r ih =>
    intro j q hq
    rw [List.map_cons]
    have hc := cat_tr hF v
    unfold lv_args
    unfold entL at hq
    cases hl : isLg (some v) with
    | true =>
      rw [hl] at hq hc
      rw [if_pos rfl] at hc
      have hq : q ∈ (j, trV G v) :: aslF G (j + 1 + 1) (entL r) := hq
      rcases List.mem_cons.mp hq with h1 | h1
      · rw [h1]; exact List.mem_cons_self
      · refine List.mem_cons_of_mem _ ?_
        rw [hc]
        exact ih _ q h1
    | false =>
      rw [hl] at hq hc
      rw [if_neg (by decide)] at hc
      have hq : q ∈ (j, trV G v) :: aslF G (j + 1) (entL r) := hq
      rcases List.mem_cons.mp hq with h1 | h1
      · rw [h1]; exact List.mem_cons_self
      · refine List.mem_cons_of_mem _ ?_
        rw [hc]
        exact ih _ q h1
theorem ok_entL {av : List MV} (h : ∀ v ∈ av, okV v) : ∀ v, some v ∈ entL av → okV v := by
  induction av with
  | nil => intro v hv; cases hv
  | cons u r ih =>
    intro v hv
    unfold entL at hv
    have ih2 := ih (fun w hw => h w (List.mem_cons_of_mem _ hw))
    cases hl : isLg (some u) with
    | true =>
      rw [hl] at hv
      rcases List.mem_cons.mp hv with h1 | h1
      · rw [Option.some.inj h1]; exact h u List.mem_cons_self
      · rcases List.mem_cons.mp h1 with h2 | h2
        · cases h2
        · exact ih2 v h2
    | false =>
      rw [hl] at hv
      rcases List.mem_cons.mp hv with h1 | h1
      · rw [Option.some.inj h1]; exact h u List.mem_cons_self
      · exact ih2 v h1
theorem lg_len (hF : cF G = .null ∨ ∃ t, cF G = .ref t) (av : List MV) : (lg_sl (av.map (trV G))).length = catS av := by
  induction av with
  | nil => rfl
  | cons v r ih =>
    have hc := cat_tr hF v
    unfold lg_sl at ih ⊢
    rw [List.map_cons, List.flatMap_cons, List.length_append, ih]
    show _ = (match isLg (some v) with
      | true => 2
      | false => 1) + catS r
    cases hl : isLg (some v) with
    | true => rw [hl, if_pos rfl] at hc; rw [if_pos hc]; rfl
    | false => rw [hl, if_neg (by decide)] at hc; rw [if_neg (by rw [hc]; decide)]; rfl
theorem TriM.mono {av : List MV} {Q' : MP} (hM : TriM G h mi n nf av σ Q) (hq : ∀ r σ', Q r σ' → (∀ v, r = some v → okV v) → Q' r σ') : TriM G h mi n nf av σ Q' := by
  obtain ⟨h', hh, hm⟩ := hM
  refine ⟨h', hh, ?_⟩
  intro p e ha hc hk s m args below hf happ hP hK
  obtain ⟨k, o, h1, h2, h3, ⟨⟨r, σ', q1, q2, q3, q4, q5⟩, q6⟩, q7⟩ := hm p e ha hc hk s m args below hf happ hP hK
  exact ⟨k, o, h1, h2, h3, ⟨⟨r, σ', q1, q2, q3, hq r σ' q4 q2, q5⟩, q6⟩, q7⟩
theorem TriM_intro {av : List MV} (h' : Nat) (hh : h' < h) (hmi : mi < 269) (hlen : catS av ≤ lM mi) (hn : n ≤ nf) (hN : nf ≤ NC) (k : Tri G h' mi nf n 0 (entL av) [] σ Q) : TriM G h mi n nf av σ Q := by
  refine ⟨h', hh, ?_⟩
  have hNM : mi < NM := by show mi < 270; omega
  refine va_MetF (cc := bM mi) (maxL := lM mi) (ret := rM mi) (pl_ok mi hNM) (ws' := lw_good) rfl ?_
  intro p e s m args below meth c s₁ B hml hv
  obtain ⟨rfl, hsz, hP, hK, hW, hσ, hav⟩ := hv
  have hts := atoms_spec (ws := wM mi :: lw_good) B.pre
  have hown : s.vm.findClass (yM mi).cls = some m.cls := findClass_of_methodNamed B.named
  rw [oc_ok mi hNM] at hown
  have hl := lv_entry (av.map (trV G)) (n := lM mi) (by rw [lg_len hK.2.2.2]; exact hlen)
  rw [lg_entry_eq]
  generalize (lg_sl (av.map (trV G)) ++ List.replicate (lM mi - (lg_sl (av.map (trV G))).length) Slot.unset).toArray = als at hl ⊢
  have F : Fix G h' mi nf n p (headSpec (wM mi :: lw_good) (rmO h' (nf - n) (slt nf - slt n))).room s m ((av.map (trV G)).toArray) meth c :=
    ⟨B.exec, B.bytes, hml, B.returns, hown, fun w hw => hts w (List.mem_cons_of_mem _ hw), B.notSynchronized, (name_of_methodNamed B.named B.method).1, hK, hW, hsz, hn, Nat.le_refl _, Nat.le_refl _, Nat.le_refl _, Nat.le_refl _, hN⟩
  have RO : RetOK G mi nf n p e (headSpec (wM mi :: lw_good) (rmO h' (nf - n) (slt nf - slt n))).room s m ((av.map (trV G)).toArray) below meth c (MQ below (QcO G nf Q) ((av.map (trV G)).toArray) s (nf - n) (slt nf - slt n) (AO G)) Q := by
    intro H locs als2 σ2 pc r hret hP2 hS2 hσ2 hok2 hQ
    have hpost : ∀ t : State, t.heap = H → s.WarmedH t.vm → QcO G nf Q ((av.map (trV G)).toArray) s (.returned (r.map (trV G))) t := fun t ht _ => ⟨⟨r, σ2, rfl, hok2, hσ2, hQ, by rw [ht]; exact hP2⟩, hS2.F ht⟩
    have hfr : ∀ q ∈ locs, AO G q.base := hS2.2.2
    rcases r with _ | (x | x | x)
    · obtain ⟨hd, hr⟩ := hret
      exact W.vret B.exec B.bytes (B.returns.trans hr) hpost hfr hd B.notSynchronized
    · obtain ⟨hd, ty, hr, hnr⟩ := hret
      exact W.zret (v := Int32.ofInt x) (ty := ty) B.exec B.bytes (B.returns.trans hr) hnr hpost hfr hd B.notSynchronized
    · obtain ⟨hd, hr⟩ := hret
      exact W.lret (v := Int64.ofBitVec x) B.exec B.bytes (B.returns.trans hr) hpost hfr hd B.notSynchronized
    · obtain ⟨hd, C, hr⟩ := hret
      exact W.aret (v := trR G x) B.exec B.bytes (B.returns.trans hr) (Or.inl ⟨C, rfl⟩) (trR_cases hK.2.2.2 x) hpost hfr hd B.notSynchronized
  have k1 := k p e (headSpec (wM mi :: lw_good) (rmO h' (nf - n) (slt nf - slt n))).room s m ((av.map (trV G)).toArray) below meth c n (MQ below (QcO G nf Q) ((av.map (trV G)).toArray) s (nf - n) (slt nf - slt n) (AO G)) s.heap [] als F RO (Nat.le_refl _) hn hP va_S.rf hσ (fun v hv => by cases hv) (ok_entL hav) (lv_less hl (lvargs_in hK.2.2.2 av 0))
  rw [Nat.sub_self, Nat.sub_self] at k1
  exact k1
/-! Object's constructor, new cells, a copy -/
theorem T_oinit {i : Nat} {k0 : Nat} (he : EOK mi (pc, .invokespecial i, len, 999, b)) (hk0 : k0 < 1000) (hh : 1 ≤ h) (hcat : catS st ≤ 8) (kk : Tri G h mi nf n (pc + len) ls st σ Q) : Tri G h mi nf n pc ls (vr k0 :: st) σ Q := by
  obtain ⟨rfl, hd⟩ := he.dec (k := 3) rfl (by decide)
  have hc := he.2.2.2
  have hc1 : (oc mi, i) ∈ oiT := by simpa [chkL] using hc
  intro p e R s m args below meth c n0 Z H locs als F RO hn hnf hP hS hσ hst hls hal
  obtain ⟨hx, hb, hml, hr, hown, hts, hlk, hnm, hK, hW, hsz, hn0, hRf, hRl, hRc, hRs, hNC⟩ := id F
  have hl : (Cond.methodLink (RC (oc mi)) i Lib.objectInit).before args s = true := hts _ (oi_ok (oc mi, i) hc1)
  have k1 := kk p e R s m args below meth c n0 Z H locs als F RO hn hnf hP hS hσ (ok_t hst) hls hal
  rw [List.map_cons, show trV G (vr k0) = trR G k0 from rfl, trR_c hk0]
  refine W.objInit (g := F0 m pc als (.ref (cB G + k0) :: st.map (trV G))) (rest := st.map (trV G)) hx hb hown hl (hts _ oi_inst) (hts _ oi_code) rfl (by rw [hml]; exact hal.1) rfl hd (by omega) ?_ k1
  rw [catS_ok hK.2.2.2]
  show 2 * 0 + catS st + 12 ≤ R.locals
  omega
theorem T_new {i : Nat} (he : EOK mi (pc, .new i, len, a, b)) (hn1 : n < nf) (hsh : (sh n).1 = 4 + a) (kk : Tri G h mi nf (n + 1) (pc + len) ls (vr n :: st) (sN σ n) Q) : Tri G h mi nf n pc ls st σ Q := by
  obtain ⟨rfl, hd⟩ := he.dec (k := 3) rfl (by decide)
  have hc := he.2.2.2
  have hc1 : a < 13 ∧ (oc mi, i, a) ∈ clT := by simpa [chkL] using hc
  obtain ⟨T, ty, t1, t2, t3, t4, t5⟩ := clsAt a hc1.1
  intro p e R s m args below meth c n0 Z H locs als F RO hn hnf hP hS hσ hst hls hal
  obtain ⟨hx, hb, hml, hr, hown, hts, hlk, hnm, hK, hW, hsz, hn0, hRf, hRl, hRc, hRs, hNC⟩ := id F
  refine W_size hsz hn hP hS (fun hHs => ?_)
  have hcl : (Cond.classLink (RC (oc mi)) i (RC a)).before args s = true := hts _ (cl_ok (oc mi, i, a) hc1.2)
  have a13 : a ∈ n_inst_l := by
    have : ∀ a, a < 13 → a ∈ n_inst_l := by decide
    exact this a hc1.1
  have hins : (Cond.instantiable (RC a) (cN a)).before args s = true := hts _ (n_inst a a13)
  have aI : a ∈ a_init_l := by
    have : ∀ a, a < 13 → a ∈ a_init_l := by decide
    exact this a hc1.1
  have hini : (Cond.initialized (RC a)).before args s = true := hts _ (a_init a aI)
  have hnN : n < NC := by omega
  have hN9 : (sh n).2 = cN a := by
    have : ∀ n, n < NC → ∀ c, c < 13 → (sh n).1 = 4 + c → (sh n).2 = cN c := by decide +kernel
    exact this n hnN a hc1.1 hsh
  have hsl := sl_step n hnN
  rw [hN9] at hsl
  have hsm := slt_mono hn (show n ≤ NC by omega)
  have hsm2 := slt_mono (show n + 1 ≤ nf by omega) hNC
  have hKn := hK.1.1 a _ t1
  refine W.newcK (h := cB G + n) hx hb hown hcl hins hini rfl hd (by omega) (by omega) hKn.2.1 hHs fun H1 kC hkC e1 z1 o1 => ?_
  have hkp : ∀ (k : Nat) (x : Nat × va_E), (wsO G n σ)[k]? = some x → H1[x.1]? = H[x.1]? := fun k x hx => o1 x.1 (by rw [← hHs]; exact (hP k x hx).lt)
  have hP1 : va_P (cC G, cI G) vwCl (wsO G (n + 1) (sN σ n)) H1 := by
    rw [← ws_push (σ := σ) (σ' := sN σ n) (n := n) (e := .inr (a, flds G (sN σ n) n a)) (cel_o hsh) (fun j hj => cel_sN (by omega))]
    refine (hP.kept hkp).app (fun k x hx => ?_)
    have hz : k < 1 := (List.getElem?_eq_some_iff.mp hx).1
    rw [show k = 0 by omega] at hx
    cases hx
    refine ⟨_, t1, (u_born ty hts t3 hKn hkC e1 t4).to (fun j hj => ?_)⟩
    show defaultValue (ty j) = vp_V (flds G (sN σ n) n a) j
    unfold vp_V
    rw [List.getD_eq_getElem?_getD, flds_at hj]
    show defaultValue (ty j) = fldV G (sN σ n) n a j
    have hd4 := t4 j hj
    rw [t2] at hd4
    unfold fldV
    rcases (fk_ok a hc1.1 j hj).2 with ⟨e2, e3⟩ | ⟨e2, e3⟩ | ⟨e2, e3⟩
    · rw [e3] at hd4
      rw [if_neg (by omega), show (sN σ n).1 n j = 0 from by show u1 σ.1 n (fun _ => 0) n j = 0; rw [u1_at]]
      cases hd4' : ty j <;> rw [hd4'] at hd4 <;> first | rfl | cases hd4
    · rw [e3] at hd4
      rw [if_neg (by omega), show (sN σ n).1 n j = 0 from by show u1 σ.1 n (fun _ => 0) n j = 0; rw [u1_at]]
      cases hd4' : ty j <;> rw [hd4'] at hd4 <;> first | rfl | cases hd4
    · rw [hd4] at e3
      rw [if_pos e2, show (sN σ n).2.2 n j = 1000 from by show u1 σ.2.2 n (fun _ => 1000) n j = 1000; rw [u1_at]]
      show defaultValue (ty j) = trR G 1000
      cases hd4' : ty j <;> rw [hd4'] at e3 <;> first | rfl | (exact absurd e3 (by decide))
  have hS1 : va_S (AO G) s.heap H1 locs := ⟨Nat.le_trans hS.1 (by omega), fun q h1 h2 => (o1 q (by rw [← hHs]; exact Nat.lt_of_lt_of_le h1 hS.1)).trans (hS.2.1 q h1 h2), hS.2.2⟩
  have hoS : okS (sN σ n) := by
    intro x y
    show okC (sh x).1 (u1 σ.1 n (fun _ => 0) x y)
    unfold u1
    split
    · unfold okC
      split
      · show (-128 : Int) ≤ 0 ∧ (0 : Int) < 128
        omega
      · split
        · exact Or.inl rfl
        · exact inR0
    · exact hσ x y
  have k1 := kk p e R s m args below meth c n0 Z H1 locs als F RO (by omega) (by omega) hP1 hS1 hoS (ok_c (v := vr n) trivial hst) hls hal
  rw [List.map_cons, show trV G (vr n) = trR G n from rfl, trR_c (by have := NC_lt; omega)] at k1
  rw [show n - n0 + 1 = n + 1 - n0 by omega, show slt n - slt n0 + cN a = slt (n + 1) - slt n0 by omega]
  exact k1
def atK : ArrayType → Nat
  | .int => 0
  | .long => 1
  | .byte => 2
  | .boolean => 3
  | _ => 50
theorem T_newa {t : ArrayType} {x : Int} (he : EOK mi (pc, .newarray t, len, a, b)) (hn1 : n < nf) (hsh : (sh n).1 = atK t) (hx0 : x = ((sh n).2 : Int)) (kk : Tri G h mi nf (n + 1) (pc + len) ls (vr n :: st) (sN σ n) Q) : Tri G h mi nf n pc ls (vi x :: st) σ Q := by
  obtain ⟨rfl, hd⟩ := he.dec (k := 2) rfl (by decide)
  intro p e R s m args below meth c n0 Z H locs als F RO hn hnf hP hS hσ hst hls hal
  obtain ⟨hx, hb, hml, hr, hown, hts, hlk, hnm, hK, hW, hsz, hn0, hRf, hRl, hRc, hRs, hNC⟩ := id F
  refine W_size hsz hn hP hS (fun hHs => ?_)
  have hx9 : inR x := ok_h hst
  have hnN : n < NC := by omega
  have hat : (sh n).1 < 17 := by
    have : ∀ n, n < NC → (sh n).1 < 17 := by decide +kernel
    exact this n hnN
  have hsz9 : (sh n).2 ≤ 100000 := by
    have : ∀ n, n < NC → (sh n).2 ≤ 100000 := by decide +kernel
    exact this n hnN
  have hsl := sl_step n hnN
  have hsm := slt_mono hn (show n ≤ NC by omega)
  have hsm2 := slt_mono (show n + 1 ≤ nf by omega) hNC
  have hxn : (Int32.ofInt x).toNatClampNeg = (sh n).2 := by rw [idx_cl hx9]; omega
  have hx1 : ¬ Int32.ofInt x < 0 := by rw [show (0 : Int32) = Int32.ofInt 0 from rfl, ofI_lt hx9 inR0]; omega
  have key : ∀ (t0 : Nat) (ty : FieldType), atK t = t0 → newarray.typeOf t = ty → akT[t0]? = some ty → componentBytes ty ≤ 8 → (∀ cA' : ClassId, vp_cell cA' ((sh n).2, (if t0 = 1 then .inr (.inl (fun _ => 0)) else .inl (fun _ => 0))) = arrV cA' (sh n).2 (fun _ => defaultValue ty)) → W p (cL G) e R s m args below meth c H locs (n - n0) (slt n - slt n0) Z (F0 m pc als (.int (Int32.ofInt x) :: st.map (trV G))) := by
    intro t0 ty ht0 hty hak hcb hcell
    have hty9 := ty_at (G := G) hak
    have hKt := hK.1.2 t0 _ hty9
    have har : (Cond.arrayClass (newarray.typeOf t)).before args s = true := hts _ (by rw [hty]; exact ar_ok ty (List.mem_of_getElem? hak))
    refine va_newaK (h := cB G + n) (N := (sh n).2) hx hb har rfl hd rfl hx1 hxn ?_ (by omega) (by omega) hHs fun H1 cA1 e1 z1 o1 hAr hNm => ?_
    · rw [hty]
      have : (sh n).2 * componentBytes ty ≤ 100000 * 8 := Nat.mul_le_mul hsz9 hcb
      omega
    have hcA : cA1 = cA G t0 := by
      have h2 : s.vm.findClass ("[" ++ ty.toString) = some (cA G t0) := by
        have h3 := hKt.2
        match t0, hak with
        | 0, hak => cases hak; exact h3
        | 1, hak => cases hak; exact h3
        | 2, hak => cases hak; exact h3
        | 3, hak => cases hak; exact h3
      rw [hty] at hNm
      exact Option.some.inj (hNm.symm.trans h2)
    subst hcA
    have hkp : ∀ (k : Nat) (x : Nat × va_E), (wsO G n σ)[k]? = some x → H1[x.1]? = H[x.1]? := fun k x hx => o1 x.1 (by rw [← hHs]; exact (hP k x hx).lt)
    have hcel : celE G (sN σ n) n = .inl (cA G t0, (sh n).2, (if t0 = 1 then .inr (.inl (fun _ => 0)) else .inl (fun _ => 0))) := by
      have z1 : (sN σ n).1 n = fun _ => 0 := u1_at
      have z2 : (sN σ n).2.1 n = fun _ => 0 := u1_at
      by_cases h1 : t0 = 1
      · subst h1
        rw [cel_l (by rw [hsh, ht0]), z2, if_pos rfl]; rfl
      · have h4 : t0 < 4 := by
          have := (List.getElem?_eq_some_iff.mp hak).1
          exact this
        rw [cel_i (t := t0) (by rw [hsh, ht0]) h1 h4, z1, if_neg h1]; rfl
    have hP1 : va_P (cC G, cI G) vwCl (wsO G (n + 1) (sN σ n)) H1 := by
      rw [← ws_push (σ := σ) (σ' := sN σ n) (n := n) hcel (fun j hj => cel_sN (by omega))]
      refine (hP.kept hkp).app (fun k x hx => ?_)
      have hz : k < 1 := (List.getElem?_eq_some_iff.mp hx).1
      rw [show k = 0 by omega] at hx
      cases hx
      show H1[cB G + n]? = some (vp_cell _ _)
      rw [hcell, ← hty]
      exact e1
    have hS1 : va_S (AO G) s.heap H1 locs := ⟨Nat.le_trans hS.1 (by omega), fun q h1 h2 => (o1 q (by rw [← hHs]; exact Nat.lt_of_lt_of_le h1 hS.1)).trans (hS.2.1 q h1 h2), hS.2.2⟩
    have hoS : okS (sN σ n) := by
      intro x y
      show okC (sh x).1 (u1 σ.1 n (fun _ => 0) x y)
      unfold u1
      split
      · unfold okC
        split
        · show (-128 : Int) ≤ 0 ∧ (0 : Int) < 128
          omega
        · split
          · exact Or.inl rfl
          · exact inR0
      · exact hσ x y
    have k1 := kk p e R s m args below meth c n0 Z H1 locs als F RO (by omega) (by omega) hP1 hS1 hoS (ok_c (v := vr n) trivial (ok_t hst)) hls hal
    rw [List.map_cons, show trV G (vr n) = trR G n from rfl, trR_c (by have := NC_lt; omega)] at k1
    rw [show n - n0 + 1 = n + 1 - n0 by omega, show slt n - slt n0 + (sh n).2 = slt (n + 1) - slt n0 by omega]
    exact k1
  cases t with
  | int => exact key 0 .int rfl rfl rfl (by decide) (fun _ => rfl)
  | long => exact key 1 .long rfl rfl rfl (by decide) (fun _ => rfl)
  | byte => exact key 2 .byte rfl rfl rfl (by decide) (fun _ => rfl)
  | boolean => exact key 3 .boolean rfl rfl rfl (by decide) (fun _ => rfl)
  | _ => exact absurd (show (sh n).1 = 50 from hsh) (by omega)
end MORE
end
section
section MORE2
variable {G : Ctx} {h mi nf n pc len a : Nat} {b : Int} {ls : ML} {st : List MV} {σ : MS} {Q : MP}
def cpK (n x d : Nat) : Bool := Nat.blt x n && (Nat.blt d n && (Nat.beq (sh x).1 (sh d).1 && (Nat.beq (sh x).1 0 || (Nat.beq (sh x).1 2 || Nat.beq (sh x).1 3))))
theorem nfw : nativeFrameWords "java/lang/System" "arraycopy" 5 ≤ 40 := by decide +kernel
theorem T_acopy {i x d : Nat} {cl sp dp : Int} (he : EOK mi (pc, .invokestatic i, len, 998, b)) (hh : 1 ≤ h) (hcat : catS st ≤ 8) (hk : cpK n x d = true) (hg : 0 ≤ sp ∧ 0 ≤ dp ∧ 0 ≤ cl ∧ sp + cl ≤ (sh x).2 ∧ dp + cl ≤ (sh d).2)
    (kk : Tri G h mi nf n (pc + len) ls st (sC σ x sp.toNat d dp.toNat cl.toNat) Q) : Tri G h mi nf n pc ls (vi cl :: vi dp :: vr d :: vi sp :: vr x :: st) σ Q := by
  obtain ⟨rfl, hd⟩ := he.dec (k := 3) rfl (by decide)
  have hc := he.2.2.2
  have hc1 : (oc mi, i) ∈ acT := by simpa [chkL] using hc
  have hk1 : x < n ∧ d < n ∧ (sh x).1 = (sh d).1 ∧ ((sh x).1 = 0 ∨ (sh x).1 = 2 ∨ (sh x).1 = 3) := by
    unfold cpK at hk
    simp only [Bool.and_eq_true, Bool.or_eq_true, Nat.beq_eq] at hk
    exact ⟨Nat.le_of_ble_eq_true hk.1, Nat.le_of_ble_eq_true hk.2.1, hk.2.2.1, hk.2.2.2⟩
  obtain ⟨k1, k2, k3, k4⟩ := hk1
  intro p e R s m args below meth c n0 Z H locs als F RO hn hnf hP hS hσ hst hls hal
  obtain ⟨hx, hb, hml, hr, hown, hts, hlk, hnm, hK, hW, hsz, hn0, hRf, hRl, hRc, hRs, hNC⟩ := id F
  have hl : (Cond.methodLink (RC (oc mi)) i arraycopyName).before args s = true := hts _ (ac_ok (oc mi, i) hc1)
  have hnat : (Cond.native arraycopyName).before args s = true := hts _ (ac_rest _ List.mem_cons_self)
  have hstat : (Cond.static arraycopyName).before args s = true := hts _ (ac_rest _ (List.mem_cons_of_mem _ List.mem_cons_self))
  have hini : (Cond.initialized "java/lang/System").before args s = true := hts _ (ac_rest _ (List.mem_cons_of_mem _ (List.mem_cons_of_mem _ List.mem_cons_self)))
  have r1 : inR cl := ok_h hst
  have r2 : inR dp := ok_h (ok_t hst)
  have r3 : inR sp := ok_h (ok_t (ok_t (ok_t hst)))
  have neg : ∀ {z : Int}, inR z → 0 ≤ z → ¬ Int32.ofInt z < 0 := fun hz h0 => by rw [show (0 : Int32) = Int32.ofInt 0 from rfl, ofI_lt hz inR0]; omega
  have hw1 := ws_at (G := G) σ k1
  have hw2 := ws_at (G := G) σ k2
  have hnf1 := nfw
  have e5 : (sC σ x sp.toNat d dp.toNat cl.toNat).1 = u1 σ.1 d (fun j => if dp.toNat ≤ j ∧ j < dp.toNat + cl.toNat then σ.1 x (sp.toNat + (j - dp.toNat)) else σ.1 d j) := rfl
  have key : ∀ (t : Nat) (ty : FieldType), (sh x).1 = t → t ≠ 1 → t < 4 → akT[t]? = some ty → refKind ty = false → (∀ j, okC t (σ.1 x j) → fits ty (.int (Int32.ofInt (σ.1 x j))) = true) → W p (cL G) e R s m args below meth c H locs (n - n0) (slt n - slt n0) Z (F0 m pc als (.int (Int32.ofInt cl) :: .int (Int32.ofInt dp) :: .ref (cB G + d) :: .int (Int32.ofInt sp) :: .ref (cB G + x) :: st.map (trV G))) := by
    intro t ty ht t1 t4 hak hprim hfit
    rw [cel_i ht t1 t4] at hw1
    rw [cel_i (k3.symm.trans ht) t1 t4] at hw2
    refine va_copyi hx hb (by rw [hml]; exact hal.1.symm) hown hl hnat hstat hini hK.1 hP (ws_D G n σ) hS x d t t hw1 hw2 (ty_at hak) (ty_at hak) hprim (neg r3 hg.1) (neg r2 hg.2.1) (neg r1 hg.2.2.1) (by rw [idx_cl r3, idx_cl r1]; omega) (by rw [idx_cl r2, idx_cl r1]; omega) (fun j _ => hfit _ (by rw [← ht]; exact hσ x _)) (by omega) (by rw [catS_ok hK.2.2.2]; omega) hd (fun H1 locs1 hP1 hD1 hS1 => ?_)
    rw [idx_cl r1, idx_cl r2, idx_cl r3] at hP1
    rw [ws_set (σ' := sC σ x sp.toNat d dp.toNat cl.toNat) k2 (by
      rw [cel_i (k3.symm.trans ht) t1 t4]
      congr 4
      funext j
      rw [e5, u1_at]
      unfold va_cpy
      split <;> rfl) (fun j hj => cel_sC hj)] at hP1
    refine kk p e R s m args below meth c n0 Z H1 locs1 als F RO hn hnf hP1 hS1 ?_ (ok_t (ok_t (ok_t (ok_t (ok_t hst))))) hls hal
    intro y j
    rw [e5]
    unfold u1
    split
    · next hy =>
      subst hy
      dsimp only
      split
      · rw [← k3]; exact hσ x _
      · exact hσ y j
    · exact hσ y j
  have e0 : (vi cl :: vi dp :: vr d :: vi sp :: vr x :: st).map (trV G) = .int (Int32.ofInt cl) :: .int (Int32.ofInt dp) :: .ref (cB G + d) :: .int (Int32.ofInt sp) :: .ref (cB G + x) :: st.map (trV G) := by
    simp only [List.map_cons]
    rw [show trV G (vr d) = trR G d from rfl, show trV G (vr x) = trR G x from rfl, trR_c (show d < 1000 by have := NC_lt; omega), trR_c (show x < 1000 by have := NC_lt; omega)]
    rfl
  rw [e0]
  rcases k4 with h5 | h5 | h5
  · exact key 0 .int h5 (by decide) (by decide) rfl rfl (fun j _ => rfl)
  · refine key 2 .byte h5 (by decide) (by decide) rfl rfl (fun j hj => ?_)
    have hj : -128 ≤ σ.1 x j ∧ σ.1 x j < 128 := hj
    have rj : inR (σ.1 x j) := by unfold inR; omega
    show ((-128 : Int32) ≤ Int32.ofInt (σ.1 x j) && Int32.ofInt (σ.1 x j) ≤ 127) = true
    rw [Bool.and_eq_true, decide_eq_true_eq, decide_eq_true_eq, show (-128 : Int32) = Int32.ofInt (-128) from rfl, show (127 : Int32) = Int32.ofInt 127 from rfl, ofI_le (by unfold inR; omega) rj, ofI_le rj (by unfold inR; omega)]
    omega
  · refine key 3 .boolean h5 (by decide) (by decide) rfl rfl (fun j hj => ?_)
    have hj : σ.1 x j = 0 ∨ σ.1 x j = 1 := hj
    rcases hj with hj | hj <;> rw [hj] <;> rfl
/-! switches -/
def swt (x : Int) (K : Int → Prop) : Int → List Int → Prop
  | _, [] => True
  | lo, o :: r => (x = lo → K o) ∧ swt x K (lo + 1) r
def lks (x : Int) (K : Int → Prop) : List (Int × Int) → Prop
  | [] => True
  | q :: r => (x = q.1 → K q.2) ∧ lks x K r
def lkd (x : Int) (P : Prop) : List (Int × Int) → Prop
  | [] => P
  | q :: r => ¬ x = q.1 → lkd x P r
theorem swt_at {x : Int} {K : Int → Prop} : ∀ {l : List Int} {lo : Int} {j : Nat} {o : Int}, swt x K lo l → l[j]? = some o → x = lo + j → K o
  | [], _, _, _, _, h, _ => by simp at h
  | o :: r, lo, 0, o', hs, h, hx => by
    rw [List.getElem?_cons_zero] at h
    cases h
    exact hs.1 (by omega)
  | o :: r, lo, j + 1, o', hs, h, hx => by
    rw [List.getElem?_cons_succ] at h
    exact swt_at hs.2 h (by omega)
theorem T_tsw {dflt lo hi x : Int} {offs : Array Int} (he : EOK mi (pc, .tableswitch dflt lo hi offs, len, a, b)) (K : Int → Prop) (hK9 : ∀ o, K o → ∃ tgt : Nat, (pc : Int) + o = tgt ∧ Tri G h mi nf n tgt ls st σ Q) (h1 : swt x K lo offs.toList) (h2 : (x < lo ∨ hi < x) → K dflt) : Tri G h mi nf n pc ls (vi x :: st) σ Q := by
  have hc : hi + 1 - lo = offs.size := of_decide_eq_true he.2.2.2
  intro p e R s m args below meth c n0 Z H locs als F RO hn hnf hP hS hσ hst hls hal
  obtain ⟨hx, hb, hml, hr, hown, hts, hlk, hnm, hK, hW, hsz, hn0, hRf, hRl, hRc, hRs, hNC⟩ := id F
  have rx : inR x := ok_h hst
  by_cases hlo : x < lo ∨ hi < x
  · obtain ⟨tgt, ht, k⟩ := hK9 _ (h2 hlo)
    exact lv_tableOut hx hb he.2.1 (by rw [toI rx]; exact hlo) ht (k p e R s m args below meth c n0 Z H locs als F RO hn hnf hP hS hσ (ok_t hst) hls hal)
  · have hj : (x - lo).toNat < offs.size := by omega
    obtain ⟨tgt, ht, k⟩ := hK9 offs[(x - lo).toNat] (swt_at h1 (j := (x - lo).toNat) (by rw [Array.getElem?_toList]; exact Array.getElem?_eq_getElem hj) (by omega))
    exact lv_tableIn hx hb he.2.1 (by rw [toI rx]; omega) (by rw [toI rx]; omega) (off := offs[(x - lo).toNat]) (by rw [toI rx]; exact Array.getElem?_eq_getElem hj) ht (k p e R s m args below meth c n0 Z H locs als F RO hn hnf hP hS hσ (ok_t hst) hls hal)
theorem lk_off {x d : Int} {K : Int → Prop} : ∀ (l : List (Int × Int)), lks x K l → lkd x (K d) l → K (Op.lookupswitch.offset l d x)
  | [], _, h => h
  | q :: r, h1, h2 => by
    by_cases hq : x = q.1
    · have h3 := h1.1 hq
      have e1 : Op.lookupswitch.offset (q :: r) d x = q.2 := by
        obtain ⟨q1, q2⟩ := q
        dsimp only at hq
        subst hq
        simp [Op.lookupswitch.offset]
      rw [e1]; exact h3
    · have h3 := lk_off (d := d) r h1.2 (h2 hq)
      have e1 : Op.lookupswitch.offset (q :: r) d x = Op.lookupswitch.offset r d x := by
        obtain ⟨q1, q2⟩ := q
        have hq : ¬ x = q1 := hq
        simp [Op.lookupswitch.offset, hq, Ne.symm hq]
      rw [e1]; exact h3
theorem T_lsw {dflt x : Int} {ps : Array (Int × Int)} (he : EOK mi (pc, .lookupswitch dflt ps, len, a, b)) (K : Int → Prop) (hK9 : ∀ o, K o → ∃ tgt : Nat, (pc : Int) + o = tgt ∧ Tri G h mi nf n tgt ls st σ Q) (h1 : lks x K ps.toList) (h2 : lkd x (K dflt) ps.toList) : Tri G h mi nf n pc ls (vi x :: st) σ Q := by
  have hc : (ps.toList.zip (ps.toList.drop 1)).all (fun (x : (Int × Int) × (Int × Int)) => decide (x.1.1 < x.2.1)) = true := he.2.2.2
  intro p e R s m args below meth c n0 Z H locs als F RO hn hnf hP hS hσ hst hls hal
  obtain ⟨hx, hb, hml, hr, hown, hts, hlk, hnm, hK, hW, hsz, hn0, hRf, hRl, hRc, hRs, hNC⟩ := id F
  have rx : inR x := ok_h hst
  obtain ⟨tgt, ht, k⟩ := hK9 _ (lk_off ps.toList h1 h2)
  exact lv_lookup hx hb he.2.1 hc (by rw [toI rx]) ht (k p e R s m args below meth c n0 Z H locs als F RO hn hnf hP hS hσ (ok_t hst) hls hal)
end MORE2
end
section
/-! THE WALK BY COMPUTATION: wpf runs the code from a place on, over values that may be unknown, and says what must hold -/
def onB (b : Bool) (P : Prop) : Prop := match b with
  | true => P
  | false => False
def onS (o : Option Nat) (P : Nat → Prop) : Prop := match o with
  | some x => P x
  | none => False
def onC (o : Option (List Bool)) (A : List Bool → Prop) (B : Prop) : Prop := match o with
  | some x => A x
  | none => B
def lI (o : Option MV) (P : Int → Prop) : Prop := match o with
  | some (.inl x) => P x
  | _ => False
def lJ (o : Option MV) (P : BitVec 64 → Prop) : Prop := match o with
  | some (.inr (.inl x)) => P x
  | _ => False
def lR (o : Option MV) (P : Nat → Prop) : Prop := match o with
  | some (.inr (.inr x)) => P x
  | _ => False
def s1I (st : List MV) (P : Int → List MV → Prop) : Prop := match st with
  | .inl x :: r => P x r
  | _ => False
def s1J (st : List MV) (P : BitVec 64 → List MV → Prop) : Prop := match st with
  | .inr (.inl x) :: r => P x r
  | _ => False
def s1R (st : List MV) (P : Nat → List MV → Prop) : Prop := match st with
  | .inr (.inr x) :: r => P x r
  | _ => False
def s1V (st : List MV) (P : MV → List MV → Prop) : Prop := match st with
  | x :: r => P x r
  | _ => False
theorem onB_e {b : Bool} {P : Prop} (h : onB b P) : b = true ∧ P := by
  cases b
  · exact h.elim
  · exact ⟨rfl, h⟩
theorem onB_i {b : Bool} {P : Prop} (hb : b = true) (h : P) : onB b P := by subst hb; exact h
theorem onS_e {o : Option Nat} {P : Nat → Prop} (h : onS o P) : ∃ x, o = some x ∧ P x := by
  cases o
  · exact h.elim
  · exact ⟨_, rfl, h⟩
theorem onS_i {o : Option Nat} {P : Nat → Prop} {x : Nat} (hb : o = some x) (h : P x) : onS o P := by subst hb; exact h
theorem lI_e {o : Option MV} {P : Int → Prop} (h : lI o P) : ∃ x, o = some (vi x) ∧ P x := by
  rcases o with _ | (x | x | x)
  · exact h.elim
  · exact ⟨x, rfl, h⟩
  · exact h.elim
  · exact h.elim
theorem lJ_e {o : Option MV} {P : BitVec 64 → Prop} (h : lJ o P) : ∃ x, o = some (vl x) ∧ P x := by
  rcases o with _ | (x | x | x)
  · exact h.elim
  · exact h.elim
  · exact ⟨x, rfl, h⟩
  · exact h.elim
theorem lR_e {o : Option MV} {P : Nat → Prop} (h : lR o P) : ∃ x, o = some (vr x) ∧ P x := by
  rcases o with _ | (x | x | x)
  · exact h.elim
  · exact h.elim
  · exact h.elim
  · exact ⟨x, rfl, h⟩
theorem s1I_e {st : List MV} {P : Int → List MV → Prop} (h : s1I st P) : ∃ x r, st = vi x :: r ∧ P x r := by
  rcases st with _ | ⟨x | x | x, r⟩
  · exact h.elim
  · exact ⟨x, r, rfl, h⟩
  · exact h.elim
  · exact h.elim
theorem s1J_e {st : List MV} {P : BitVec 64 → List MV → Prop} (h : s1J st P) : ∃ x r, st = vl x :: r ∧ P x r := by
  rcases st with _ | ⟨x | x | x, r⟩
  · exact h.elim
  · exact h.elim
  · exact ⟨x, r, rfl, h⟩
  · exact h.elim
theorem s1R_e {st : List MV} {P : Nat → List MV → Prop} (h : s1R st P) : ∃ x r, st = vr x :: r ∧ P x r := by
  rcases st with _ | ⟨x | x | x, r⟩
  · exact h.elim
  · exact h.elim
  · exact h.elim
  · exact ⟨x, r, rfl, h⟩
theorem s1V_e {st : List MV} {P : MV → List MV → Prop} (h : s1V st P) : ∃ x r, st = x :: r ∧ P x r := by
  rcases st with _ | ⟨x, r⟩
  · exact h.elim
  · exact ⟨x, r, rfl, h⟩
def nil0 (st : List MV) (P : Prop) : Prop := match st with
  | [] => P
  | _ => False
theorem nil0_e {st : List MV} {P : Prop} (h : nil0 st P) : st = [] ∧ P := by
  cases st
  · exact ⟨rfl, h⟩
  · exact h.elim
def jmpT (pc : Nat) (off : Int) (K : Nat → Prop) : Prop := match (pc : Int) + off with
  | .ofNat t => K t
  | .negSucc _ => False
theorem jmpT_e {pc : Nat} {off : Int} {K : Nat → Prop} (h : jmpT pc off K) : ∃ t : Nat, (pc : Int) + off = (t : Int) ∧ K t := by
  unfold jmpT at h
  cases hz : (pc : Int) + off with
  | ofNat t => rw [hz] at h; exact ⟨t, rfl, h⟩
  | negSucc t => rw [hz] at h; exact h.elim
def popA : Nat → List MV → List MV → (List MV → List MV → Prop) → Prop
  | 0, st, acc, K => K acc st
  | _ + 1, [], _, _ => False
  | c + 1, v :: st, acc, K => popA c st (v :: acc) K
theorem popA_e : ∀ {c : Nat} {st acc : List MV} {K : List MV → List MV → Prop}, popA c st acc K → ∃ av st', av.length = c ∧ st = av.reverse ++ st' ∧ K (av ++ acc) st'
  | 0, st, acc, K, h => ⟨[], st, rfl, rfl, h⟩
  | c + 1, [], acc, K, h => h.elim
  | c + 1, v :: st, acc, K, h => by
    obtain ⟨av, st', h1, h2, h3⟩ := popA_e (c := c) (st := st) (acc := v :: acc) (K := K) h
    exact ⟨av ++ [v], st', by simp [h1], by rw [List.reverse_append, h2]; rfl, by rw [List.append_assoc]; exact h3⟩
def shB (n k : Nat) : Option Nat := match shIs n k 2 with
  | some L => some L
  | none => shIs n k 3
def recv (n k a : Nat) : Bool := match Nat.blt k 1000 with
  | true => isObj n k (oc a)
  | false => Nat.beq (oc a) 15 && (Nat.ble 2000 k && Nat.blt (k - 2000) 22)
def seek (t : Nat) : List Ent → List Ent
  | [] => []
  | e :: r => match Nat.beq e.1 t with
    | true => e :: r
    | false => seek t r
def lkC : List (Nat × List Bool) → Nat → Option (List Bool)
  | [], _ => none
  | (q, ms) :: r, pc => match Nat.beq q pc with
    | true => some ms
    | false => lkC r pc
def cutAt (cuts : List (Nat × List Bool)) (first : Bool) (pc : Nat) : Option (List Bool) := match first with
  | true => none
  | false => lkC cuts pc
def callK (G : Ctx) (h nf n a : Nat) (av st : List MV) (σ : MS) (K : Nat → List MV → MS → Prop) : Prop :=
  onB (Nat.ble (catS st) 8 && Nat.ble (n + al a) nf) (match rt a with
    | 0 => TriM G h a n (n + al a) av σ (cV' fun σ' => K (n + al a) st σ')
    | 2 => TriM G h a n (n + al a) av σ (cJ' fun x σ' => K (n + al a) (vl x :: st) σ')
    | 3 => TriM G h a n (n + al a) av σ (cR' fun x σ' => K (n + al a) (vr x :: st) σ')
    | _ => TriM G h a n (n + al a) av σ (cI' fun x σ' => K (n + al a) (vi x :: st) σ'))
def retG (c : Nat) (x : Int) (P : Prop) : Prop := match c with
  | 1 => P
  | 4 => (x = 0 ∨ x = 1) ∧ P
  | 5 => (0 ≤ x ∧ x < 65536) ∧ P
  | 6 => (-128 ≤ x ∧ x < 128) ∧ P
  | _ => False
def stepF (G : Ctx) (h mi nf : Nat) (Q : MP) (ins : Instr) (pc a : Nat) (b : Int) (n : Nat) (ls : ML) (st : List MV) (σ : MS) (K : Nat → ML → List MV → MS → Prop) (J : Nat → ML → List MV → MS → Prop) : Prop := match ins with
  | .iconst v => K n ls (vi v :: st) σ
  | .bipush v => K n ls (vi v :: st) σ
  | .sipush v => K n ls (vi v :: st) σ
  | .lconst v => K n ls (vl (BitVec.ofNat 64 v) :: st) σ
  | .ldc _ => match a with
    | 0 => K n ls (vi b :: st) σ
    | 1 => K n ls (vr (2000 + b.toNat) :: st) σ
    | _ => False
  | .ldc_w _ => K n ls (vi b :: st) σ
  | .ldc2_w _ => K n ls (vl (BitVec.ofInt 64 b) :: st) σ
  | .iload i => lI (lget ls i) fun x => K n ls (vi x :: st) σ
  | .iload_n i => lI (lget ls i.val) fun x => K n ls (vi x :: st) σ
  | .lload i => lJ (lget ls i) fun x => K n ls (vl x :: st) σ
  | .lload_n i => lJ (lget ls i.val) fun x => K n ls (vl x :: st) σ
  | .aload i => lR (lget ls i) fun x => K n ls (vr x :: st) σ
  | .aload_n i => lR (lget ls i.val) fun x => K n ls (vr x :: st) σ
  | .istore i => s1I st fun x st => K n (mst ls i (vi x)) st σ
  | .istore_n i => s1I st fun x st => K n (mst ls i.val (vi x)) st σ
  | .lstore i => s1J st fun x st => K n (mst2 ls i (vl x)) st σ
  | .lstore_n i => s1J st fun x st => K n (mst2 ls i.val (vl x)) st σ
  | .astore i => s1R st fun x st => K n (mst ls i (vr x)) st σ
  | .astore_n i => s1R st fun x st => K n (mst ls i.val (vr x)) st σ
  | .iinc i v => lI (lget ls i) fun x => K n (mst ls i (vi (w32 (x + v)))) st σ
  | .iadd => s1I st fun y st => s1I st fun x st => K n ls (vi (w32 (x + y)) :: st) σ
  | .isub => s1I st fun y st => s1I st fun x st => K n ls (vi (w32 (x - y)) :: st) σ
  | .imul => s1I st fun y st => s1I st fun x st => K n ls (vi (w32 (x * y)) :: st) σ
  | .iand => s1I st fun y st => s1I st fun x st => K n ls (vi (iAnd x y) :: st) σ
  | .ior => s1I st fun y st => s1I st fun x st => K n ls (vi (iOr x y) :: st) σ
  | .ixor => s1I st fun y st => s1I st fun x st => K n ls (vi (iXor x y) :: st) σ
  | .ishl => s1I st fun y st => s1I st fun x st => K n ls (vi (iShl x y) :: st) σ
  | .ishr => s1I st fun y st => s1I st fun x st => K n ls (vi (iShr x y) :: st) σ
  | .iushr => s1I st fun y st => s1I st fun x st => K n ls (vi (iUsh x y) :: st) σ
  | .idiv => s1I st fun y st => s1I st fun x st => y ≠ 0 ∧ K n ls (vi (iDiv x y) :: st) σ
  | .irem => s1I st fun y st => s1I st fun x st => y ≠ 0 ∧ K n ls (vi (iRem x y) :: st) σ
  | .ineg => s1I st fun x st => K n ls (vi (w32 (-x)) :: st) σ
  | .i2b => s1I st fun x st => K n ls (vi (w8 x) :: st) σ
  | .i2c => s1I st fun x st => K n ls (vi (i2c x) :: st) σ
  | .i2l => s1I st fun x st => K n ls (vl (i2l x) :: st) σ
  | .l2i => s1J st fun x st => K n ls (vi (l2i x) :: st) σ
  | .lneg => s1J st fun x st => K n ls (vl (-x) :: st) σ
  | .ladd => s1J st fun y st => s1J st fun x st => K n ls (vl (x + y) :: st) σ
  | .lsub => s1J st fun y st => s1J st fun x st => K n ls (vl (x - y) :: st) σ
  | .lmul => s1J st fun y st => s1J st fun x st => K n ls (vl (x * y) :: st) σ
  | .land => s1J st fun y st => s1J st fun x st => K n ls (vl (x &&& y) :: st) σ
  | .lor => s1J st fun y st => s1J st fun x st => K n ls (vl (x ||| y) :: st) σ
  | .lxor => s1J st fun y st => s1J st fun x st => K n ls (vl (x ^^^ y) :: st) σ
  | .ldiv => s1J st fun y st => s1J st fun x st => y ≠ 0 ∧ K n ls (vl (lDiv x y) :: st) σ
  | .lcmp => s1J st fun y st => s1J st fun x st => K n ls (vi (lCmp x y) :: st) σ
  | .lshl => s1I st fun y st => s1J st fun x st => K n ls (vl (lShl x y) :: st) σ
  | .lushr => s1I st fun y st => s1J st fun x st => K n ls (vl (lUsh x y) :: st) σ
  | .dup => s1V st fun v st => onB (!isLg (some v)) (K n ls (v :: v :: st) σ)
  | .pop => s1V st fun v st => onB (!isLg (some v)) (K n ls st σ)
  | .dup2 => s1V st fun v st => s1V st fun w st => onB (!isLg (some v) && !isLg (some w)) (K n ls (v :: w :: v :: w :: st) σ)
  | .ifCond c off => s1I st fun x st => (cmpc c x 0 → jmpT pc off fun t => J t ls st σ) ∧ (¬ cmpc c x 0 → K n ls st σ)
  | .if_icmp c off => s1I st fun y st => s1I st fun x st => (cmpc c x y → jmpT pc off fun t => J t ls st σ) ∧ (¬ cmpc c x y → K n ls st σ)
  | .goto off => jmpT pc off fun t => J t ls st σ
  | .tableswitch d lo hi offs => s1I st fun x st => swt x (fun o => jmpT pc o fun t => J t ls st σ) lo offs.toList ∧ ((x < lo ∨ hi < x) → jmpT pc d fun t => J t ls st σ)
  | .lookupswitch d ps => s1I st fun x st => lks x (fun o => jmpT pc o fun t => J t ls st σ) ps.toList ∧ lkd x (jmpT pc d fun t => J t ls st σ) ps.toList
  | .iaload => s1I st fun i st => s1R st fun k st => match Nat.beq k 4000 with
    | true => (0 ≤ i ∧ i < (cNn G : Int)) ∧ K n ls (vi (cX G i.toNat).toInt :: st) σ
    | false => onS (shIs n k 0) fun L => (0 ≤ i ∧ i < (L : Int)) ∧ K n ls (vi (σ.1 k i.toNat) :: st) σ
  | .baload => s1I st fun i st => s1R st fun k st => match Nat.blt k 3000 with
    | true => onS (shB n k) fun L => (0 ≤ i ∧ i < (L : Int)) ∧ K n ls (vi (σ.1 k i.toNat) :: st) σ
    | false => onB (Nat.blt (k - 3000) 22) ((0 ≤ i ∧ i < ((stN.getD (k - 3000) 0 : Nat) : Int)) ∧ K n ls (vi (stC (k - 3000) i.toNat) :: st) σ)
  | .laload => s1I st fun i st => s1R st fun k st => onS (shIs n k 1) fun L => (0 ≤ i ∧ i < (L : Int)) ∧ K n ls (vl (σ.2.1 k i.toNat) :: st) σ
  | .iastore => s1I st fun x st => s1I st fun i st => s1R st fun k st => onS (shIs n k 0) fun L => (0 ≤ i ∧ i < (L : Int)) ∧ K n ls st (sI σ k i.toNat x)
  | .bastore => s1I st fun x st => s1I st fun i st => s1R st fun k st => match Nat.beq (sh k).1 3 with
    | true => onS (shIs n k 3) fun L => (0 ≤ i ∧ i < (L : Int)) ∧ (x = 0 ∨ x = 1) ∧ K n ls st (sI σ k i.toNat x)
    | false => onS (shIs n k 2) fun L => (0 ≤ i ∧ i < (L : Int)) ∧ K n ls st (sI σ k i.toNat (w8 x))
  | .lastore => s1J st fun x st => s1I st fun i st => s1R st fun k st => onS (shIs n k 1) fun L => (0 ≤ i ∧ i < (L : Int)) ∧ K n ls st (sJ σ k i.toNat x)
  | .arraylength => s1R st fun k st => match Nat.blt k 3000 with
    | true => onS (arrN n k) fun L => K n ls (vi (L : Int) :: st) σ
    | false => match Nat.beq k 4000 with
      | true => K n ls (vi (cNn G : Int) :: st) σ
      | false => onB (Nat.blt (k - 3000) 22) (K n ls (vi ((stN.getD (k - 3000) 0 : Nat) : Int) :: st) σ)
  | .getstatic _ => K n ls ((match Nat.beq a 0 with | true => vi 1 | false => vr 5000) :: st) σ
  | .getfield _ => s1R st fun k st => match Nat.beq a 100 with
    | true => onB (Nat.ble 2000 k && Nat.blt (k - 2000) 22) (K n ls ((match Nat.beq b.toNat 0 with | true => vr (3000 + (k - 2000)) | false => vi 0) :: st) σ)
    | false => onB (isObj n k a) (K n ls (fval σ k a b.toNat :: st) σ)
  | .putfield _ => match fk a b.toNat with
    | 0 => s1I st fun x st => s1R st fun k st => onB (isObj n k a) (K n ls st (sI σ k b.toNat x))
    | 1 => s1R st fun x st => s1R st fun k st => onB (isObj n k a) (K n ls st (sP σ k b.toNat x))
    | 2 => s1I st fun x st => s1R st fun k st => onB (isObj n k a) ((x = 0 ∨ x = 1) ∧ K n ls st (sI σ k b.toNat x))
    | _ => False
  | .invokevirtual _ => onB (Nat.blt a 269 && Nat.beq (mk a) 1) (popA (ag a) st [] fun av st => s1R st fun k st => onB (recv n k a) (callK G h nf n a (vr k :: av) st σ fun n st σ => K n ls st σ))
  | .invokestatic _ => match Nat.beq a 998 with
    | true => s1I st fun cl st => s1I st fun dp st => s1R st fun d st => s1I st fun sp st => s1R st fun x st => onB (Nat.ble (catS st) 8 && cpK n x d) (1 ≤ h ∧ (0 ≤ sp ∧ 0 ≤ dp ∧ 0 ≤ cl ∧ sp + cl ≤ ((sh x).2 : Int) ∧ dp + cl ≤ ((sh d).2 : Int)) ∧ K n ls st (sC σ x sp.toNat d dp.toNat cl.toNat))
    | false => onB (Nat.blt a 269 && Nat.beq (mk a) 0) (popA (ag a) st [] fun av st => callK G h nf n a av st σ fun n st σ => K n ls st σ)
  | .invokespecial _ => match Nat.beq a 999 with
    | true => s1R st fun k st => onB (Nat.blt k 1000 && Nat.ble (catS st) 8) (1 ≤ h ∧ K n ls st σ)
    | false => onB (Nat.blt a 269 && Nat.beq (mk a) 2) (popA (ag a) st [] fun av st => s1R st fun k st => onB (Nat.blt k 1000) (callK G h nf n a (vr k :: av) st σ fun n st σ => K n ls st σ))
  | .new _ => onB (Nat.blt n nf && Nat.beq (sh n).1 (4 + a)) (K (n + 1) ls (vr n :: st) (sN σ n))
  | .newarray t => s1I st fun x st => onB (Nat.blt n nf && (Nat.beq (sh n).1 (atK t) && decide (x = ((sh n).2 : Int)))) (K (n + 1) ls (vr n :: st) (sN σ n))
  | .return_ => nil0 st (onB (Nat.beq n nf && Nat.beq (rt mi) 0) (Q none σ))
  | .ireturn => s1I st fun x st => nil0 st (onB (Nat.beq n nf) (retG (rt mi) x (Q (some (vi x)) σ)))
  | .lreturn => s1J st fun x st => nil0 st (onB (Nat.beq n nf && Nat.beq (rt mi) 2) (Q (some (vl x)) σ))
  | .areturn => s1R st fun x st => nil0 st (onB (Nat.beq n nf && Nat.beq (rt mi) 3) (Q (some (vr x)) σ))
  | _ => False
theorem callK_e {G : Ctx} {h nf n a : Nat} {av st : List MV} {σ : MS} {K : Nat → List MV → MS → Prop} (hs : callK G h nf n a av st σ K) : ∃ Q' : MP, catS st ≤ 8 ∧ n + al a ≤ nf ∧ TriM G h a n (n + al a) av σ Q' ∧ ∀ r σ', Q' r σ' → (∀ v, r = some v → okV v) → (True ∧ K (n + al a) (pushR r st) σ') := by
  obtain ⟨h8, hs⟩ := onB_e hs
  have h9 := (Bool.and_eq_true _ _).mp h8
  have c1 := Nat.le_of_ble_eq_true h9.1
  have c2 := Nat.le_of_ble_eq_true h9.2
  have kI : TriM G h a n (n + al a) av σ (cI' fun x σ' => K (n + al a) (vi x :: st) σ') → ∃ Q' : MP, catS st ≤ 8 ∧ n + al a ≤ nf ∧ TriM G h a n (n + al a) av σ Q' ∧ ∀ r σ', Q' r σ' → (∀ v, r = some v → okV v) → (True ∧ K (n + al a) (pushR r st) σ') := fun hm => ⟨_, c1, c2, hm, fun r σ' q hv => by
    obtain ⟨x, rfl, q⟩ := q
    exact ⟨trivial, q (hv _ rfl)⟩⟩
  match hr : rt a, hs with
  | 0, hs => exact ⟨_, c1, c2, hs, fun r σ' q hv => by
      obtain ⟨rfl, q⟩ := q
      exact ⟨trivial, q⟩⟩
  | 1, hs => exact kI hs
  | 2, hs => exact ⟨_, c1, c2, hs, fun r σ' q hv => by
      obtain ⟨x, rfl, q⟩ := q
      exact ⟨trivial, q⟩⟩
  | 3, hs => exact ⟨_, c1, c2, hs, fun r σ' q hv => by
      obtain ⟨x, rfl, q⟩ := q
      exact ⟨trivial, q⟩⟩
  | c + 4, hs => exact kI hs
set_option maxRecDepth 100000 in
set_option maxHeartbeats 4000000 in
theorem stepF_ok {G : Ctx} {h mi nf n pc len a : Nat} {b : Int} {ls : ML} {st : List MV} {σ : MS} {Q : MP} {ins : Instr} {K : Nat → ML → List MV → MS → Prop} {J : Nat → ML → List MV → MS → Prop} (he : EOK mi (pc, ins, len, a, b)) (hto : ∀ off, (∃ c, ins = .ifCond c off ∨ ins = .if_icmp c off) → ∃ t : Nat, (pc : Int) + off = (t : Int)) (hK : ∀ n ls st σ, K n ls st σ → Tri G h mi nf n (pc + len) ls st σ Q) (hJ : ∀ t ls st σ, J t ls st σ → Tri G h mi nf n t ls st σ Q) (hs : stepF G h mi nf Q ins pc a b n ls st σ K J) : Tri G h mi nf n pc ls st σ Q := by
  cases ins with
  | iconst v =>
    exact T_iconst he (hK _ _ _ _ hs)
  | bipush v =>
    exact T_bipush he (hK _ _ _ _ hs)
  | sipush v =>
    exact T_sipush he (hK _ _ _ _ hs)
  | lconst v =>
    exact T_lconst he (hK _ _ _ _ hs)
  | ldc _ =>
    match a, he, hs with
    | 0, he, hs => exact T_ldc he (hK _ _ _ _ hs)
    | 1, he, hs => exact T_ldcS he (hK _ _ _ _ hs)
    | a + 2, he, hs => exact False.elim hs
  | ldc_w _ =>
    exact T_ldcw he (hK _ _ _ _ hs)
  | ldc2_w _ =>
    exact T_ldc2 he (hK _ _ _ _ hs)
  | iload i =>
    obtain ⟨x, h1, h2⟩ := lI_e hs
    exact T_iload he h1 (hK _ _ _ _ h2)
  | iload_n i =>
    obtain ⟨x, h1, h2⟩ := lI_e hs
    exact T_iload_n he h1 (hK _ _ _ _ h2)
  | lload i =>
    obtain ⟨x, h1, h2⟩ := lJ_e hs
    exact T_lload he h1 (hK _ _ _ _ h2)
  | lload_n i =>
    obtain ⟨x, h1, h2⟩ := lJ_e hs
    exact T_lload_n he h1 (hK _ _ _ _ h2)
  | aload i =>
    obtain ⟨x, h1, h2⟩ := lR_e hs
    exact T_aload he h1 (hK _ _ _ _ h2)
  | aload_n i =>
    obtain ⟨x, h1, h2⟩ := lR_e hs
    exact T_aload_n he h1 (hK _ _ _ _ h2)
  | istore i =>
    obtain ⟨x, r, rfl, h2⟩ := s1I_e hs
    exact T_istore he (hK _ _ _ _ h2)
  | istore_n i =>
    obtain ⟨x, r, rfl, h2⟩ := s1I_e hs
    exact T_istore_n he (hK _ _ _ _ h2)
  | lstore i =>
    obtain ⟨x, r, rfl, h2⟩ := s1J_e hs
    exact T_lstore he (hK _ _ _ _ h2)
  | lstore_n i =>
    obtain ⟨x, r, rfl, h2⟩ := s1J_e hs
    exact T_lstore_n he (hK _ _ _ _ h2)
  | astore i =>
    obtain ⟨x, r, rfl, h2⟩ := s1R_e hs
    exact T_astore he (hK _ _ _ _ h2)
  | astore_n i =>
    obtain ⟨x, r, rfl, h2⟩ := s1R_e hs
    exact T_astore_n he (hK _ _ _ _ h2)
  | iinc i v =>
    obtain ⟨x, h1, h2⟩ := lI_e hs
    exact T_iinc he h1 (hK _ _ _ _ h2)
  | iadd =>
    obtain ⟨y, r1, rfl, h0⟩ := s1I_e hs; clear hs; have hs := h0; clear h0
    obtain ⟨x, r, rfl, h0⟩ := s1I_e hs; clear hs; have hs := h0; clear h0
    exact T_iadd he (hK _ _ _ _ hs)
  | isub =>
    obtain ⟨y, r1, rfl, h0⟩ := s1I_e hs; clear hs; have hs := h0; clear h0
    obtain ⟨x, r, rfl, h0⟩ := s1I_e hs; clear hs; have hs := h0; clear h0
    exact T_isub he (hK _ _ _ _ hs)
  | imul =>
    obtain ⟨y, r1, rfl, h0⟩ := s1I_e hs; clear hs; have hs := h0; clear h0
    obtain ⟨x, r, rfl, h0⟩ := s1I_e hs; clear hs; have hs := h0; clear h0
    exact T_imul he (hK _ _ _ _ hs)
  | iand =>
    obtain ⟨y, r1, rfl, h0⟩ := s1I_e hs; clear hs; have hs := h0; clear h0
    obtain ⟨x, r, rfl, h0⟩ := s1I_e hs; clear hs; have hs := h0; clear h0
    exact T_iand he (hK _ _ _ _ hs)
  | ior =>
    obtain ⟨y, r1, rfl, h0⟩ := s1I_e hs; clear hs; have hs := h0; clear h0
    obtain ⟨x, r, rfl, h0⟩ := s1I_e hs; clear hs; have hs := h0; clear h0
    exact T_ior he (hK _ _ _ _ hs)
  | ixor =>
    obtain ⟨y, r1, rfl, h0⟩ := s1I_e hs; clear hs; have hs := h0; clear h0
    obtain ⟨x, r, rfl, h0⟩ := s1I_e hs; clear hs; have hs := h0; clear h0
    exact T_ixor he (hK _ _ _ _ hs)
  | ishl =>
    obtain ⟨y, r1, rfl, h0⟩ := s1I_e hs; clear hs; have hs := h0; clear h0
    obtain ⟨x, r, rfl, h0⟩ := s1I_e hs; clear hs; have hs := h0; clear h0
    exact T_ishl he (hK _ _ _ _ hs)
  | ishr =>
    obtain ⟨y, r1, rfl, h0⟩ := s1I_e hs; clear hs; have hs := h0; clear h0
    obtain ⟨x, r, rfl, h0⟩ := s1I_e hs; clear hs; have hs := h0; clear h0
    exact T_ishr he (hK _ _ _ _ hs)
  | iushr =>
    obtain ⟨y, r1, rfl, h0⟩ := s1I_e hs; clear hs; have hs := h0; clear h0
    obtain ⟨x, r, rfl, h0⟩ := s1I_e hs; clear hs; have hs := h0; clear h0
    exact T_iushr he (hK _ _ _ _ hs)
  | idiv =>
    obtain ⟨y, r1, rfl, h0⟩ := s1I_e hs; clear hs; have hs := h0; clear h0
    obtain ⟨x, r, rfl, h0⟩ := s1I_e hs; clear hs; have hs := h0; clear h0
    exact T_idiv he hs.1 (hK _ _ _ _ hs.2)
  | irem =>
    obtain ⟨y, r1, rfl, h0⟩ := s1I_e hs; clear hs; have hs := h0; clear h0
    obtain ⟨x, r, rfl, h0⟩ := s1I_e hs; clear hs; have hs := h0; clear h0
    exact T_irem he hs.1 (hK _ _ _ _ hs.2)
  | ineg =>
    obtain ⟨x, r, rfl, h0⟩ := s1I_e hs; clear hs; have hs := h0; clear h0
    exact T_ineg he (hK _ _ _ _ hs)
  | i2b =>
    obtain ⟨x, r, rfl, h0⟩ := s1I_e hs; clear hs; have hs := h0; clear h0
    exact T_i2b he (hK _ _ _ _ hs)
  | i2c =>
    obtain ⟨x, r, rfl, h0⟩ := s1I_e hs; clear hs; have hs := h0; clear h0
    exact T_i2c he (hK _ _ _ _ hs)
  | i2l =>
    obtain ⟨x, r, rfl, h0⟩ := s1I_e hs; clear hs; have hs := h0; clear h0
    exact T_i2l he (hK _ _ _ _ hs)
  | l2i =>
    obtain ⟨x, r, rfl, h0⟩ := s1J_e hs; clear hs; have hs := h0; clear h0
    exact T_l2i he (hK _ _ _ _ hs)
  | lneg =>
    obtain ⟨x, r, rfl, h0⟩ := s1J_e hs; clear hs; have hs := h0; clear h0
    exact T_lneg he (hK _ _ _ _ hs)
  | ladd =>
    obtain ⟨y, r1, rfl, h0⟩ := s1J_e hs; clear hs; have hs := h0; clear h0
    obtain ⟨x, r, rfl, h0⟩ := s1J_e hs; clear hs; have hs := h0; clear h0
    exact T_ladd he (hK _ _ _ _ hs)
  | lsub =>
    obtain ⟨y, r1, rfl, h0⟩ := s1J_e hs; clear hs; have hs := h0; clear h0
    obtain ⟨x, r, rfl, h0⟩ := s1J_e hs; clear hs; have hs := h0; clear h0
    exact T_lsub he (hK _ _ _ _ hs)
  | lmul =>
    obtain ⟨y, r1, rfl, h0⟩ := s1J_e hs; clear hs; have hs := h0; clear h0
    obtain ⟨x, r, rfl, h0⟩ := s1J_e hs; clear hs; have hs := h0; clear h0
    exact T_lmul he (hK _ _ _ _ hs)
  | land =>
    obtain ⟨y, r1, rfl, h0⟩ := s1J_e hs; clear hs; have hs := h0; clear h0
    obtain ⟨x, r, rfl, h0⟩ := s1J_e hs; clear hs; have hs := h0; clear h0
    exact T_land he (hK _ _ _ _ hs)
  | lor =>
    obtain ⟨y, r1, rfl, h0⟩ := s1J_e hs; clear hs; have hs := h0; clear h0
    obtain ⟨x, r, rfl, h0⟩ := s1J_e hs; clear hs; have hs := h0; clear h0
    exact T_lor he (hK _ _ _ _ hs)
  | lxor =>
    obtain ⟨y, r1, rfl, h0⟩ := s1J_e hs; clear hs; have hs := h0; clear h0
    obtain ⟨x, r, rfl, h0⟩ := s1J_e hs; clear hs; have hs := h0; clear h0
    exact T_lxor he (hK _ _ _ _ hs)
  | ldiv =>
    obtain ⟨y, r1, rfl, h0⟩ := s1J_e hs; clear hs; have hs := h0; clear h0
    obtain ⟨x, r, rfl, h0⟩ := s1J_e hs; clear hs; have hs := h0; clear h0
    exact T_ldiv he hs.1 (hK _ _ _ _ hs.2)
  | lcmp =>
    obtain ⟨y, r1, rfl, h0⟩ := s1J_e hs; clear hs; have hs := h0; clear h0
    obtain ⟨x, r, rfl, h0⟩ := s1J_e hs; clear hs; have hs := h0; clear h0
    exact T_lcmp he (hK _ _ _ _ hs)
  | lshl =>
    obtain ⟨y, r1, rfl, h0⟩ := s1I_e hs; clear hs; have hs := h0; clear h0
    obtain ⟨x, r, rfl, h0⟩ := s1J_e hs; clear hs; have hs := h0; clear h0
    exact T_lshl he (hK _ _ _ _ hs)
  | lushr =>
    obtain ⟨y, r1, rfl, h0⟩ := s1I_e hs; clear hs; have hs := h0; clear h0
    obtain ⟨x, r, rfl, h0⟩ := s1J_e hs; clear hs; have hs := h0; clear h0
    exact T_lushr he (hK _ _ _ _ hs)
  | dup =>
    obtain ⟨v, r, rfl, h0⟩ := s1V_e hs; clear hs; have hs := h0; clear h0
    obtain ⟨h1, h0⟩ := onB_e hs; clear hs; have hs := h0; clear h0
    exact T_dup he (by simpa using h1) (hK _ _ _ _ hs)
  | pop =>
    obtain ⟨v, r, rfl, h0⟩ := s1V_e hs; clear hs; have hs := h0; clear h0
    obtain ⟨h1, h0⟩ := onB_e hs; clear hs; have hs := h0; clear h0
    exact T_pop he (by simpa using h1) (hK _ _ _ _ hs)
  | dup2 =>
    obtain ⟨v, r1, rfl, h0⟩ := s1V_e hs; clear hs; have hs := h0; clear h0
    obtain ⟨w, r, rfl, h0⟩ := s1V_e hs; clear hs; have hs := h0; clear h0
    obtain ⟨h1, h0⟩ := onB_e hs; clear hs; have hs := h0; clear h0
    have h2 : isLg (some v) = false ∧ isLg (some w) = false := by simpa using h1
    exact T_dup2 he h2.1 h2.2 (hK _ _ _ _ hs)
  | ifCond c off =>
    obtain ⟨x, r, rfl, h0⟩ := s1I_e hs; clear hs; have hs := h0; clear h0
    by_cases hz : ∃ t : Nat, (pc : Int) + off = (t : Int)
    · obtain ⟨t, ht⟩ := hz
      have hj : jmpT pc off (fun t => J t ls r σ) → Tri G h mi nf n t ls r σ Q := fun q => by
        obtain ⟨t2, q1, q2⟩ := jmpT_e q
        have : t2 = t := by omega
        subst this
        exact hJ _ _ _ _ q2
      cases c with
      | eq => exact T_if_eq he ht (fun q => hj (hs.1 q)) (fun q => hK _ _ _ _ (hs.2 q))
      | ne => exact T_if_ne he ht (fun q => hj (hs.1 q)) (fun q => hK _ _ _ _ (hs.2 q))
      | lt => exact T_if_lt he ht (fun q => hj (hs.1 q)) (fun q => hK _ _ _ _ (hs.2 q))
      | ge => exact T_if_ge he ht (fun q => hj (hs.1 q)) (fun q => hK _ _ _ _ (hs.2 q))
      | gt => exact T_if_gt he ht (fun q => hj (hs.1 q)) (fun q => hK _ _ _ _ (hs.2 q))
      | le => exact T_if_le he ht (fun q => hj (hs.1 q)) (fun q => hK _ _ _ _ (hs.2 q))
    · exact absurd (hto off ⟨c, Or.inl rfl⟩) hz
  | if_icmp c off =>
    obtain ⟨y, r1, rfl, h0⟩ := s1I_e hs; clear hs; have hs := h0; clear h0
    obtain ⟨x, r, rfl, h0⟩ := s1I_e hs; clear hs; have hs := h0; clear h0
    by_cases hz : ∃ t : Nat, (pc : Int) + off = (t : Int)
    · obtain ⟨t, ht⟩ := hz
      have hj : jmpT pc off (fun t => J t ls r σ) → Tri G h mi nf n t ls r σ Q := fun q => by
        obtain ⟨t2, q1, q2⟩ := jmpT_e q
        have : t2 = t := by omega
        subst this
        exact hJ _ _ _ _ q2
      cases c with
      | eq => exact T_icmp_eq he ht (fun q => hj (hs.1 q)) (fun q => hK _ _ _ _ (hs.2 q))
      | ne => exact T_icmp_ne he ht (fun q => hj (hs.1 q)) (fun q => hK _ _ _ _ (hs.2 q))
      | lt => exact T_icmp_lt he ht (fun q => hj (hs.1 q)) (fun q => hK _ _ _ _ (hs.2 q))
      | ge => exact T_icmp_ge he ht (fun q => hj (hs.1 q)) (fun q => hK _ _ _ _ (hs.2 q))
      | gt => exact T_icmp_gt he ht (fun q => hj (hs.1 q)) (fun q => hK _ _ _ _ (hs.2 q))
      | le => exact T_icmp_le he ht (fun q => hj (hs.1 q)) (fun q => hK _ _ _ _ (hs.2 q))
    · exact absurd (hto off ⟨c, Or.inr rfl⟩) hz
  | goto off =>
    obtain ⟨t, ht, h0⟩ := jmpT_e hs; clear hs; have hs := h0; clear h0
    exact T_goto he ht (hJ _ _ _ _ hs)
  | tableswitch d lo hi offs =>
    obtain ⟨x, r, rfl, h0⟩ := s1I_e hs; clear hs; have hs := h0; clear h0
    exact T_tsw he _ (fun o q => by obtain ⟨t, ht, q⟩ := jmpT_e q; exact ⟨t, ht, hJ _ _ _ _ q⟩) hs.1 hs.2
  | lookupswitch d ps =>
    obtain ⟨x, r, rfl, h0⟩ := s1I_e hs; clear hs; have hs := h0; clear h0
    exact T_lsw he (fun o => jmpT pc o fun t => J t ls r σ) (fun o q => by obtain ⟨t, ht, q⟩ := jmpT_e q; exact ⟨t, ht, hJ _ _ _ _ q⟩) hs.1 hs.2
  | iaload =>
    obtain ⟨i, r1, rfl, h0⟩ := s1I_e hs; clear hs; have hs := h0; clear h0
    obtain ⟨k, r, rfl, h0⟩ := s1R_e hs; clear hs; have hs := h0; clear h0
    cases hb4 : Nat.beq k 4000 with
    | true =>
      rw [hb4] at hs
      obtain rfl := Nat.eq_of_beq_eq_true hb4
      exact T_sld he hs.1 (hK _ _ _ _ hs.2)
    | false =>
      rw [hb4] at hs
      obtain ⟨L, h1, h0⟩ := onS_e hs; clear hs; have hs := h0; clear h0
      exact T_iaload he h1 hs.1 (hK _ _ _ _ hs.2)
  | baload =>
    obtain ⟨i, r1, rfl, h0⟩ := s1I_e hs; clear hs; have hs := h0; clear h0
    obtain ⟨k, r, rfl, h0⟩ := s1R_e hs; clear hs; have hs := h0; clear h0
    cases hb4 : Nat.blt k 3000 with
    | true =>
      rw [hb4] at hs
      obtain ⟨L, h1, h0⟩ := onS_e hs; clear hs; have hs := h0; clear h0
      unfold shB at h1
      cases h2 : shIs n k 2 with
      | some L2 =>
        rw [h2] at h1
        obtain rfl := Option.some.inj h1
        exact T_baload (Or.inl rfl) he h2 hs.1 (hK _ _ _ _ hs.2)
      | none =>
        rw [h2] at h1
        exact T_baload (Or.inr rfl) he h1 hs.1 (hK _ _ _ _ hs.2)
    | false =>
      rw [hb4] at hs
      dsimp only at hs
      obtain ⟨h1, h0⟩ := onB_e hs; clear hs; have hs := h0; clear h0
      have h3 : ¬ k < 3000 := fun q => by have := Nat.ble_eq_true_of_le (Nat.succ_le_of_lt q); rw [show Nat.ble (k + 1) 3000 = Nat.blt k 3000 from rfl, hb4] at this; cases this
      obtain ⟨j, rfl⟩ : ∃ j, k = 3000 + j := ⟨k - 3000, by omega⟩
      rw [show 3000 + j - 3000 = j by omega] at hs h1
      exact T_baloadS (Nat.le_of_ble_eq_true h1) he hs.1 (hK _ _ _ _ hs.2)
  | laload =>
    obtain ⟨i, r1, rfl, h0⟩ := s1I_e hs; clear hs; have hs := h0; clear h0
    obtain ⟨k, r, rfl, h0⟩ := s1R_e hs; clear hs; have hs := h0; clear h0
    obtain ⟨L, h1, h0⟩ := onS_e hs; clear hs; have hs := h0; clear h0
    exact T_laload he h1 hs.1 (hK _ _ _ _ hs.2)
  | iastore =>
    obtain ⟨x, r2, rfl, h0⟩ := s1I_e hs; clear hs; have hs := h0; clear h0
    obtain ⟨i, r1, rfl, h0⟩ := s1I_e hs; clear hs; have hs := h0; clear h0
    obtain ⟨k, r, rfl, h0⟩ := s1R_e hs; clear hs; have hs := h0; clear h0
    obtain ⟨L, h1, h0⟩ := onS_e hs; clear hs; have hs := h0; clear h0
    exact T_iastore he h1 hs.1 (hK _ _ _ _ hs.2)
  | bastore =>
    obtain ⟨x, r2, rfl, h0⟩ := s1I_e hs; clear hs; have hs := h0; clear h0
    obtain ⟨i, r1, rfl, h0⟩ := s1I_e hs; clear hs; have hs := h0; clear h0
    obtain ⟨k, r, rfl, h0⟩ := s1R_e hs; clear hs; have hs := h0; clear h0
    cases hb4 : Nat.beq (sh k).1 3 with
    | true =>
      rw [hb4] at hs
      obtain ⟨L, h1, h0⟩ := onS_e hs; clear hs; have hs := h0; clear h0
      exact T_zastore he h1 hs.1 hs.2.1 (hK _ _ _ _ hs.2.2)
    | false =>
      rw [hb4] at hs
      obtain ⟨L, h1, h0⟩ := onS_e hs; clear hs; have hs := h0; clear h0
      exact T_bastore he h1 hs.1 (hK _ _ _ _ hs.2)
  | lastore =>
    obtain ⟨x, r2, rfl, h0⟩ := s1J_e hs; clear hs; have hs := h0; clear h0
    obtain ⟨i, r1, rfl, h0⟩ := s1I_e hs; clear hs; have hs := h0; clear h0
    obtain ⟨k, r, rfl, h0⟩ := s1R_e hs; clear hs; have hs := h0; clear h0
    obtain ⟨L, h1, h0⟩ := onS_e hs; clear hs; have hs := h0; clear h0
    exact T_lastore he h1 hs.1 (hK _ _ _ _ hs.2)
  | arraylength =>
    obtain ⟨k, r, rfl, h0⟩ := s1R_e hs; clear hs; have hs := h0; clear h0
    cases hb4 : Nat.blt k 3000 with
    | true =>
      rw [hb4] at hs
      obtain ⟨L, h1, h0⟩ := onS_e hs; clear hs; have hs := h0; clear h0
      exact T_alen he h1 (hK _ _ _ _ hs)
    | false =>
      rw [hb4] at hs
      have h3 : ¬ k < 3000 := fun q => by have := Nat.ble_eq_true_of_le (Nat.succ_le_of_lt q); rw [show Nat.ble (k + 1) 3000 = Nat.blt k 3000 from rfl, hb4] at this; cases this
      cases hb5 : Nat.beq k 4000 with
      | true =>
        rw [hb5] at hs
        obtain rfl := Nat.eq_of_beq_eq_true hb5
        exact T_slen he (hK _ _ _ _ hs)
      | false =>
        rw [hb5] at hs
        dsimp only at hs
        obtain ⟨h1, h0⟩ := onB_e hs; clear hs; have hs := h0; clear h0
        obtain ⟨j, rfl⟩ : ∃ j, k = 3000 + j := ⟨k - 3000, by omega⟩
        rw [show 3000 + j - 3000 = j by omega] at hs h1
        exact T_alenS (Nat.le_of_ble_eq_true h1) he (hK _ _ _ _ hs)
  | getstatic _ =>
    exact T_gets he (hK _ _ _ _ hs)
  | getfield _ =>
    obtain ⟨k, r, rfl, h0⟩ := s1R_e hs; clear hs; have hs := h0; clear h0
    cases hb4 : Nat.beq a 100 with
    | true =>
      rw [hb4] at hs
      obtain ⟨h1, h0⟩ := onB_e hs; clear hs; have hs := h0; clear h0
      obtain rfl := Nat.eq_of_beq_eq_true hb4
      have h2 := (Bool.and_eq_true _ _).mp h1
      have h3 := Nat.le_of_ble_eq_true h2.1
      obtain ⟨j, rfl⟩ : ∃ j, k = 2000 + j := ⟨k - 2000, by omega⟩
      rw [show 2000 + j - 2000 = j by omega] at hs h2
      exact T_getS (Nat.le_of_ble_eq_true h2.2) he (hK _ _ _ _ hs)
    | false =>
      rw [hb4] at hs
      obtain ⟨h1, h0⟩ := onB_e hs; clear hs; have hs := h0; clear h0
      exact T_get he h1 (hK _ _ _ _ hs)
  | putfield _ =>
    dsimp only [stepF] at hs
    cases hf : fk a b.toNat with
    | zero =>
      rw [hf] at hs
      obtain ⟨x, r1, rfl, h0⟩ := s1I_e hs; clear hs; have hs := h0; clear h0
      obtain ⟨k, r, rfl, h0⟩ := s1R_e hs; clear hs; have hs := h0; clear h0
      obtain ⟨h1, h0⟩ := onB_e hs; clear hs; have hs := h0; clear h0
      exact T_putI he h1 hf (hK _ _ _ _ hs)
    | succ c =>
      rw [hf] at hs
      match c, hf, hs with
      | 0, hf, hs =>
        obtain ⟨x, r1, rfl, h0⟩ := s1R_e hs; clear hs; have hs := h0; clear h0
        obtain ⟨k, r, rfl, h0⟩ := s1R_e hs; clear hs; have hs := h0; clear h0
        obtain ⟨h1, h0⟩ := onB_e hs; clear hs; have hs := h0; clear h0
        exact T_putR he h1 hf (hK _ _ _ _ hs)
      | 1, hf, hs =>
        obtain ⟨x, r1, rfl, h0⟩ := s1I_e hs; clear hs; have hs := h0; clear h0
        obtain ⟨k, r, rfl, h0⟩ := s1R_e hs; clear hs; have hs := h0; clear h0
        obtain ⟨h1, h0⟩ := onB_e hs; clear hs; have hs := h0; clear h0
        exact T_putZ he h1 hf hs.1 (hK _ _ _ _ hs.2)
      | c + 2, hf, hs => exact False.elim hs
  | invokevirtual _ =>
    obtain ⟨h1, h0⟩ := onB_e hs; clear hs; have hs := h0; clear h0
    have h2 := (Bool.and_eq_true _ _).mp h1
    have ha := Nat.le_of_ble_eq_true h2.1
    have hm := Nat.eq_of_beq_eq_true h2.2
    obtain ⟨av, st', hl, rfl, h0⟩ := popA_e hs; clear hs; have hs := h0; clear h0
    rw [List.append_nil] at hs
    obtain ⟨k, r, rfl, h0⟩ := s1R_e hs; clear hs; have hs := h0; clear h0
    obtain ⟨h3, h0⟩ := onB_e hs; clear hs; have hs := h0; clear h0
    obtain ⟨Q', hcat, hnf9, hM, hq⟩ := callK_e hs
    refine T_callV (c0 := 0) he ha hl hm ?_ hcat (Nat.le_add_right _ _) hnf9 hM (fun r' σ' q1 q2 => hK _ _ _ _ (hq r' σ' q1 q2).2)
    unfold recv at h3
    cases hb4 : Nat.blt k 1000 with
    | true =>
      rw [hb4] at h3
      exact rc_o ha h3 (Nat.le_of_ble_eq_true hb4)
    | false =>
      rw [hb4] at h3
      have h4 := (Bool.and_eq_true _ _).mp h3
      have h5 := (Bool.and_eq_true _ _).mp h4.2
      have h6 := Nat.le_of_ble_eq_true h5.1
      obtain ⟨j, rfl⟩ : ∃ j, k = 2000 + j := ⟨k - 2000, by omega⟩
      rw [show 2000 + j - 2000 = j by omega] at h5
      exact rc_s (Nat.le_of_ble_eq_true h5.2) (by rw [oc_ok a (by show a < 270; omega), Nat.eq_of_beq_eq_true h4.1]; rfl)
  | invokestatic _ =>
    dsimp only [stepF] at hs
    cases hb4 : Nat.beq a 998 with
    | true =>
      rw [hb4] at hs
      obtain rfl := Nat.eq_of_beq_eq_true hb4
      obtain ⟨cl, r1, rfl, h0⟩ := s1I_e hs; clear hs; have hs := h0; clear h0
      obtain ⟨dp, r2, rfl, h0⟩ := s1I_e hs; clear hs; have hs := h0; clear h0
      obtain ⟨d, r3, rfl, h0⟩ := s1R_e hs; clear hs; have hs := h0; clear h0
      obtain ⟨sp, r4, rfl, h0⟩ := s1I_e hs; clear hs; have hs := h0; clear h0
      obtain ⟨x, r, rfl, h0⟩ := s1R_e hs; clear hs; have hs := h0; clear h0
      obtain ⟨h1, h0⟩ := onB_e hs; clear hs; have hs := h0; clear h0
      have h2 := (Bool.and_eq_true _ _).mp h1
      exact T_acopy he hs.1 (Nat.le_of_ble_eq_true h2.1) h2.2 hs.2.1 (hK _ _ _ _ hs.2.2)
    | false =>
      rw [hb4] at hs
      obtain ⟨h1, h0⟩ := onB_e hs; clear hs; have hs := h0; clear h0
      have h2 := (Bool.and_eq_true _ _).mp h1
      have ha := Nat.le_of_ble_eq_true h2.1
      have hm := Nat.eq_of_beq_eq_true h2.2
      obtain ⟨av, st', hl, rfl, h0⟩ := popA_e hs; clear hs; have hs := h0; clear h0
      rw [List.append_nil] at hs
      obtain ⟨Q', hcat, hnf9, hM, hq⟩ := callK_e hs
      exact T_callS he ha hl hm hcat (Nat.le_add_right _ _) hnf9 hM (fun r' σ' q1 q2 => hK _ _ _ _ (hq r' σ' q1 q2).2)
  | invokespecial _ =>
    dsimp only [stepF] at hs
    cases hb4 : Nat.beq a 999 with
    | true =>
      rw [hb4] at hs
      obtain rfl := Nat.eq_of_beq_eq_true hb4
      obtain ⟨k, r, rfl, h0⟩ := s1R_e hs; clear hs; have hs := h0; clear h0
      obtain ⟨h1, h0⟩ := onB_e hs; clear hs; have hs := h0; clear h0
      have h2 := (Bool.and_eq_true _ _).mp h1
      exact T_oinit he (Nat.le_of_ble_eq_true h2.1) hs.1 (Nat.le_of_ble_eq_true h2.2) (hK _ _ _ _ hs.2)
    | false =>
      rw [hb4] at hs
      obtain ⟨h1, h0⟩ := onB_e hs; clear hs; have hs := h0; clear h0
      have h2 := (Bool.and_eq_true _ _).mp h1
      have ha := Nat.le_of_ble_eq_true h2.1
      have hm := Nat.eq_of_beq_eq_true h2.2
      obtain ⟨av, st', hl, rfl, h0⟩ := popA_e hs; clear hs; have hs := h0; clear h0
      rw [List.append_nil] at hs
      obtain ⟨k, r, rfl, h0⟩ := s1R_e hs; clear hs; have hs := h0; clear h0
      obtain ⟨h3, h0⟩ := onB_e hs; clear hs; have hs := h0; clear h0
      obtain ⟨Q', hcat, hnf9, hM, hq⟩ := callK_e hs
      exact T_callI (c0 := 0) he ha hl hm (Nat.le_of_ble_eq_true h3) hcat (Nat.le_add_right _ _) hnf9 hM (fun r' σ' q1 q2 => hK _ _ _ _ (hq r' σ' q1 q2).2)
  | new _ =>
    obtain ⟨h1, h0⟩ := onB_e hs; clear hs; have hs := h0; clear h0
    have h2 := (Bool.and_eq_true _ _).mp h1
    exact T_new he (Nat.le_of_ble_eq_true h2.1) (Nat.eq_of_beq_eq_true h2.2) (hK _ _ _ _ hs)
  | newarray t =>
    obtain ⟨x, r, rfl, h0⟩ := s1I_e hs; clear hs; have hs := h0; clear h0
    obtain ⟨h1, h0⟩ := onB_e hs; clear hs; have hs := h0; clear h0
    have h2 := (Bool.and_eq_true _ _).mp h1
    have h3 := (Bool.and_eq_true _ _).mp h2.2
    exact T_newa he (Nat.le_of_ble_eq_true h2.1) (Nat.eq_of_beq_eq_true h3.1) (of_decide_eq_true h3.2) (hK _ _ _ _ hs)
  | return_ =>
    obtain ⟨rfl, h0⟩ := nil0_e hs; clear hs; have hs := h0; clear h0
    obtain ⟨h1, h0⟩ := onB_e hs; clear hs; have hs := h0; clear h0
    have h2 := (Bool.and_eq_true _ _).mp h1
    exact T_ret he (Nat.eq_of_beq_eq_true h2.2) (Nat.eq_of_beq_eq_true h2.1) hs
  | ireturn =>
    obtain ⟨x, r, rfl, h0⟩ := s1I_e hs; clear hs; have hs := h0; clear h0
    obtain ⟨rfl, h0⟩ := nil0_e hs; clear hs; have hs := h0; clear h0
    obtain ⟨h1, h0⟩ := onB_e hs; clear hs; have hs := h0; clear h0
    have hnn := Nat.eq_of_beq_eq_true h1
    match hr : rt mi, hs with
    | 0, hs => exact False.elim hs
    | 1, hs => exact T_iret he hnn (Or.inl hr) hs
    | 2, hs => exact False.elim hs
    | 3, hs => exact False.elim hs
    | 4, hs => exact T_iret he hnn (Or.inr (Or.inl ⟨hr, hs.1⟩)) hs.2
    | 5, hs => exact T_iret he hnn (Or.inr (Or.inr (Or.inl ⟨hr, hs.1⟩))) hs.2
    | 6, hs => exact T_iret he hnn (Or.inr (Or.inr (Or.inr ⟨hr, hs.1⟩))) hs.2
    | c + 7, hs => exact False.elim hs
  | lreturn =>
    obtain ⟨x, r, rfl, h0⟩ := s1J_e hs; clear hs; have hs := h0; clear h0
    obtain ⟨rfl, h0⟩ := nil0_e hs; clear hs; have hs := h0; clear h0
    obtain ⟨h1, h0⟩ := onB_e hs; clear hs; have hs := h0; clear h0
    have h2 := (Bool.and_eq_true _ _).mp h1
    exact T_lret he (Nat.eq_of_beq_eq_true h2.2) (Nat.eq_of_beq_eq_true h2.1) hs
  | areturn =>
    obtain ⟨x, r, rfl, h0⟩ := s1R_e hs; clear hs; have hs := h0; clear h0
    obtain ⟨rfl, h0⟩ := nil0_e hs; clear hs; have hs := h0; clear h0
    obtain ⟨h1, h0⟩ := onB_e hs; clear hs; have hs := h0; clear h0
    have h2 := (Bool.and_eq_true _ _).mp h1
    exact T_aret he (Nat.eq_of_beq_eq_true h2.2) (Nat.eq_of_beq_eq_true h2.1) hs
  | _ => exact False.elim hs
def wpf (G : Ctx) (h mi nf : Nat) (code : List Ent) (cuts : List (Nat × List Bool)) (Q : MP) : Nat → Bool → Nat → List Ent → Nat → ML → List MV → MS → Prop
  | 0, _, _, _, _, _, _, _ => False
  | _ + 1, _, _, [], _, _, _, _ => False
  | f + 1, first, pc, (pc0, ins, len, a, b) :: r, n, ls, st, σ => onB (Nat.beq pc0 pc) (onC (cutAt cuts first pc) (fun ms => Tri G h mi nf n pc (maskL ms ls) st σ Q)
      (stepF G h mi nf Q ins pc a b n ls st σ (fun n ls st σ => wpf G h mi nf code cuts Q f false (pc + len) r n ls st σ) (fun t ls st σ => wpf G h mi nf code cuts Q f false t (seek t code) n ls st σ)))
def offOK (pc : Nat) : Instr → Bool
  | .ifCond _ off => decide (0 ≤ (pc : Int) + off)
  | .if_icmp _ off => decide (0 ≤ (pc : Int) + off)
  | _ => true
def chkE (mi : Nat) (q : Ent) : Bool := decide (decode (bM mi) q.1 = .ok (q.2.1, q.2.2.1)) && ((decide (insLen q.2.1 = 0) || decide (q.2.2.1 = insLen q.2.1)) && (chkL mi q.2.1 q.2.2.2.1 q.2.2.2.2 && offOK q.1 q.2.1))
def codeOK (mi : Nat) (code : List Ent) : Prop := mi < NM ∧ code.all (chkE mi) = true
theorem codeOK.at {mi : Nat} {code : List Ent} (h : codeOK mi code) {q : Ent} (hq : q ∈ code) : EOK mi q ∧ offOK q.1 q.2.1 = true := by
  have h1 := List.all_eq_true.mp h.2 q hq
  unfold chkE at h1
  simp only [Bool.and_eq_true, Bool.or_eq_true, decide_eq_true_eq] at h1
  exact ⟨⟨h.1, h1.1, h1.2.1, h1.2.2.1⟩, h1.2.2.2⟩
theorem seek_sub {t : Nat} {code : List Ent} {e : Ent} (h : e ∈ seek t code) : e ∈ code := by
  induction code with
  | nil => exact h
  | cons x r ih =>
    unfold seek at h
    cases hb : Nat.beq x.1 t with
    | true => rw [hb] at h; exact h
    | false => rw [hb] at h; exact List.mem_cons_of_mem _ (ih h)
theorem wpf_ok {G : Ctx} {h mi nf : Nat} {code : List Ent} {cuts : List (Nat × List Bool)} {Q : MP} (hc : codeOK mi code) : ∀ (f : Nat) (first : Bool) (pc : Nat) (rest : List Ent) (n : Nat) (ls : ML) (st : List MV) (σ : MS), (∀ e ∈ rest, e ∈ code) → wpf G h mi nf code cuts Q f first pc rest n ls st σ → Tri G h mi nf n pc ls st σ Q := by
  intro f
  induction f with
  | zero => intro first pc rest n ls st σ _ hw; exact False.elim hw
  | succ f ih =>
    intro first pc rest n ls st σ hr hw
    cases rest with
    | nil => exact False.elim hw
    | cons q r =>
      obtain ⟨pc0, ins, len, a, b⟩ := q
      have hw : onB (Nat.beq pc0 pc) (onC (cutAt cuts first pc) (fun ms => Tri G h mi nf n pc (maskL ms ls) st σ Q) (stepF G h mi nf Q ins pc a b n ls st σ (fun n ls st σ => wpf G h mi nf code cuts Q f false (pc + len) r n ls st σ) (fun t ls st σ => wpf G h mi nf code cuts Q f false t (seek t code) n ls st σ))) := hw
      obtain ⟨h1, hw⟩ := onB_e hw
      obtain rfl := Nat.eq_of_beq_eq_true h1
      obtain ⟨he, ho⟩ := hc.at (hr _ List.mem_cons_self)
      cases hcut : cutAt cuts first pc0 with
      | some ms =>
        rw [hcut] at hw
        exact Tri.mask ms hw
      | none =>
        rw [hcut] at hw
        refine stepF_ok he (fun off hi => ?_) (fun n ls st σ q => ih false _ r n ls st σ (fun e he => hr e (List.mem_cons_of_mem _ he)) q) (fun t ls st σ q => ih false t (seek t code) n ls st σ (fun e he => seek_sub he) q) hw
        obtain ⟨c, rfl | rfl⟩ := hi
        · have : 0 ≤ (pc0 : Int) + off := of_decide_eq_true ho
          exact ⟨((pc0 : Int) + off).toNat, by omega⟩
        · have : 0 ≤ (pc0 : Int) + off := of_decide_eq_true ho
          exact ⟨((pc0 : Int) + off).toNat, by omega⟩
/-- from a place of the code on -/
theorem wp_at {G : Ctx} {h mi nf n pc : Nat} {ls : ML} {st : List MV} {σ : MS} {Q : MP} {code : List Ent} (hc : codeOK mi code) (cuts : List (Nat × List Bool)) (f : Nat) (hw : wpf G h mi nf code cuts Q f true pc (seek pc code) n ls st σ) : Tri G h mi nf n pc ls st σ Q := wpf_ok hc f true pc (seek pc code) n ls st σ (fun _ h => seek_sub h) hw
end
section
/-- java/util/Arrays.fill([II)V -/
def cd0 : List Ent := [(0, .iconst 0, 1, 0, 0), (1, .istore_n 2, 1, 0, 0), (2, .aload_n 0, 1, 0, 0), (3, .arraylength, 1, 0, 0), (4, .istore_n 3, 1, 0, 0), (5, .iload_n 2, 1, 0, 0), (6, .iload_n 3, 1, 0, 0), (7, .if_icmp .ge 13, 3, 0, 0), (10, .aload_n 0, 1, 0, 0), (11, .iload_n 2, 1, 0, 0), (12, .iload_n 1, 1, 0, 0), (13, .iastore, 1, 0, 0), (14, .iinc 2 1, 3, 0, 0), (17, .goto (-12), 3, 0, 0), (20, .return_, 1, 0, 0)]
set_option maxRecDepth 100000 in
theorem ck0 : codeOK 0 cd0 := ⟨by decide, by decide +kernel⟩
/-- java/util/Arrays.fill([JJ)V -/
def cd1 : List Ent := [(0, .iconst 0, 1, 0, 0), (1, .istore_n 3, 1, 0, 0), (2, .aload_n 0, 1, 0, 0), (3, .arraylength, 1, 0, 0), (4, .istore 4, 2, 0, 0), (6, .iload_n 3, 1, 0, 0), (7, .iload 4, 2, 0, 0), (9, .if_icmp .ge 13, 3, 0, 0), (12, .aload_n 0, 1, 0, 0), (13, .iload_n 3, 1, 0, 0), (14, .lload_n 1, 1, 0, 0), (15, .lastore, 1, 0, 0), (16, .iinc 3 1, 3, 0, 0), (19, .goto (-13), 3, 0, 0), (22, .return_, 1, 0, 0)]
set_option maxRecDepth 100000 in
theorem ck1 : codeOK 1 cd1 := ⟨by decide, by decide +kernel⟩
/-- java/lang/Math.abs(I)I -/
def cd2 : List Ent := [(0, .iload_n 0, 1, 0, 0), (1, .ifCond .ge 8, 3, 0, 0), (4, .iload_n 0, 1, 0, 0), (5, .ineg, 1, 0, 0), (6, .goto 4, 3, 0, 0), (9, .iload_n 0, 1, 0, 0), (10, .ireturn, 1, 0, 0)]
set_option maxRecDepth 100000 in
theorem ck2 : codeOK 2 cd2 := ⟨by decide, by decide +kernel⟩
/-- java/lang/Math.min(II)I -/
def cd3 : List Ent := [(0, .iload_n 0, 1, 0, 0), (1, .iload_n 1, 1, 0, 0), (2, .if_icmp .gt 7, 3, 0, 0), (5, .iload_n 0, 1, 0, 0), (6, .goto 4, 3, 0, 0), (9, .iload_n 1, 1, 0, 0), (10, .ireturn, 1, 0, 0)]
set_option maxRecDepth 100000 in
theorem ck3 : codeOK 3 cd3 := ⟨by decide, by decide +kernel⟩
/-- java/lang/String.length()I -/
def cd4 : List Ent := [(0, .aload_n 0, 1, 0, 0), (1, .getfield 9, 3, 100, 0), (4, .arraylength, 1, 0, 0), (5, .aload_n 0, 1, 0, 0), (6, .invokevirtual 335, 3, 5, 0), (9, .ishr, 1, 0, 0), (10, .ireturn, 1, 0, 0)]
set_option maxRecDepth 100000 in
theorem ck4 : codeOK 4 cd4 := ⟨by decide, by decide +kernel⟩
/-- java/lang/String.coder()B -/
def cd5 : List Ent := [(0, .getstatic 38, 3, 0, 0), (3, .ifCond .eq 10, 3, 0, 0), (6, .aload_n 0, 1, 0, 0), (7, .getfield 15, 3, 100, 1), (10, .goto 4, 3, 0, 0), (13, .iconst 1, 1, 0, 0), (14, .ireturn, 1, 0, 0)]
set_option maxRecDepth 100000 in
theorem ck5 : codeOK 5 cd5 := ⟨by decide, by decide +kernel⟩
/-- java/lang/String.charAt(I)C -/
def cd6 : List Ent := [(0, .aload_n 0, 1, 0, 0), (1, .invokevirtual 492, 3, 7, 0), (4, .ifCond .eq 12, 3, 0, 0), (7, .aload_n 0, 1, 0, 0), (8, .getfield 9, 3, 100, 0), (11, .iload_n 1, 1, 0, 0), (12, .invokestatic 495, 3, 8, 0), (15, .ireturn, 1, 0, 0), (16, .aload_n 0, 1, 0, 0), (17, .getfield 9, 3, 100, 0), (20, .iload_n 1, 1, 0, 0), (24, .ireturn, 1, 0, 0)]
set_option maxRecDepth 100000 in
theorem ck6 : codeOK 6 cd6 := ⟨by decide, by decide +kernel⟩
/-- java/lang/String.isLatin1()Z -/
def cd7 : List Ent := [(0, .getstatic 38, 3, 0, 0), (3, .ifCond .eq 14, 3, 0, 0), (6, .aload_n 0, 1, 0, 0), (7, .getfield 15, 3, 100, 1), (10, .ifCond .ne 7, 3, 0, 0), (13, .iconst 1, 1, 0, 0), (14, .goto 4, 3, 0, 0), (17, .iconst 0, 1, 0, 0), (18, .ireturn, 1, 0, 0)]
set_option maxRecDepth 100000 in
theorem ck7 : codeOK 7 cd7 := ⟨by decide, by decide +kernel⟩
/-- java/lang/StringLatin1.charAt([BI)C -/
def cd8 : List Ent := [(0, .iload_n 1, 1, 0, 0), (1, .aload_n 0, 1, 0, 0), (2, .arraylength, 1, 0, 0), (3, .invokestatic 9, 3, 9, 0), (6, .aload_n 0, 1, 0, 0), (7, .iload_n 1, 1, 0, 0), (8, .baload, 1, 0, 0), (9, .sipush 255, 3, 0, 0), (12, .iand, 1, 0, 0), (13, .i2c, 1, 0, 0), (14, .ireturn, 1, 0, 0)]
set_option maxRecDepth 100000 in
theorem ck8 : codeOK 8 cd8 := ⟨by decide, by decide +kernel⟩
/-- java/lang/String.checkIndex(II)V -/
def cd9 : List Ent := [(0, .iload_n 0, 1, 0, 0), (1, .iload_n 1, 1, 0, 0), (2, .getstatic 1053, 3, 1, 0), (5, .invokestatic 1059, 3, 10, 0), (8, .pop, 1, 0, 0), (9, .return_, 1, 0, 0)]
set_option maxRecDepth 100000 in
theorem ck9 : codeOK 9 cd9 := ⟨by decide, by decide +kernel⟩
/-- jdk/internal/util/Preconditions.checkIndex(IILjava/util/function/BiFunction;)I -/
def cd10 : List Ent := [(0, .iload_n 0, 1, 0, 0), (1, .ifCond .lt 8, 3, 0, 0), (4, .iload_n 0, 1, 0, 0), (5, .iload_n 1, 1, 0, 0), (6, .if_icmp .lt 10, 3, 0, 0), (9, .aload_n 2, 1, 0, 0), (10, .iload_n 0, 1, 0, 0), (11, .iload_n 1, 1, 0, 0), (16, .iload_n 0, 1, 0, 0), (17, .ireturn, 1, 0, 0)]
set_option maxRecDepth 100000 in
theorem ck10 : codeOK 10 cd10 := ⟨by decide, by decide +kernel⟩
/-- java/lang/String.indexOf(I)I -/
def cd11 : List Ent := [(0, .aload_n 0, 1, 0, 0), (1, .iload_n 1, 1, 0, 0), (2, .iconst 0, 1, 0, 0), (3, .invokevirtual 633, 3, 12, 0), (6, .ireturn, 1, 0, 0)]
set_option maxRecDepth 100000 in
theorem ck11 : codeOK 11 cd11 := ⟨by decide, by decide +kernel⟩
/-- java/lang/String.indexOf(II)I -/
def cd12 : List Ent := [(0, .aload_n 0, 1, 0, 0), (1, .invokevirtual 492, 3, 7, 0), (4, .ifCond .eq 19, 3, 0, 0), (7, .aload_n 0, 1, 0, 0), (8, .getfield 9, 3, 100, 0), (11, .iload_n 1, 1, 0, 0), (12, .iload_n 2, 1, 0, 0), (13, .aload_n 0, 1, 0, 0), (14, .invokevirtual 505, 3, 4, 0), (17, .invokestatic 637, 3, 13, 0), (20, .goto 16, 3, 0, 0), (23, .aload_n 0, 1, 0, 0), (24, .getfield 9, 3, 100, 0), (27, .iload_n 1, 1, 0, 0), (28, .iload_n 2, 1, 0, 0), (29, .aload_n 0, 1, 0, 0), (30, .invokevirtual 505, 3, 4, 0), (36, .ireturn, 1, 0, 0)]
set_option maxRecDepth 100000 in
theorem ck12 : codeOK 12 cd12 := ⟨by decide, by decide +kernel⟩
/-- java/lang/StringLatin1.indexOf([BIII)I -/
def cd13 : List Ent := [(0, .iload_n 1, 1, 0, 0), (1, .invokestatic 88, 3, 14, 0), (4, .ifCond .ne 5, 3, 0, 0), (7, .iconst (-1), 1, 0, 0), (8, .ireturn, 1, 0, 0), (9, .iload_n 2, 1, 0, 0), (10, .iconst 0, 1, 0, 0), (11, .invokestatic 92, 3, 15, 0), (14, .istore_n 2, 1, 0, 0), (15, .iload_n 3, 1, 0, 0), (16, .aload_n 0, 1, 0, 0), (17, .arraylength, 1, 0, 0), (18, .invokestatic 38, 3, 3, 0), (21, .istore_n 3, 1, 0, 0), (22, .iload_n 2, 1, 0, 0), (23, .iload_n 3, 1, 0, 0), (24, .if_icmp .lt 5, 3, 0, 0), (27, .iconst (-1), 1, 0, 0), (28, .ireturn, 1, 0, 0), (29, .aload_n 0, 1, 0, 0), (30, .iload_n 1, 1, 0, 0), (31, .iload_n 2, 1, 0, 0), (32, .iload_n 3, 1, 0, 0), (33, .invokestatic 95, 3, 16, 0), (36, .ireturn, 1, 0, 0)]
set_option maxRecDepth 100000 in
theorem ck13 : codeOK 13 cd13 := ⟨by decide, by decide +kernel⟩
/-- java/lang/StringLatin1.canEncode(I)Z -/
def cd14 : List Ent := [(0, .iload_n 0, 1, 0, 0), (1, .ifCond .lt 14, 3, 0, 0), (4, .iload_n 0, 1, 0, 0), (5, .sipush 255, 3, 0, 0), (8, .if_icmp .gt 7, 3, 0, 0), (11, .iconst 1, 1, 0, 0), (12, .goto 4, 3, 0, 0), (15, .iconst 0, 1, 0, 0), (16, .ireturn, 1, 0, 0)]
set_option maxRecDepth 100000 in
theorem ck14 : codeOK 14 cd14 := ⟨by decide, by decide +kernel⟩
/-- java/lang/Math.max(II)I -/
def cd15 : List Ent := [(0, .iload_n 0, 1, 0, 0), (1, .iload_n 1, 1, 0, 0), (2, .if_icmp .lt 7, 3, 0, 0), (5, .iload_n 0, 1, 0, 0), (6, .goto 4, 3, 0, 0), (9, .iload_n 1, 1, 0, 0), (10, .ireturn, 1, 0, 0)]
set_option maxRecDepth 100000 in
theorem ck15 : codeOK 15 cd15 := ⟨by decide, by decide +kernel⟩
/-- java/lang/StringLatin1.indexOfChar([BIII)I -/
def cd16 : List Ent := [(0, .iload_n 1, 1, 0, 0), (1, .i2b, 1, 0, 0), (2, .istore 4, 2, 0, 0), (4, .iload_n 2, 1, 0, 0), (5, .istore 5, 2, 0, 0), (7, .iload 5, 2, 0, 0), (9, .iload_n 3, 1, 0, 0), (10, .if_icmp .ge 21, 3, 0, 0), (13, .aload_n 0, 1, 0, 0), (14, .iload 5, 2, 0, 0), (16, .baload, 1, 0, 0), (17, .iload 4, 2, 0, 0), (19, .if_icmp .ne 6, 3, 0, 0), (22, .iload 5, 2, 0, 0), (24, .ireturn, 1, 0, 0), (25, .iinc 5 1, 3, 0, 0), (28, .goto (-21), 3, 0, 0), (31, .iconst (-1), 1, 0, 0), (32, .ireturn, 1, 0, 0)]
set_option maxRecDepth 100000 in
theorem ck16 : codeOK 16 cd16 := ⟨by decide, by decide +kernel⟩
/-- java/lang/Long.bitCount(J)I -/
def cd17 : List Ent := [(0, .lload_n 0, 1, 0, 0), (1, .lload_n 0, 1, 0, 0), (2, .iconst 1, 1, 0, 0), (3, .lushr, 1, 0, 0), (4, .ldc2_w 314, 3, 0, 6148914691236517205), (7, .land, 1, 0, 0), (8, .lsub, 1, 0, 0), (9, .lstore_n 0, 1, 0, 0), (10, .lload_n 0, 1, 0, 0), (11, .ldc2_w 316, 3, 0, 3689348814741910323), (14, .land, 1, 0, 0), (15, .lload_n 0, 1, 0, 0), (16, .iconst 2, 1, 0, 0), (17, .lushr, 1, 0, 0), (18, .ldc2_w 316, 3, 0, 3689348814741910323), (21, .land, 1, 0, 0), (22, .ladd, 1, 0, 0), (23, .lstore_n 0, 1, 0, 0), (24, .lload_n 0, 1, 0, 0), (25, .lload_n 0, 1, 0, 0), (26, .iconst 4, 1, 0, 0), (27, .lushr, 1, 0, 0), (28, .ladd, 1, 0, 0), (29, .ldc2_w 318, 3, 0, 1085102592571150095), (32, .land, 1, 0, 0), (33, .lstore_n 0, 1, 0, 0), (34, .lload_n 0, 1, 0, 0), (35, .lload_n 0, 1, 0, 0), (36, .bipush 8, 2, 0, 0), (38, .lushr, 1, 0, 0), (39, .ladd, 1, 0, 0), (40, .lstore_n 0, 1, 0, 0), (41, .lload_n 0, 1, 0, 0), (42, .lload_n 0, 1, 0, 0), (43, .bipush 16, 2, 0, 0), (45, .lushr, 1, 0, 0), (46, .ladd, 1, 0, 0), (47, .lstore_n 0, 1, 0, 0), (48, .lload_n 0, 1, 0, 0), (49, .lload_n 0, 1, 0, 0), (50, .bipush 32, 2, 0, 0), (52, .lushr, 1, 0, 0), (53, .ladd, 1, 0, 0), (54, .lstore_n 0, 1, 0, 0), (55, .lload_n 0, 1, 0, 0), (56, .l2i, 1, 0, 0), (57, .bipush 127, 2, 0, 0), (59, .iand, 1, 0, 0), (60, .ireturn, 1, 0, 0)]
set_option maxRecDepth 100000 in
theorem ck17 : codeOK 17 cd17 := ⟨by decide, by decide +kernel⟩
/-- java/lang/Math.floorMod(II)I -/
def cd18 : List Ent := [(0, .iload_n 0, 1, 0, 0), (1, .iload_n 1, 1, 0, 0), (2, .irem, 1, 0, 0), (3, .istore_n 2, 1, 0, 0), (4, .iload_n 0, 1, 0, 0), (5, .iload_n 1, 1, 0, 0), (6, .ixor, 1, 0, 0), (7, .ifCond .ge 11, 3, 0, 0), (10, .iload_n 2, 1, 0, 0), (11, .ifCond .eq 7, 3, 0, 0), (14, .iload_n 2, 1, 0, 0), (15, .iload_n 1, 1, 0, 0), (16, .iadd, 1, 0, 0), (17, .ireturn, 1, 0, 0), (18, .iload_n 2, 1, 0, 0), (19, .ireturn, 1, 0, 0)]
set_option maxRecDepth 100000 in
theorem ck18 : codeOK 18 cd18 := ⟨by decide, by decide +kernel⟩
/-- java/lang/Long.numberOfTrailingZeros(J)I -/
def cd19 : List Ent := [(0, .lload_n 0, 1, 0, 0), (1, .l2i, 1, 0, 0), (2, .istore_n 2, 1, 0, 0), (3, .iload_n 2, 1, 0, 0), (4, .ifCond .ne 17, 3, 0, 0), (7, .bipush 32, 2, 0, 0), (9, .lload_n 0, 1, 0, 0), (10, .bipush 32, 2, 0, 0), (12, .lushr, 1, 0, 0), (13, .l2i, 1, 0, 0), (14, .invokestatic 311, 3, 20, 0), (17, .iadd, 1, 0, 0), (18, .goto 7, 3, 0, 0), (21, .iload_n 2, 1, 0, 0), (22, .invokestatic 311, 3, 20, 0), (25, .ireturn, 1, 0, 0)]
set_option maxRecDepth 100000 in
theorem ck19 : codeOK 19 cd19 := ⟨by decide, by decide +kernel⟩
/-- java/lang/Integer.numberOfTrailingZeros(I)I -/
def cd20 : List Ent := [(0, .iload_n 0, 1, 0, 0), (1, .iconst (-1), 1, 0, 0), (2, .ixor, 1, 0, 0), (3, .iload_n 0, 1, 0, 0), (4, .iconst 1, 1, 0, 0), (5, .isub, 1, 0, 0), (6, .iand, 1, 0, 0), (7, .istore_n 0, 1, 0, 0), (8, .iload_n 0, 1, 0, 0), (9, .ifCond .gt 8, 3, 0, 0), (12, .iload_n 0, 1, 0, 0), (13, .bipush 32, 2, 0, 0), (15, .iand, 1, 0, 0), (16, .ireturn, 1, 0, 0), (17, .iconst 1, 1, 0, 0), (18, .istore_n 1, 1, 0, 0), (19, .iload_n 0, 1, 0, 0), (20, .ldc_w 264, 3, 0, 65536), (23, .if_icmp .le 11, 3, 0, 0), (26, .iinc 1 16, 3, 0, 0), (29, .iload_n 0, 1, 0, 0), (30, .bipush 16, 2, 0, 0), (32, .iushr, 1, 0, 0), (33, .istore_n 0, 1, 0, 0), (34, .iload_n 0, 1, 0, 0), (35, .sipush 256, 3, 0, 0), (38, .if_icmp .le 11, 3, 0, 0), (41, .iinc 1 8, 3, 0, 0), (44, .iload_n 0, 1, 0, 0), (45, .bipush 8, 2, 0, 0), (47, .iushr, 1, 0, 0), (48, .istore_n 0, 1, 0, 0), (49, .iload_n 0, 1, 0, 0), (50, .bipush 16, 2, 0, 0), (52, .if_icmp .le 10, 3, 0, 0), (55, .iinc 1 4, 3, 0, 0), (58, .iload_n 0, 1, 0, 0), (59, .iconst 4, 1, 0, 0), (60, .iushr, 1, 0, 0), (61, .istore_n 0, 1, 0, 0), (62, .iload_n 0, 1, 0, 0), (63, .iconst 4, 1, 0, 0), (64, .if_icmp .le 10, 3, 0, 0), (67, .iinc 1 2, 3, 0, 0), (70, .iload_n 0, 1, 0, 0), (71, .iconst 2, 1, 0, 0), (72, .iushr, 1, 0, 0), (73, .istore_n 0, 1, 0, 0), (74, .iload_n 1, 1, 0, 0), (75, .iload_n 0, 1, 0, 0), (76, .iconst 1, 1, 0, 0), (77, .iushr, 1, 0, 0), (78, .iadd, 1, 0, 0), (79, .ireturn, 1, 0, 0)]
set_option maxRecDepth 100000 in
theorem ck20 : codeOK 20 cd20 := ⟨by decide, by decide +kernel⟩
/-- CountedTwice$Book.<init>()V -/
def cd21 : List Ent := [(0, .aload_n 0, 1, 0, 0), (1, .invokespecial 3, 3, 999, 0), (4, .aload_n 0, 1, 0, 0), (5, .iconst 0, 1, 0, 0), (6, .putfield 9, 3, 0, 0), (9, .aload_n 0, 1, 0, 0), (10, .iconst 0, 1, 0, 0), (11, .putfield 15, 3, 0, 1), (14, .aload_n 0, 1, 0, 0), (15, .iconst (-1), 1, 0, 0), (16, .putfield 18, 3, 0, 2), (19, .aload_n 0, 1, 0, 0), (20, .sipush 720, 3, 0, 0), (23, .newarray .int, 2, 0, 0), (25, .putfield 21, 3, 0, 3), (28, .aload_n 0, 1, 0, 0), (29, .bipush 120, 2, 0, 0), (31, .newarray .int, 2, 0, 0), (33, .putfield 25, 3, 0, 4), (36, .aload_n 0, 1, 0, 0), (37, .bipush 120, 2, 0, 0), (39, .newarray .int, 2, 0, 0), (41, .putfield 28, 3, 0, 5), (44, .aload_n 0, 1, 0, 0), (45, .bipush 120, 2, 0, 0), (47, .newarray .int, 2, 0, 0), (49, .putfield 31, 3, 0, 6), (52, .aload_n 0, 1, 0, 0), (53, .sipush 960, 3, 0, 0), (56, .newarray .byte, 2, 0, 0), (58, .putfield 34, 3, 0, 7), (61, .return_, 1, 0, 0)]
set_option maxRecDepth 100000 in
theorem ck21 : codeOK 21 cd21 := ⟨by decide, by decide +kernel⟩
/-- CountedTwice$Book.copyFrom(LCountedTwice$Book;)V -/
def cd22 : List Ent := [(0, .aload_n 0, 1, 0, 0), (1, .aload_n 1, 1, 0, 0), (2, .getfield 9, 3, 0, 0), (5, .putfield 9, 3, 0, 0), (8, .aload_n 0, 1, 0, 0), (9, .aload_n 1, 1, 0, 0), (10, .getfield 15, 3, 0, 1), (13, .putfield 15, 3, 0, 1), (16, .aload_n 0, 1, 0, 0), (17, .aload_n 1, 1, 0, 0), (18, .getfield 18, 3, 0, 2), (21, .putfield 18, 3, 0, 2), (24, .aload_n 1, 1, 0, 0), (25, .getfield 21, 3, 0, 3), (28, .iconst 0, 1, 0, 0), (29, .aload_n 0, 1, 0, 0), (30, .getfield 21, 3, 0, 3), (33, .iconst 0, 1, 0, 0), (34, .sipush 720, 3, 0, 0), (37, .invokestatic 38, 3, 998, 0), (40, .aload_n 1, 1, 0, 0), (41, .getfield 25, 3, 0, 4), (44, .iconst 0, 1, 0, 0), (45, .aload_n 0, 1, 0, 0), (46, .getfield 25, 3, 0, 4), (49, .iconst 0, 1, 0, 0), (50, .bipush 120, 2, 0, 0), (52, .invokestatic 38, 3, 998, 0), (55, .aload_n 1, 1, 0, 0), (56, .getfield 28, 3, 0, 5), (59, .iconst 0, 1, 0, 0), (60, .aload_n 0, 1, 0, 0), (61, .getfield 28, 3, 0, 5), (64, .iconst 0, 1, 0, 0), (65, .bipush 120, 2, 0, 0), (67, .invokestatic 38, 3, 998, 0), (70, .aload_n 1, 1, 0, 0), (71, .getfield 31, 3, 0, 6), (74, .iconst 0, 1, 0, 0), (75, .aload_n 0, 1, 0, 0), (76, .getfield 31, 3, 0, 6), (79, .iconst 0, 1, 0, 0), (80, .bipush 120, 2, 0, 0), (82, .invokestatic 38, 3, 998, 0), (85, .aload_n 1, 1, 0, 0), (86, .getfield 34, 3, 0, 7), (89, .iconst 0, 1, 0, 0), (90, .aload_n 0, 1, 0, 0), (91, .getfield 34, 3, 0, 7), (94, .iconst 0, 1, 0, 0), (95, .sipush 960, 3, 0, 0), (98, .invokestatic 38, 3, 998, 0), (101, .return_, 1, 0, 0)]
set_option maxRecDepth 100000 in
theorem ck22 : codeOK 22 cd22 := ⟨by decide, by decide +kernel⟩
/-- CountedTwice$Book.sign([BI)V -/
def cd23 : List Ent := [(0, .aload_n 0, 1, 0, 0), (1, .getfield 9, 3, 0, 0), (4, .bipush 120, 2, 0, 0), (6, .if_icmp .lt 4, 3, 0, 0), (9, .return_, 1, 0, 0), (10, .aload_n 0, 1, 0, 0), (11, .getfield 31, 3, 0, 6), (14, .aload_n 0, 1, 0, 0), (15, .getfield 9, 3, 0, 0), (18, .iload_n 2, 1, 0, 0), (19, .bipush 8, 2, 0, 0), (21, .invokestatic 44, 3, 3, 0), (24, .iastore, 1, 0, 0), (25, .iconst 0, 1, 0, 0), (26, .istore_n 3, 1, 0, 0), (27, .iload_n 3, 1, 0, 0), (28, .bipush 8, 2, 0, 0), (30, .if_icmp .ge 45, 3, 0, 0), (33, .aload_n 0, 1, 0, 0), (34, .getfield 34, 3, 0, 7), (37, .aload_n 0, 1, 0, 0), (38, .getfield 9, 3, 0, 0), (41, .bipush 8, 2, 0, 0), (43, .imul, 1, 0, 0), (44, .iload_n 3, 1, 0, 0), (45, .iadd, 1, 0, 0), (46, .iload_n 3, 1, 0, 0), (47, .iload_n 2, 1, 0, 0), (48, .if_icmp .ge 19, 3, 0, 0), (51, .iload_n 3, 1, 0, 0), (52, .aload_n 1, 1, 0, 0), (53, .arraylength, 1, 0, 0), (54, .if_icmp .ge 13, 3, 0, 0), (57, .aload_n 1, 1, 0, 0), (58, .iload_n 3, 1, 0, 0), (59, .baload, 1, 0, 0), (60, .bipush 97, 2, 0, 0), (62, .isub, 1, 0, 0), (63, .i2b, 1, 0, 0), (64, .goto 4, 3, 0, 0), (67, .iconst 0, 1, 0, 0), (68, .bastore, 1, 0, 0), (69, .iinc 3 1, 3, 0, 0), (72, .goto (-45), 3, 0, 0), (75, .return_, 1, 0, 0)]
set_option maxRecDepth 100000 in
theorem ck23 : codeOK 23 cd23 := ⟨by decide, by decide +kernel⟩
/-- CountedTwice$Book.write(IIIIII)I -/
def cd24 : List Ent := [(0, .aload_n 0, 1, 0, 0), (1, .getfield 9, 3, 0, 0), (4, .bipush 120, 2, 0, 0), (6, .if_icmp .lt 5, 3, 0, 0), (9, .iconst (-1), 1, 0, 0), (10, .ireturn, 1, 0, 0), (11, .aload_n 0, 1, 0, 0), (12, .getfield 9, 3, 0, 0), (15, .bipush 6, 2, 0, 0), (17, .imul, 1, 0, 0), (18, .istore 7, 2, 0, 0), (20, .aload_n 0, 1, 0, 0), (21, .getfield 21, 3, 0, 3), (24, .iload 7, 2, 0, 0), (26, .iconst 0, 1, 0, 0), (27, .iadd, 1, 0, 0), (28, .iload_n 1, 1, 0, 0), (29, .iastore, 1, 0, 0), (30, .aload_n 0, 1, 0, 0), (31, .getfield 21, 3, 0, 3), (34, .iload 7, 2, 0, 0), (36, .iconst 1, 1, 0, 0), (37, .iadd, 1, 0, 0), (38, .iload_n 2, 1, 0, 0), (39, .iastore, 1, 0, 0), (40, .aload_n 0, 1, 0, 0), (41, .getfield 21, 3, 0, 3), (44, .iload 7, 2, 0, 0), (46, .iconst 2, 1, 0, 0), (47, .iadd, 1, 0, 0), (48, .iload_n 3, 1, 0, 0), (49, .iastore, 1, 0, 0), (50, .aload_n 0, 1, 0, 0), (51, .getfield 21, 3, 0, 3), (54, .iload 7, 2, 0, 0), (56, .iconst 3, 1, 0, 0), (57, .iadd, 1, 0, 0), (58, .iload 4, 2, 0, 0), (60, .iastore, 1, 0, 0), (61, .aload_n 0, 1, 0, 0), (62, .getfield 21, 3, 0, 3), (65, .iload 7, 2, 0, 0), (67, .iconst 4, 1, 0, 0), (68, .iadd, 1, 0, 0), (69, .iload 5, 2, 0, 0), (71, .iastore, 1, 0, 0), (72, .aload_n 0, 1, 0, 0), (73, .getfield 21, 3, 0, 3), (76, .iload 7, 2, 0, 0), (78, .iconst 5, 1, 0, 0), (79, .iadd, 1, 0, 0), (80, .iload 6, 2, 0, 0), (82, .iastore, 1, 0, 0), (83, .aload_n 0, 1, 0, 0), (84, .dup, 1, 0, 0), (85, .getfield 15, 3, 0, 1), (88, .iconst 1, 1, 0, 0), (89, .iadd, 1, 0, 0), (90, .putfield 15, 3, 0, 1), (93, .aload_n 0, 1, 0, 0), (94, .getfield 25, 3, 0, 4), (97, .aload_n 0, 1, 0, 0), (98, .getfield 9, 3, 0, 0), (101, .aload_n 0, 1, 0, 0), (102, .getfield 15, 3, 0, 1), (105, .iastore, 1, 0, 0), (106, .aload_n 0, 1, 0, 0), (107, .getfield 28, 3, 0, 5), (110, .aload_n 0, 1, 0, 0), (111, .getfield 9, 3, 0, 0), (114, .iconst (-1), 1, 0, 0), (115, .iastore, 1, 0, 0), (116, .aload_n 0, 1, 0, 0), (117, .dup, 1, 0, 0), (118, .getfield 9, 3, 0, 0), (121, .iconst 1, 1, 0, 0), (122, .iadd, 1, 0, 0), (123, .putfield 9, 3, 0, 0), (126, .aload_n 0, 1, 0, 0), (127, .getfield 9, 3, 0, 0), (130, .iconst 1, 1, 0, 0), (131, .isub, 1, 0, 0), (132, .ireturn, 1, 0, 0)]
set_option maxRecDepth 100000 in
theorem ck24 : codeOK 24 cd24 := ⟨by decide, by decide +kernel⟩
/-- CountedTwice$Book.strike(I)V -/
def cd25 : List Ent := [(0, .iload_n 1, 1, 0, 0), (1, .aload_n 0, 1, 0, 0), (2, .getfield 9, 3, 0, 0), (5, .invokestatic 50, 3, 172, 1), (8, .ifCond .eq 23, 3, 0, 0), (11, .aload_n 0, 1, 0, 0), (12, .dup, 1, 0, 0), (13, .getfield 15, 3, 0, 1), (16, .iconst 1, 1, 0, 0), (17, .iadd, 1, 0, 0), (18, .putfield 15, 3, 0, 1), (21, .aload_n 0, 1, 0, 0), (22, .getfield 28, 3, 0, 5), (25, .iload_n 1, 1, 0, 0), (26, .aload_n 0, 1, 0, 0), (27, .getfield 15, 3, 0, 1), (30, .iastore, 1, 0, 0), (31, .return_, 1, 0, 0)]
set_option maxRecDepth 100000 in
theorem ck25 : codeOK 25 cd25 := ⟨by decide, by decide +kernel⟩
/-- CountedTwice$Book.isVoid(I)Z -/
def cd26 : List Ent := [(0, .iload_n 1, 1, 0, 0), (1, .aload_n 0, 1, 0, 0), (2, .getfield 9, 3, 0, 0), (5, .invokestatic 50, 3, 172, 1), (8, .ifCond .eq 17, 3, 0, 0), (11, .aload_n 0, 1, 0, 0), (12, .getfield 28, 3, 0, 5), (15, .iload_n 1, 1, 0, 0), (16, .iaload, 1, 0, 0), (17, .iconst (-1), 1, 0, 0), (18, .if_icmp .eq 7, 3, 0, 0), (21, .iconst 1, 1, 0, 0), (22, .goto 4, 3, 0, 0), (25, .iconst 0, 1, 0, 0), (26, .ireturn, 1, 0, 0)]
set_option maxRecDepth 100000 in
theorem ck26 : codeOK 26 cd26 := ⟨by decide, by decide +kernel⟩
/-- CountedTwice$Book.isKnown(I)Z -/
def cd27 : List Ent := [(0, .aload_n 0, 1, 0, 0), (1, .getfield 18, 3, 0, 2), (4, .iconst (-1), 1, 0, 0), (5, .if_icmp .ne 10, 3, 0, 0), (8, .aload_n 0, 1, 0, 0), (9, .getfield 15, 3, 0, 1), (12, .goto 7, 3, 0, 0), (15, .aload_n 0, 1, 0, 0), (16, .getfield 18, 3, 0, 2), (19, .istore_n 2, 1, 0, 0), (20, .iload_n 1, 1, 0, 0), (21, .aload_n 0, 1, 0, 0), (22, .getfield 9, 3, 0, 0), (25, .invokestatic 50, 3, 172, 1), (28, .ifCond .eq 37, 3, 0, 0), (31, .aload_n 0, 1, 0, 0), (32, .getfield 25, 3, 0, 4), (35, .iload_n 1, 1, 0, 0), (36, .iaload, 1, 0, 0), (37, .iload_n 2, 1, 0, 0), (38, .if_icmp .gt 27, 3, 0, 0), (41, .aload_n 0, 1, 0, 0), (42, .getfield 28, 3, 0, 5), (45, .iload_n 1, 1, 0, 0), (46, .iaload, 1, 0, 0), (47, .iconst (-1), 1, 0, 0), (48, .if_icmp .eq 13, 3, 0, 0), (51, .iload_n 2, 1, 0, 0), (52, .aload_n 0, 1, 0, 0), (53, .getfield 28, 3, 0, 5), (56, .iload_n 1, 1, 0, 0), (57, .iaload, 1, 0, 0), (58, .if_icmp .ge 7, 3, 0, 0), (61, .iconst 1, 1, 0, 0), (62, .goto 4, 3, 0, 0), (65, .iconst 0, 1, 0, 0), (66, .ireturn, 1, 0, 0)]
set_option maxRecDepth 100000 in
theorem ck27 : codeOK 27 cd27 := ⟨by decide, by decide +kernel⟩
/-- CountedTwice$Book.knownEntries()I -/
def cd28 : List Ent := [(0, .iconst 0, 1, 0, 0), (1, .istore_n 1, 1, 0, 0), (2, .iconst 0, 1, 0, 0), (3, .istore_n 2, 1, 0, 0), (4, .iload_n 2, 1, 0, 0), (5, .aload_n 0, 1, 0, 0), (6, .getfield 9, 3, 0, 0), (9, .if_icmp .ge 20, 3, 0, 0), (12, .aload_n 0, 1, 0, 0), (13, .iload_n 2, 1, 0, 0), (14, .invokevirtual 54, 3, 27, 0), (17, .ifCond .eq 6, 3, 0, 0), (20, .iinc 1 1, 3, 0, 0), (23, .iinc 2 1, 3, 0, 0), (26, .goto (-22), 3, 0, 0), (29, .iload_n 1, 1, 0, 0), (30, .ireturn, 1, 0, 0)]
set_option maxRecDepth 100000 in
theorem ck28 : codeOK 28 cd28 := ⟨by decide, by decide +kernel⟩
/-- CountedTwice$Book.fact(II)I -/
def cd29 : List Ent := [(0, .iload_n 1, 1, 0, 0), (1, .aload_n 0, 1, 0, 0), (2, .getfield 9, 3, 0, 0), (5, .invokestatic 50, 3, 172, 1), (8, .ifCond .eq 26, 3, 0, 0), (11, .iload_n 2, 1, 0, 0), (12, .bipush 6, 2, 0, 0), (14, .invokestatic 50, 3, 172, 1), (17, .ifCond .eq 17, 3, 0, 0), (20, .aload_n 0, 1, 0, 0), (21, .getfield 21, 3, 0, 3), (24, .iload_n 1, 1, 0, 0), (25, .bipush 6, 2, 0, 0), (27, .imul, 1, 0, 0), (28, .iload_n 2, 1, 0, 0), (29, .iadd, 1, 0, 0), (30, .iaload, 1, 0, 0), (31, .goto 4, 3, 0, 0), (34, .iconst (-1), 1, 0, 0), (35, .ireturn, 1, 0, 0)]
set_option maxRecDepth 100000 in
theorem ck29 : codeOK 29 cd29 := ⟨by decide, by decide +kernel⟩
/-- CountedTwice$Book.nameLength(I)I -/
def cd30 : List Ent := [(0, .iload_n 1, 1, 0, 0), (1, .aload_n 0, 1, 0, 0), (2, .getfield 9, 3, 0, 0), (5, .invokestatic 50, 3, 172, 1), (8, .ifCond .eq 12, 3, 0, 0), (11, .aload_n 0, 1, 0, 0), (12, .getfield 31, 3, 0, 6), (15, .iload_n 1, 1, 0, 0), (16, .iaload, 1, 0, 0), (17, .goto 4, 3, 0, 0), (20, .iconst 0, 1, 0, 0), (21, .ireturn, 1, 0, 0)]
set_option maxRecDepth 100000 in
theorem ck30 : codeOK 30 cd30 := ⟨by decide, by decide +kernel⟩
/-- CountedTwice$Book.letter(II)I -/
def cd31 : List Ent := [(0, .iload_n 1, 1, 0, 0), (1, .aload_n 0, 1, 0, 0), (2, .getfield 9, 3, 0, 0), (5, .invokestatic 50, 3, 172, 1), (8, .ifCond .eq 26, 3, 0, 0), (11, .iload_n 2, 1, 0, 0), (12, .bipush 8, 2, 0, 0), (14, .invokestatic 50, 3, 172, 1), (17, .ifCond .eq 17, 3, 0, 0), (20, .aload_n 0, 1, 0, 0), (21, .getfield 34, 3, 0, 7), (24, .iload_n 1, 1, 0, 0), (25, .bipush 8, 2, 0, 0), (27, .imul, 1, 0, 0), (28, .iload_n 2, 1, 0, 0), (29, .iadd, 1, 0, 0), (30, .baload, 1, 0, 0), (31, .goto 4, 3, 0, 0), (34, .iconst (-1), 1, 0, 0), (35, .ireturn, 1, 0, 0)]
set_option maxRecDepth 100000 in
theorem ck31 : codeOK 31 cd31 := ⟨by decide, by decide +kernel⟩
/-- CountedTwice$Checks.<init>(LCountedTwice$World;)V -/
def cd32 : List Ent := [(0, .aload_n 0, 1, 0, 0), (1, .invokespecial 5, 3, 999, 0), (4, .aload_n 0, 1, 0, 0), (5, .aload_n 1, 1, 0, 0), (6, .putfield 11, 3, 1, 0), (9, .aload_n 0, 1, 0, 0), (10, .bipush 10, 2, 0, 0), (12, .newarray .int, 2, 0, 0), (14, .putfield 15, 3, 1, 1), (17, .aload_n 0, 1, 0, 0), (18, .sipush 3616, 3, 0, 0), (21, .newarray .long, 2, 0, 0), (23, .putfield 19, 3, 1, 2), (26, .return_, 1, 0, 0)]
set_option maxRecDepth 100000 in
theorem ck32 : codeOK 32 cd32 := ⟨by decide, by decide +kernel⟩
/-- CountedTwice$Checks.isBy(III)Z -/
def cd33 : List Ent := [(0, .aload_n 0, 1, 0, 0), (1, .getfield 11, 3, 1, 0), (4, .getfield 23, 3, 10, 2), (7, .astore 4, 2, 0, 0), (9, .aload 4, 2, 0, 0), (11, .iload_n 1, 1, 0, 0), (12, .iconst 1, 1, 0, 0), (13, .invokevirtual 31, 3, 29, 0), (16, .iload_n 2, 1, 0, 0), (17, .if_icmp .ne 27, 3, 0, 0), (20, .aload 4, 2, 0, 0), (22, .iload_n 1, 1, 0, 0), (23, .iconst 0, 1, 0, 0), (24, .invokevirtual 31, 3, 29, 0), (27, .iload_n 3, 1, 0, 0), (28, .if_icmp .ne 16, 3, 0, 0), (31, .aload 4, 2, 0, 0), (33, .iload_n 1, 1, 0, 0), (34, .invokevirtual 35, 3, 27, 0), (37, .ifCond .eq 7, 3, 0, 0), (40, .iconst 1, 1, 0, 0), (41, .goto 4, 3, 0, 0), (44, .iconst 0, 1, 0, 0), (45, .ireturn, 1, 0, 0)]
set_option maxRecDepth 100000 in
theorem ck33 : codeOK 33 cd33 := ⟨by decide, by decide +kernel⟩
/-- CountedTwice$Checks.entriesOf(II)I -/
def cd34 : List Ent := [(0, .iconst 0, 1, 0, 0), (1, .istore_n 3, 1, 0, 0), (2, .iconst 0, 1, 0, 0), (3, .istore 4, 2, 0, 0), (5, .iload 4, 2, 0, 0), (7, .aload_n 0, 1, 0, 0), (8, .getfield 11, 3, 1, 0), (11, .getfield 23, 3, 10, 2), (14, .getfield 39, 3, 0, 0), (17, .if_icmp .ge 23, 3, 0, 0), (20, .aload_n 0, 1, 0, 0), (21, .iload 4, 2, 0, 0), (23, .iload_n 1, 1, 0, 0), (24, .iload_n 2, 1, 0, 0), (25, .invokevirtual 43, 3, 33, 0), (28, .ifCond .eq 6, 3, 0, 0), (31, .iinc 3 1, 3, 0, 0), (34, .iinc 4 1, 3, 0, 0), (37, .goto (-32), 3, 0, 0), (40, .iload_n 3, 1, 0, 0), (41, .ireturn, 1, 0, 0)]
set_option maxRecDepth 100000 in
theorem ck34 : codeOK 34 cd34 := ⟨by decide, by decide +kernel⟩
/-- CountedTwice$Checks.ghosts(I)I -/
def cd35 : List Ent := [(0, .aload_n 0, 1, 0, 0), (1, .getfield 11, 3, 1, 0), (4, .getfield 23, 3, 10, 2), (7, .astore_n 2, 1, 0, 0), (8, .iconst 0, 1, 0, 0), (9, .istore_n 3, 1, 0, 0), (10, .iconst 0, 1, 0, 0), (11, .istore 4, 2, 0, 0), (13, .iload 4, 2, 0, 0), (15, .aload_n 2, 1, 0, 0), (16, .getfield 39, 3, 0, 0), (19, .if_icmp .ge 54, 3, 0, 0), (22, .aload_n 0, 1, 0, 0), (23, .iload 4, 2, 0, 0), (25, .iload_n 1, 1, 0, 0), (26, .iconst 0, 1, 0, 0), (27, .invokevirtual 43, 3, 33, 0), (30, .ifCond .eq 37, 3, 0, 0), (33, .aload_n 0, 1, 0, 0), (34, .getfield 11, 3, 1, 0), (37, .aload_n 2, 1, 0, 0), (38, .iload 4, 2, 0, 0), (40, .iconst 2, 1, 0, 0), (41, .invokevirtual 31, 3, 29, 0), (44, .aload_n 2, 1, 0, 0), (45, .iload 4, 2, 0, 0), (47, .iconst 3, 1, 0, 0), (48, .invokevirtual 31, 3, 29, 0), (51, .aload_n 2, 1, 0, 0), (52, .iload 4, 2, 0, 0), (54, .iconst 4, 1, 0, 0), (55, .invokevirtual 31, 3, 29, 0), (58, .invokevirtual 47, 3, 132, 0), (61, .ifCond .ne 6, 3, 0, 0), (64, .iinc 3 1, 3, 0, 0), (67, .iinc 4 1, 3, 0, 0), (70, .goto (-57), 3, 0, 0), (73, .iload_n 3, 1, 0, 0), (74, .ireturn, 1, 0, 0)]
set_option maxRecDepth 100000 in
theorem ck35 : codeOK 35 cd35 := ⟨by decide, by decide +kernel⟩
/-- CountedTwice$Checks.quick(II)I -/
def cd36 : List Ent := [(0, .iconst 0, 1, 0, 0), (1, .istore_n 3, 1, 0, 0), (2, .iconst 0, 1, 0, 0), (3, .istore 4, 2, 0, 0), (5, .iload 4, 2, 0, 0), (7, .aload_n 0, 1, 0, 0), (8, .getfield 11, 3, 1, 0), (11, .getfield 23, 3, 10, 2), (14, .getfield 39, 3, 0, 0), (17, .if_icmp .ge 50, 3, 0, 0), (20, .aload_n 0, 1, 0, 0), (21, .iload 4, 2, 0, 0), (23, .iload_n 1, 1, 0, 0), (24, .iload_n 2, 1, 0, 0), (25, .invokevirtual 43, 3, 33, 0), (28, .ifCond .eq 33, 3, 0, 0), (31, .aload_n 0, 1, 0, 0), (32, .iload 4, 2, 0, 0), (34, .iload_n 1, 1, 0, 0), (35, .iload_n 2, 1, 0, 0), (36, .invokevirtual 50, 3, 38, 0), (39, .istore 5, 2, 0, 0), (41, .iload 5, 2, 0, 0), (43, .iconst (-1), 1, 0, 0), (44, .if_icmp .eq 17, 3, 0, 0), (47, .aload_n 0, 1, 0, 0), (48, .iload 5, 2, 0, 0), (50, .iload 4, 2, 0, 0), (52, .invokevirtual 54, 3, 39, 0), (55, .ifCond .eq 6, 3, 0, 0), (58, .iinc 3 1, 3, 0, 0), (61, .iinc 4 1, 3, 0, 0), (64, .goto (-59), 3, 0, 0), (67, .iload_n 3, 1, 0, 0), (68, .ireturn, 1, 0, 0)]
set_option maxRecDepth 100000 in
theorem ck36 : codeOK 36 cd36 := ⟨by decide, by decide +kernel⟩
/-- CountedTwice$Checks.order(I)I -/
def cd37 : List Ent := [(0, .aload_n 0, 1, 0, 0), (1, .getfield 11, 3, 1, 0), (4, .getfield 23, 3, 10, 2), (7, .iload_n 1, 1, 0, 0), (8, .iconst 3, 1, 0, 0), (9, .invokevirtual 31, 3, 29, 0), (12, .sipush 1440, 3, 0, 0), (15, .imul, 1, 0, 0), (16, .aload_n 0, 1, 0, 0), (17, .getfield 11, 3, 1, 0), (20, .getfield 23, 3, 10, 2), (23, .iload_n 1, 1, 0, 0), (24, .iconst 4, 1, 0, 0), (25, .invokevirtual 31, 3, 29, 0), (28, .iadd, 1, 0, 0), (29, .istore_n 2, 1, 0, 0), (30, .iload_n 2, 1, 0, 0), (31, .bipush 120, 2, 0, 0), (33, .imul, 1, 0, 0), (34, .iload_n 1, 1, 0, 0), (35, .iadd, 1, 0, 0), (36, .ireturn, 1, 0, 0)]
set_option maxRecDepth 100000 in
theorem ck37 : codeOK 37 cd37 := ⟨by decide, by decide +kernel⟩
/-- CountedTwice$Checks.justAhead(III)I -/
def cd38 : List Ent := [(0, .iconst (-1), 1, 0, 0), (1, .istore 4, 2, 0, 0), (3, .iconst (-1), 1, 0, 0), (4, .istore 5, 2, 0, 0), (6, .aload_n 0, 1, 0, 0), (7, .iload_n 1, 1, 0, 0), (8, .invokevirtual 58, 3, 37, 0), (11, .istore 6, 2, 0, 0), (13, .iconst 0, 1, 0, 0), (14, .istore 7, 2, 0, 0), (16, .iload 7, 2, 0, 0), (18, .aload_n 0, 1, 0, 0), (19, .getfield 11, 3, 1, 0), (22, .getfield 23, 3, 10, 2), (25, .getfield 39, 3, 0, 0), (28, .if_icmp .ge 50, 3, 0, 0), (31, .aload_n 0, 1, 0, 0), (32, .iload 7, 2, 0, 0), (34, .invokevirtual 58, 3, 37, 0), (37, .istore 8, 2, 0, 0), (39, .iload 8, 2, 0, 0), (41, .iload 6, 2, 0, 0), (43, .if_icmp .ge 29, 3, 0, 0), (46, .iload 8, 2, 0, 0), (48, .iload 5, 2, 0, 0), (50, .if_icmp .le 22, 3, 0, 0), (53, .aload_n 0, 1, 0, 0), (54, .iload 7, 2, 0, 0), (56, .iload_n 2, 1, 0, 0), (57, .iload_n 3, 1, 0, 0), (58, .invokevirtual 43, 3, 33, 0), (61, .ifCond .eq 11, 3, 0, 0), (64, .iload 7, 2, 0, 0), (66, .istore 4, 2, 0, 0), (68, .iload 8, 2, 0, 0), (70, .istore 5, 2, 0, 0), (72, .iinc 7 1, 3, 0, 0), (75, .goto (-59), 3, 0, 0), (78, .iload 4, 2, 0, 0), (80, .ireturn, 1, 0, 0)]
set_option maxRecDepth 100000 in
theorem ck38 : codeOK 38 cd38 := ⟨by decide, by decide +kernel⟩
/-- CountedTwice$Checks.isQuick(II)Z -/
def cd39 : List Ent := [(0, .aload_n 0, 1, 0, 0), (1, .getfield 11, 3, 1, 0), (4, .getfield 23, 3, 10, 2), (7, .astore_n 3, 1, 0, 0), (8, .aload_n 3, 1, 0, 0), (9, .iload_n 1, 1, 0, 0), (10, .iconst 2, 1, 0, 0), (11, .invokevirtual 31, 3, 29, 0), (14, .istore 4, 2, 0, 0), (16, .aload_n 3, 1, 0, 0), (17, .iload_n 2, 1, 0, 0), (18, .iconst 2, 1, 0, 0), (19, .invokevirtual 31, 3, 29, 0), (22, .istore 5, 2, 0, 0), (24, .iload 4, 2, 0, 0), (26, .iload 5, 2, 0, 0), (28, .if_icmp .eq 18, 3, 0, 0), (31, .aload_n 3, 1, 0, 0), (32, .iload_n 1, 1, 0, 0), (33, .iconst 3, 1, 0, 0), (34, .invokevirtual 31, 3, 29, 0), (37, .aload_n 3, 1, 0, 0), (38, .iload_n 2, 1, 0, 0), (39, .iconst 3, 1, 0, 0), (40, .invokevirtual 31, 3, 29, 0), (43, .if_icmp .eq 5, 3, 0, 0), (46, .iconst 0, 1, 0, 0), (47, .ireturn, 1, 0, 0), (48, .aload_n 3, 1, 0, 0), (49, .iload_n 2, 1, 0, 0), (50, .iconst 4, 1, 0, 0), (51, .invokevirtual 31, 3, 29, 0), (54, .aload_n 3, 1, 0, 0), (55, .iload_n 1, 1, 0, 0), (56, .iconst 4, 1, 0, 0), (57, .invokevirtual 31, 3, 29, 0), (60, .isub, 1, 0, 0), (61, .istore 6, 2, 0, 0), (63, .iload 6, 2, 0, 0), (65, .aload_n 0, 1, 0, 0), (66, .getfield 11, 3, 1, 0), (69, .getfield 62, 3, 10, 1), (72, .iload 4, 2, 0, 0), (74, .iload 5, 2, 0, 0), (76, .invokevirtual 66, 3, 126, 0), (79, .if_icmp .ge 7, 3, 0, 0), (82, .iconst 1, 1, 0, 0), (83, .goto 4, 3, 0, 0), (86, .iconst 0, 1, 0, 0), (87, .ireturn, 1, 0, 0)]
set_option maxRecDepth 100000 in
theorem ck39 : codeOK 39 cd39 := ⟨by decide, by decide +kernel⟩
/-- CountedTwice$Checks.tally(I)I -/
def cd40 : List Ent := [(0, .aload_n 0, 1, 0, 0), (1, .getfield 15, 3, 1, 1), (4, .iconst 0, 1, 0, 0), (5, .invokestatic 71, 3, 0, 0), (8, .iconst 0, 1, 0, 0), (9, .istore_n 2, 1, 0, 0), (10, .iconst 0, 1, 0, 0), (11, .istore_n 3, 1, 0, 0), (12, .iload_n 3, 1, 0, 0), (13, .aload_n 0, 1, 0, 0), (14, .getfield 11, 3, 1, 0), (17, .getfield 23, 3, 10, 2), (20, .getfield 39, 3, 0, 0), (23, .if_icmp .ge 54, 3, 0, 0), (26, .iload_n 2, 1, 0, 0), (27, .bipush 15, 2, 0, 0), (29, .if_icmp .ge 48, 3, 0, 0), (32, .aload_n 0, 1, 0, 0), (33, .iload_n 3, 1, 0, 0), (34, .iload_n 1, 1, 0, 0), (35, .iconst 0, 1, 0, 0), (36, .invokevirtual 43, 3, 33, 0), (39, .ifCond .eq 32, 3, 0, 0), (42, .aload_n 0, 1, 0, 0), (43, .getfield 15, 3, 1, 1), (46, .aload_n 0, 1, 0, 0), (47, .getfield 11, 3, 1, 0), (50, .getfield 23, 3, 10, 2), (53, .iload_n 3, 1, 0, 0), (54, .iconst 5, 1, 0, 0), (55, .invokevirtual 31, 3, 29, 0), (58, .bipush 10, 2, 0, 0), (60, .invokestatic 77, 3, 18, 0), (63, .dup2, 1, 0, 0), (64, .iaload, 1, 0, 0), (65, .iconst 1, 1, 0, 0), (66, .iadd, 1, 0, 0), (67, .iastore, 1, 0, 0), (68, .iinc 2 1, 3, 0, 0), (71, .iinc 3 1, 3, 0, 0), (74, .goto (-62), 3, 0, 0), (77, .iload_n 2, 1, 0, 0), (78, .ireturn, 1, 0, 0)]
set_option maxRecDepth 100000 in
theorem ck40 : codeOK 40 cd40 := ⟨by decide, by decide +kernel⟩
/-- CountedTwice$Checks.squares()I -/
def cd41 : List Ent := [(0, .iconst 0, 1, 0, 0), (1, .istore_n 1, 1, 0, 0), (2, .iconst 0, 1, 0, 0), (3, .istore_n 2, 1, 0, 0), (4, .iload_n 2, 1, 0, 0), (5, .bipush 10, 2, 0, 0), (7, .if_icmp .ge 25, 3, 0, 0), (10, .iload_n 1, 1, 0, 0), (11, .aload_n 0, 1, 0, 0), (12, .getfield 15, 3, 1, 1), (15, .iload_n 2, 1, 0, 0), (16, .iaload, 1, 0, 0), (17, .aload_n 0, 1, 0, 0), (18, .getfield 15, 3, 1, 1), (21, .iload_n 2, 1, 0, 0), (22, .iaload, 1, 0, 0), (23, .imul, 1, 0, 0), (24, .iadd, 1, 0, 0), (25, .istore_n 1, 1, 0, 0), (26, .iinc 2 1, 3, 0, 0), (29, .goto (-25), 3, 0, 0), (32, .iload_n 1, 1, 0, 0), (33, .ireturn, 1, 0, 0)]
set_option maxRecDepth 100000 in
theorem ck41 : codeOK 41 cd41 := ⟨by decide, by decide +kernel⟩
/-- CountedTwice$Checks.evenness(I)I -/
def cd42 : List Ent := [(0, .aload_n 0, 1, 0, 0), (1, .iload_n 1, 1, 0, 0), (2, .invokevirtual 82, 3, 40, 0), (5, .pop, 1, 0, 0), (6, .aload_n 0, 1, 0, 0), (7, .invokevirtual 85, 3, 41, 0), (10, .ireturn, 1, 0, 0)]
set_option maxRecDepth 100000 in
theorem ck42 : codeOK 42 cd42 := ⟨by decide, by decide +kernel⟩
/-- CountedTwice$Checks.evenWays(I)J -/
def cd43 : List Ent := [(0, .aload_n 0, 1, 0, 0), (1, .iload_n 1, 1, 0, 0), (2, .invokevirtual 82, 3, 40, 0), (5, .istore_n 2, 1, 0, 0), (6, .aload_n 0, 1, 0, 0), (7, .invokevirtual 85, 3, 41, 0), (10, .istore_n 3, 1, 0, 0), (11, .aload_n 0, 1, 0, 0), (12, .getfield 19, 3, 1, 2), (15, .lconst 0, 1, 0, 0), (16, .invokestatic 89, 3, 1, 0), (19, .aload_n 0, 1, 0, 0), (20, .getfield 19, 3, 1, 2), (23, .iconst 0, 1, 0, 0), (24, .lconst 1, 1, 0, 0), (25, .lastore, 1, 0, 0), (26, .iconst 0, 1, 0, 0), (27, .istore 4, 2, 0, 0), (29, .iload 4, 2, 0, 0), (31, .bipush 10, 2, 0, 0), (33, .if_icmp .ge 15, 3, 0, 0), (36, .aload_n 0, 1, 0, 0), (37, .iload_n 2, 1, 0, 0), (38, .iload_n 3, 1, 0, 0), (39, .invokevirtual 92, 3, 44, 0), (42, .iinc 4 1, 3, 0, 0), (45, .goto (-16), 3, 0, 0), (48, .lconst 0, 1, 0, 0), (49, .lstore 4, 2, 0, 0), (51, .iconst 0, 1, 0, 0), (52, .istore 6, 2, 0, 0), (54, .iload 6, 2, 0, 0), (56, .iload_n 3, 1, 0, 0), (57, .if_icmp .gt 35, 3, 0, 0), (60, .iload 6, 2, 0, 0), (62, .sipush 226, 3, 0, 0), (65, .if_icmp .ge 27, 3, 0, 0), (68, .lload 4, 2, 0, 0), (70, .aload_n 0, 1, 0, 0), (71, .getfield 19, 3, 1, 2), (74, .iload_n 2, 1, 0, 0), (75, .sipush 226, 3, 0, 0), (78, .imul, 1, 0, 0), (79, .iload 6, 2, 0, 0), (81, .iadd, 1, 0, 0), (82, .laload, 1, 0, 0), (83, .ladd, 1, 0, 0), (84, .lstore 4, 2, 0, 0), (86, .iinc 6 1, 3, 0, 0), (89, .goto (-35), 3, 0, 0), (92, .lload 4, 2, 0, 0), (94, .lreturn, 1, 0, 0)]
set_option maxRecDepth 100000 in
theorem ck43 : codeOK 43 cd43 := ⟨by decide, by decide +kernel⟩
/-- CountedTwice$Checks.allowDigit(II)V -/
def cd44 : List Ent := [(0, .iload_n 1, 1, 0, 0), (1, .istore_n 3, 1, 0, 0), (2, .iload_n 3, 1, 0, 0), (3, .iconst 1, 1, 0, 0), (4, .if_icmp .lt 100, 3, 0, 0), (7, .iconst 1, 1, 0, 0), (8, .istore 4, 2, 0, 0), (10, .iload 4, 2, 0, 0), (12, .iload_n 3, 1, 0, 0), (13, .if_icmp .gt 85, 3, 0, 0), (16, .iload_n 3, 1, 0, 0), (17, .iload 4, 2, 0, 0), (19, .invokestatic 96, 3, 179, 1), (22, .lstore 5, 2, 0, 0), (24, .iload 4, 2, 0, 0), (26, .iload 4, 2, 0, 0), (28, .imul, 1, 0, 0), (29, .istore 7, 2, 0, 0), (31, .iload 7, 2, 0, 0), (33, .iload_n 2, 1, 0, 0), (34, .if_icmp .gt 58, 3, 0, 0), (37, .iload 7, 2, 0, 0), (39, .sipush 226, 3, 0, 0), (42, .if_icmp .ge 50, 3, 0, 0), (45, .aload_n 0, 1, 0, 0), (46, .getfield 19, 3, 1, 2), (49, .iload_n 3, 1, 0, 0), (50, .sipush 226, 3, 0, 0), (53, .imul, 1, 0, 0), (54, .iload 7, 2, 0, 0), (56, .iadd, 1, 0, 0), (57, .dup2, 1, 0, 0), (58, .laload, 1, 0, 0), (59, .aload_n 0, 1, 0, 0), (60, .getfield 19, 3, 1, 2), (63, .iload_n 3, 1, 0, 0), (64, .iload 4, 2, 0, 0), (66, .isub, 1, 0, 0), (67, .sipush 226, 3, 0, 0), (70, .imul, 1, 0, 0), (71, .iload 7, 2, 0, 0), (73, .iadd, 1, 0, 0), (74, .iload 4, 2, 0, 0), (76, .iload 4, 2, 0, 0), (78, .imul, 1, 0, 0), (79, .isub, 1, 0, 0), (80, .laload, 1, 0, 0), (81, .lload 5, 2, 0, 0), (83, .lmul, 1, 0, 0), (84, .ladd, 1, 0, 0), (85, .lastore, 1, 0, 0), (86, .iinc 7 1, 3, 0, 0), (89, .goto (-58), 3, 0, 0), (92, .iinc 4 1, 3, 0, 0), (95, .goto (-85), 3, 0, 0), (98, .iinc 3 (-1), 3, 0, 0), (101, .goto (-99), 3, 0, 0), (104, .return_, 1, 0, 0)]
set_option maxRecDepth 100000 in
theorem ck44 : codeOK 44 cd44 := ⟨by decide, by decide +kernel⟩
/-- CountedTwice$Checks.mostSuspicious()I -/
def cd45 : List Ent := [(0, .iconst (-1), 1, 0, 0), (1, .istore_n 1, 1, 0, 0), (2, .iconst 0, 1, 0, 0), (3, .istore_n 2, 1, 0, 0), (4, .iconst 0, 1, 0, 0), (5, .istore_n 3, 1, 0, 0), (6, .iload_n 3, 1, 0, 0), (7, .bipush 11, 2, 0, 0), (9, .if_icmp .ge 34, 3, 0, 0), (12, .aload_n 0, 1, 0, 0), (13, .iload_n 3, 1, 0, 0), (14, .invokevirtual 100, 3, 35, 0), (17, .aload_n 0, 1, 0, 0), (18, .iload_n 3, 1, 0, 0), (19, .iconst 0, 1, 0, 0), (20, .invokevirtual 103, 3, 36, 0), (23, .iadd, 1, 0, 0), (24, .istore 4, 2, 0, 0), (26, .iload 4, 2, 0, 0), (28, .iload_n 2, 1, 0, 0), (29, .if_icmp .le 8, 3, 0, 0), (32, .iload_n 3, 1, 0, 0), (33, .istore_n 1, 1, 0, 0), (34, .iload 4, 2, 0, 0), (36, .istore_n 2, 1, 0, 0), (37, .iinc 3 1, 3, 0, 0), (40, .goto (-34), 3, 0, 0), (43, .iload_n 1, 1, 0, 0), (44, .ireturn, 1, 0, 0)]
set_option maxRecDepth 100000 in
theorem ck45 : codeOK 45 cd45 := ⟨by decide, by decide +kernel⟩
/-- CountedTwice$LastDays.<init>()V -/
def cd46 : List Ent := [(0, .aload_n 0, 1, 0, 0), (1, .invokespecial 3, 3, 999, 0), (4, .aload_n 0, 1, 0, 0), (5, .iconst 1, 1, 0, 0), (6, .putfield 9, 3, 2, 0), (9, .aload_n 0, 1, 0, 0), (10, .iconst 1, 1, 0, 0), (11, .putfield 15, 3, 2, 1), (14, .aload_n 0, 1, 0, 0), (15, .iconst 5, 1, 0, 0), (16, .newarray .int, 2, 0, 0), (18, .putfield 18, 3, 2, 2), (21, .aload_n 0, 1, 0, 0), (22, .bipush 6, 2, 0, 0), (24, .newarray .int, 2, 0, 0), (26, .putfield 22, 3, 2, 3), (29, .aload_n 0, 1, 0, 0), (30, .bipush 20, 2, 0, 0), (32, .newarray .boolean, 2, 0, 0), (34, .putfield 25, 3, 2, 4), (37, .aload_n 0, 1, 0, 0), (38, .bipush 24, 2, 0, 0), (40, .newarray .int, 2, 0, 0), (42, .putfield 29, 3, 2, 5), (45, .aload_n 0, 1, 0, 0), (46, .getfield 18, 3, 2, 2), (49, .iconst (-1), 1, 0, 0), (50, .invokestatic 32, 3, 0, 0), (53, .aload_n 0, 1, 0, 0), (54, .getfield 29, 3, 2, 5), (57, .iconst (-1), 1, 0, 0), (58, .invokestatic 32, 3, 0, 0), (61, .return_, 1, 0, 0)]
set_option maxRecDepth 100000 in
theorem ck46 : codeOK 46 cd46 := ⟨by decide, by decide +kernel⟩
/-- CountedTwice$LastDays.copyFrom(LCountedTwice$LastDays;)V -/
def cd47 : List Ent := [(0, .aload_n 0, 1, 0, 0), (1, .aload_n 1, 1, 0, 0), (2, .getfield 9, 3, 2, 0), (5, .putfield 9, 3, 2, 0), (8, .aload_n 0, 1, 0, 0), (9, .aload_n 1, 1, 0, 0), (10, .getfield 15, 3, 2, 1), (13, .putfield 15, 3, 2, 1), (16, .aload_n 1, 1, 0, 0), (17, .getfield 18, 3, 2, 2), (20, .iconst 0, 1, 0, 0), (21, .aload_n 0, 1, 0, 0), (22, .getfield 18, 3, 2, 2), (25, .iconst 0, 1, 0, 0), (26, .iconst 5, 1, 0, 0), (27, .invokestatic 38, 3, 998, 0), (30, .aload_n 1, 1, 0, 0), (31, .getfield 22, 3, 2, 3), (34, .iconst 0, 1, 0, 0), (35, .aload_n 0, 1, 0, 0), (36, .getfield 22, 3, 2, 3), (39, .iconst 0, 1, 0, 0), (40, .bipush 6, 2, 0, 0), (42, .invokestatic 38, 3, 998, 0), (45, .aload_n 1, 1, 0, 0), (46, .getfield 25, 3, 2, 4), (49, .iconst 0, 1, 0, 0), (50, .aload_n 0, 1, 0, 0), (51, .getfield 25, 3, 2, 4), (54, .iconst 0, 1, 0, 0), (55, .bipush 20, 2, 0, 0), (57, .invokestatic 38, 3, 998, 0), (60, .aload_n 1, 1, 0, 0), (61, .getfield 29, 3, 2, 5), (64, .iconst 0, 1, 0, 0), (65, .aload_n 0, 1, 0, 0), (66, .getfield 29, 3, 2, 5), (69, .iconst 0, 1, 0, 0), (70, .bipush 24, 2, 0, 0), (72, .invokestatic 38, 3, 998, 0), (75, .return_, 1, 0, 0)]
set_option maxRecDepth 100000 in
theorem ck47 : codeOK 47 cd47 := ⟨by decide, by decide +kernel⟩
/-- CountedTwice$LastDays.giveStreet(II)Z -/
def cd48 : List Ent := [(0, .iload_n 1, 1, 0, 0), (1, .iconst 5, 1, 0, 0), (2, .invokestatic 44, 3, 172, 1), (5, .ifCond .eq 17, 3, 0, 0), (8, .iload_n 2, 1, 0, 0), (9, .iconst (-1), 1, 0, 0), (10, .if_icmp .eq 14, 3, 0, 0), (13, .iload_n 2, 1, 0, 0), (14, .bipush 12, 2, 0, 0), (16, .invokestatic 44, 3, 172, 1), (19, .ifCond .ne 5, 3, 0, 0), (22, .iconst 0, 1, 0, 0), (23, .ireturn, 1, 0, 0), (24, .iconst 0, 1, 0, 0), (25, .istore_n 3, 1, 0, 0), (26, .iload_n 3, 1, 0, 0), (27, .iconst 5, 1, 0, 0), (28, .if_icmp .ge 31, 3, 0, 0), (31, .iload_n 3, 1, 0, 0), (32, .iload_n 1, 1, 0, 0), (33, .if_icmp .eq 20, 3, 0, 0), (36, .iload_n 2, 1, 0, 0), (37, .iconst (-1), 1, 0, 0), (38, .if_icmp .eq 15, 3, 0, 0), (41, .aload_n 0, 1, 0, 0), (42, .getfield 18, 3, 2, 2), (45, .iload_n 3, 1, 0, 0), (46, .iaload, 1, 0, 0), (47, .iload_n 2, 1, 0, 0), (48, .if_icmp .ne 5, 3, 0, 0), (51, .iconst 0, 1, 0, 0), (52, .ireturn, 1, 0, 0), (53, .iinc 3 1, 3, 0, 0), (56, .goto (-30), 3, 0, 0), (59, .aload_n 0, 1, 0, 0), (60, .getfield 18, 3, 2, 2), (63, .iload_n 1, 1, 0, 0), (64, .iload_n 2, 1, 0, 0), (65, .iastore, 1, 0, 0), (66, .iconst 1, 1, 0, 0), (67, .ireturn, 1, 0, 0)]
set_option maxRecDepth 100000 in
theorem ck48 : codeOK 48 cd48 := ⟨by decide, by decide +kernel⟩
/-- CountedTwice$LastDays.giveStrength(II)Z -/
def cd49 : List Ent := [(0, .iload_n 1, 1, 0, 0), (1, .bipush 6, 2, 0, 0), (3, .invokestatic 44, 3, 172, 1), (6, .ifCond .eq 12, 3, 0, 0), (9, .iload_n 2, 1, 0, 0), (10, .bipush 10, 2, 0, 0), (12, .invokestatic 44, 3, 172, 1), (15, .ifCond .ne 5, 3, 0, 0), (18, .iconst 0, 1, 0, 0), (19, .ireturn, 1, 0, 0), (20, .aload_n 0, 1, 0, 0), (21, .getfield 22, 3, 2, 3), (24, .iload_n 1, 1, 0, 0), (25, .iload_n 2, 1, 0, 0), (26, .iastore, 1, 0, 0), (27, .iconst 1, 1, 0, 0), (28, .ireturn, 1, 0, 0)]
set_option maxRecDepth 100000 in
theorem ck49 : codeOK 49 cd49 := ⟨by decide, by decide +kernel⟩
/-- CountedTwice$LastDays.giveDays(I)Z -/
def cd50 : List Ent := [(0, .iload_n 1, 1, 0, 0), (1, .iconst 1, 1, 0, 0), (2, .if_icmp .lt 8, 3, 0, 0), (5, .iload_n 1, 1, 0, 0), (6, .iconst 4, 1, 0, 0), (7, .if_icmp .le 5, 3, 0, 0), (10, .iconst 0, 1, 0, 0), (11, .ireturn, 1, 0, 0), (12, .aload_n 0, 1, 0, 0), (13, .iload_n 1, 1, 0, 0), (14, .putfield 9, 3, 2, 0), (17, .iconst 1, 1, 0, 0), (18, .ireturn, 1, 0, 0)]
set_option maxRecDepth 100000 in
theorem ck50 : codeOK 50 cd50 := ⟨by decide, by decide +kernel⟩
/-- CountedTwice$LastDays.giveCounters(I)Z -/
def cd51 : List Ent := [(0, .iload_n 1, 1, 0, 0), (1, .iconst 1, 1, 0, 0), (2, .if_icmp .lt 9, 3, 0, 0), (5, .iload_n 1, 1, 0, 0), (6, .bipush 6, 2, 0, 0), (8, .if_icmp .le 5, 3, 0, 0), (11, .iconst 0, 1, 0, 0), (12, .ireturn, 1, 0, 0), (13, .aload_n 0, 1, 0, 0), (14, .iload_n 1, 1, 0, 0), (15, .putfield 15, 3, 2, 1), (18, .iconst 1, 1, 0, 0), (19, .ireturn, 1, 0, 0)]
set_option maxRecDepth 100000 in
theorem ck51 : codeOK 51 cd51 := ⟨by decide, by decide +kernel⟩
/-- CountedTwice$LastDays.close(IIZ)V -/
def cd52 : List Ent := [(0, .iload_n 1, 1, 0, 0), (1, .iconst 5, 1, 0, 0), (2, .invokestatic 44, 3, 172, 1), (5, .ifCond .eq 22, 3, 0, 0), (8, .iload_n 2, 1, 0, 0), (9, .iconst 4, 1, 0, 0), (10, .invokestatic 44, 3, 172, 1), (13, .ifCond .eq 14, 3, 0, 0), (16, .aload_n 0, 1, 0, 0), (17, .getfield 25, 3, 2, 4), (20, .iload_n 1, 1, 0, 0), (21, .iconst 4, 1, 0, 0), (22, .imul, 1, 0, 0), (23, .iload_n 2, 1, 0, 0), (24, .iadd, 1, 0, 0), (25, .iload_n 3, 1, 0, 0), (26, .bastore, 1, 0, 0), (27, .return_, 1, 0, 0)]
set_option maxRecDepth 100000 in
theorem ck52 : codeOK 52 cd52 := ⟨by decide, by decide +kernel⟩
/-- CountedTwice$LastDays.isOpen(II)Z -/
def cd53 : List Ent := [(0, .iload_n 1, 1, 0, 0), (1, .iconst 5, 1, 0, 0), (2, .invokestatic 44, 3, 172, 1), (5, .ifCond .eq 28, 3, 0, 0), (8, .iload_n 2, 1, 0, 0), (9, .iconst 4, 1, 0, 0), (10, .invokestatic 44, 3, 172, 1), (13, .ifCond .eq 20, 3, 0, 0), (16, .aload_n 0, 1, 0, 0), (17, .getfield 25, 3, 2, 4), (20, .iload_n 1, 1, 0, 0), (21, .iconst 4, 1, 0, 0), (22, .imul, 1, 0, 0), (23, .iload_n 2, 1, 0, 0), (24, .iadd, 1, 0, 0), (25, .baload, 1, 0, 0), (26, .ifCond .ne 7, 3, 0, 0), (29, .iconst 1, 1, 0, 0), (30, .goto 4, 3, 0, 0), (33, .iconst 0, 1, 0, 0), (34, .ireturn, 1, 0, 0)]
set_option maxRecDepth 100000 in
theorem ck53 : codeOK 53 cd53 := ⟨by decide, by decide +kernel⟩
/-- CountedTwice$LastDays.send(III)V -/
def cd54 : List Ent := [(0, .iload_n 1, 1, 0, 0), (1, .bipush 6, 2, 0, 0), (3, .invokestatic 44, 3, 172, 1), (6, .ifCond .eq 22, 3, 0, 0), (9, .iload_n 2, 1, 0, 0), (10, .iconst 4, 1, 0, 0), (11, .invokestatic 44, 3, 172, 1), (14, .ifCond .eq 14, 3, 0, 0), (17, .aload_n 0, 1, 0, 0), (18, .getfield 29, 3, 2, 5), (21, .iload_n 1, 1, 0, 0), (22, .iconst 4, 1, 0, 0), (23, .imul, 1, 0, 0), (24, .iload_n 2, 1, 0, 0), (25, .iadd, 1, 0, 0), (26, .iload_n 3, 1, 0, 0), (27, .iastore, 1, 0, 0), (28, .return_, 1, 0, 0)]
set_option maxRecDepth 100000 in
theorem ck54 : codeOK 54 cd54 := ⟨by decide, by decide +kernel⟩
/-- CountedTwice$LastDays.seenByPlan([I)I -/
def cd55 : List Ent := [(0, .iconst 0, 1, 0, 0), (1, .istore_n 2, 1, 0, 0), (2, .iconst 0, 1, 0, 0), (3, .istore_n 3, 1, 0, 0), (4, .iload_n 3, 1, 0, 0), (5, .aload_n 0, 1, 0, 0), (6, .getfield 9, 3, 2, 0), (9, .if_icmp .ge 90, 3, 0, 0), (12, .iconst 0, 1, 0, 0), (13, .istore 4, 2, 0, 0), (15, .iload 4, 2, 0, 0), (17, .aload_n 0, 1, 0, 0), (18, .getfield 15, 3, 2, 1), (21, .if_icmp .ge 72, 3, 0, 0), (24, .aload_n 0, 1, 0, 0), (25, .getfield 29, 3, 2, 5), (28, .iload 4, 2, 0, 0), (30, .iconst 4, 1, 0, 0), (31, .imul, 1, 0, 0), (32, .iload_n 3, 1, 0, 0), (33, .iadd, 1, 0, 0), (34, .iaload, 1, 0, 0), (35, .istore 5, 2, 0, 0), (37, .iload 5, 2, 0, 0), (39, .aload_n 1, 1, 0, 0), (40, .arraylength, 1, 0, 0), (41, .invokestatic 44, 3, 172, 1), (44, .ifCond .eq 43, 3, 0, 0), (47, .aload_n 0, 1, 0, 0), (48, .iload 5, 2, 0, 0), (50, .iload_n 3, 1, 0, 0), (51, .invokevirtual 48, 3, 53, 0), (54, .ifCond .eq 33, 3, 0, 0), (57, .aload_n 0, 1, 0, 0), (58, .getfield 22, 3, 2, 3), (61, .iload 4, 2, 0, 0), (63, .iaload, 1, 0, 0), (64, .aload_n 1, 1, 0, 0), (65, .iload 5, 2, 0, 0), (67, .iaload, 1, 0, 0), (68, .invokestatic 51, 3, 3, 0), (71, .istore 6, 2, 0, 0), (73, .aload_n 1, 1, 0, 0), (74, .iload 5, 2, 0, 0), (76, .dup2, 1, 0, 0), (77, .iaload, 1, 0, 0), (78, .iload 6, 2, 0, 0), (80, .isub, 1, 0, 0), (81, .iastore, 1, 0, 0), (82, .iload_n 2, 1, 0, 0), (83, .iload 6, 2, 0, 0), (85, .iadd, 1, 0, 0), (86, .istore_n 2, 1, 0, 0), (87, .iinc 4 1, 3, 0, 0), (90, .goto (-75), 3, 0, 0), (93, .iinc 3 1, 3, 0, 0), (96, .goto (-92), 3, 0, 0), (99, .iload_n 2, 1, 0, 0), (100, .ireturn, 1, 0, 0)]
set_option maxRecDepth 100000 in
theorem ck55 : codeOK 55 cd55 := ⟨by decide, by decide +kernel⟩
/-- CountedTwice$Likeness.<init>(LCountedTwice$World;)V -/
def cd56 : List Ent := [(0, .aload_n 0, 1, 0, 0), (1, .invokespecial 5, 3, 999, 0), (4, .aload_n 0, 1, 0, 0), (5, .aload_n 1, 1, 0, 0), (6, .putfield 11, 3, 3, 0), (9, .aload_n 0, 1, 0, 0), (10, .bipush 7, 2, 0, 0), (12, .newarray .int, 2, 0, 0), (14, .putfield 17, 3, 3, 1), (17, .aload_n 0, 1, 0, 0), (18, .bipush 9, 2, 0, 0), (20, .newarray .int, 2, 0, 0), (22, .putfield 21, 3, 3, 2), (25, .aload_n 0, 1, 0, 0), (26, .sipush 224, 3, 0, 0), (29, .newarray .long, 2, 0, 0), (31, .putfield 24, 3, 3, 3), (34, .aload_n 0, 1, 0, 0), (35, .sipush 224, 3, 0, 0), (38, .newarray .long, 2, 0, 0), (40, .putfield 28, 3, 3, 4), (43, .return_, 1, 0, 0)]
set_option maxRecDepth 100000 in
theorem ck56 : codeOK 56 cd56 := ⟨by decide, by decide +kernel⟩
/-- CountedTwice$Likeness.forget()V -/
def cd57 : List Ent := [(0, .aload_n 0, 1, 0, 0), (1, .getfield 24, 3, 3, 3), (4, .lconst 0, 1, 0, 0), (5, .invokestatic 31, 3, 1, 0), (8, .aload_n 0, 1, 0, 0), (9, .getfield 28, 3, 3, 4), (12, .lconst 0, 1, 0, 0), (13, .invokestatic 31, 3, 1, 0), (16, .return_, 1, 0, 0)]
set_option maxRecDepth 100000 in
theorem ck57 : codeOK 57 cd57 := ⟨by decide, by decide +kernel⟩
/-- CountedTwice$Likeness.agree(III)Z -/
def cd58 : List Ent := [(0, .aload_n 0, 1, 0, 0), (1, .getfield 11, 3, 3, 0), (4, .iload_n 1, 1, 0, 0), (5, .invokevirtual 37, 3, 130, 0), (8, .astore 4, 2, 0, 0), (10, .aload 4, 2, 0, 0), (12, .getfield 43, 3, 8, 0), (15, .ifCond .ne 5, 3, 0, 0), (18, .iconst 0, 1, 0, 0), (19, .ireturn, 1, 0, 0), (20, .iload_n 2, 1, 0, 0), (21, .iload_n 3, 1, 0, 0), (22, .invokestatic 47, 3, 15, 0), (25, .istore 5, 2, 0, 0), (27, .iload_n 1, 1, 0, 0), (28, .sipush 7140, 3, 0, 0), (31, .imul, 1, 0, 0), (32, .iload 5, 2, 0, 0), (34, .iload 5, 2, 0, 0), (36, .iconst 1, 1, 0, 0), (37, .isub, 1, 0, 0), (38, .imul, 1, 0, 0), (39, .iconst 2, 1, 0, 0), (40, .idiv, 1, 0, 0), (41, .iadd, 1, 0, 0), (42, .iload_n 2, 1, 0, 0), (43, .iload_n 3, 1, 0, 0), (44, .invokestatic 53, 3, 3, 0), (47, .iadd, 1, 0, 0), (48, .istore 6, 2, 0, 0), (50, .aload_n 0, 1, 0, 0), (51, .getfield 24, 3, 3, 3), (54, .iload 6, 2, 0, 0), (56, .invokestatic 56, 3, 176, 1), (59, .ifCond .ne 40, 3, 0, 0), (62, .aload_n 0, 1, 0, 0), (63, .getfield 24, 3, 3, 3), (66, .iload 6, 2, 0, 0), (68, .invokestatic 60, 3, 177, 1), (71, .aload_n 0, 1, 0, 0), (72, .iload_n 2, 1, 0, 0), (73, .iload_n 3, 1, 0, 0), (74, .invokevirtual 64, 3, 59, 0), (77, .aload 4, 2, 0, 0), (79, .aload_n 0, 1, 0, 0), (80, .getfield 17, 3, 3, 1), (83, .invokevirtual 68, 3, 114, 0), (86, .iconst (-1), 1, 0, 0), (87, .if_icmp .eq 12, 3, 0, 0), (90, .aload_n 0, 1, 0, 0), (91, .getfield 28, 3, 3, 4), (94, .iload 6, 2, 0, 0), (96, .invokestatic 60, 3, 177, 1), (99, .aload_n 0, 1, 0, 0), (100, .getfield 28, 3, 3, 4), (103, .iload 6, 2, 0, 0), (105, .invokestatic 56, 3, 176, 1), (108, .ireturn, 1, 0, 0)]
set_option maxRecDepth 100000 in
theorem ck58 : codeOK 58 cd58 := ⟨by decide, by decide +kernel⟩
/-- CountedTwice$Likeness.compare(II)V -/
def cd59 : List Ent := [(0, .aload_n 0, 1, 0, 0), (1, .getfield 11, 3, 3, 0), (4, .getfield 72, 3, 10, 2), (7, .astore_n 3, 1, 0, 0), (8, .aload_n 3, 1, 0, 0), (9, .iload_n 1, 1, 0, 0), (10, .iconst 0, 1, 0, 0), (11, .invokevirtual 78, 3, 29, 0), (14, .aload_n 3, 1, 0, 0), (15, .iload_n 2, 1, 0, 0), (16, .iconst 0, 1, 0, 0), (17, .invokevirtual 78, 3, 29, 0), (20, .if_icmp .ne 7, 3, 0, 0), (23, .iconst 1, 1, 0, 0), (24, .goto 4, 3, 0, 0), (27, .iconst 0, 1, 0, 0), (28, .istore 4, 2, 0, 0), (30, .aload_n 3, 1, 0, 0), (31, .iload_n 1, 1, 0, 0), (32, .iconst 1, 1, 0, 0), (33, .invokevirtual 78, 3, 29, 0), (36, .aload_n 3, 1, 0, 0), (37, .iload_n 2, 1, 0, 0), (38, .iconst 1, 1, 0, 0), (39, .invokevirtual 78, 3, 29, 0), (42, .if_icmp .ne 7, 3, 0, 0), (45, .iconst 1, 1, 0, 0), (46, .goto 4, 3, 0, 0), (49, .iconst 0, 1, 0, 0), (50, .istore 5, 2, 0, 0), (52, .aload_n 0, 1, 0, 0), (53, .getfield 17, 3, 3, 1), (56, .iconst 0, 1, 0, 0), (57, .aload_n 0, 1, 0, 0), (58, .iload_n 1, 1, 0, 0), (59, .iload_n 2, 1, 0, 0), (60, .invokevirtual 81, 3, 61, 0), (63, .iastore, 1, 0, 0), (64, .aload_n 0, 1, 0, 0), (65, .getfield 17, 3, 3, 1), (68, .iconst 1, 1, 0, 0), (69, .aload_n 3, 1, 0, 0), (70, .iload_n 1, 1, 0, 0), (71, .iconst 0, 1, 0, 0), (72, .invokevirtual 84, 3, 31, 0), (75, .aload_n 3, 1, 0, 0), (76, .iload_n 2, 1, 0, 0), (77, .iconst 0, 1, 0, 0), (78, .invokevirtual 84, 3, 31, 0), (81, .if_icmp .ne 7, 3, 0, 0), (84, .iconst 1, 1, 0, 0), (85, .goto 4, 3, 0, 0), (88, .iconst 0, 1, 0, 0), (89, .iastore, 1, 0, 0), (90, .aload_n 0, 1, 0, 0), (91, .getfield 17, 3, 3, 1), (94, .iconst 2, 1, 0, 0), (95, .aload_n 3, 1, 0, 0), (96, .iload_n 1, 1, 0, 0), (97, .iconst 5, 1, 0, 0), (98, .invokevirtual 78, 3, 29, 0), (101, .aload_n 3, 1, 0, 0), (102, .iload_n 2, 1, 0, 0), (103, .iconst 5, 1, 0, 0), (104, .invokevirtual 78, 3, 29, 0), (107, .isub, 1, 0, 0), (108, .invokestatic 87, 3, 2, 0), (111, .iastore, 1, 0, 0), (112, .aload_n 0, 1, 0, 0), (113, .getfield 17, 3, 3, 1), (116, .iconst 3, 1, 0, 0), (117, .aload_n 0, 1, 0, 0), (118, .iload_n 1, 1, 0, 0), (119, .iload_n 2, 1, 0, 0), (120, .invokevirtual 91, 3, 60, 0), (123, .iastore, 1, 0, 0), (124, .aload_n 0, 1, 0, 0), (125, .getfield 17, 3, 3, 1), (128, .iconst 4, 1, 0, 0), (129, .aload_n 3, 1, 0, 0), (130, .iload_n 1, 1, 0, 0), (131, .iconst 3, 1, 0, 0), (132, .invokevirtual 78, 3, 29, 0), (135, .aload_n 3, 1, 0, 0), (136, .iload_n 2, 1, 0, 0), (137, .iconst 3, 1, 0, 0), (138, .invokevirtual 78, 3, 29, 0), (141, .isub, 1, 0, 0), (142, .invokestatic 87, 3, 2, 0), (145, .iastore, 1, 0, 0), (146, .aload_n 0, 1, 0, 0), (147, .getfield 17, 3, 3, 1), (150, .iconst 5, 1, 0, 0), (151, .iload 4, 2, 0, 0), (153, .ifCond .eq 12, 3, 0, 0), (156, .iload 5, 2, 0, 0), (158, .ifCond .eq 7, 3, 0, 0), (161, .iconst 1, 1, 0, 0), (162, .goto 4, 3, 0, 0), (165, .iconst 0, 1, 0, 0), (166, .iastore, 1, 0, 0), (167, .aload_n 0, 1, 0, 0), (168, .getfield 17, 3, 3, 1), (171, .bipush 6, 2, 0, 0), (173, .aload_n 3, 1, 0, 0), (174, .iload_n 1, 1, 0, 0), (175, .iconst 2, 1, 0, 0), (176, .invokevirtual 78, 3, 29, 0), (179, .aload_n 3, 1, 0, 0), (180, .iload_n 2, 1, 0, 0), (181, .iconst 2, 1, 0, 0), (182, .invokevirtual 78, 3, 29, 0), (185, .if_icmp .ne 7, 3, 0, 0), (188, .iconst 1, 1, 0, 0), (189, .goto 4, 3, 0, 0), (192, .iconst 0, 1, 0, 0), (193, .iastore, 1, 0, 0), (194, .return_, 1, 0, 0)]
set_option maxRecDepth 100000 in
theorem ck59 : codeOK 59 cd59 := ⟨by decide, by decide +kernel⟩
/-- CountedTwice$Likeness.wayApart(II)I -/
def cd60 : List Ent := [(0, .aload_n 0, 1, 0, 0), (1, .getfield 11, 3, 3, 0), (4, .getfield 94, 3, 10, 1), (7, .aload_n 0, 1, 0, 0), (8, .getfield 11, 3, 3, 0), (11, .getfield 72, 3, 10, 2), (14, .iload_n 1, 1, 0, 0), (15, .iconst 2, 1, 0, 0), (16, .invokevirtual 78, 3, 29, 0), (19, .aload_n 0, 1, 0, 0), (20, .getfield 11, 3, 3, 0), (23, .getfield 72, 3, 10, 2), (26, .iload_n 2, 1, 0, 0), (27, .iconst 2, 1, 0, 0), (28, .invokevirtual 78, 3, 29, 0), (31, .invokevirtual 98, 3, 125, 0), (34, .ireturn, 1, 0, 0)]
set_option maxRecDepth 100000 in
theorem ck60 : codeOK 60 cd60 := ⟨by decide, by decide +kernel⟩
/-- CountedTwice$Likeness.lettersApart(II)I -/
def cd61 : List Ent := [(0, .aload_n 0, 1, 0, 0), (1, .getfield 11, 3, 3, 0), (4, .getfield 72, 3, 10, 2), (7, .astore_n 3, 1, 0, 0), (8, .aload_n 3, 1, 0, 0), (9, .iload_n 1, 1, 0, 0), (10, .invokevirtual 103, 3, 30, 0), (13, .bipush 8, 2, 0, 0), (15, .invokestatic 53, 3, 3, 0), (18, .istore 4, 2, 0, 0), (20, .aload_n 3, 1, 0, 0), (21, .iload_n 2, 1, 0, 0), (22, .invokevirtual 103, 3, 30, 0), (25, .bipush 8, 2, 0, 0), (27, .invokestatic 53, 3, 3, 0), (30, .istore 5, 2, 0, 0), (32, .iconst 0, 1, 0, 0), (33, .istore 6, 2, 0, 0), (35, .iload 6, 2, 0, 0), (37, .iload 5, 2, 0, 0), (39, .if_icmp .gt 18, 3, 0, 0), (42, .aload_n 0, 1, 0, 0), (43, .getfield 21, 3, 3, 2), (46, .iload 6, 2, 0, 0), (48, .iload 6, 2, 0, 0), (50, .iastore, 1, 0, 0), (51, .iinc 6 1, 3, 0, 0), (54, .goto (-19), 3, 0, 0), (57, .iconst 1, 1, 0, 0), (58, .istore 6, 2, 0, 0), (60, .iload 6, 2, 0, 0), (62, .iload 4, 2, 0, 0), (64, .if_icmp .gt 113, 3, 0, 0), (67, .aload_n 3, 1, 0, 0), (68, .iload_n 1, 1, 0, 0), (69, .iload 6, 2, 0, 0), (71, .iconst 1, 1, 0, 0), (72, .isub, 1, 0, 0), (73, .invokevirtual 84, 3, 31, 0), (76, .istore 7, 2, 0, 0), (78, .aload_n 0, 1, 0, 0), (79, .getfield 21, 3, 3, 2), (82, .iconst 0, 1, 0, 0), (83, .iaload, 1, 0, 0), (84, .istore 8, 2, 0, 0), (86, .aload_n 0, 1, 0, 0), (87, .getfield 21, 3, 3, 2), (90, .iconst 0, 1, 0, 0), (91, .iload 6, 2, 0, 0), (93, .iastore, 1, 0, 0), (94, .iconst 1, 1, 0, 0), (95, .istore 9, 2, 0, 0), (97, .iload 9, 2, 0, 0), (99, .iload 5, 2, 0, 0), (101, .if_icmp .gt 70, 3, 0, 0), (104, .iload 8, 2, 0, 0), (106, .iload 7, 2, 0, 0), (108, .aload_n 3, 1, 0, 0), (109, .iload_n 2, 1, 0, 0), (110, .iload 9, 2, 0, 0), (112, .iconst 1, 1, 0, 0), (113, .isub, 1, 0, 0), (114, .invokevirtual 84, 3, 31, 0), (117, .if_icmp .ne 7, 3, 0, 0), (120, .iconst 0, 1, 0, 0), (121, .goto 4, 3, 0, 0), (124, .iconst 1, 1, 0, 0), (125, .iadd, 1, 0, 0), (126, .istore 10, 2, 0, 0), (128, .aload_n 0, 1, 0, 0), (129, .getfield 21, 3, 3, 2), (132, .iload 9, 2, 0, 0), (134, .iaload, 1, 0, 0), (135, .istore 8, 2, 0, 0), (137, .aload_n 0, 1, 0, 0), (138, .getfield 21, 3, 3, 2), (141, .iload 9, 2, 0, 0), (143, .iload 10, 2, 0, 0), (145, .iconst 1, 1, 0, 0), (146, .iload 8, 2, 0, 0), (148, .aload_n 0, 1, 0, 0), (149, .getfield 21, 3, 3, 2), (152, .iload 9, 2, 0, 0), (154, .iconst 1, 1, 0, 0), (155, .isub, 1, 0, 0), (156, .iaload, 1, 0, 0), (157, .invokestatic 53, 3, 3, 0), (160, .iadd, 1, 0, 0), (161, .invokestatic 53, 3, 3, 0), (164, .iastore, 1, 0, 0), (165, .iinc 9 1, 3, 0, 0), (168, .goto (-71), 3, 0, 0), (171, .iinc 6 1, 3, 0, 0), (174, .goto (-114), 3, 0, 0), (177, .aload_n 0, 1, 0, 0), (178, .getfield 21, 3, 3, 2), (181, .iload 5, 2, 0, 0), (183, .iaload, 1, 0, 0), (184, .ireturn, 1, 0, 0)]
set_option maxRecDepth 100000 in
theorem ck61 : codeOK 61 cd61 := ⟨by decide, by decide +kernel⟩
/-- CountedTwice$Parser.<init>()V -/
def cd62 : List Ent := [(0, .aload_n 0, 1, 0, 0), (1, .invokespecial 3, 3, 999, 0), (4, .aload_n 0, 1, 0, 0), (5, .iconst 0, 1, 0, 0), (6, .putfield 9, 3, 4, 0), (9, .aload_n 0, 1, 0, 0), (10, .iconst (-1), 1, 0, 0), (11, .putfield 15, 3, 4, 1), (14, .aload_n 0, 1, 0, 0), (15, .iconst 0, 1, 0, 0), (16, .putfield 18, 3, 4, 2), (19, .aload_n 0, 1, 0, 0), (20, .iconst 0, 1, 0, 0), (21, .putfield 21, 3, 4, 3), (24, .aload_n 0, 1, 0, 0), (25, .sipush 400, 3, 0, 0), (28, .newarray .int, 2, 0, 0), (30, .putfield 24, 3, 4, 4), (33, .aload_n 0, 1, 0, 0), (34, .sipush 401, 3, 0, 0), (37, .newarray .int, 2, 0, 0), (39, .putfield 28, 3, 4, 5), (42, .aload_n 0, 1, 0, 0), (43, .sipush 401, 3, 0, 0), (46, .newarray .int, 2, 0, 0), (48, .putfield 31, 3, 4, 6), (51, .aload_n 0, 1, 0, 0), (52, .sipush 401, 3, 0, 0), (55, .newarray .int, 2, 0, 0), (57, .putfield 34, 3, 4, 7), (60, .aload_n 0, 1, 0, 0), (61, .iconst 0, 1, 0, 0), (62, .putfield 37, 3, 4, 8), (65, .aload_n 0, 1, 0, 0), (66, .iconst 0, 1, 0, 0), (67, .putfield 40, 3, 4, 9), (70, .return_, 1, 0, 0)]
set_option maxRecDepth 100000 in
theorem ck62 : codeOK 62 cd62 := ⟨by decide, by decide +kernel⟩
/-- CountedTwice$Parser.read([BIZ)V -/
def cd63 : List Ent := [(0, .iload_n 3, 1, 0, 0), (1, .ifCond .eq 8, 3, 0, 0), (4, .ldc 43, 2, 1, 0), (6, .goto 5, 3, 0, 0), (9, .ldc 45, 2, 1, 1), (11, .astore 4, 2, 0, 0), (13, .iload_n 2, 1, 0, 0), (14, .sipush 400, 3, 0, 0), (17, .invokestatic 47, 3, 3, 0), (20, .istore 5, 2, 0, 0), (22, .aload_n 0, 1, 0, 0), (23, .iconst 0, 1, 0, 0), (24, .putfield 37, 3, 4, 8), (27, .iconst 0, 1, 0, 0), (28, .istore 6, 2, 0, 0), (30, .iconst 0, 1, 0, 0), (31, .istore 7, 2, 0, 0), (33, .iload 7, 2, 0, 0), (35, .sipush 400, 3, 0, 0), (38, .if_icmp .ge 105, 3, 0, 0), (41, .iload 6, 2, 0, 0), (43, .iload 5, 2, 0, 0), (45, .if_icmp .ge 98, 3, 0, 0), (48, .aload_n 1, 1, 0, 0), (49, .iload 6, 2, 0, 0), (51, .iload 5, 2, 0, 0), (53, .invokestatic 53, 3, 64, 0), (56, .istore 8, 2, 0, 0), (58, .aload_n 1, 1, 0, 0), (59, .iload 6, 2, 0, 0), (61, .baload, 1, 0, 0), (62, .bipush 32, 2, 0, 0), (64, .if_icmp .eq 69, 3, 0, 0), (67, .aload_n 1, 1, 0, 0), (68, .iload 6, 2, 0, 0), (70, .baload, 1, 0, 0), (71, .bipush 10, 2, 0, 0), (73, .if_icmp .eq 60, 3, 0, 0), (76, .aload_n 0, 1, 0, 0), (77, .getfield 31, 3, 4, 6), (80, .aload_n 0, 1, 0, 0), (81, .getfield 37, 3, 4, 8), (84, .iload 6, 2, 0, 0), (86, .iastore, 1, 0, 0), (87, .aload_n 0, 1, 0, 0), (88, .getfield 34, 3, 4, 7), (91, .aload_n 0, 1, 0, 0), (92, .getfield 37, 3, 4, 8), (95, .aload_n 1, 1, 0, 0), (96, .iload 6, 2, 0, 0), (98, .iload 8, 2, 0, 0), (100, .invokestatic 57, 3, 67, 0), (103, .iastore, 1, 0, 0), (104, .aload_n 0, 1, 0, 0), (105, .getfield 28, 3, 4, 5), (108, .aload_n 0, 1, 0, 0), (109, .getfield 37, 3, 4, 8), (112, .aload_n 1, 1, 0, 0), (113, .iload 6, 2, 0, 0), (115, .iload 8, 2, 0, 0), (117, .aload 4, 2, 0, 0), (119, .invokestatic 60, 3, 65, 0), (122, .iastore, 1, 0, 0), (123, .aload_n 0, 1, 0, 0), (124, .dup, 1, 0, 0), (125, .getfield 37, 3, 4, 8), (128, .iconst 1, 1, 0, 0), (129, .iadd, 1, 0, 0), (130, .putfield 37, 3, 4, 8), (133, .iload 8, 2, 0, 0), (135, .istore 6, 2, 0, 0), (137, .iinc 7 1, 3, 0, 0), (140, .goto (-107), 3, 0, 0), (143, .aload_n 0, 1, 0, 0), (144, .getfield 31, 3, 4, 6), (147, .aload_n 0, 1, 0, 0), (148, .getfield 37, 3, 4, 8), (151, .iload 5, 2, 0, 0), (153, .iastore, 1, 0, 0), (154, .aload_n 0, 1, 0, 0), (155, .getfield 28, 3, 4, 5), (158, .aload_n 0, 1, 0, 0), (159, .getfield 37, 3, 4, 8), (162, .bipush 21, 2, 0, 0), (164, .iastore, 1, 0, 0), (165, .return_, 1, 0, 0)]
set_option maxRecDepth 100000 in
theorem ck63 : codeOK 63 cd63 := ⟨by decide, by decide +kernel⟩
/-- CountedTwice$Parser.tokenEnd([BII)I -/
def cd64 : List Ent := [(0, .aload_n 0, 1, 0, 0), (1, .iload_n 1, 1, 0, 0), (2, .baload, 1, 0, 0), (3, .invokestatic 64, 3, 174, 1), (6, .istore_n 3, 1, 0, 0), (7, .aload_n 0, 1, 0, 0), (8, .iload_n 1, 1, 0, 0), (9, .baload, 1, 0, 0), (10, .invokestatic 68, 3, 175, 1), (13, .istore 4, 2, 0, 0), (15, .iload_n 1, 1, 0, 0), (16, .iconst 1, 1, 0, 0), (17, .iadd, 1, 0, 0), (18, .istore 5, 2, 0, 0), (20, .iload 5, 2, 0, 0), (22, .iload_n 2, 1, 0, 0), (23, .if_icmp .ge 38, 3, 0, 0), (26, .iload_n 3, 1, 0, 0), (27, .ifCond .eq 13, 3, 0, 0), (30, .aload_n 0, 1, 0, 0), (31, .iload 5, 2, 0, 0), (33, .baload, 1, 0, 0), (34, .invokestatic 64, 3, 174, 1), (37, .ifCond .ne 18, 3, 0, 0), (40, .iload 4, 2, 0, 0), (42, .ifCond .eq 19, 3, 0, 0), (45, .aload_n 0, 1, 0, 0), (46, .iload 5, 2, 0, 0), (48, .baload, 1, 0, 0), (49, .invokestatic 68, 3, 175, 1), (52, .ifCond .eq 9, 3, 0, 0), (55, .iinc 5 1, 3, 0, 0), (58, .goto (-38), 3, 0, 0), (61, .iload 5, 2, 0, 0), (63, .ireturn, 1, 0, 0)]
set_option maxRecDepth 100000 in
theorem ck64 : codeOK 64 cd64 := ⟨by decide, by decide +kernel⟩
/-- CountedTwice$Parser.kindOf([BIILjava/lang/String;)I -/
def cd65 : List Ent := [(0, .aload_n 0, 1, 0, 0), (1, .iload_n 1, 1, 0, 0), (2, .baload, 1, 0, 0), (3, .istore 4, 2, 0, 0), (5, .iload 4, 2, 0, 0), (7, .invokestatic 64, 3, 174, 1), (10, .ifCond .eq 11, 3, 0, 0), (13, .aload_n 0, 1, 0, 0), (14, .iload_n 1, 1, 0, 0), (15, .iload_n 2, 1, 0, 0), (16, .aload_n 3, 1, 0, 0), (17, .invokestatic 71, 3, 66, 0), (20, .ireturn, 1, 0, 0), (21, .iload 4, 2, 0, 0), (23, .invokestatic 68, 3, 175, 1), (26, .ifCond .eq 18, 3, 0, 0), (29, .iload_n 2, 1, 0, 0), (30, .iload_n 1, 1, 0, 0), (31, .isub, 1, 0, 0), (32, .iconst 4, 1, 0, 0), (33, .if_icmp .gt 8, 3, 0, 0), (36, .bipush 20, 2, 0, 0), (38, .goto 5, 3, 0, 0), (41, .bipush 22, 2, 0, 0), (43, .ireturn, 1, 0, 0), (44, .iload 4, 2, 0, 0), (46, .ifCond .le 19, 3, 0, 0), (49, .ldc 74, 2, 1, 2), (51, .iload 4, 2, 0, 0), (53, .i2c, 1, 0, 0), (54, .invokevirtual 76, 3, 11, 0), (57, .ifCond .lt 8, 3, 0, 0), (60, .iload 4, 2, 0, 0), (62, .goto 5, 3, 0, 0), (65, .bipush 22, 2, 0, 0), (67, .ireturn, 1, 0, 0)]
set_option maxRecDepth 100000 in
theorem ck65 : codeOK 65 cd65 := ⟨by decide, by decide +kernel⟩
/-- CountedTwice$Parser.keyword([BIILjava/lang/String;)I -/
def cd66 : List Ent := [(0, .iconst 0, 1, 0, 0), (1, .istore 4, 2, 0, 0), (3, .iload_n 1, 1, 0, 0), (4, .istore 5, 2, 0, 0), (6, .iconst 0, 1, 0, 0), (7, .istore 6, 2, 0, 0), (9, .iload 6, 2, 0, 0), (11, .aload_n 3, 1, 0, 0), (12, .invokevirtual 82, 3, 4, 0), (15, .if_icmp .gt 83, 3, 0, 0), (18, .iload 6, 2, 0, 0), (20, .aload_n 3, 1, 0, 0), (21, .invokevirtual 82, 3, 4, 0), (24, .if_icmp .ge 12, 3, 0, 0), (27, .aload_n 3, 1, 0, 0), (28, .iload 6, 2, 0, 0), (30, .invokevirtual 85, 3, 6, 0), (33, .goto 5, 3, 0, 0), (36, .bipush 32, 2, 0, 0), (38, .istore 7, 2, 0, 0), (40, .iload 7, 2, 0, 0), (42, .bipush 32, 2, 0, 0), (44, .if_icmp .eq 33, 3, 0, 0), (47, .iload 5, 2, 0, 0), (49, .iload_n 2, 1, 0, 0), (50, .if_icmp .ge 19, 3, 0, 0), (53, .aload_n 0, 1, 0, 0), (54, .iload 5, 2, 0, 0), (56, .baload, 1, 0, 0), (57, .iload 7, 2, 0, 0), (59, .if_icmp .ne 10, 3, 0, 0), (62, .iload 5, 2, 0, 0), (64, .iconst 1, 1, 0, 0), (65, .iadd, 1, 0, 0), (66, .goto 6, 3, 0, 0), (69, .iload_n 2, 1, 0, 0), (70, .iconst 1, 1, 0, 0), (71, .iadd, 1, 0, 0), (72, .istore 5, 2, 0, 0), (74, .goto 18, 3, 0, 0), (77, .iload 5, 2, 0, 0), (79, .iload_n 2, 1, 0, 0), (80, .if_icmp .ne 6, 3, 0, 0), (83, .iload 4, 2, 0, 0), (85, .ireturn, 1, 0, 0), (86, .iinc 4 1, 3, 0, 0), (89, .iload_n 1, 1, 0, 0), (90, .istore 5, 2, 0, 0), (92, .iinc 6 1, 3, 0, 0), (95, .goto (-86), 3, 0, 0), (98, .bipush 22, 2, 0, 0), (100, .ireturn, 1, 0, 0)]
set_option maxRecDepth 100000 in
theorem ck66 : codeOK 66 cd66 := ⟨by decide, by decide +kernel⟩
/-- CountedTwice$Parser.numberIn([BII)I -/
def cd67 : List Ent := [(0, .iconst 0, 1, 0, 0), (1, .istore_n 3, 1, 0, 0), (2, .iload_n 1, 1, 0, 0), (3, .istore 4, 2, 0, 0), (5, .iload 4, 2, 0, 0), (7, .iload_n 2, 1, 0, 0), (8, .if_icmp .ge 30, 3, 0, 0), (11, .iload 4, 2, 0, 0), (13, .iload_n 1, 1, 0, 0), (14, .iconst 4, 1, 0, 0), (15, .iadd, 1, 0, 0), (16, .if_icmp .ge 22, 3, 0, 0), (19, .iload_n 3, 1, 0, 0), (20, .bipush 10, 2, 0, 0), (22, .imul, 1, 0, 0), (23, .aload_n 0, 1, 0, 0), (24, .iload 4, 2, 0, 0), (26, .baload, 1, 0, 0), (27, .bipush 48, 2, 0, 0), (29, .isub, 1, 0, 0), (30, .iadd, 1, 0, 0), (31, .istore_n 3, 1, 0, 0), (32, .iinc 4 1, 3, 0, 0), (35, .goto (-30), 3, 0, 0), (38, .iload_n 3, 1, 0, 0), (39, .ireturn, 1, 0, 0)]
set_option maxRecDepth 100000 in
theorem ck67 : codeOK 67 cd67 := ⟨by decide, by decide +kernel⟩
/-- CountedTwice$Parser.parse()V -/
def cd68 : List Ent := [(0, .aload_n 0, 1, 0, 0), (1, .iconst 0, 1, 0, 0), (2, .putfield 40, 3, 4, 9), (5, .aload_n 0, 1, 0, 0), (6, .iconst 0, 1, 0, 0), (7, .putfield 9, 3, 4, 0), (10, .aload_n 0, 1, 0, 0), (11, .iconst (-1), 1, 0, 0), (12, .putfield 15, 3, 4, 1), (15, .aload_n 0, 1, 0, 0), (16, .iconst 0, 1, 0, 0), (17, .putfield 21, 3, 4, 3), (20, .aload_n 0, 1, 0, 0), (21, .iconst 0, 1, 0, 0), (22, .putfield 18, 3, 4, 2), (25, .iconst 0, 1, 0, 0), (26, .istore_n 1, 1, 0, 0), (27, .iload_n 1, 1, 0, 0), (28, .bipush 16, 2, 0, 0), (30, .if_icmp .gt 105, 3, 0, 0), (33, .aload_n 0, 1, 0, 0), (34, .getfield 9, 3, 4, 0), (37, .ifCond .ne 98, 3, 0, 0), (40, .aload_n 0, 1, 0, 0), (41, .invokevirtual 89, 3, 74, 0), (44, .bipush 21, 2, 0, 0), (46, .if_icmp .eq 89, 3, 0, 0), (49, .aload_n 0, 1, 0, 0), (50, .invokevirtual 89, 3, 74, 0), (53, .istore_n 2, 1, 0, 0), (54, .iload_n 2, 1, 0, 0), (55, .iconst 2, 1, 0, 0), (56, .if_icmp .lt 11, 3, 0, 0), (59, .aload_n 0, 1, 0, 0), (60, .iconst 1, 1, 0, 0), (61, .invokevirtual 92, 3, 77, 0), (64, .goto 65, 3, 0, 0), (67, .aload_n 0, 1, 0, 0), (68, .getfield 18, 3, 4, 2), (71, .bipush 16, 2, 0, 0), (73, .if_icmp .ne 11, 3, 0, 0), (76, .aload_n 0, 1, 0, 0), (77, .iconst 3, 1, 0, 0), (78, .invokevirtual 92, 3, 77, 0), (81, .goto 48, 3, 0, 0), (84, .aload_n 0, 1, 0, 0), (85, .dup, 1, 0, 0), (86, .getfield 40, 3, 4, 9), (89, .iconst 1, 1, 0, 0), (90, .iadd, 1, 0, 0), (91, .putfield 40, 3, 4, 9), (94, .aload_n 0, 1, 0, 0), (95, .iconst 2, 1, 0, 0), (96, .invokevirtual 96, 3, 76, 0), (99, .aload_n 0, 1, 0, 0), (100, .iconst 0, 1, 0, 0), (101, .invokevirtual 99, 3, 69, 0), (104, .aload_n 0, 1, 0, 0), (105, .bipush 59, 2, 0, 0), (107, .invokevirtual 96, 3, 76, 0), (110, .aload_n 0, 1, 0, 0), (111, .sipush 30000, 3, 0, 0), (114, .iload_n 2, 1, 0, 0), (115, .iadd, 1, 0, 0), (116, .invokevirtual 104, 3, 78, 0), (119, .aload_n 0, 1, 0, 0), (120, .dup, 1, 0, 0), (121, .getfield 18, 3, 4, 2), (124, .iconst 1, 1, 0, 0), (125, .iadd, 1, 0, 0), (126, .putfield 18, 3, 4, 2), (129, .iinc 1 1, 3, 0, 0), (132, .goto (-105), 3, 0, 0), (135, .return_, 1, 0, 0)]
set_option maxRecDepth 100000 in
theorem ck68 : codeOK 68 cd68 := ⟨by decide, by decide +kernel⟩
/-- CountedTwice$Parser.readAny(I)V -/
def cd69 : List Ent := [(0, .iconst 1, 1, 0, 0), (1, .istore_n 2, 1, 0, 0), (2, .iconst 0, 1, 0, 0), (3, .istore_n 3, 1, 0, 0), (4, .iload_n 3, 1, 0, 0), (5, .sipush 400, 3, 0, 0), (8, .if_icmp .ge 125, 3, 0, 0), (11, .iload_n 2, 1, 0, 0), (12, .ifCond .eq 121, 3, 0, 0), (15, .aload_n 0, 1, 0, 0), (16, .getfield 9, 3, 4, 0), (19, .ifCond .ne 114, 3, 0, 0), (22, .aload_n 0, 1, 0, 0), (23, .iload_n 1, 1, 0, 0), (24, .invokevirtual 107, 3, 70, 0), (27, .iconst 0, 1, 0, 0), (28, .istore 4, 2, 0, 0), (30, .iload 4, 2, 0, 0), (32, .sipush 400, 3, 0, 0), (35, .if_icmp .ge 46, 3, 0, 0), (38, .aload_n 0, 1, 0, 0), (39, .getfield 9, 3, 4, 0), (42, .ifCond .ne 39, 3, 0, 0), (45, .aload_n 0, 1, 0, 0), (46, .invokevirtual 89, 3, 74, 0), (49, .iconst 4, 1, 0, 0), (50, .if_icmp .ne 31, 3, 0, 0), (53, .aload_n 0, 1, 0, 0), (54, .dup, 1, 0, 0), (55, .getfield 40, 3, 4, 9), (58, .iconst 1, 1, 0, 0), (59, .iadd, 1, 0, 0), (60, .putfield 40, 3, 4, 9), (63, .aload_n 0, 1, 0, 0), (64, .iload_n 1, 1, 0, 0), (65, .invokevirtual 107, 3, 70, 0), (68, .aload_n 0, 1, 0, 0), (69, .sipush 20004, 3, 0, 0), (72, .invokevirtual 104, 3, 78, 0), (75, .iinc 4 1, 3, 0, 0), (78, .goto (-48), 3, 0, 0), (81, .iload_n 3, 1, 0, 0), (82, .ifCond .le 10, 3, 0, 0), (85, .aload_n 0, 1, 0, 0), (86, .sipush 20003, 3, 0, 0), (89, .invokevirtual 104, 3, 78, 0), (92, .aload_n 0, 1, 0, 0), (93, .invokevirtual 89, 3, 74, 0), (96, .iconst 3, 1, 0, 0), (97, .if_icmp .ne 7, 3, 0, 0), (100, .iconst 1, 1, 0, 0), (101, .goto 4, 3, 0, 0), (104, .iconst 0, 1, 0, 0), (105, .istore_n 2, 1, 0, 0), (106, .iload_n 2, 1, 0, 0), (107, .ifCond .eq 20, 3, 0, 0), (110, .aload_n 0, 1, 0, 0), (111, .getfield 9, 3, 4, 0), (114, .ifCond .ne 13, 3, 0, 0), (117, .aload_n 0, 1, 0, 0), (118, .dup, 1, 0, 0), (119, .getfield 40, 3, 4, 9), (122, .iconst 1, 1, 0, 0), (123, .iadd, 1, 0, 0), (124, .putfield 40, 3, 4, 9), (127, .iinc 3 1, 3, 0, 0), (130, .goto (-126), 3, 0, 0), (133, .return_, 1, 0, 0)]
set_option maxRecDepth 100000 in
theorem ck69 : codeOK 69 cd69 := ⟨by decide, by decide +kernel⟩
/-- CountedTwice$Parser.readOne(I)V -/
def cd70 : List Ent := [(0, .aload_n 0, 1, 0, 0), (1, .invokevirtual 89, 3, 74, 0), (4, .istore_n 2, 1, 0, 0), (5, .aload_n 0, 1, 0, 0), (6, .getfield 9, 3, 4, 0), (9, .ifCond .eq 4, 3, 0, 0), (12, .return_, 1, 0, 0), (13, .iload_n 2, 1, 0, 0), (14, .iconst 5, 1, 0, 0), (15, .if_icmp .eq 9, 3, 0, 0), (18, .iload_n 2, 1, 0, 0), (19, .bipush 40, 2, 0, 0), (21, .if_icmp .ne 61, 3, 0, 0), (24, .iload_n 1, 1, 0, 0), (25, .bipush 8, 2, 0, 0), (27, .if_icmp .lt 9, 3, 0, 0), (30, .aload_n 0, 1, 0, 0), (31, .iconst 3, 1, 0, 0), (32, .invokevirtual 92, 3, 77, 0), (35, .return_, 1, 0, 0), (36, .aload_n 0, 1, 0, 0), (37, .dup, 1, 0, 0), (38, .getfield 40, 3, 4, 9), (41, .iconst 1, 1, 0, 0), (42, .iadd, 1, 0, 0), (43, .putfield 40, 3, 4, 9), (46, .iload_n 2, 1, 0, 0), (47, .iconst 5, 1, 0, 0), (48, .if_icmp .ne 20, 3, 0, 0), (51, .aload_n 0, 1, 0, 0), (52, .iload_n 1, 1, 0, 0), (53, .iconst 1, 1, 0, 0), (54, .iadd, 1, 0, 0), (55, .invokevirtual 107, 3, 70, 0), (58, .aload_n 0, 1, 0, 0), (59, .sipush 20005, 3, 0, 0), (62, .invokevirtual 104, 3, 78, 0), (65, .goto 16, 3, 0, 0), (68, .aload_n 0, 1, 0, 0), (69, .iload_n 1, 1, 0, 0), (70, .iconst 1, 1, 0, 0), (71, .iadd, 1, 0, 0), (72, .invokevirtual 99, 3, 69, 0), (75, .aload_n 0, 1, 0, 0), (76, .bipush 41, 2, 0, 0), (78, .invokevirtual 96, 3, 76, 0), (81, .return_, 1, 0, 0), (82, .aload_n 0, 1, 0, 0), (83, .invokevirtual 110, 3, 71, 0), (86, .aload_n 0, 1, 0, 0), (87, .invokevirtual 89, 3, 74, 0), (90, .istore_n 3, 1, 0, 0), (91, .iload_n 3, 1, 0, 0), (92, .bipush 60, 2, 0, 0), (94, .if_icmp .eq 15, 3, 0, 0), (97, .iload_n 3, 1, 0, 0), (98, .bipush 61, 2, 0, 0), (100, .if_icmp .eq 9, 3, 0, 0), (103, .iload_n 3, 1, 0, 0), (104, .bipush 62, 2, 0, 0), (106, .if_icmp .ne 24, 3, 0, 0), (109, .aload_n 0, 1, 0, 0), (110, .iload_n 3, 1, 0, 0), (111, .invokevirtual 96, 3, 76, 0), (114, .aload_n 0, 1, 0, 0), (115, .invokevirtual 110, 3, 71, 0), (118, .aload_n 0, 1, 0, 0), (119, .sipush 20000, 3, 0, 0), (122, .iload_n 3, 1, 0, 0), (123, .iadd, 1, 0, 0), (124, .invokevirtual 104, 3, 78, 0), (127, .goto 8, 3, 0, 0), (130, .aload_n 0, 1, 0, 0), (131, .iconst 1, 1, 0, 0), (132, .invokevirtual 92, 3, 77, 0), (135, .return_, 1, 0, 0)]
set_option maxRecDepth 100000 in
theorem ck70 : codeOK 70 cd70 := ⟨by decide, by decide +kernel⟩
/-- CountedTwice$Parser.readSum()V -/
def cd71 : List Ent := [(0, .aload_n 0, 1, 0, 0), (1, .invokevirtual 113, 3, 72, 0), (4, .iconst 0, 1, 0, 0), (5, .istore_n 1, 1, 0, 0), (6, .iload_n 1, 1, 0, 0), (7, .sipush 400, 3, 0, 0), (10, .if_icmp .ge 62, 3, 0, 0), (13, .aload_n 0, 1, 0, 0), (14, .getfield 9, 3, 4, 0), (17, .ifCond .ne 55, 3, 0, 0), (20, .aload_n 0, 1, 0, 0), (21, .invokevirtual 89, 3, 74, 0), (24, .bipush 43, 2, 0, 0), (26, .if_icmp .eq 12, 3, 0, 0), (29, .aload_n 0, 1, 0, 0), (30, .invokevirtual 89, 3, 74, 0), (33, .bipush 45, 2, 0, 0), (35, .if_icmp .ne 37, 3, 0, 0), (38, .aload_n 0, 1, 0, 0), (39, .invokevirtual 89, 3, 74, 0), (42, .istore_n 2, 1, 0, 0), (43, .aload_n 0, 1, 0, 0), (44, .dup, 1, 0, 0), (45, .getfield 40, 3, 4, 9), (48, .iconst 1, 1, 0, 0), (49, .iadd, 1, 0, 0), (50, .putfield 40, 3, 4, 9), (53, .aload_n 0, 1, 0, 0), (54, .invokevirtual 113, 3, 72, 0), (57, .aload_n 0, 1, 0, 0), (58, .sipush 20000, 3, 0, 0), (61, .iload_n 2, 1, 0, 0), (62, .iadd, 1, 0, 0), (63, .invokevirtual 104, 3, 78, 0), (66, .iinc 1 1, 3, 0, 0), (69, .goto (-63), 3, 0, 0), (72, .return_, 1, 0, 0)]
set_option maxRecDepth 100000 in
theorem ck71 : codeOK 71 cd71 := ⟨by decide, by decide +kernel⟩
/-- CountedTwice$Parser.readProduct()V -/
def cd72 : List Ent := [(0, .aload_n 0, 1, 0, 0), (1, .invokevirtual 116, 3, 73, 0), (4, .iconst 0, 1, 0, 0), (5, .istore_n 1, 1, 0, 0), (6, .iload_n 1, 1, 0, 0), (7, .sipush 400, 3, 0, 0), (10, .if_icmp .ge 106, 3, 0, 0), (13, .aload_n 0, 1, 0, 0), (14, .getfield 9, 3, 4, 0), (17, .ifCond .ne 99, 3, 0, 0), (20, .aload_n 0, 1, 0, 0), (21, .invokevirtual 89, 3, 74, 0), (24, .bipush 42, 2, 0, 0), (26, .if_icmp .eq 12, 3, 0, 0), (29, .aload_n 0, 1, 0, 0), (30, .invokevirtual 89, 3, 74, 0), (33, .bipush 47, 2, 0, 0), (35, .if_icmp .ne 81, 3, 0, 0), (38, .aload_n 0, 1, 0, 0), (39, .invokevirtual 89, 3, 74, 0), (42, .istore_n 2, 1, 0, 0), (43, .aload_n 0, 1, 0, 0), (44, .dup, 1, 0, 0), (45, .getfield 40, 3, 4, 9), (48, .iconst 1, 1, 0, 0), (49, .iadd, 1, 0, 0), (50, .putfield 40, 3, 4, 9), (53, .iload_n 2, 1, 0, 0), (54, .bipush 47, 2, 0, 0), (56, .if_icmp .ne 20, 3, 0, 0), (59, .aload_n 0, 1, 0, 0), (60, .invokevirtual 89, 3, 74, 0), (63, .bipush 20, 2, 0, 0), (65, .if_icmp .eq 11, 3, 0, 0), (68, .aload_n 0, 1, 0, 0), (69, .iconst 1, 1, 0, 0), (70, .invokevirtual 92, 3, 77, 0), (73, .goto 28, 3, 0, 0), (76, .iload_n 2, 1, 0, 0), (77, .bipush 47, 2, 0, 0), (79, .if_icmp .ne 18, 3, 0, 0), (82, .aload_n 0, 1, 0, 0), (83, .invokevirtual 119, 3, 75, 0), (86, .ifCond .ne 11, 3, 0, 0), (89, .aload_n 0, 1, 0, 0), (90, .iconst 2, 1, 0, 0), (91, .invokevirtual 92, 3, 77, 0), (94, .goto 7, 3, 0, 0), (97, .aload_n 0, 1, 0, 0), (98, .invokevirtual 116, 3, 73, 0), (101, .aload_n 0, 1, 0, 0), (102, .sipush 20000, 3, 0, 0), (105, .iload_n 2, 1, 0, 0), (106, .iadd, 1, 0, 0), (107, .invokevirtual 104, 3, 78, 0), (110, .iinc 1 1, 3, 0, 0), (113, .goto (-107), 3, 0, 0), (116, .return_, 1, 0, 0)]
set_option maxRecDepth 100000 in
theorem ck72 : codeOK 72 cd72 := ⟨by decide, by decide +kernel⟩
/-- CountedTwice$Parser.readUnit()V -/
def cd73 : List Ent := [(0, .aload_n 0, 1, 0, 0), (1, .invokevirtual 89, 3, 74, 0), (4, .istore_n 1, 1, 0, 0), (5, .iload_n 1, 1, 0, 0), (6, .bipush 20, 2, 0, 0), (8, .if_icmp .ne 24, 3, 0, 0), (11, .aload_n 0, 1, 0, 0), (12, .aload_n 0, 1, 0, 0), (13, .invokevirtual 119, 3, 75, 0), (16, .invokevirtual 104, 3, 78, 0), (19, .aload_n 0, 1, 0, 0), (20, .dup, 1, 0, 0), (21, .getfield 40, 3, 4, 9), (24, .iconst 1, 1, 0, 0), (25, .iadd, 1, 0, 0), (26, .putfield 40, 3, 4, 9), (29, .goto 45, 3, 0, 0), (32, .iload_n 1, 1, 0, 0), (33, .bipush 6, 2, 0, 0), (35, .if_icmp .lt 34, 3, 0, 0), (38, .iload_n 1, 1, 0, 0), (39, .bipush 20, 2, 0, 0), (41, .if_icmp .ge 28, 3, 0, 0), (44, .aload_n 0, 1, 0, 0), (45, .sipush 10000, 3, 0, 0), (48, .iload_n 1, 1, 0, 0), (49, .iadd, 1, 0, 0), (50, .bipush 6, 2, 0, 0), (52, .isub, 1, 0, 0), (53, .invokevirtual 104, 3, 78, 0), (56, .aload_n 0, 1, 0, 0), (57, .dup, 1, 0, 0), (58, .getfield 40, 3, 4, 9), (61, .iconst 1, 1, 0, 0), (62, .iadd, 1, 0, 0), (63, .putfield 40, 3, 4, 9), (66, .goto 8, 3, 0, 0), (69, .aload_n 0, 1, 0, 0), (70, .iconst 1, 1, 0, 0), (71, .invokevirtual 92, 3, 77, 0), (74, .return_, 1, 0, 0)]
set_option maxRecDepth 100000 in
theorem ck73 : codeOK 73 cd73 := ⟨by decide, by decide +kernel⟩
/-- CountedTwice$Parser.kind()I -/
def cd74 : List Ent := [(0, .aload_n 0, 1, 0, 0), (1, .getfield 40, 3, 4, 9), (4, .ifCond .lt 27, 3, 0, 0), (7, .aload_n 0, 1, 0, 0), (8, .getfield 40, 3, 4, 9), (11, .aload_n 0, 1, 0, 0), (12, .getfield 28, 3, 4, 5), (15, .arraylength, 1, 0, 0), (16, .if_icmp .ge 15, 3, 0, 0), (19, .aload_n 0, 1, 0, 0), (20, .getfield 28, 3, 4, 5), (23, .aload_n 0, 1, 0, 0), (24, .getfield 40, 3, 4, 9), (27, .iaload, 1, 0, 0), (28, .goto 5, 3, 0, 0), (31, .bipush 21, 2, 0, 0), (33, .ireturn, 1, 0, 0)]
set_option maxRecDepth 100000 in
theorem ck74 : codeOK 74 cd74 := ⟨by decide, by decide +kernel⟩
/-- CountedTwice$Parser.number()I -/
def cd75 : List Ent := [(0, .aload_n 0, 1, 0, 0), (1, .getfield 40, 3, 4, 9), (4, .ifCond .lt 27, 3, 0, 0), (7, .aload_n 0, 1, 0, 0), (8, .getfield 40, 3, 4, 9), (11, .aload_n 0, 1, 0, 0), (12, .getfield 34, 3, 4, 7), (15, .arraylength, 1, 0, 0), (16, .if_icmp .ge 15, 3, 0, 0), (19, .aload_n 0, 1, 0, 0), (20, .getfield 34, 3, 4, 7), (23, .aload_n 0, 1, 0, 0), (24, .getfield 40, 3, 4, 9), (27, .iaload, 1, 0, 0), (28, .goto 4, 3, 0, 0), (31, .iconst 0, 1, 0, 0), (32, .ireturn, 1, 0, 0)]
set_option maxRecDepth 100000 in
theorem ck75 : codeOK 75 cd75 := ⟨by decide, by decide +kernel⟩
/-- CountedTwice$Parser.pass(I)V -/
def cd76 : List Ent := [(0, .aload_n 0, 1, 0, 0), (1, .getfield 9, 3, 4, 0), (4, .ifCond .eq 4, 3, 0, 0), (7, .return_, 1, 0, 0), (8, .aload_n 0, 1, 0, 0), (9, .invokevirtual 89, 3, 74, 0), (12, .iload_n 1, 1, 0, 0), (13, .if_icmp .ne 16, 3, 0, 0), (16, .aload_n 0, 1, 0, 0), (17, .dup, 1, 0, 0), (18, .getfield 40, 3, 4, 9), (21, .iconst 1, 1, 0, 0), (22, .iadd, 1, 0, 0), (23, .putfield 40, 3, 4, 9), (26, .goto 8, 3, 0, 0), (29, .aload_n 0, 1, 0, 0), (30, .iconst 1, 1, 0, 0), (31, .invokevirtual 92, 3, 77, 0), (34, .return_, 1, 0, 0)]
set_option maxRecDepth 100000 in
theorem ck76 : codeOK 76 cd76 := ⟨by decide, by decide +kernel⟩
/-- CountedTwice$Parser.refuse(I)V -/
def cd77 : List Ent := [(0, .aload_n 0, 1, 0, 0), (1, .getfield 9, 3, 4, 0), (4, .ifCond .ne 44, 3, 0, 0), (7, .aload_n 0, 1, 0, 0), (8, .iload_n 1, 1, 0, 0), (9, .putfield 9, 3, 4, 0), (12, .aload_n 0, 1, 0, 0), (13, .aload_n 0, 1, 0, 0), (14, .getfield 40, 3, 4, 9), (17, .ifCond .lt 27, 3, 0, 0), (20, .aload_n 0, 1, 0, 0), (21, .getfield 40, 3, 4, 9), (24, .aload_n 0, 1, 0, 0), (25, .getfield 31, 3, 4, 6), (28, .arraylength, 1, 0, 0), (29, .if_icmp .ge 15, 3, 0, 0), (32, .aload_n 0, 1, 0, 0), (33, .getfield 31, 3, 4, 6), (36, .aload_n 0, 1, 0, 0), (37, .getfield 40, 3, 4, 9), (40, .iaload, 1, 0, 0), (41, .goto 4, 3, 0, 0), (44, .iconst (-1), 1, 0, 0), (45, .putfield 15, 3, 4, 1), (48, .return_, 1, 0, 0)]
set_option maxRecDepth 100000 in
theorem ck77 : codeOK 77 cd77 := ⟨by decide, by decide +kernel⟩
/-- CountedTwice$Parser.emit(I)V -/
def cd78 : List Ent := [(0, .aload_n 0, 1, 0, 0), (1, .getfield 9, 3, 4, 0), (4, .ifCond .ne 35, 3, 0, 0), (7, .aload_n 0, 1, 0, 0), (8, .getfield 21, 3, 4, 3), (11, .aload_n 0, 1, 0, 0), (12, .getfield 24, 3, 4, 4), (15, .arraylength, 1, 0, 0), (16, .if_icmp .ge 23, 3, 0, 0), (19, .aload_n 0, 1, 0, 0), (20, .getfield 24, 3, 4, 4), (23, .aload_n 0, 1, 0, 0), (24, .getfield 21, 3, 4, 3), (27, .iload_n 1, 1, 0, 0), (28, .iastore, 1, 0, 0), (29, .aload_n 0, 1, 0, 0), (30, .dup, 1, 0, 0), (31, .getfield 21, 3, 4, 3), (34, .iconst 1, 1, 0, 0), (35, .iadd, 1, 0, 0), (36, .putfield 21, 3, 4, 3), (39, .return_, 1, 0, 0)]
set_option maxRecDepth 100000 in
theorem ck78 : codeOK 78 cd78 := ⟨by decide, by decide +kernel⟩
/-- CountedTwice$Persons.<init>(LCountedTwice$World;LCountedTwice$Likeness;)V -/
def cd79 : List Ent := [(0, .aload_n 0, 1, 0, 0), (1, .invokespecial 3, 3, 999, 0), (4, .aload_n 0, 1, 0, 0), (5, .iconst 0, 1, 0, 0), (6, .putfield 9, 3, 5, 0), (9, .aload_n 0, 1, 0, 0), (10, .aload_n 1, 1, 0, 0), (11, .putfield 15, 3, 5, 1), (14, .aload_n 0, 1, 0, 0), (15, .aload_n 2, 1, 0, 0), (16, .putfield 19, 3, 5, 2), (19, .aload_n 0, 1, 0, 0), (20, .iconst 1, 1, 0, 0), (21, .putfield 23, 3, 5, 3), (24, .aload_n 0, 1, 0, 0), (25, .bipush 120, 2, 0, 0), (27, .newarray .int, 2, 0, 0), (29, .putfield 27, 3, 5, 4), (32, .aload_n 0, 1, 0, 0), (33, .bipush 120, 2, 0, 0), (35, .newarray .int, 2, 0, 0), (37, .putfield 31, 3, 5, 5), (40, .aload_n 0, 1, 0, 0), (41, .bipush 120, 2, 0, 0), (43, .newarray .int, 2, 0, 0), (45, .putfield 34, 3, 5, 6), (48, .aload_n 0, 1, 0, 0), (49, .bipush 120, 2, 0, 0), (51, .newarray .int, 2, 0, 0), (53, .putfield 37, 3, 5, 7), (56, .aload_n 0, 1, 0, 0), (57, .bipush 120, 2, 0, 0), (59, .newarray .long, 2, 0, 0), (61, .putfield 40, 3, 5, 8), (64, .aload_n 0, 1, 0, 0), (65, .bipush 120, 2, 0, 0), (67, .newarray .int, 2, 0, 0), (69, .putfield 44, 3, 5, 9), (72, .aload_n 0, 1, 0, 0), (73, .iconst (-1), 1, 0, 0), (74, .putfield 47, 3, 5, 10), (77, .aload_n 0, 1, 0, 0), (78, .sipush 240, 3, 0, 0), (81, .newarray .long, 2, 0, 0), (83, .putfield 50, 3, 5, 11), (86, .aload_n 0, 1, 0, 0), (87, .bipush 120, 2, 0, 0), (89, .newarray .int, 2, 0, 0), (91, .putfield 53, 3, 5, 12), (94, .aload_n 0, 1, 0, 0), (95, .bipush 120, 2, 0, 0), (97, .newarray .int, 2, 0, 0), (99, .putfield 56, 3, 5, 13), (102, .return_, 1, 0, 0)]
set_option maxRecDepth 100000 in
theorem ck79 : codeOK 79 cd79 := ⟨by decide, by decide +kernel⟩
/-- CountedTwice$Persons.forget()V -/
def cd80 : List Ent := [(0, .aload_n 0, 1, 0, 0), (1, .iconst 1, 1, 0, 0), (2, .putfield 23, 3, 5, 3), (5, .return_, 1, 0, 0)]
set_option maxRecDepth 100000 in
theorem ck80 : codeOK 80 cd80 := ⟨by decide, by decide +kernel⟩
/-- CountedTwice$Persons.refresh()V -/
def cd81 : List Ent := [(0, .aload_n 0, 1, 0, 0), (1, .getfield 23, 3, 5, 3), (4, .ifCond .ne 4, 3, 0, 0), (7, .return_, 1, 0, 0), (8, .aload_n 0, 1, 0, 0), (9, .iconst 0, 1, 0, 0), (10, .putfield 23, 3, 5, 3), (13, .aload_n 0, 1, 0, 0), (14, .iconst (-1), 1, 0, 0), (15, .putfield 47, 3, 5, 10), (18, .aload_n 0, 1, 0, 0), (19, .iconst 0, 1, 0, 0), (20, .putfield 9, 3, 5, 0), (23, .aload_n 0, 1, 0, 0), (24, .getfield 27, 3, 5, 4), (27, .iconst (-1), 1, 0, 0), (28, .invokestatic 59, 3, 0, 0), (31, .iconst 0, 1, 0, 0), (32, .istore_n 1, 1, 0, 0), (33, .iload_n 1, 1, 0, 0), (34, .aload_n 0, 1, 0, 0), (35, .getfield 15, 3, 5, 1), (38, .getfield 65, 3, 10, 2), (41, .getfield 71, 3, 0, 0), (44, .if_icmp .ge 38, 3, 0, 0), (47, .aload_n 0, 1, 0, 0), (48, .getfield 27, 3, 5, 4), (51, .iload_n 1, 1, 0, 0), (52, .iaload, 1, 0, 0), (53, .iconst (-1), 1, 0, 0), (54, .if_icmp .ne 22, 3, 0, 0), (57, .aload_n 0, 1, 0, 0), (58, .getfield 15, 3, 5, 1), (61, .getfield 65, 3, 10, 2), (64, .iload_n 1, 1, 0, 0), (65, .invokevirtual 76, 3, 27, 0), (68, .ifCond .eq 8, 3, 0, 0), (71, .aload_n 0, 1, 0, 0), (72, .iload_n 1, 1, 0, 0), (73, .invokevirtual 80, 3, 82, 0), (76, .iinc 1 1, 3, 0, 0), (79, .goto (-46), 3, 0, 0), (82, .return_, 1, 0, 0)]
set_option maxRecDepth 100000 in
theorem ck81 : codeOK 81 cd81 := ⟨by decide, by decide +kernel⟩
end
section
/-- CountedTwice$Persons.gather(I)V -/
def cd82 : List Ent := [(0, .aload_n 0, 1, 0, 0), (1, .getfield 9, 3, 5, 0), (4, .bipush 120, 2, 0, 0), (6, .if_icmp .lt 4, 3, 0, 0), (9, .return_, 1, 0, 0), (10, .aload_n 0, 1, 0, 0), (11, .getfield 9, 3, 5, 0), (14, .istore_n 2, 1, 0, 0), (15, .aload_n 0, 1, 0, 0), (16, .getfield 34, 3, 5, 6), (19, .iload_n 2, 1, 0, 0), (20, .iload_n 1, 1, 0, 0), (21, .iastore, 1, 0, 0), (22, .aload_n 0, 1, 0, 0), (23, .getfield 31, 3, 5, 5), (26, .iload_n 2, 1, 0, 0), (27, .iconst 0, 1, 0, 0), (28, .iastore, 1, 0, 0), (29, .aload_n 0, 1, 0, 0), (30, .getfield 37, 3, 5, 7), (33, .iload_n 2, 1, 0, 0), (34, .iconst 0, 1, 0, 0), (35, .iastore, 1, 0, 0), (36, .aload_n 0, 1, 0, 0), (37, .getfield 40, 3, 5, 8), (40, .iload_n 2, 1, 0, 0), (41, .lconst 0, 1, 0, 0), (42, .lastore, 1, 0, 0), (43, .aload_n 0, 1, 0, 0), (44, .dup, 1, 0, 0), (45, .getfield 9, 3, 5, 0), (48, .iconst 1, 1, 0, 0), (49, .iadd, 1, 0, 0), (50, .putfield 9, 3, 5, 0), (53, .aload_n 0, 1, 0, 0), (54, .iload_n 2, 1, 0, 0), (55, .iload_n 1, 1, 0, 0), (56, .invokevirtual 84, 3, 83, 0), (59, .iconst 0, 1, 0, 0), (60, .istore_n 3, 1, 0, 0), (61, .iload_n 3, 1, 0, 0), (62, .aload_n 0, 1, 0, 0), (63, .getfield 31, 3, 5, 5), (66, .iload_n 2, 1, 0, 0), (67, .iaload, 1, 0, 0), (68, .if_icmp .ge 93, 3, 0, 0), (71, .iload_n 3, 1, 0, 0), (72, .bipush 120, 2, 0, 0), (74, .if_icmp .ge 87, 3, 0, 0), (77, .iload_n 1, 1, 0, 0), (78, .iconst 1, 1, 0, 0), (79, .iadd, 1, 0, 0), (80, .istore 4, 2, 0, 0), (82, .iload 4, 2, 0, 0), (84, .aload_n 0, 1, 0, 0), (85, .getfield 15, 3, 5, 1), (88, .getfield 65, 3, 10, 2), (91, .getfield 71, 3, 0, 0), (94, .if_icmp .ge 61, 3, 0, 0), (97, .aload_n 0, 1, 0, 0), (98, .getfield 27, 3, 5, 4), (101, .iload 4, 2, 0, 0), (103, .iaload, 1, 0, 0), (104, .iconst (-1), 1, 0, 0), (105, .if_icmp .ne 44, 3, 0, 0), (108, .aload_n 0, 1, 0, 0), (109, .getfield 15, 3, 5, 1), (112, .getfield 65, 3, 10, 2), (115, .iload 4, 2, 0, 0), (117, .invokevirtual 76, 3, 27, 0), (120, .ifCond .eq 29, 3, 0, 0), (123, .aload_n 0, 1, 0, 0), (124, .getfield 19, 3, 5, 2), (127, .iconst 0, 1, 0, 0), (128, .aload_n 0, 1, 0, 0), (129, .getfield 44, 3, 5, 9), (132, .iload_n 3, 1, 0, 0), (133, .iaload, 1, 0, 0), (134, .iload 4, 2, 0, 0), (136, .invokevirtual 88, 3, 58, 0), (139, .ifCond .eq 10, 3, 0, 0), (142, .aload_n 0, 1, 0, 0), (143, .iload_n 2, 1, 0, 0), (144, .iload 4, 2, 0, 0), (146, .invokevirtual 84, 3, 83, 0), (149, .iinc 4 1, 3, 0, 0), (152, .goto (-70), 3, 0, 0), (155, .iinc 3 1, 3, 0, 0), (158, .goto (-97), 3, 0, 0), (161, .return_, 1, 0, 0)]
set_option maxRecDepth 100000 in
theorem ck82 : codeOK 82 cd82 := ⟨by decide, by decide +kernel⟩
/-- CountedTwice$Persons.join(II)V -/
def cd83 : List Ent := [(0, .aload_n 0, 1, 0, 0), (1, .getfield 31, 3, 5, 5), (4, .iload_n 1, 1, 0, 0), (5, .iaload, 1, 0, 0), (6, .istore_n 3, 1, 0, 0), (7, .iload_n 3, 1, 0, 0), (8, .bipush 120, 2, 0, 0), (10, .if_icmp .lt 4, 3, 0, 0), (13, .return_, 1, 0, 0), (14, .aload_n 0, 1, 0, 0), (15, .getfield 44, 3, 5, 9), (18, .iload_n 3, 1, 0, 0), (19, .iload_n 2, 1, 0, 0), (20, .iastore, 1, 0, 0), (21, .aload_n 0, 1, 0, 0), (22, .getfield 31, 3, 5, 5), (25, .iload_n 1, 1, 0, 0), (26, .iload_n 3, 1, 0, 0), (27, .iconst 1, 1, 0, 0), (28, .iadd, 1, 0, 0), (29, .iastore, 1, 0, 0), (30, .aload_n 0, 1, 0, 0), (31, .getfield 27, 3, 5, 4), (34, .iload_n 2, 1, 0, 0), (35, .iload_n 1, 1, 0, 0), (36, .iastore, 1, 0, 0), (37, .aload_n 0, 1, 0, 0), (38, .getfield 37, 3, 5, 7), (41, .iload_n 1, 1, 0, 0), (42, .dup2, 1, 0, 0), (43, .iaload, 1, 0, 0), (44, .iconst 1, 1, 0, 0), (45, .aload_n 0, 1, 0, 0), (46, .getfield 15, 3, 5, 1), (49, .getfield 65, 3, 10, 2), (52, .iload_n 2, 1, 0, 0), (53, .iconst 0, 1, 0, 0), (54, .invokevirtual 94, 3, 29, 0), (57, .ishl, 1, 0, 0), (58, .ior, 1, 0, 0), (59, .iastore, 1, 0, 0), (60, .aload_n 0, 1, 0, 0), (61, .getfield 40, 3, 5, 8), (64, .iload_n 1, 1, 0, 0), (65, .dup2, 1, 0, 0), (66, .laload, 1, 0, 0), (67, .lconst 1, 1, 0, 0), (68, .aload_n 0, 1, 0, 0), (69, .getfield 15, 3, 5, 1), (72, .getfield 65, 3, 10, 2), (75, .iload_n 2, 1, 0, 0), (76, .iconst 2, 1, 0, 0), (77, .invokevirtual 94, 3, 29, 0), (80, .lshl, 1, 0, 0), (81, .lor, 1, 0, 0), (82, .lastore, 1, 0, 0), (83, .return_, 1, 0, 0)]
set_option maxRecDepth 100000 in
theorem ck83 : codeOK 83 cd83 := ⟨by decide, by decide +kernel⟩
/-- CountedTwice$Persons.ofEntry(I)I -/
def cd84 : List Ent := [(0, .iload_n 1, 1, 0, 0), (1, .bipush 120, 2, 0, 0), (3, .invokestatic 98, 3, 172, 1), (6, .ifCond .eq 12, 3, 0, 0), (9, .aload_n 0, 1, 0, 0), (10, .getfield 27, 3, 5, 4), (13, .iload_n 1, 1, 0, 0), (14, .iaload, 1, 0, 0), (15, .goto 4, 3, 0, 0), (18, .iconst (-1), 1, 0, 0), (19, .ireturn, 1, 0, 0)]
set_option maxRecDepth 100000 in
theorem ck84 : codeOK 84 cd84 := ⟨by decide, by decide +kernel⟩
/-- CountedTwice$Persons.entriesOf(I)I -/
def cd85 : List Ent := [(0, .iload_n 1, 1, 0, 0), (1, .aload_n 0, 1, 0, 0), (2, .getfield 9, 3, 5, 0), (5, .invokestatic 98, 3, 172, 1), (8, .ifCond .eq 12, 3, 0, 0), (11, .aload_n 0, 1, 0, 0), (12, .getfield 31, 3, 5, 5), (15, .iload_n 1, 1, 0, 0), (16, .iaload, 1, 0, 0), (17, .goto 4, 3, 0, 0), (20, .iconst (-1), 1, 0, 0), (21, .ireturn, 1, 0, 0)]
set_option maxRecDepth 100000 in
theorem ck85 : codeOK 85 cd85 := ⟨by decide, by decide +kernel⟩
/-- CountedTwice$Persons.leastOf(I)I -/
def cd86 : List Ent := [(0, .iload_n 1, 1, 0, 0), (1, .aload_n 0, 1, 0, 0), (2, .getfield 9, 3, 5, 0), (5, .invokestatic 98, 3, 172, 1), (8, .ifCond .eq 12, 3, 0, 0), (11, .aload_n 0, 1, 0, 0), (12, .getfield 34, 3, 5, 6), (15, .iload_n 1, 1, 0, 0), (16, .iaload, 1, 0, 0), (17, .goto 4, 3, 0, 0), (20, .iconst (-1), 1, 0, 0), (21, .ireturn, 1, 0, 0)]
set_option maxRecDepth 100000 in
theorem ck86 : codeOK 86 cd86 := ⟨by decide, by decide +kernel⟩
/-- CountedTwice$Persons.sortOf(I)I -/
def cd87 : List Ent := [(0, .iload_n 1, 1, 0, 0), (1, .aload_n 0, 1, 0, 0), (2, .getfield 9, 3, 5, 0), (5, .invokestatic 98, 3, 172, 1), (8, .ifCond .eq 14, 3, 0, 0), (11, .aload_n 0, 1, 0, 0), (12, .getfield 37, 3, 5, 7), (15, .iload_n 1, 1, 0, 0), (16, .iaload, 1, 0, 0), (17, .iconst 1, 1, 0, 0), (18, .isub, 1, 0, 0), (19, .goto 4, 3, 0, 0), (22, .iconst (-1), 1, 0, 0), (23, .ireturn, 1, 0, 0)]
set_option maxRecDepth 100000 in
theorem ck87 : codeOK 87 cd87 := ⟨by decide, by decide +kernel⟩
/-- CountedTwice$Persons.housesOf(I)I -/
def cd88 : List Ent := [(0, .iload_n 1, 1, 0, 0), (1, .aload_n 0, 1, 0, 0), (2, .getfield 9, 3, 5, 0), (5, .invokestatic 98, 3, 172, 1), (8, .ifCond .eq 15, 3, 0, 0), (11, .aload_n 0, 1, 0, 0), (12, .getfield 40, 3, 5, 8), (15, .iload_n 1, 1, 0, 0), (16, .laload, 1, 0, 0), (17, .invokestatic 102, 3, 17, 0), (20, .goto 4, 3, 0, 0), (23, .iconst (-1), 1, 0, 0), (24, .ireturn, 1, 0, 0)]
set_option maxRecDepth 100000 in
theorem ck88 : codeOK 88 cd88 := ⟨by decide, by decide +kernel⟩
/-- CountedTwice$Persons.isIn(II)Z -/
def cd89 : List Ent := [(0, .iload_n 2, 1, 0, 0), (1, .iconst (-1), 1, 0, 0), (2, .if_icmp .eq 33, 3, 0, 0), (5, .aload_n 0, 1, 0, 0), (6, .getfield 15, 3, 5, 1), (9, .getfield 108, 3, 10, 1), (12, .aload_n 0, 1, 0, 0), (13, .getfield 15, 3, 5, 1), (16, .getfield 65, 3, 10, 2), (19, .aload_n 0, 1, 0, 0), (20, .iload_n 1, 1, 0, 0), (21, .invokevirtual 112, 3, 86, 0), (24, .iconst 2, 1, 0, 0), (25, .invokevirtual 94, 3, 29, 0), (28, .invokevirtual 116, 3, 121, 0), (31, .iload_n 2, 1, 0, 0), (32, .if_icmp .ne 7, 3, 0, 0), (35, .iconst 1, 1, 0, 0), (36, .goto 4, 3, 0, 0), (39, .iconst 0, 1, 0, 0), (40, .ireturn, 1, 0, 0)]
set_option maxRecDepth 100000 in
theorem ck89 : codeOK 89 cd89 := ⟨by decide, by decide +kernel⟩
/-- CountedTwice$Persons.manyOfSort(II)I -/
def cd90 : List Ent := [(0, .iconst 0, 1, 0, 0), (1, .istore_n 3, 1, 0, 0), (2, .iconst 0, 1, 0, 0), (3, .istore 4, 2, 0, 0), (5, .iload 4, 2, 0, 0), (7, .aload_n 0, 1, 0, 0), (8, .getfield 9, 3, 5, 0), (11, .if_icmp .ge 32, 3, 0, 0), (14, .aload_n 0, 1, 0, 0), (15, .iload 4, 2, 0, 0), (17, .invokevirtual 121, 3, 87, 0), (20, .iload_n 2, 1, 0, 0), (21, .if_icmp .ne 16, 3, 0, 0), (24, .aload_n 0, 1, 0, 0), (25, .iload 4, 2, 0, 0), (27, .iload_n 1, 1, 0, 0), (28, .invokevirtual 124, 3, 89, 0), (31, .ifCond .eq 6, 3, 0, 0), (34, .iinc 3 1, 3, 0, 0), (37, .iinc 4 1, 3, 0, 0), (40, .goto (-35), 3, 0, 0), (43, .iload_n 3, 1, 0, 0), (44, .ireturn, 1, 0, 0)]
set_option maxRecDepth 100000 in
theorem ck90 : codeOK 90 cd90 := ⟨by decide, by decide +kernel⟩
/-- CountedTwice$Persons.missedByBoth(I)I -/
def cd91 : List Ent := [(0, .aload_n 0, 1, 0, 0), (1, .iload_n 1, 1, 0, 0), (2, .iconst 2, 1, 0, 0), (3, .invokevirtual 127, 3, 90, 0), (6, .istore_n 2, 1, 0, 0), (7, .iload_n 2, 1, 0, 0), (8, .ifCond .ne 7, 3, 0, 0), (11, .iconst (-1), 1, 0, 0), (12, .goto 18, 3, 0, 0), (15, .aload_n 0, 1, 0, 0), (16, .iload_n 1, 1, 0, 0), (17, .iconst 0, 1, 0, 0), (18, .invokevirtual 127, 3, 90, 0), (21, .aload_n 0, 1, 0, 0), (22, .iload_n 1, 1, 0, 0), (23, .iconst 1, 1, 0, 0), (24, .invokevirtual 127, 3, 90, 0), (27, .imul, 1, 0, 0), (28, .iload_n 2, 1, 0, 0), (29, .idiv, 1, 0, 0), (30, .ireturn, 1, 0, 0)]
set_option maxRecDepth 100000 in
theorem ck91 : codeOK 91 cd91 := ⟨by decide, by decide +kernel⟩
/-- CountedTwice$Persons.doubles(I)I -/
def cd92 : List Ent := [(0, .iconst 0, 1, 0, 0), (1, .istore_n 2, 1, 0, 0), (2, .iconst 0, 1, 0, 0), (3, .istore_n 3, 1, 0, 0), (4, .iload_n 3, 1, 0, 0), (5, .aload_n 0, 1, 0, 0), (6, .getfield 9, 3, 5, 0), (9, .if_icmp .ge 30, 3, 0, 0), (12, .aload_n 0, 1, 0, 0), (13, .iload_n 3, 1, 0, 0), (14, .invokevirtual 130, 3, 88, 0), (17, .iconst 2, 1, 0, 0), (18, .if_icmp .lt 15, 3, 0, 0), (21, .aload_n 0, 1, 0, 0), (22, .iload_n 3, 1, 0, 0), (23, .iload_n 1, 1, 0, 0), (24, .invokevirtual 124, 3, 89, 0), (27, .ifCond .eq 6, 3, 0, 0), (30, .iinc 2 1, 3, 0, 0), (33, .iinc 3 1, 3, 0, 0), (36, .goto (-32), 3, 0, 0), (39, .iload_n 2, 1, 0, 0), (40, .ireturn, 1, 0, 0)]
set_option maxRecDepth 100000 in
theorem ck92 : codeOK 92 cd92 := ⟨by decide, by decide +kernel⟩
/-- CountedTwice$Persons.mostCouples()I -/
def cd93 : List Ent := [(0, .aload_n 0, 1, 0, 0), (1, .getfield 47, 3, 5, 10), (4, .iconst (-1), 1, 0, 0), (5, .if_icmp .eq 8, 3, 0, 0), (8, .aload_n 0, 1, 0, 0), (9, .getfield 47, 3, 5, 10), (12, .ireturn, 1, 0, 0), (13, .aload_n 0, 1, 0, 0), (14, .invokevirtual 133, 3, 94, 0), (17, .aload_n 0, 1, 0, 0), (18, .getfield 53, 3, 5, 12), (21, .iconst (-1), 1, 0, 0), (22, .invokestatic 59, 3, 0, 0), (25, .aload_n 0, 1, 0, 0), (26, .iconst 0, 1, 0, 0), (27, .putfield 47, 3, 5, 10), (30, .iconst 0, 1, 0, 0), (31, .istore_n 1, 1, 0, 0), (32, .iload_n 1, 1, 0, 0), (33, .aload_n 0, 1, 0, 0), (34, .getfield 9, 3, 5, 0), (37, .if_icmp .ge 35, 3, 0, 0), (40, .aload_n 0, 1, 0, 0), (41, .iload_n 1, 1, 0, 0), (42, .invokevirtual 121, 3, 87, 0), (45, .ifCond .ne 21, 3, 0, 0), (48, .aload_n 0, 1, 0, 0), (49, .iload_n 1, 1, 0, 0), (50, .invokevirtual 136, 3, 95, 0), (53, .ifCond .eq 13, 3, 0, 0), (56, .aload_n 0, 1, 0, 0), (57, .dup, 1, 0, 0), (58, .getfield 47, 3, 5, 10), (61, .iconst 1, 1, 0, 0), (62, .iadd, 1, 0, 0), (63, .putfield 47, 3, 5, 10), (66, .iinc 1 1, 3, 0, 0), (69, .goto (-37), 3, 0, 0), (72, .aload_n 0, 1, 0, 0), (73, .getfield 47, 3, 5, 10), (76, .ireturn, 1, 0, 0)]
set_option maxRecDepth 100000 in
theorem ck93 : codeOK 93 cd93 := ⟨by decide, by decide +kernel⟩
/-- CountedTwice$Persons.findPossible()V -/
def cd94 : List Ent := [(0, .aload_n 0, 1, 0, 0), (1, .getfield 50, 3, 5, 11), (4, .lconst 0, 1, 0, 0), (5, .invokestatic 139, 3, 1, 0), (8, .iconst 0, 1, 0, 0), (9, .istore_n 1, 1, 0, 0), (10, .iload_n 1, 1, 0, 0), (11, .aload_n 0, 1, 0, 0), (12, .getfield 15, 3, 5, 1), (15, .getfield 65, 3, 10, 2), (18, .getfield 71, 3, 0, 0), (21, .if_icmp .ge 92, 3, 0, 0), (24, .aload_n 0, 1, 0, 0), (25, .getfield 27, 3, 5, 4), (28, .iload_n 1, 1, 0, 0), (29, .iaload, 1, 0, 0), (30, .istore_n 2, 1, 0, 0), (31, .aload_n 0, 1, 0, 0), (32, .iload_n 2, 1, 0, 0), (33, .invokevirtual 121, 3, 87, 0), (36, .ifCond .ne 71, 3, 0, 0), (39, .iconst 0, 1, 0, 0), (40, .istore_n 3, 1, 0, 0), (41, .iload_n 3, 1, 0, 0), (42, .aload_n 0, 1, 0, 0), (43, .getfield 15, 3, 5, 1), (46, .getfield 65, 3, 10, 2), (49, .getfield 71, 3, 0, 0), (52, .if_icmp .ge 55, 3, 0, 0), (55, .aload_n 0, 1, 0, 0), (56, .getfield 27, 3, 5, 4), (59, .iload_n 3, 1, 0, 0), (60, .iaload, 1, 0, 0), (61, .istore 4, 2, 0, 0), (63, .aload_n 0, 1, 0, 0), (64, .iload 4, 2, 0, 0), (66, .invokevirtual 121, 3, 87, 0), (69, .iconst 1, 1, 0, 0), (70, .if_icmp .ne 31, 3, 0, 0), (73, .aload_n 0, 1, 0, 0), (74, .getfield 19, 3, 5, 2), (77, .iconst 1, 1, 0, 0), (78, .iload_n 1, 1, 0, 0), (79, .iload_n 3, 1, 0, 0), (80, .invokevirtual 88, 3, 58, 0), (83, .ifCond .eq 18, 3, 0, 0), (86, .aload_n 0, 1, 0, 0), (87, .getfield 50, 3, 5, 11), (90, .iload_n 2, 1, 0, 0), (91, .sipush 128, 3, 0, 0), (94, .imul, 1, 0, 0), (95, .iload 4, 2, 0, 0), (97, .iadd, 1, 0, 0), (98, .invokestatic 142, 3, 177, 1), (101, .iinc 3 1, 3, 0, 0), (104, .goto (-63), 3, 0, 0), (107, .iinc 1 1, 3, 0, 0), (110, .goto (-100), 3, 0, 0), (113, .return_, 1, 0, 0)]
set_option maxRecDepth 100000 in
theorem ck94 : codeOK 94 cd94 := ⟨by decide, by decide +kernel⟩
/-- CountedTwice$Persons.findPartner(I)Z -/
def cd95 : List Ent := [(0, .aload_n 0, 1, 0, 0), (1, .getfield 56, 3, 5, 13), (4, .iconst (-1), 1, 0, 0), (5, .invokestatic 59, 3, 0, 0), (8, .aload_n 0, 1, 0, 0), (9, .getfield 44, 3, 5, 9), (12, .iconst 0, 1, 0, 0), (13, .iload_n 1, 1, 0, 0), (14, .iastore, 1, 0, 0), (15, .iconst 1, 1, 0, 0), (16, .istore_n 2, 1, 0, 0), (17, .iconst 0, 1, 0, 0), (18, .istore_n 3, 1, 0, 0), (19, .iload_n 3, 1, 0, 0), (20, .iload_n 2, 1, 0, 0), (21, .if_icmp .ge 121, 3, 0, 0), (24, .iload_n 3, 1, 0, 0), (25, .bipush 120, 2, 0, 0), (27, .if_icmp .ge 115, 3, 0, 0), (30, .iconst 0, 1, 0, 0), (31, .istore 4, 2, 0, 0), (33, .iload 4, 2, 0, 0), (35, .aload_n 0, 1, 0, 0), (36, .getfield 9, 3, 5, 0), (39, .if_icmp .ge 97, 3, 0, 0), (42, .aload_n 0, 1, 0, 0), (43, .getfield 56, 3, 5, 13), (46, .iload 4, 2, 0, 0), (48, .iaload, 1, 0, 0), (49, .iconst (-1), 1, 0, 0), (50, .if_icmp .ne 80, 3, 0, 0), (53, .aload_n 0, 1, 0, 0), (54, .getfield 50, 3, 5, 11), (57, .aload_n 0, 1, 0, 0), (58, .getfield 44, 3, 5, 9), (61, .iload_n 3, 1, 0, 0), (62, .iaload, 1, 0, 0), (63, .sipush 128, 3, 0, 0), (66, .imul, 1, 0, 0), (67, .iload 4, 2, 0, 0), (69, .iadd, 1, 0, 0), (70, .invokestatic 146, 3, 176, 1), (73, .ifCond .eq 57, 3, 0, 0), (76, .aload_n 0, 1, 0, 0), (77, .getfield 56, 3, 5, 13), (80, .iload 4, 2, 0, 0), (82, .aload_n 0, 1, 0, 0), (83, .getfield 44, 3, 5, 9), (86, .iload_n 3, 1, 0, 0), (87, .iaload, 1, 0, 0), (88, .iastore, 1, 0, 0), (89, .aload_n 0, 1, 0, 0), (90, .getfield 53, 3, 5, 12), (93, .iload 4, 2, 0, 0), (95, .iaload, 1, 0, 0), (96, .iconst (-1), 1, 0, 0), (97, .if_icmp .ne 11, 3, 0, 0), (100, .aload_n 0, 1, 0, 0), (101, .iload 4, 2, 0, 0), (103, .invokevirtual 150, 3, 96, 0), (106, .iconst 1, 1, 0, 0), (107, .ireturn, 1, 0, 0), (108, .iload_n 2, 1, 0, 0), (109, .bipush 120, 2, 0, 0), (111, .if_icmp .ge 19, 3, 0, 0), (114, .aload_n 0, 1, 0, 0), (115, .getfield 44, 3, 5, 9), (118, .iload_n 2, 1, 0, 0), (119, .aload_n 0, 1, 0, 0), (120, .getfield 53, 3, 5, 12), (123, .iload 4, 2, 0, 0), (125, .iaload, 1, 0, 0), (126, .iastore, 1, 0, 0), (127, .iinc 2 1, 3, 0, 0), (130, .iinc 4 1, 3, 0, 0), (133, .goto (-100), 3, 0, 0), (136, .iinc 3 1, 3, 0, 0), (139, .goto (-120), 3, 0, 0), (142, .iconst 0, 1, 0, 0), (143, .ireturn, 1, 0, 0)]
set_option maxRecDepth 100000 in
theorem ck95 : codeOK 95 cd95 := ⟨by decide, by decide +kernel⟩
/-- CountedTwice$Persons.change(I)V -/
def cd96 : List Ent := [(0, .iload_n 1, 1, 0, 0), (1, .istore_n 2, 1, 0, 0), (2, .iconst 0, 1, 0, 0), (3, .istore_n 3, 1, 0, 0), (4, .iload_n 3, 1, 0, 0), (5, .aload_n 0, 1, 0, 0), (6, .getfield 9, 3, 5, 0), (9, .if_icmp .ge 69, 3, 0, 0), (12, .iload_n 2, 1, 0, 0), (13, .aload_n 0, 1, 0, 0), (14, .getfield 9, 3, 5, 0), (17, .invokestatic 98, 3, 172, 1), (20, .ifCond .eq 58, 3, 0, 0), (23, .aload_n 0, 1, 0, 0), (24, .getfield 56, 3, 5, 13), (27, .iload_n 2, 1, 0, 0), (28, .iaload, 1, 0, 0), (29, .istore 4, 2, 0, 0), (31, .iload 4, 2, 0, 0), (33, .aload_n 0, 1, 0, 0), (34, .getfield 9, 3, 5, 0), (37, .invokestatic 98, 3, 172, 1), (40, .ifCond .ne 4, 3, 0, 0), (43, .return_, 1, 0, 0), (44, .aload_n 0, 1, 0, 0), (45, .getfield 53, 3, 5, 12), (48, .iload 4, 2, 0, 0), (50, .iaload, 1, 0, 0), (51, .istore 5, 2, 0, 0), (53, .aload_n 0, 1, 0, 0), (54, .getfield 53, 3, 5, 12), (57, .iload 4, 2, 0, 0), (59, .iload_n 2, 1, 0, 0), (60, .iastore, 1, 0, 0), (61, .aload_n 0, 1, 0, 0), (62, .getfield 53, 3, 5, 12), (65, .iload_n 2, 1, 0, 0), (66, .iload 4, 2, 0, 0), (68, .iastore, 1, 0, 0), (69, .iload 5, 2, 0, 0), (71, .istore_n 2, 1, 0, 0), (72, .iinc 3 1, 3, 0, 0), (75, .goto (-71), 3, 0, 0), (78, .return_, 1, 0, 0)]
set_option maxRecDepth 100000 in
theorem ck96 : codeOK 96 cd96 := ⟨by decide, by decide +kernel⟩
/-- CountedTwice$Round.<init>()V -/
def cd97 : List Ent := [(0, .aload_n 0, 1, 0, 0), (1, .invokespecial 3, 3, 999, 0), (4, .aload_n 0, 1, 0, 0), (5, .iconst 0, 1, 0, 0), (6, .putfield 9, 3, 6, 0), (9, .aload_n 0, 1, 0, 0), (10, .bipush 24, 2, 0, 0), (12, .newarray .int, 2, 0, 0), (14, .putfield 15, 3, 6, 1), (17, .aload_n 0, 1, 0, 0), (18, .bipush 24, 2, 0, 0), (20, .newarray .int, 2, 0, 0), (22, .putfield 19, 3, 6, 2), (25, .return_, 1, 0, 0)]
set_option maxRecDepth 100000 in
theorem ck97 : codeOK 97 cd97 := ⟨by decide, by decide +kernel⟩
/-- CountedTwice$Round.copyFrom(LCountedTwice$Round;)V -/
def cd98 : List Ent := [(0, .aload_n 0, 1, 0, 0), (1, .aload_n 1, 1, 0, 0), (2, .getfield 9, 3, 6, 0), (5, .putfield 9, 3, 6, 0), (8, .aload_n 1, 1, 0, 0), (9, .getfield 15, 3, 6, 1), (12, .iconst 0, 1, 0, 0), (13, .aload_n 0, 1, 0, 0), (14, .getfield 15, 3, 6, 1), (17, .iconst 0, 1, 0, 0), (18, .bipush 24, 2, 0, 0), (20, .invokestatic 22, 3, 998, 0), (23, .aload_n 1, 1, 0, 0), (24, .getfield 19, 3, 6, 2), (27, .iconst 0, 1, 0, 0), (28, .aload_n 0, 1, 0, 0), (29, .getfield 19, 3, 6, 2), (32, .iconst 0, 1, 0, 0), (33, .bipush 24, 2, 0, 0), (35, .invokestatic 22, 3, 998, 0), (38, .return_, 1, 0, 0)]
set_option maxRecDepth 100000 in
theorem ck98 : codeOK 98 cd98 := ⟨by decide, by decide +kernel⟩
/-- CountedTwice$Round.put(III)I -/
def cd99 : List Ent := [(0, .iload_n 1, 1, 0, 0), (1, .bipush 24, 2, 0, 0), (3, .invokestatic 28, 3, 172, 1), (6, .ifCond .eq 24, 3, 0, 0), (9, .aload_n 0, 1, 0, 0), (10, .getfield 15, 3, 6, 1), (13, .iload_n 1, 1, 0, 0), (14, .iload_n 2, 1, 0, 0), (15, .iastore, 1, 0, 0), (16, .aload_n 0, 1, 0, 0), (17, .getfield 19, 3, 6, 2), (20, .iload_n 1, 1, 0, 0), (21, .iload_n 3, 1, 0, 0), (22, .iastore, 1, 0, 0), (23, .aload_n 0, 1, 0, 0), (24, .iload_n 1, 1, 0, 0), (25, .iconst 1, 1, 0, 0), (26, .iadd, 1, 0, 0), (27, .putfield 9, 3, 6, 0), (30, .aload_n 0, 1, 0, 0), (31, .getfield 9, 3, 6, 0), (34, .ireturn, 1, 0, 0)]
set_option maxRecDepth 100000 in
theorem ck99 : codeOK 99 cd99 := ⟨by decide, by decide +kernel⟩
/-- CountedTwice$Round.firstWrong(LCountedTwice$World;I)I -/
def cd100 : List Ent := [(0, .iconst 0, 1, 0, 0), (1, .istore_n 3, 1, 0, 0), (2, .iload_n 3, 1, 0, 0), (3, .aload_n 0, 1, 0, 0), (4, .getfield 9, 3, 6, 0), (7, .if_icmp .ge 51, 3, 0, 0), (10, .aload_n 1, 1, 0, 0), (11, .aload_n 0, 1, 0, 0), (12, .getfield 15, 3, 6, 1), (15, .iload_n 3, 1, 0, 0), (16, .iaload, 1, 0, 0), (17, .iload_n 2, 1, 0, 0), (18, .aload_n 0, 1, 0, 0), (19, .getfield 19, 3, 6, 2), (22, .iload_n 3, 1, 0, 0), (23, .iaload, 1, 0, 0), (24, .invokevirtual 32, 3, 132, 0), (27, .istore 4, 2, 0, 0), (29, .iload 4, 2, 0, 0), (31, .ifCond .eq 19, 3, 0, 0), (34, .iload_n 3, 1, 0, 0), (35, .ifCond .le 17, 3, 0, 0), (38, .aload_n 0, 1, 0, 0), (39, .aload_n 1, 1, 0, 0), (40, .getfield 38, 3, 10, 1), (43, .iload_n 3, 1, 0, 0), (44, .invokevirtual 42, 3, 101, 0), (47, .ifCond .eq 5, 3, 0, 0), (50, .iload_n 3, 1, 0, 0), (51, .ireturn, 1, 0, 0), (52, .iinc 3 1, 3, 0, 0), (55, .goto (-53), 3, 0, 0), (58, .iconst (-1), 1, 0, 0), (59, .ireturn, 1, 0, 0)]
set_option maxRecDepth 100000 in
theorem ck100 : codeOK 100 cd100 := ⟨by decide, by decide +kernel⟩
/-- CountedTwice$Round.isTooSoon(LCountedTwice$Town;I)Z -/
def cd101 : List Ent := [(0, .aload_n 0, 1, 0, 0), (1, .getfield 19, 3, 6, 2), (4, .iload_n 2, 1, 0, 0), (5, .iaload, 1, 0, 0), (6, .aload_n 0, 1, 0, 0), (7, .getfield 19, 3, 6, 2), (10, .iload_n 2, 1, 0, 0), (11, .iconst 1, 1, 0, 0), (12, .isub, 1, 0, 0), (13, .iaload, 1, 0, 0), (14, .aload_n 1, 1, 0, 0), (15, .aload_n 0, 1, 0, 0), (16, .getfield 15, 3, 6, 1), (19, .iload_n 2, 1, 0, 0), (20, .iconst 1, 1, 0, 0), (21, .isub, 1, 0, 0), (22, .iaload, 1, 0, 0), (23, .aload_n 0, 1, 0, 0), (24, .getfield 15, 3, 6, 1), (27, .iload_n 2, 1, 0, 0), (28, .iaload, 1, 0, 0), (29, .invokevirtual 46, 3, 126, 0), (32, .iadd, 1, 0, 0), (33, .if_icmp .ge 7, 3, 0, 0), (36, .iconst 1, 1, 0, 0), (37, .goto 4, 3, 0, 0), (40, .iconst 0, 1, 0, 0), (41, .ireturn, 1, 0, 0)]
set_option maxRecDepth 100000 in
theorem ck101 : codeOK 101 cd101 := ⟨by decide, by decide +kernel⟩
/-- CountedTwice$Round.seen(LCountedTwice$World;I)I -/
def cd102 : List Ent := [(0, .aload_n 0, 1, 0, 0), (1, .aload_n 1, 1, 0, 0), (2, .iload_n 2, 1, 0, 0), (3, .invokevirtual 52, 3, 100, 0), (6, .istore_n 3, 1, 0, 0), (7, .iload_n 3, 1, 0, 0), (8, .iconst (-1), 1, 0, 0), (9, .if_icmp .ne 10, 3, 0, 0), (12, .aload_n 0, 1, 0, 0), (13, .getfield 9, 3, 6, 0), (16, .goto 4, 3, 0, 0), (19, .iload_n 3, 1, 0, 0), (20, .istore 4, 2, 0, 0), (22, .lconst 0, 1, 0, 0), (23, .lstore 5, 2, 0, 0), (25, .iconst 0, 1, 0, 0), (26, .istore 7, 2, 0, 0), (28, .iload 7, 2, 0, 0), (30, .iload 4, 2, 0, 0), (32, .if_icmp .ge 23, 3, 0, 0), (35, .lload 5, 2, 0, 0), (37, .lconst 1, 1, 0, 0), (38, .aload_n 0, 1, 0, 0), (39, .getfield 15, 3, 6, 1), (42, .iload 7, 2, 0, 0), (44, .iaload, 1, 0, 0), (45, .lshl, 1, 0, 0), (46, .lor, 1, 0, 0), (47, .lstore 5, 2, 0, 0), (49, .iinc 7 1, 3, 0, 0), (52, .goto (-24), 3, 0, 0), (55, .lload 5, 2, 0, 0), (57, .invokestatic 56, 3, 17, 0), (60, .ireturn, 1, 0, 0)]
set_option maxRecDepth 100000 in
theorem ck102 : codeOK 102 cd102 := ⟨by decide, by decide +kernel⟩
/-- CountedTwice$Search.<init>()V -/
def cd103 : List Ent := [(0, .aload_n 0, 1, 0, 0), (1, .invokespecial 5, 3, 999, 0), (4, .aload_n 0, 1, 0, 0), (5, .sipush 1563, 3, 0, 0), (8, .newarray .long, 2, 0, 0), (10, .putfield 11, 3, 7, 0), (13, .aload_n 0, 1, 0, 0), (14, .sipush 1563, 3, 0, 0), (17, .newarray .long, 2, 0, 0), (19, .putfield 15, 3, 7, 1), (22, .aload_n 0, 1, 0, 0), (23, .iconst 5, 1, 0, 0), (24, .newarray .int, 2, 0, 0), (26, .putfield 18, 3, 7, 2), (29, .aload_n 0, 1, 0, 0), (30, .iconst 5, 1, 0, 0), (31, .newarray .int, 2, 0, 0), (33, .putfield 22, 3, 7, 3), (36, .aload_n 0, 1, 0, 0), (37, .iconst 0, 1, 0, 0), (38, .putfield 25, 3, 7, 4), (41, .return_, 1, 0, 0)]
set_option maxRecDepth 100000 in
theorem ck103 : codeOK 103 cd103 := ⟨by decide, by decide +kernel⟩
/-- CountedTwice$Search.mostSeen(LCountedTwice$LastDays;[I)I -/
def cd104 : List Ent := [(0, .aload_n 0, 1, 0, 0), (1, .aload_n 2, 1, 0, 0), (2, .invokevirtual 29, 3, 105, 0), (5, .istore_n 3, 1, 0, 0), (6, .iconst 0, 1, 0, 0), (7, .istore 4, 2, 0, 0), (9, .iload 4, 2, 0, 0), (11, .aload_n 1, 1, 0, 0), (12, .getfield 33, 3, 2, 0), (15, .if_icmp .ge 66, 3, 0, 0), (18, .iconst 0, 1, 0, 0), (19, .istore 5, 2, 0, 0), (21, .iload 5, 2, 0, 0), (23, .aload_n 1, 1, 0, 0), (24, .getfield 38, 3, 2, 1), (27, .if_icmp .ge 48, 3, 0, 0), (30, .aload_n 0, 1, 0, 0), (31, .getfield 11, 3, 7, 0), (34, .iconst 0, 1, 0, 0), (35, .invokestatic 41, 3, 176, 1), (38, .istore 6, 2, 0, 0), (40, .aload_n 1, 1, 0, 0), (41, .getfield 45, 3, 2, 3), (44, .iload 5, 2, 0, 0), (46, .iaload, 1, 0, 0), (47, .ifCond .le 22, 3, 0, 0), (50, .iload 6, 2, 0, 0), (52, .ifCond .ne 17, 3, 0, 0), (55, .aload_n 0, 1, 0, 0), (56, .aload_n 1, 1, 0, 0), (57, .iload 4, 2, 0, 0), (59, .aload_n 1, 1, 0, 0), (60, .getfield 45, 3, 2, 3), (63, .iload 5, 2, 0, 0), (65, .iaload, 1, 0, 0), (66, .invokevirtual 48, 3, 107, 0), (69, .iinc 5 1, 3, 0, 0), (72, .goto (-51), 3, 0, 0), (75, .iinc 4 1, 3, 0, 0), (78, .goto (-69), 3, 0, 0), (81, .iload_n 3, 1, 0, 0), (82, .aload_n 0, 1, 0, 0), (83, .invokevirtual 52, 3, 110, 0), (86, .isub, 1, 0, 0), (87, .ireturn, 1, 0, 0)]
set_option maxRecDepth 100000 in
theorem ck104 : codeOK 104 cd104 := ⟨by decide, by decide +kernel⟩
/-- CountedTwice$Search.begin([I)I -/
def cd105 : List Ent := [(0, .iconst 1, 1, 0, 0), (1, .istore_n 2, 1, 0, 0), (2, .iconst 0, 1, 0, 0), (3, .istore_n 3, 1, 0, 0), (4, .iconst 0, 1, 0, 0), (5, .istore 4, 2, 0, 0), (7, .iconst 0, 1, 0, 0), (8, .istore 5, 2, 0, 0), (10, .iload 5, 2, 0, 0), (12, .iconst 5, 1, 0, 0), (13, .if_icmp .ge 60, 3, 0, 0), (16, .aload_n 1, 1, 0, 0), (17, .iload 5, 2, 0, 0), (19, .iaload, 1, 0, 0), (20, .bipush 9, 2, 0, 0), (22, .invokestatic 56, 3, 3, 0), (25, .istore 6, 2, 0, 0), (27, .aload_n 0, 1, 0, 0), (28, .getfield 18, 3, 7, 2), (31, .iload 5, 2, 0, 0), (33, .iload_n 2, 1, 0, 0), (34, .iastore, 1, 0, 0), (35, .aload_n 0, 1, 0, 0), (36, .getfield 22, 3, 7, 3), (39, .iload 5, 2, 0, 0), (41, .iload 6, 2, 0, 0), (43, .iconst 1, 1, 0, 0), (44, .iadd, 1, 0, 0), (45, .iastore, 1, 0, 0), (46, .iload_n 3, 1, 0, 0), (47, .iload 6, 2, 0, 0), (49, .iload_n 2, 1, 0, 0), (50, .imul, 1, 0, 0), (51, .iadd, 1, 0, 0), (52, .istore_n 3, 1, 0, 0), (53, .iload 4, 2, 0, 0), (55, .iload 6, 2, 0, 0), (57, .iadd, 1, 0, 0), (58, .istore 4, 2, 0, 0), (60, .iload_n 2, 1, 0, 0), (61, .iload 6, 2, 0, 0), (63, .iconst 1, 1, 0, 0), (64, .iadd, 1, 0, 0), (65, .imul, 1, 0, 0), (66, .istore_n 2, 1, 0, 0), (67, .iinc 5 1, 3, 0, 0), (70, .goto (-60), 3, 0, 0), (73, .aload_n 0, 1, 0, 0), (74, .sipush 1563, 3, 0, 0), (77, .iload_n 2, 1, 0, 0), (78, .bipush 63, 2, 0, 0), (80, .iadd, 1, 0, 0), (81, .bipush 64, 2, 0, 0), (83, .idiv, 1, 0, 0), (84, .invokestatic 56, 3, 3, 0), (87, .putfield 25, 3, 7, 4), (90, .aload_n 0, 1, 0, 0), (91, .aload_n 0, 1, 0, 0), (92, .getfield 11, 3, 7, 0), (95, .invokevirtual 62, 3, 106, 0), (98, .aload_n 0, 1, 0, 0), (99, .getfield 11, 3, 7, 0), (102, .iload_n 3, 1, 0, 0), (103, .invokestatic 66, 3, 177, 1), (106, .iload 4, 2, 0, 0), (108, .ireturn, 1, 0, 0)]
set_option maxRecDepth 100000 in
theorem ck105 : codeOK 105 cd105 := ⟨by decide, by decide +kernel⟩
/-- CountedTwice$Search.clear([J)V -/
def cd106 : List Ent := [(0, .iconst 0, 1, 0, 0), (1, .istore_n 2, 1, 0, 0), (2, .iload_n 2, 1, 0, 0), (3, .aload_n 0, 1, 0, 0), (4, .getfield 25, 3, 7, 4), (7, .if_icmp .ge 13, 3, 0, 0), (10, .aload_n 1, 1, 0, 0), (11, .iload_n 2, 1, 0, 0), (12, .lconst 0, 1, 0, 0), (13, .lastore, 1, 0, 0), (14, .iinc 2 1, 3, 0, 0), (17, .goto (-15), 3, 0, 0), (20, .return_, 1, 0, 0)]
set_option maxRecDepth 100000 in
theorem ck106 : codeOK 106 cd106 := ⟨by decide, by decide +kernel⟩
/-- CountedTwice$Search.send(LCountedTwice$LastDays;II)V -/
def cd107 : List Ent := [(0, .aload_n 0, 1, 0, 0), (1, .aload_n 0, 1, 0, 0), (2, .getfield 15, 3, 7, 1), (5, .invokevirtual 62, 3, 106, 0), (8, .iconst 0, 1, 0, 0), (9, .istore 4, 2, 0, 0), (11, .iload 4, 2, 0, 0), (13, .aload_n 0, 1, 0, 0), (14, .getfield 25, 3, 7, 4), (17, .if_icmp .ge 68, 3, 0, 0), (20, .aload_n 0, 1, 0, 0), (21, .getfield 11, 3, 7, 0), (24, .iload 4, 2, 0, 0), (26, .laload, 1, 0, 0), (27, .lstore 5, 2, 0, 0), (29, .iconst 0, 1, 0, 0), (30, .istore 7, 2, 0, 0), (32, .iload 7, 2, 0, 0), (34, .bipush 64, 2, 0, 0), (36, .if_icmp .ge 43, 3, 0, 0), (39, .lload 5, 2, 0, 0), (41, .lconst 0, 1, 0, 0), (42, .lcmp, 1, 0, 0), (43, .ifCond .eq 36, 3, 0, 0), (46, .aload_n 0, 1, 0, 0), (47, .iload 4, 2, 0, 0), (49, .bipush 64, 2, 0, 0), (51, .imul, 1, 0, 0), (52, .lload 5, 2, 0, 0), (54, .invokestatic 70, 3, 19, 0), (57, .iadd, 1, 0, 0), (58, .aload_n 1, 1, 0, 0), (59, .iload_n 2, 1, 0, 0), (60, .iload_n 3, 1, 0, 0), (61, .invokevirtual 76, 3, 108, 0), (64, .lload 5, 2, 0, 0), (66, .lload 5, 2, 0, 0), (68, .lconst 1, 1, 0, 0), (69, .lsub, 1, 0, 0), (70, .land, 1, 0, 0), (71, .lstore 5, 2, 0, 0), (73, .iinc 7 1, 3, 0, 0), (76, .goto (-44), 3, 0, 0), (79, .iinc 4 1, 3, 0, 0), (82, .goto (-71), 3, 0, 0), (85, .aload_n 0, 1, 0, 0), (86, .getfield 11, 3, 7, 0), (89, .astore 4, 2, 0, 0), (91, .aload_n 0, 1, 0, 0), (92, .aload_n 0, 1, 0, 0), (93, .getfield 15, 3, 7, 1), (96, .putfield 11, 3, 7, 0), (99, .aload_n 0, 1, 0, 0), (100, .aload 4, 2, 0, 0), (102, .putfield 15, 3, 7, 1), (105, .return_, 1, 0, 0)]
set_option maxRecDepth 100000 in
theorem ck107 : codeOK 107 cd107 := ⟨by decide, by decide +kernel⟩
/-- CountedTwice$Search.sendFrom(ILCountedTwice$LastDays;II)V -/
def cd108 : List Ent := [(0, .iconst 1, 1, 0, 0), (1, .istore 5, 2, 0, 0), (3, .iconst 0, 1, 0, 0), (4, .istore 6, 2, 0, 0), (6, .iload 6, 2, 0, 0), (8, .iconst 5, 1, 0, 0), (9, .if_icmp .ge 60, 3, 0, 0), (12, .aload_n 0, 1, 0, 0), (13, .iload_n 1, 1, 0, 0), (14, .iload 6, 2, 0, 0), (16, .invokevirtual 80, 3, 109, 0), (19, .istore 7, 2, 0, 0), (21, .iload 7, 2, 0, 0), (23, .ifCond .le 40, 3, 0, 0), (26, .aload_n 2, 1, 0, 0), (27, .iload 6, 2, 0, 0), (29, .iload_n 3, 1, 0, 0), (30, .invokevirtual 83, 3, 53, 0), (33, .ifCond .eq 30, 3, 0, 0), (36, .aload_n 0, 1, 0, 0), (37, .getfield 15, 3, 7, 1), (40, .iload_n 1, 1, 0, 0), (41, .iload 7, 2, 0, 0), (43, .iload 4, 2, 0, 0), (45, .invokestatic 56, 3, 3, 0), (48, .aload_n 0, 1, 0, 0), (49, .getfield 18, 3, 7, 2), (52, .iload 6, 2, 0, 0), (54, .iaload, 1, 0, 0), (55, .imul, 1, 0, 0), (56, .isub, 1, 0, 0), (57, .invokestatic 66, 3, 177, 1), (60, .iconst 0, 1, 0, 0), (61, .istore 5, 2, 0, 0), (63, .iinc 6 1, 3, 0, 0), (66, .goto (-60), 3, 0, 0), (69, .iload 5, 2, 0, 0), (71, .ifCond .eq 11, 3, 0, 0), (74, .aload_n 0, 1, 0, 0), (75, .getfield 15, 3, 7, 1), (78, .iload_n 1, 1, 0, 0), (79, .invokestatic 66, 3, 177, 1), (82, .return_, 1, 0, 0)]
set_option maxRecDepth 100000 in
theorem ck108 : codeOK 108 cd108 := ⟨by decide, by decide +kernel⟩
/-- CountedTwice$Search.leftIn(II)I -/
def cd109 : List Ent := [(0, .aload_n 0, 1, 0, 0), (1, .getfield 18, 3, 7, 2), (4, .iload_n 2, 1, 0, 0), (5, .iaload, 1, 0, 0), (6, .istore_n 3, 1, 0, 0), (7, .aload_n 0, 1, 0, 0), (8, .getfield 22, 3, 7, 3), (11, .iload_n 2, 1, 0, 0), (12, .iaload, 1, 0, 0), (13, .istore 4, 2, 0, 0), (15, .iload_n 3, 1, 0, 0), (16, .ifCond .le 17, 3, 0, 0), (19, .iload 4, 2, 0, 0), (21, .ifCond .le 12, 3, 0, 0), (24, .iload_n 1, 1, 0, 0), (25, .iload_n 3, 1, 0, 0), (26, .idiv, 1, 0, 0), (27, .iload 4, 2, 0, 0), (29, .irem, 1, 0, 0), (30, .goto 4, 3, 0, 0), (33, .iconst 0, 1, 0, 0), (34, .ireturn, 1, 0, 0)]
set_option maxRecDepth 100000 in
theorem ck109 : codeOK 109 cd109 := ⟨by decide, by decide +kernel⟩
/-- CountedTwice$Search.leastLeft()I -/
def cd110 : List Ent := [(0, .bipush 45, 2, 0, 0), (2, .istore_n 1, 1, 0, 0), (3, .iconst 0, 1, 0, 0), (4, .istore_n 2, 1, 0, 0), (5, .iload_n 2, 1, 0, 0), (6, .aload_n 0, 1, 0, 0), (7, .getfield 25, 3, 7, 4), (10, .if_icmp .ge 93, 3, 0, 0), (13, .aload_n 0, 1, 0, 0), (14, .getfield 11, 3, 7, 0), (17, .iload_n 2, 1, 0, 0), (18, .laload, 1, 0, 0), (19, .lstore_n 3, 1, 0, 0), (20, .iconst 0, 1, 0, 0), (21, .istore 5, 2, 0, 0), (23, .iload 5, 2, 0, 0), (25, .bipush 64, 2, 0, 0), (27, .if_icmp .ge 70, 3, 0, 0), (30, .lload_n 3, 1, 0, 0), (31, .lconst 0, 1, 0, 0), (32, .lcmp, 1, 0, 0), (33, .ifCond .eq 64, 3, 0, 0), (36, .iload_n 2, 1, 0, 0), (37, .bipush 64, 2, 0, 0), (39, .imul, 1, 0, 0), (40, .lload_n 3, 1, 0, 0), (41, .invokestatic 70, 3, 19, 0), (44, .iadd, 1, 0, 0), (45, .istore 6, 2, 0, 0), (47, .iconst 0, 1, 0, 0), (48, .istore 7, 2, 0, 0), (50, .iconst 0, 1, 0, 0), (51, .istore 8, 2, 0, 0), (53, .iload 8, 2, 0, 0), (55, .iconst 5, 1, 0, 0), (56, .if_icmp .ge 22, 3, 0, 0), (59, .iload 7, 2, 0, 0), (61, .aload_n 0, 1, 0, 0), (62, .iload 6, 2, 0, 0), (64, .iload 8, 2, 0, 0), (66, .invokevirtual 80, 3, 109, 0), (69, .iadd, 1, 0, 0), (70, .istore 7, 2, 0, 0), (72, .iinc 8 1, 3, 0, 0), (75, .goto (-22), 3, 0, 0), (78, .iload_n 1, 1, 0, 0), (79, .iload 7, 2, 0, 0), (81, .invokestatic 56, 3, 3, 0), (84, .istore_n 1, 1, 0, 0), (85, .lload_n 3, 1, 0, 0), (86, .lload_n 3, 1, 0, 0), (87, .lconst 1, 1, 0, 0), (88, .lsub, 1, 0, 0), (89, .land, 1, 0, 0), (90, .lstore_n 3, 1, 0, 0), (91, .iinc 5 1, 3, 0, 0), (94, .goto (-71), 3, 0, 0), (97, .iinc 2 1, 3, 0, 0), (100, .goto (-95), 3, 0, 0), (103, .iload_n 1, 1, 0, 0), (104, .ireturn, 1, 0, 0)]
set_option maxRecDepth 100000 in
theorem ck110 : codeOK 110 cd110 := ⟨by decide, by decide +kernel⟩
/-- CountedTwice$Text.<init>()V -/
def cd111 : List Ent := [(0, .aload_n 0, 1, 0, 0), (1, .invokespecial 3, 3, 999, 0), (4, .aload_n 0, 1, 0, 0), (5, .iconst 0, 1, 0, 0), (6, .putfield 9, 3, 8, 0), (9, .aload_n 0, 1, 0, 0), (10, .sipush 400, 3, 0, 0), (13, .newarray .int, 2, 0, 0), (15, .putfield 15, 3, 8, 1), (18, .aload_n 0, 1, 0, 0), (19, .iconst 0, 1, 0, 0), (20, .putfield 19, 3, 8, 2), (23, .aload_n 0, 1, 0, 0), (24, .bipush 32, 2, 0, 0), (26, .newarray .int, 2, 0, 0), (28, .putfield 22, 3, 8, 3), (31, .return_, 1, 0, 0)]
set_option maxRecDepth 100000 in
theorem ck111 : codeOK 111 cd111 := ⟨by decide, by decide +kernel⟩
/-- CountedTwice$Text.copyFrom(LCountedTwice$Text;)V -/
def cd112 : List Ent := [(0, .aload_n 0, 1, 0, 0), (1, .aload_n 1, 1, 0, 0), (2, .getfield 9, 3, 8, 0), (5, .putfield 9, 3, 8, 0), (8, .aload_n 0, 1, 0, 0), (9, .aload_n 1, 1, 0, 0), (10, .getfield 19, 3, 8, 2), (13, .putfield 19, 3, 8, 2), (16, .aload_n 1, 1, 0, 0), (17, .getfield 15, 3, 8, 1), (20, .iconst 0, 1, 0, 0), (21, .aload_n 0, 1, 0, 0), (22, .getfield 15, 3, 8, 1), (25, .iconst 0, 1, 0, 0), (26, .sipush 400, 3, 0, 0), (29, .invokestatic 25, 3, 998, 0), (32, .return_, 1, 0, 0)]
set_option maxRecDepth 100000 in
theorem ck112 : codeOK 112 cd112 := ⟨by decide, by decide +kernel⟩
/-- CountedTwice$Text.take(LCountedTwice$Parser;)V -/
def cd113 : List Ent := [(0, .aload_n 0, 1, 0, 0), (1, .aload_n 1, 1, 0, 0), (2, .getfield 31, 3, 4, 2), (5, .putfield 9, 3, 8, 0), (8, .aload_n 0, 1, 0, 0), (9, .aload_n 1, 1, 0, 0), (10, .getfield 34, 3, 4, 3), (13, .putfield 19, 3, 8, 2), (16, .aload_n 1, 1, 0, 0), (17, .getfield 35, 3, 4, 4), (20, .iconst 0, 1, 0, 0), (21, .aload_n 0, 1, 0, 0), (22, .getfield 15, 3, 8, 1), (25, .iconst 0, 1, 0, 0), (26, .sipush 400, 3, 0, 0), (29, .invokestatic 25, 3, 998, 0), (32, .return_, 1, 0, 0)]
set_option maxRecDepth 100000 in
theorem ck113 : codeOK 113 cd113 := ⟨by decide, by decide +kernel⟩
/-- CountedTwice$Text.firstLine([I)I -/
def cd114 : List Ent := [(0, .iconst 0, 1, 0, 0), (1, .istore_n 2, 1, 0, 0), (2, .iconst 0, 1, 0, 0), (3, .istore_n 3, 1, 0, 0), (4, .iload_n 3, 1, 0, 0), (5, .aload_n 0, 1, 0, 0), (6, .getfield 19, 3, 8, 2), (9, .if_icmp .ge 114, 3, 0, 0), (12, .iload_n 3, 1, 0, 0), (13, .sipush 400, 3, 0, 0), (16, .if_icmp .ge 107, 3, 0, 0), (19, .aload_n 0, 1, 0, 0), (20, .getfield 15, 3, 8, 1), (23, .iload_n 3, 1, 0, 0), (24, .iaload, 1, 0, 0), (25, .istore 4, 2, 0, 0), (27, .iload 4, 2, 0, 0), (29, .sipush 30000, 3, 0, 0), (32, .if_icmp .lt 24, 3, 0, 0), (35, .aload_n 0, 1, 0, 0), (36, .getfield 22, 3, 8, 3), (39, .iconst 0, 1, 0, 0), (40, .iaload, 1, 0, 0), (41, .ifCond .eq 10, 3, 0, 0), (44, .iload 4, 2, 0, 0), (46, .sipush 30000, 3, 0, 0), (49, .isub, 1, 0, 0), (50, .ireturn, 1, 0, 0), (51, .iconst 0, 1, 0, 0), (52, .istore_n 2, 1, 0, 0), (53, .goto 64, 3, 0, 0), (56, .iload 4, 2, 0, 0), (58, .sipush 20000, 3, 0, 0), (61, .if_icmp .lt 18, 3, 0, 0), (64, .aload_n 0, 1, 0, 0), (65, .iload 4, 2, 0, 0), (67, .sipush 20000, 3, 0, 0), (70, .isub, 1, 0, 0), (71, .iload_n 2, 1, 0, 0), (72, .invokevirtual 36, 3, 116, 0), (75, .istore_n 2, 1, 0, 0), (76, .goto 41, 3, 0, 0), (79, .iload_n 2, 1, 0, 0), (80, .bipush 32, 2, 0, 0), (82, .if_icmp .ge 35, 3, 0, 0), (85, .aload_n 0, 1, 0, 0), (86, .getfield 22, 3, 8, 3), (89, .iload_n 2, 1, 0, 0), (90, .iload 4, 2, 0, 0), (92, .sipush 10000, 3, 0, 0), (95, .if_icmp .ge 8, 3, 0, 0), (98, .iload 4, 2, 0, 0), (100, .goto 13, 3, 0, 0), (103, .iload 4, 2, 0, 0), (105, .sipush 10000, 3, 0, 0), (108, .isub, 1, 0, 0), (109, .aload_n 1, 1, 0, 0), (110, .invokestatic 40, 3, 115, 0), (113, .iastore, 1, 0, 0), (114, .iinc 2 1, 3, 0, 0), (117, .iinc 3 1, 3, 0, 0), (120, .goto (-116), 3, 0, 0), (123, .iconst (-1), 1, 0, 0), (124, .ireturn, 1, 0, 0)]
set_option maxRecDepth 100000 in
theorem ck114 : codeOK 114 cd114 := ⟨by decide, by decide +kernel⟩
/-- CountedTwice$Text.valueOf(I[I)I -/
def cd115 : List Ent := [(0, .iload_n 0, 1, 0, 0), (1, .aload_n 1, 1, 0, 0), (2, .arraylength, 1, 0, 0), (3, .invokestatic 44, 3, 172, 1), (6, .ifCond .eq 9, 3, 0, 0), (9, .aload_n 1, 1, 0, 0), (10, .iload_n 0, 1, 0, 0), (11, .iaload, 1, 0, 0), (12, .goto 4, 3, 0, 0), (15, .iconst 0, 1, 0, 0), (16, .ireturn, 1, 0, 0)]
set_option maxRecDepth 100000 in
theorem ck115 : codeOK 115 cd115 := ⟨by decide, by decide +kernel⟩
/-- CountedTwice$Text.operate(II)I -/
def cd116 : List Ent := [(0, .iload_n 1, 1, 0, 0), (1, .iconst 5, 1, 0, 0), (2, .if_icmp .ne 34, 3, 0, 0), (5, .iload_n 2, 1, 0, 0), (6, .iconst 1, 1, 0, 0), (7, .isub, 1, 0, 0), (8, .bipush 32, 2, 0, 0), (10, .invokestatic 44, 3, 172, 1), (13, .ifCond .eq 21, 3, 0, 0), (16, .aload_n 0, 1, 0, 0), (17, .getfield 22, 3, 8, 3), (20, .iload_n 2, 1, 0, 0), (21, .iconst 1, 1, 0, 0), (22, .isub, 1, 0, 0), (23, .iconst 1, 1, 0, 0), (24, .aload_n 0, 1, 0, 0), (25, .getfield 22, 3, 8, 3), (28, .iload_n 2, 1, 0, 0), (29, .iconst 1, 1, 0, 0), (30, .isub, 1, 0, 0), (31, .iaload, 1, 0, 0), (32, .isub, 1, 0, 0), (33, .iastore, 1, 0, 0), (34, .iload_n 2, 1, 0, 0), (35, .ireturn, 1, 0, 0), (36, .iload_n 2, 1, 0, 0), (37, .iconst 2, 1, 0, 0), (38, .if_icmp .lt 9, 3, 0, 0), (41, .iload_n 2, 1, 0, 0), (42, .bipush 32, 2, 0, 0), (44, .if_icmp .le 5, 3, 0, 0), (47, .iload_n 2, 1, 0, 0), (48, .ireturn, 1, 0, 0), (49, .aload_n 0, 1, 0, 0), (50, .getfield 22, 3, 8, 3), (53, .iload_n 2, 1, 0, 0), (54, .iconst 2, 1, 0, 0), (55, .isub, 1, 0, 0), (56, .iload_n 1, 1, 0, 0), (57, .aload_n 0, 1, 0, 0), (58, .getfield 22, 3, 8, 3), (61, .iload_n 2, 1, 0, 0), (62, .iconst 2, 1, 0, 0), (63, .isub, 1, 0, 0), (64, .iaload, 1, 0, 0), (65, .aload_n 0, 1, 0, 0), (66, .getfield 22, 3, 8, 3), (69, .iload_n 2, 1, 0, 0), (70, .iconst 1, 1, 0, 0), (71, .isub, 1, 0, 0), (72, .iaload, 1, 0, 0), (73, .invokestatic 48, 3, 117, 0), (76, .iastore, 1, 0, 0), (77, .iload_n 2, 1, 0, 0), (78, .iconst 1, 1, 0, 0), (79, .isub, 1, 0, 0), (80, .ireturn, 1, 0, 0)]
set_option maxRecDepth 100000 in
theorem ck116 : codeOK 116 cd116 := ⟨by decide, by decide +kernel⟩
/-- CountedTwice$Text.joined(III)I -/
def cd117 : List Ent := [(0, .iload_n 0, 1, 0, 0), (1, .lookupswitch 148 #[(3, 83), (4, 87), (42, 99), (43, 91), (45, 95), (47, 103), (60, 115), (61, 126), (62, 137)], 83, 0, 0), (84, .iload_n 1, 1, 0, 0), (85, .iload_n 2, 1, 0, 0), (86, .ior, 1, 0, 0), (87, .ireturn, 1, 0, 0), (88, .iload_n 1, 1, 0, 0), (89, .iload_n 2, 1, 0, 0), (90, .iand, 1, 0, 0), (91, .ireturn, 1, 0, 0), (92, .iload_n 1, 1, 0, 0), (93, .iload_n 2, 1, 0, 0), (94, .iadd, 1, 0, 0), (95, .ireturn, 1, 0, 0), (96, .iload_n 1, 1, 0, 0), (97, .iload_n 2, 1, 0, 0), (98, .isub, 1, 0, 0), (99, .ireturn, 1, 0, 0), (100, .iload_n 1, 1, 0, 0), (101, .iload_n 2, 1, 0, 0), (102, .imul, 1, 0, 0), (103, .ireturn, 1, 0, 0), (104, .iload_n 2, 1, 0, 0), (105, .ifCond .ne 7, 3, 0, 0), (108, .iconst 0, 1, 0, 0), (109, .goto 6, 3, 0, 0), (112, .iload_n 1, 1, 0, 0), (113, .iload_n 2, 1, 0, 0), (114, .idiv, 1, 0, 0), (115, .ireturn, 1, 0, 0), (116, .iload_n 1, 1, 0, 0), (117, .iload_n 2, 1, 0, 0), (118, .if_icmp .ge 7, 3, 0, 0), (121, .iconst 1, 1, 0, 0), (122, .goto 4, 3, 0, 0), (125, .iconst 0, 1, 0, 0), (126, .ireturn, 1, 0, 0), (127, .iload_n 1, 1, 0, 0), (128, .iload_n 2, 1, 0, 0), (129, .if_icmp .ne 7, 3, 0, 0), (132, .iconst 1, 1, 0, 0), (133, .goto 4, 3, 0, 0), (136, .iconst 0, 1, 0, 0), (137, .ireturn, 1, 0, 0), (138, .iload_n 1, 1, 0, 0), (139, .iload_n 2, 1, 0, 0), (140, .if_icmp .le 7, 3, 0, 0), (143, .iconst 1, 1, 0, 0), (144, .goto 4, 3, 0, 0), (147, .iconst 0, 1, 0, 0), (148, .ireturn, 1, 0, 0), (149, .iconst 0, 1, 0, 0), (150, .ireturn, 1, 0, 0)]
set_option maxRecDepth 100000 in
theorem ck117 : codeOK 117 cd117 := ⟨by decide, by decide +kernel⟩
/-- CountedTwice$Town.<init>()V -/
def cd118 : List Ent := [(0, .aload_n 0, 1, 0, 0), (1, .invokespecial 3, 3, 999, 0), (4, .aload_n 0, 1, 0, 0), (5, .iconst 0, 1, 0, 0), (6, .putfield 9, 3, 9, 0), (9, .aload_n 0, 1, 0, 0), (10, .iconst 2, 1, 0, 0), (11, .putfield 15, 3, 9, 1), (14, .aload_n 0, 1, 0, 0), (15, .iconst 5, 1, 0, 0), (16, .putfield 18, 3, 9, 2), (19, .aload_n 0, 1, 0, 0), (20, .bipush 60, 2, 0, 0), (22, .newarray .int, 2, 0, 0), (24, .putfield 21, 3, 9, 3), (27, .aload_n 0, 1, 0, 0), (28, .bipush 60, 2, 0, 0), (30, .newarray .int, 2, 0, 0), (32, .putfield 25, 3, 9, 4), (35, .aload_n 0, 1, 0, 0), (36, .bipush 60, 2, 0, 0), (38, .newarray .int, 2, 0, 0), (40, .putfield 28, 3, 9, 5), (43, .aload_n 0, 1, 0, 0), (44, .sipush 144, 3, 0, 0), (47, .newarray .int, 2, 0, 0), (49, .putfield 31, 3, 9, 6), (52, .aload_n 0, 1, 0, 0), (53, .getfield 31, 3, 9, 6), (56, .bipush 100, 2, 0, 0), (58, .invokestatic 34, 3, 0, 0), (61, .return_, 1, 0, 0)]
set_option maxRecDepth 100000 in
theorem ck118 : codeOK 118 cd118 := ⟨by decide, by decide +kernel⟩
/-- CountedTwice$Town.copyFrom(LCountedTwice$Town;)V -/
def cd119 : List Ent := [(0, .aload_n 0, 1, 0, 0), (1, .aload_n 1, 1, 0, 0), (2, .getfield 9, 3, 9, 0), (5, .putfield 9, 3, 9, 0), (8, .aload_n 0, 1, 0, 0), (9, .aload_n 1, 1, 0, 0), (10, .getfield 15, 3, 9, 1), (13, .putfield 15, 3, 9, 1), (16, .aload_n 0, 1, 0, 0), (17, .aload_n 1, 1, 0, 0), (18, .getfield 18, 3, 9, 2), (21, .putfield 18, 3, 9, 2), (24, .aload_n 1, 1, 0, 0), (25, .getfield 21, 3, 9, 3), (28, .iconst 0, 1, 0, 0), (29, .aload_n 0, 1, 0, 0), (30, .getfield 21, 3, 9, 3), (33, .iconst 0, 1, 0, 0), (34, .bipush 60, 2, 0, 0), (36, .invokestatic 40, 3, 998, 0), (39, .aload_n 1, 1, 0, 0), (40, .getfield 25, 3, 9, 4), (43, .iconst 0, 1, 0, 0), (44, .aload_n 0, 1, 0, 0), (45, .getfield 25, 3, 9, 4), (48, .iconst 0, 1, 0, 0), (49, .bipush 60, 2, 0, 0), (51, .invokestatic 40, 3, 998, 0), (54, .aload_n 1, 1, 0, 0), (55, .getfield 28, 3, 9, 5), (58, .iconst 0, 1, 0, 0), (59, .aload_n 0, 1, 0, 0), (60, .getfield 28, 3, 9, 5), (63, .iconst 0, 1, 0, 0), (64, .bipush 60, 2, 0, 0), (66, .invokestatic 40, 3, 998, 0), (69, .aload_n 1, 1, 0, 0), (70, .getfield 31, 3, 9, 6), (73, .iconst 0, 1, 0, 0), (74, .aload_n 0, 1, 0, 0), (75, .getfield 31, 3, 9, 6), (78, .iconst 0, 1, 0, 0), (79, .sipush 144, 3, 0, 0), (82, .invokestatic 40, 3, 998, 0), (85, .return_, 1, 0, 0)]
set_option maxRecDepth 100000 in
theorem ck119 : codeOK 119 cd119 := ⟨by decide, by decide +kernel⟩
/-- CountedTwice$Town.build(III)I -/
def cd120 : List Ent := [(0, .aload_n 0, 1, 0, 0), (1, .getfield 9, 3, 9, 0), (4, .bipush 60, 2, 0, 0), (6, .if_icmp .lt 5, 3, 0, 0), (9, .iconst (-1), 1, 0, 0), (10, .ireturn, 1, 0, 0), (11, .aload_n 0, 1, 0, 0), (12, .getfield 21, 3, 9, 3), (15, .aload_n 0, 1, 0, 0), (16, .getfield 9, 3, 9, 0), (19, .iload_n 1, 1, 0, 0), (20, .iastore, 1, 0, 0), (21, .aload_n 0, 1, 0, 0), (22, .getfield 25, 3, 9, 4), (25, .aload_n 0, 1, 0, 0), (26, .getfield 9, 3, 9, 0), (29, .iload_n 2, 1, 0, 0), (30, .iastore, 1, 0, 0), (31, .aload_n 0, 1, 0, 0), (32, .getfield 28, 3, 9, 5), (35, .aload_n 0, 1, 0, 0), (36, .getfield 9, 3, 9, 0), (39, .iload_n 3, 1, 0, 0), (40, .iastore, 1, 0, 0), (41, .aload_n 0, 1, 0, 0), (42, .dup, 1, 0, 0), (43, .getfield 9, 3, 9, 0), (46, .iconst 1, 1, 0, 0), (47, .iadd, 1, 0, 0), (48, .putfield 9, 3, 9, 0), (51, .aload_n 0, 1, 0, 0), (52, .getfield 9, 3, 9, 0), (55, .iconst 1, 1, 0, 0), (56, .isub, 1, 0, 0), (57, .ireturn, 1, 0, 0)]
set_option maxRecDepth 100000 in
theorem ck120 : codeOK 120 cd120 := ⟨by decide, by decide +kernel⟩
/-- CountedTwice$Town.streetOf(I)I -/
def cd121 : List Ent := [(0, .iload_n 1, 1, 0, 0), (1, .aload_n 0, 1, 0, 0), (2, .getfield 9, 3, 9, 0), (5, .invokestatic 46, 3, 172, 1), (8, .ifCond .eq 12, 3, 0, 0), (11, .aload_n 0, 1, 0, 0), (12, .getfield 21, 3, 9, 3), (15, .iload_n 1, 1, 0, 0), (16, .iaload, 1, 0, 0), (17, .goto 4, 3, 0, 0), (20, .iconst (-1), 1, 0, 0), (21, .ireturn, 1, 0, 0)]
set_option maxRecDepth 100000 in
theorem ck121 : codeOK 121 cd121 := ⟨by decide, by decide +kernel⟩
/-- CountedTwice$Town.numberOf(I)I -/
def cd122 : List Ent := [(0, .iload_n 1, 1, 0, 0), (1, .aload_n 0, 1, 0, 0), (2, .getfield 9, 3, 9, 0), (5, .invokestatic 46, 3, 172, 1), (8, .ifCond .eq 12, 3, 0, 0), (11, .aload_n 0, 1, 0, 0), (12, .getfield 25, 3, 9, 4), (15, .iload_n 1, 1, 0, 0), (16, .iaload, 1, 0, 0), (17, .goto 4, 3, 0, 0), (20, .iconst (-1), 1, 0, 0), (21, .ireturn, 1, 0, 0)]
set_option maxRecDepth 100000 in
theorem ck122 : codeOK 122 cd122 := ⟨by decide, by decide +kernel⟩
/-- CountedTwice$Town.kindOf(I)I -/
def cd123 : List Ent := [(0, .iload_n 1, 1, 0, 0), (1, .aload_n 0, 1, 0, 0), (2, .getfield 9, 3, 9, 0), (5, .invokestatic 46, 3, 172, 1), (8, .ifCond .eq 12, 3, 0, 0), (11, .aload_n 0, 1, 0, 0), (12, .getfield 28, 3, 9, 5), (15, .iload_n 1, 1, 0, 0), (16, .iaload, 1, 0, 0), (17, .goto 4, 3, 0, 0), (20, .iconst (-1), 1, 0, 0), (21, .ireturn, 1, 0, 0)]
set_option maxRecDepth 100000 in
theorem ck123 : codeOK 123 cd123 := ⟨by decide, by decide +kernel⟩
/-- CountedTwice$Town.setGap(III)V -/
def cd124 : List Ent := [(0, .iload_n 1, 1, 0, 0), (1, .bipush 12, 2, 0, 0), (3, .invokestatic 46, 3, 172, 1), (6, .ifCond .eq 36, 3, 0, 0), (9, .iload_n 2, 1, 0, 0), (10, .bipush 12, 2, 0, 0), (12, .invokestatic 46, 3, 172, 1), (15, .ifCond .eq 27, 3, 0, 0), (18, .aload_n 0, 1, 0, 0), (19, .getfield 31, 3, 9, 6), (22, .iload_n 1, 1, 0, 0), (23, .bipush 12, 2, 0, 0), (25, .imul, 1, 0, 0), (26, .iload_n 2, 1, 0, 0), (27, .iadd, 1, 0, 0), (28, .iload_n 3, 1, 0, 0), (29, .iastore, 1, 0, 0), (30, .aload_n 0, 1, 0, 0), (31, .getfield 31, 3, 9, 6), (34, .iload_n 2, 1, 0, 0), (35, .bipush 12, 2, 0, 0), (37, .imul, 1, 0, 0), (38, .iload_n 1, 1, 0, 0), (39, .iadd, 1, 0, 0), (40, .iload_n 3, 1, 0, 0), (41, .iastore, 1, 0, 0), (42, .return_, 1, 0, 0)]
set_option maxRecDepth 100000 in
theorem ck124 : codeOK 124 cd124 := ⟨by decide, by decide +kernel⟩
/-- CountedTwice$Town.wayBetween(II)I -/
def cd125 : List Ent := [(0, .iload_n 1, 1, 0, 0), (1, .aload_n 0, 1, 0, 0), (2, .getfield 9, 3, 9, 0), (5, .invokestatic 46, 3, 172, 1), (8, .ifCond .eq 14, 3, 0, 0), (11, .iload_n 2, 1, 0, 0), (12, .aload_n 0, 1, 0, 0), (13, .getfield 9, 3, 9, 0), (16, .invokestatic 46, 3, 172, 1), (19, .ifCond .ne 5, 3, 0, 0), (22, .iconst (-1), 1, 0, 0), (23, .ireturn, 1, 0, 0), (24, .aload_n 0, 1, 0, 0), (25, .getfield 21, 3, 9, 3), (28, .iload_n 1, 1, 0, 0), (29, .iaload, 1, 0, 0), (30, .aload_n 0, 1, 0, 0), (31, .getfield 21, 3, 9, 3), (34, .iload_n 2, 1, 0, 0), (35, .iaload, 1, 0, 0), (36, .if_icmp .ne 20, 3, 0, 0), (39, .aload_n 0, 1, 0, 0), (40, .getfield 25, 3, 9, 4), (43, .iload_n 1, 1, 0, 0), (44, .iaload, 1, 0, 0), (45, .aload_n 0, 1, 0, 0), (46, .getfield 25, 3, 9, 4), (49, .iload_n 2, 1, 0, 0), (50, .iaload, 1, 0, 0), (51, .isub, 1, 0, 0), (52, .invokestatic 50, 3, 2, 0), (55, .ireturn, 1, 0, 0), (56, .aload_n 0, 1, 0, 0), (57, .getfield 25, 3, 9, 4), (60, .iload_n 1, 1, 0, 0), (61, .iaload, 1, 0, 0), (62, .aload_n 0, 1, 0, 0), (63, .getfield 25, 3, 9, 4), (66, .iload_n 2, 1, 0, 0), (67, .iaload, 1, 0, 0), (68, .iadd, 1, 0, 0), (69, .aload_n 0, 1, 0, 0), (70, .getfield 31, 3, 9, 6), (73, .aload_n 0, 1, 0, 0), (74, .getfield 21, 3, 9, 3), (77, .iload_n 1, 1, 0, 0), (78, .iaload, 1, 0, 0), (79, .bipush 12, 2, 0, 0), (81, .imul, 1, 0, 0), (82, .aload_n 0, 1, 0, 0), (83, .getfield 21, 3, 9, 3), (86, .iload_n 2, 1, 0, 0), (87, .iaload, 1, 0, 0), (88, .iadd, 1, 0, 0), (89, .iaload, 1, 0, 0), (90, .iadd, 1, 0, 0), (91, .ireturn, 1, 0, 0)]
set_option maxRecDepth 100000 in
theorem ck125 : codeOK 125 cd125 := ⟨by decide, by decide +kernel⟩
/-- CountedTwice$Town.minutesBetween(II)I -/
def cd126 : List Ent := [(0, .aload_n 0, 1, 0, 0), (1, .iload_n 1, 1, 0, 0), (2, .iload_n 2, 1, 0, 0), (3, .invokevirtual 56, 3, 125, 0), (6, .aload_n 0, 1, 0, 0), (7, .getfield 15, 3, 9, 1), (10, .imul, 1, 0, 0), (11, .bipush 100, 2, 0, 0), (13, .idiv, 1, 0, 0), (14, .aload_n 0, 1, 0, 0), (15, .getfield 18, 3, 9, 2), (18, .iadd, 1, 0, 0), (19, .ireturn, 1, 0, 0)]
set_option maxRecDepth 100000 in
theorem ck126 : codeOK 126 cd126 := ⟨by decide, by decide +kernel⟩
/-- CountedTwice$Town.housesIn(I)J -/
def cd127 : List Ent := [(0, .lconst 0, 1, 0, 0), (1, .lstore_n 2, 1, 0, 0), (2, .iconst 0, 1, 0, 0), (3, .istore 4, 2, 0, 0), (5, .iload 4, 2, 0, 0), (7, .aload_n 0, 1, 0, 0), (8, .getfield 9, 3, 9, 0), (11, .if_icmp .ge 27, 3, 0, 0), (14, .aload_n 0, 1, 0, 0), (15, .getfield 21, 3, 9, 3), (18, .iload 4, 2, 0, 0), (20, .iaload, 1, 0, 0), (21, .iload_n 1, 1, 0, 0), (22, .if_icmp .ne 10, 3, 0, 0), (25, .lload_n 2, 1, 0, 0), (26, .lconst 1, 1, 0, 0), (27, .iload 4, 2, 0, 0), (29, .lshl, 1, 0, 0), (30, .lor, 1, 0, 0), (31, .lstore_n 2, 1, 0, 0), (32, .iinc 4 1, 3, 0, 0), (35, .goto (-30), 3, 0, 0), (38, .lload_n 2, 1, 0, 0), (39, .lreturn, 1, 0, 0)]
set_option maxRecDepth 100000 in
theorem ck127 : codeOK 127 cd127 := ⟨by decide, by decide +kernel⟩
/-- CountedTwice$World.<init>()V -/
def cd128 : List Ent := [(0, .aload_n 0, 1, 0, 0), (1, .invokespecial 3, 3, 999, 0), (4, .aload_n 0, 1, 0, 0), (5, .iconst 0, 1, 0, 0), (6, .putfield 9, 3, 10, 0), (9, .aload_n 0, 1, 0, 0), (10, .new 15, 3, 9, 0), (13, .dup, 1, 0, 0), (14, .invokespecial 17, 3, 118, 0), (17, .putfield 18, 3, 10, 1), (20, .aload_n 0, 1, 0, 0), (21, .new 22, 3, 0, 0), (24, .dup, 1, 0, 0), (25, .invokespecial 24, 3, 21, 0), (28, .putfield 25, 3, 10, 2), (31, .aload_n 0, 1, 0, 0), (32, .new 29, 3, 8, 0), (35, .dup, 1, 0, 0), (36, .invokespecial 31, 3, 111, 0), (39, .putfield 32, 3, 10, 3), (42, .aload_n 0, 1, 0, 0), (43, .new 29, 3, 8, 0), (46, .dup, 1, 0, 0), (47, .invokespecial 31, 3, 111, 0), (50, .putfield 36, 3, 10, 4), (53, .aload_n 0, 1, 0, 0), (54, .new 29, 3, 8, 0), (57, .dup, 1, 0, 0), (58, .invokespecial 31, 3, 111, 0), (61, .putfield 39, 3, 10, 5), (64, .aload_n 0, 1, 0, 0), (65, .new 42, 3, 6, 0), (68, .dup, 1, 0, 0), (69, .invokespecial 44, 3, 97, 0), (72, .putfield 45, 3, 10, 6), (75, .aload_n 0, 1, 0, 0), (76, .new 49, 3, 2, 0), (79, .dup, 1, 0, 0), (80, .invokespecial 51, 3, 46, 0), (83, .putfield 52, 3, 10, 7), (86, .aload_n 0, 1, 0, 0), (87, .bipush 7, 2, 0, 0), (89, .newarray .int, 2, 0, 0), (91, .putfield 56, 3, 10, 8), (94, .return_, 1, 0, 0)]
set_option maxRecDepth 100000 in
theorem ck128 : codeOK 128 cd128 := ⟨by decide, by decide +kernel⟩
/-- CountedTwice$World.copyFrom(LCountedTwice$World;)V -/
def cd129 : List Ent := [(0, .aload_n 0, 1, 0, 0), (1, .aload_n 1, 1, 0, 0), (2, .getfield 9, 3, 10, 0), (5, .putfield 9, 3, 10, 0), (8, .aload_n 0, 1, 0, 0), (9, .getfield 18, 3, 10, 1), (12, .aload_n 1, 1, 0, 0), (13, .getfield 18, 3, 10, 1), (16, .invokevirtual 60, 3, 119, 0), (19, .aload_n 0, 1, 0, 0), (20, .getfield 25, 3, 10, 2), (23, .aload_n 1, 1, 0, 0), (24, .getfield 25, 3, 10, 2), (27, .invokevirtual 64, 3, 22, 0), (30, .aload_n 0, 1, 0, 0), (31, .getfield 32, 3, 10, 3), (34, .aload_n 1, 1, 0, 0), (35, .getfield 32, 3, 10, 3), (38, .invokevirtual 67, 3, 112, 0), (41, .aload_n 0, 1, 0, 0), (42, .getfield 36, 3, 10, 4), (45, .aload_n 1, 1, 0, 0), (46, .getfield 36, 3, 10, 4), (49, .invokevirtual 67, 3, 112, 0), (52, .aload_n 0, 1, 0, 0), (53, .getfield 39, 3, 10, 5), (56, .aload_n 1, 1, 0, 0), (57, .getfield 39, 3, 10, 5), (60, .invokevirtual 67, 3, 112, 0), (63, .aload_n 0, 1, 0, 0), (64, .getfield 45, 3, 10, 6), (67, .aload_n 1, 1, 0, 0), (68, .getfield 45, 3, 10, 6), (71, .invokevirtual 70, 3, 98, 0), (74, .aload_n 0, 1, 0, 0), (75, .getfield 52, 3, 10, 7), (78, .aload_n 1, 1, 0, 0), (79, .getfield 52, 3, 10, 7), (82, .invokevirtual 73, 3, 47, 0), (85, .return_, 1, 0, 0)]
set_option maxRecDepth 100000 in
theorem ck129 : codeOK 129 cd129 := ⟨by decide, by decide +kernel⟩
/-- CountedTwice$World.textOf(I)LCountedTwice$Text; -/
def cd130 : List Ent := [(0, .iload_n 1, 1, 0, 0), (1, .lookupswitch 37 #[(0, 27), (1, 32)], 27, 0, 0), (28, .aload_n 0, 1, 0, 0), (29, .getfield 32, 3, 10, 3), (32, .areturn, 1, 0, 0), (33, .aload_n 0, 1, 0, 0), (34, .getfield 36, 3, 10, 4), (37, .areturn, 1, 0, 0), (38, .aload_n 0, 1, 0, 0), (39, .getfield 39, 3, 10, 5), (42, .areturn, 1, 0, 0)]
set_option maxRecDepth 100000 in
theorem ck130 : codeOK 130 cd130 := ⟨by decide, by decide +kernel⟩
/-- CountedTwice$World.draw(I)I -/
def cd131 : List Ent := [(0, .aload_n 0, 1, 0, 0), (1, .ldc 76, 2, 0, 1664525), (3, .aload_n 0, 1, 0, 0), (4, .getfield 9, 3, 10, 0), (7, .imul, 1, 0, 0), (8, .ldc 77, 2, 0, 1013904223), (10, .iadd, 1, 0, 0), (11, .putfield 9, 3, 10, 0), (14, .iload_n 1, 1, 0, 0), (15, .ifCond .le 15, 3, 0, 0), (18, .aload_n 0, 1, 0, 0), (19, .getfield 9, 3, 10, 0), (22, .bipush 8, 2, 0, 0), (24, .iushr, 1, 0, 0), (25, .iload_n 1, 1, 0, 0), (26, .irem, 1, 0, 0), (27, .goto 4, 3, 0, 0), (30, .iconst 0, 1, 0, 0), (31, .ireturn, 1, 0, 0)]
set_option maxRecDepth 100000 in
theorem ck131 : codeOK 131 cd131 := ⟨by decide, by decide +kernel⟩
/-- CountedTwice$World.somebodyHome(III)Z -/
def cd132 : List Ent := [(0, .aload_n 0, 1, 0, 0), (1, .getfield 56, 3, 10, 8), (4, .iconst 0, 1, 0, 0), (5, .iload_n 3, 1, 0, 0), (6, .bipush 60, 2, 0, 0), (8, .idiv, 1, 0, 0), (9, .iastore, 1, 0, 0), (10, .aload_n 0, 1, 0, 0), (11, .getfield 56, 3, 10, 8), (14, .iconst 1, 1, 0, 0), (15, .iload_n 2, 1, 0, 0), (16, .iastore, 1, 0, 0), (17, .aload_n 0, 1, 0, 0), (18, .getfield 56, 3, 10, 8), (21, .iconst 2, 1, 0, 0), (22, .aload_n 0, 1, 0, 0), (23, .getfield 18, 3, 10, 1), (26, .iload_n 1, 1, 0, 0), (27, .invokevirtual 78, 3, 121, 0), (30, .iastore, 1, 0, 0), (31, .aload_n 0, 1, 0, 0), (32, .getfield 56, 3, 10, 8), (35, .iconst 3, 1, 0, 0), (36, .aload_n 0, 1, 0, 0), (37, .getfield 18, 3, 10, 1), (40, .iload_n 1, 1, 0, 0), (41, .invokevirtual 82, 3, 122, 0), (44, .iastore, 1, 0, 0), (45, .aload_n 0, 1, 0, 0), (46, .getfield 56, 3, 10, 8), (49, .iconst 4, 1, 0, 0), (50, .aload_n 0, 1, 0, 0), (51, .getfield 18, 3, 10, 1), (54, .iload_n 1, 1, 0, 0), (55, .invokevirtual 85, 3, 123, 0), (58, .iastore, 1, 0, 0), (59, .aload_n 0, 1, 0, 0), (60, .getfield 39, 3, 10, 5), (63, .aload_n 0, 1, 0, 0), (64, .getfield 56, 3, 10, 8), (67, .invokevirtual 88, 3, 114, 0), (70, .iconst 1, 1, 0, 0), (71, .if_icmp .eq 7, 3, 0, 0), (74, .iconst 1, 1, 0, 0), (75, .goto 4, 3, 0, 0), (78, .iconst 0, 1, 0, 0), (79, .ireturn, 1, 0, 0)]
set_option maxRecDepth 100000 in
theorem ck132 : codeOK 132 cd132 := ⟨by decide, by decide +kernel⟩
/-- CountedTwice$World.missed()J -/
def cd133 : List Ent := [(0, .lconst 0, 1, 0, 0), (1, .lstore_n 1, 1, 0, 0), (2, .iconst 0, 1, 0, 0), (3, .istore_n 3, 1, 0, 0), (4, .iload_n 3, 1, 0, 0), (5, .aload_n 0, 1, 0, 0), (6, .getfield 25, 3, 10, 2), (9, .getfield 92, 3, 0, 0), (12, .if_icmp .ge 34, 3, 0, 0), (15, .aload_n 0, 1, 0, 0), (16, .getfield 25, 3, 10, 2), (19, .iload_n 3, 1, 0, 0), (20, .invokevirtual 95, 3, 27, 0), (23, .ifCond .eq 17, 3, 0, 0), (26, .lload_n 1, 1, 0, 0), (27, .lconst 1, 1, 0, 0), (28, .aload_n 0, 1, 0, 0), (29, .getfield 25, 3, 10, 2), (32, .iload_n 3, 1, 0, 0), (33, .iconst 2, 1, 0, 0), (34, .invokevirtual 99, 3, 29, 0), (37, .lshl, 1, 0, 0), (38, .lor, 1, 0, 0), (39, .lstore_n 1, 1, 0, 0), (40, .iinc 3 1, 3, 0, 0), (43, .goto (-39), 3, 0, 0), (46, .lconst 1, 1, 0, 0), (47, .aload_n 0, 1, 0, 0), (48, .getfield 18, 3, 10, 1), (51, .getfield 103, 3, 9, 0), (54, .lshl, 1, 0, 0), (55, .lconst 1, 1, 0, 0), (56, .lsub, 1, 0, 0), (57, .lload_n 1, 1, 0, 0), (58, .ldc2_w 106, 3, 0, (-1)), (61, .lxor, 1, 0, 0), (62, .land, 1, 0, 0), (63, .lreturn, 1, 0, 0)]
set_option maxRecDepth 100000 in
theorem ck133 : codeOK 133 cd133 := ⟨by decide, by decide +kernel⟩
/-- CountedTwice$World.missedIn(I)I -/
def cd134 : List Ent := [(0, .aload_n 0, 1, 0, 0), (1, .invokevirtual 108, 3, 133, 0), (4, .aload_n 0, 1, 0, 0), (5, .getfield 18, 3, 10, 1), (8, .iload_n 1, 1, 0, 0), (9, .invokevirtual 112, 3, 127, 0), (12, .land, 1, 0, 0), (13, .invokestatic 116, 3, 17, 0), (16, .ireturn, 1, 0, 0)]
set_option maxRecDepth 100000 in
theorem ck134 : codeOK 134 cd134 := ⟨by decide, by decide +kernel⟩
/-- CountedTwice$World.countSlots([I)V -/
def cd135 : List Ent := [(0, .aload_n 0, 1, 0, 0), (1, .invokevirtual 108, 3, 133, 0), (4, .lstore_n 2, 1, 0, 0), (5, .iconst 0, 1, 0, 0), (6, .istore 4, 2, 0, 0), (8, .iload 4, 2, 0, 0), (10, .iconst 5, 1, 0, 0), (11, .if_icmp .ge 58, 3, 0, 0), (14, .aload_n 0, 1, 0, 0), (15, .getfield 52, 3, 10, 7), (18, .getfield 122, 3, 2, 2), (21, .iload 4, 2, 0, 0), (23, .iaload, 1, 0, 0), (24, .istore 5, 2, 0, 0), (26, .iload 5, 2, 0, 0), (28, .iconst (-1), 1, 0, 0), (29, .if_icmp .ne 7, 3, 0, 0), (32, .iconst 0, 1, 0, 0), (33, .goto 17, 3, 0, 0), (36, .lload_n 2, 1, 0, 0), (37, .aload_n 0, 1, 0, 0), (38, .getfield 18, 3, 10, 1), (41, .iload 5, 2, 0, 0), (43, .invokevirtual 112, 3, 127, 0), (46, .land, 1, 0, 0), (47, .invokestatic 116, 3, 17, 0), (50, .istore 6, 2, 0, 0), (52, .aload_n 1, 1, 0, 0), (53, .iload 4, 2, 0, 0), (55, .bipush 9, 2, 0, 0), (57, .iload 6, 2, 0, 0), (59, .invokestatic 125, 3, 3, 0), (62, .iastore, 1, 0, 0), (63, .iinc 4 1, 3, 0, 0), (66, .goto (-58), 3, 0, 0), (69, .return_, 1, 0, 0)]
set_option maxRecDepth 100000 in
theorem ck135 : codeOK 135 cd135 := ⟨by decide, by decide +kernel⟩
/-- CountedTwice.<init>()V -/
def cd136 : List Ent := [(0, .aload_n 0, 1, 0, 0), (1, .invokespecial 1, 3, 999, 0), (4, .aload_n 0, 1, 0, 0), (5, .new 7, 3, 10, 0), (8, .dup, 1, 0, 0), (9, .invokespecial 9, 3, 128, 0), (12, .putfield 10, 3, 11, 0), (15, .aload_n 0, 1, 0, 0), (16, .new 7, 3, 10, 0), (19, .dup, 1, 0, 0), (20, .invokespecial 9, 3, 128, 0), (23, .putfield 16, 3, 11, 1), (26, .aload_n 0, 1, 0, 0), (27, .iconst 0, 1, 0, 0), (28, .putfield 19, 3, 11, 2), (31, .aload_n 0, 1, 0, 0), (32, .sipush 400, 3, 0, 0), (35, .newarray .byte, 2, 0, 0), (37, .putfield 23, 3, 11, 3), (40, .aload_n 0, 1, 0, 0), (41, .iconst 0, 1, 0, 0), (42, .putfield 27, 3, 11, 4), (45, .aload_n 0, 1, 0, 0), (46, .iconst 0, 1, 0, 0), (47, .putfield 31, 3, 11, 5), (50, .aload_n 0, 1, 0, 0), (51, .iconst (-1), 1, 0, 0), (52, .putfield 34, 3, 11, 6), (55, .aload_n 0, 1, 0, 0), (56, .new 37, 3, 4, 0), (59, .dup, 1, 0, 0), (60, .invokespecial 39, 3, 62, 0), (63, .putfield 40, 3, 11, 7), (66, .aload_n 0, 1, 0, 0), (67, .new 44, 3, 3, 0), (70, .dup, 1, 0, 0), (71, .aload_n 0, 1, 0, 0), (72, .getfield 10, 3, 11, 0), (75, .invokespecial 46, 3, 56, 0), (78, .putfield 49, 3, 11, 8), (81, .aload_n 0, 1, 0, 0), (82, .new 53, 3, 5, 0), (85, .dup, 1, 0, 0), (86, .aload_n 0, 1, 0, 0), (87, .getfield 10, 3, 11, 0), (90, .aload_n 0, 1, 0, 0), (91, .getfield 49, 3, 11, 8), (94, .invokespecial 55, 3, 79, 0), (97, .putfield 58, 3, 11, 9), (100, .aload_n 0, 1, 0, 0), (101, .new 62, 3, 1, 0), (104, .dup, 1, 0, 0), (105, .aload_n 0, 1, 0, 0), (106, .getfield 10, 3, 11, 0), (109, .invokespecial 64, 3, 32, 0), (112, .putfield 65, 3, 11, 10), (115, .aload_n 0, 1, 0, 0), (116, .new 69, 3, 7, 0), (119, .dup, 1, 0, 0), (120, .invokespecial 71, 3, 103, 0), (123, .putfield 72, 3, 11, 11), (126, .aload_n 0, 1, 0, 0), (127, .iconst 5, 1, 0, 0), (128, .newarray .int, 2, 0, 0), (130, .putfield 76, 3, 11, 12), (133, .return_, 1, 0, 0)]
set_option maxRecDepth 100000 in
theorem ck136 : codeOK 136 cd136 := ⟨by decide, by decide +kernel⟩
/-- CountedTwice.state(I)I -/
def cd137 : List Ent := [(0, .aload_n 0, 1, 0, 0), (1, .getfield 10, 3, 11, 0), (4, .getfield 80, 3, 10, 0), (7, .istore_n 2, 1, 0, 0), (8, .aload_n 0, 1, 0, 0), (9, .getfield 10, 3, 11, 0), (12, .iload_n 1, 1, 0, 0), (13, .putfield 80, 3, 10, 0), (16, .iload_n 2, 1, 0, 0), (17, .ireturn, 1, 0, 0)]
set_option maxRecDepth 100000 in
theorem ck137 : codeOK 137 cd137 := ⟨by decide, by decide +kernel⟩
/-- CountedTwice.house(III)I -/
def cd138 : List Ent := [(0, .iload_n 1, 1, 0, 0), (1, .bipush 12, 2, 0, 0), (3, .invokestatic 83, 3, 172, 0), (6, .ifCond .eq 22, 3, 0, 0), (9, .iload_n 2, 1, 0, 0), (10, .sipush 1000, 3, 0, 0), (13, .invokestatic 83, 3, 172, 0), (16, .ifCond .eq 12, 3, 0, 0), (19, .iload_n 3, 1, 0, 0), (20, .bipush 10, 2, 0, 0), (22, .invokestatic 83, 3, 172, 0), (25, .ifCond .ne 5, 3, 0, 0), (28, .iconst (-1), 1, 0, 0), (29, .ireturn, 1, 0, 0), (30, .aload_n 0, 1, 0, 0), (31, .getfield 10, 3, 11, 0), (34, .getfield 87, 3, 10, 1), (37, .iload_n 1, 1, 0, 0), (38, .iload_n 2, 1, 0, 0), (39, .iload_n 3, 1, 0, 0), (40, .invokevirtual 91, 3, 120, 0), (43, .ireturn, 1, 0, 0)]
set_option maxRecDepth 100000 in
theorem ck138 : codeOK 138 cd138 := ⟨by decide, by decide +kernel⟩
/-- CountedTwice.gap(III)Z -/
def cd139 : List Ent := [(0, .iload_n 1, 1, 0, 0), (1, .bipush 12, 2, 0, 0), (3, .invokestatic 83, 3, 172, 0), (6, .ifCond .eq 27, 3, 0, 0), (9, .iload_n 2, 1, 0, 0), (10, .bipush 12, 2, 0, 0), (12, .invokestatic 83, 3, 172, 0), (15, .ifCond .eq 18, 3, 0, 0), (18, .iload_n 1, 1, 0, 0), (19, .iload_n 2, 1, 0, 0), (20, .if_icmp .eq 13, 3, 0, 0), (23, .iload_n 3, 1, 0, 0), (24, .sipush 1000, 3, 0, 0), (27, .invokestatic 83, 3, 172, 0), (30, .ifCond .ne 5, 3, 0, 0), (33, .iconst 0, 1, 0, 0), (34, .ireturn, 1, 0, 0), (35, .aload_n 0, 1, 0, 0), (36, .getfield 10, 3, 11, 0), (39, .getfield 87, 3, 10, 1), (42, .iload_n 1, 1, 0, 0), (43, .iload_n 2, 1, 0, 0), (44, .iload_n 3, 1, 0, 0), (45, .invokevirtual 97, 3, 124, 0), (48, .aload_n 0, 1, 0, 0), (49, .getfield 49, 3, 11, 8), (52, .invokevirtual 101, 3, 57, 0), (55, .aload_n 0, 1, 0, 0), (56, .getfield 58, 3, 11, 9), (59, .invokevirtual 104, 3, 80, 0), (62, .iconst 1, 1, 0, 0), (63, .ireturn, 1, 0, 0)]
set_option maxRecDepth 100000 in
theorem ck139 : codeOK 139 cd139 := ⟨by decide, by decide +kernel⟩
/-- CountedTwice.set(II)Z -/
def cd140 : List Ent := [(0, .iload_n 2, 1, 0, 0), (1, .bipush 100, 2, 0, 0), (3, .invokestatic 83, 3, 172, 0), (6, .ifCond .eq 11, 3, 0, 0), (9, .iload_n 1, 1, 0, 0), (10, .iconst 2, 1, 0, 0), (11, .invokestatic 83, 3, 172, 0), (14, .ifCond .ne 5, 3, 0, 0), (17, .iconst 0, 1, 0, 0), (18, .ireturn, 1, 0, 0), (19, .iload_n 1, 1, 0, 0), (20, .ifCond .ne 17, 3, 0, 0), (23, .aload_n 0, 1, 0, 0), (24, .getfield 10, 3, 11, 0), (27, .getfield 87, 3, 10, 1), (30, .iload_n 2, 1, 0, 0), (31, .putfield 105, 3, 9, 1), (34, .goto 14, 3, 0, 0), (37, .aload_n 0, 1, 0, 0), (38, .getfield 10, 3, 11, 0), (41, .getfield 87, 3, 10, 1), (44, .iload_n 2, 1, 0, 0), (45, .putfield 108, 3, 9, 2), (48, .iconst 1, 1, 0, 0), (49, .ireturn, 1, 0, 0)]
set_option maxRecDepth 100000 in
theorem ck140 : codeOK 140 cd140 := ⟨by decide, by decide +kernel⟩
/-- CountedTwice.way(III)I -/
def cd141 : List Ent := [(0, .iload_n 1, 1, 0, 0), (1, .aload_n 0, 1, 0, 0), (2, .getfield 10, 3, 11, 0), (5, .getfield 87, 3, 10, 1), (8, .getfield 111, 3, 9, 0), (11, .invokestatic 83, 3, 172, 0), (14, .ifCond .eq 20, 3, 0, 0), (17, .iload_n 2, 1, 0, 0), (18, .aload_n 0, 1, 0, 0), (19, .getfield 10, 3, 11, 0), (22, .getfield 87, 3, 10, 1), (25, .getfield 111, 3, 9, 0), (28, .invokestatic 83, 3, 172, 0), (31, .ifCond .ne 5, 3, 0, 0), (34, .iconst (-1), 1, 0, 0), (35, .ireturn, 1, 0, 0), (36, .iload_n 3, 1, 0, 0), (37, .lookupswitch 53 #[(0, 27), (1, 40)], 27, 0, 0), (64, .aload_n 0, 1, 0, 0), (65, .getfield 10, 3, 11, 0), (68, .getfield 87, 3, 10, 1), (71, .iload_n 1, 1, 0, 0), (72, .iload_n 2, 1, 0, 0), (73, .invokevirtual 114, 3, 125, 0), (76, .ireturn, 1, 0, 0), (77, .aload_n 0, 1, 0, 0), (78, .getfield 10, 3, 11, 0), (81, .getfield 87, 3, 10, 1), (84, .iload_n 1, 1, 0, 0), (85, .iload_n 2, 1, 0, 0), (86, .invokevirtual 118, 3, 126, 0), (89, .ireturn, 1, 0, 0), (90, .iconst (-1), 1, 0, 0), (91, .ireturn, 1, 0, 0)]
set_option maxRecDepth 100000 in
theorem ck141 : codeOK 141 cd141 := ⟨by decide, by decide +kernel⟩
/-- CountedTwice.feed(IIIII)I -/
def cd142 : List Ent := [(0, .aload_n 0, 1, 0, 0), (1, .getfield 27, 3, 11, 4), (4, .bipush 20, 2, 0, 0), (6, .iadd, 1, 0, 0), (7, .sipush 400, 3, 0, 0), (10, .if_icmp .le 5, 3, 0, 0), (13, .iconst (-1), 1, 0, 0), (14, .ireturn, 1, 0, 0), (15, .aload_n 0, 1, 0, 0), (16, .iload_n 1, 1, 0, 0), (17, .invokevirtual 121, 3, 143, 0), (20, .aload_n 0, 1, 0, 0), (21, .iload_n 2, 1, 0, 0), (22, .invokevirtual 121, 3, 143, 0), (25, .aload_n 0, 1, 0, 0), (26, .iload_n 3, 1, 0, 0), (27, .invokevirtual 121, 3, 143, 0), (30, .aload_n 0, 1, 0, 0), (31, .iload 4, 2, 0, 0), (33, .invokevirtual 121, 3, 143, 0), (36, .aload_n 0, 1, 0, 0), (37, .iload 5, 2, 0, 0), (39, .invokevirtual 121, 3, 143, 0), (42, .aload_n 0, 1, 0, 0), (43, .getfield 27, 3, 11, 4), (46, .ireturn, 1, 0, 0)]
set_option maxRecDepth 100000 in
theorem ck142 : codeOK 142 cd142 := ⟨by decide, by decide +kernel⟩
/-- CountedTwice.feedNumber(I)V -/
def cd143 : List Ent := [(0, .bipush 24, 2, 0, 0), (2, .istore_n 2, 1, 0, 0), (3, .iload_n 2, 1, 0, 0), (4, .ifCond .lt 44, 3, 0, 0), (7, .aload_n 0, 1, 0, 0), (8, .getfield 27, 3, 11, 4), (11, .aload_n 0, 1, 0, 0), (12, .getfield 23, 3, 11, 3), (15, .arraylength, 1, 0, 0), (16, .if_icmp .ge 26, 3, 0, 0), (19, .aload_n 0, 1, 0, 0), (20, .getfield 23, 3, 11, 3), (23, .aload_n 0, 1, 0, 0), (24, .getfield 27, 3, 11, 4), (27, .iload_n 1, 1, 0, 0), (28, .iload_n 2, 1, 0, 0), (29, .iushr, 1, 0, 0), (30, .i2b, 1, 0, 0), (31, .bastore, 1, 0, 0), (32, .aload_n 0, 1, 0, 0), (33, .dup, 1, 0, 0), (34, .getfield 27, 3, 11, 4), (37, .iconst 1, 1, 0, 0), (38, .iadd, 1, 0, 0), (39, .putfield 27, 3, 11, 4), (42, .iinc 2 (-8), 3, 0, 0), (45, .goto (-42), 3, 0, 0), (48, .return_, 1, 0, 0)]
set_option maxRecDepth 100000 in
theorem ck143 : codeOK 143 cd143 := ⟨by decide, by decide +kernel⟩
/-- CountedTwice.end(I)Z -/
def cd144 : List Ent := [(0, .iload_n 1, 1, 0, 0), (1, .ifCond .lt 11, 3, 0, 0), (4, .iload_n 1, 1, 0, 0), (5, .aload_n 0, 1, 0, 0), (6, .getfield 27, 3, 11, 4), (9, .if_icmp .le 5, 3, 0, 0), (12, .iconst 0, 1, 0, 0), (13, .ireturn, 1, 0, 0), (14, .aload_n 0, 1, 0, 0), (15, .iload_n 1, 1, 0, 0), (16, .putfield 27, 3, 11, 4), (19, .iconst 1, 1, 0, 0), (20, .ireturn, 1, 0, 0)]
set_option maxRecDepth 100000 in
theorem ck144 : codeOK 144 cd144 := ⟨by decide, by decide +kernel⟩
/-- CountedTwice.text(I)I -/
def cd145 : List Ent := [(0, .aload_n 0, 1, 0, 0), (1, .getfield 27, 3, 11, 4), (4, .istore_n 2, 1, 0, 0), (5, .aload_n 0, 1, 0, 0), (6, .iconst 0, 1, 0, 0), (7, .putfield 27, 3, 11, 4), (10, .aload_n 0, 1, 0, 0), (11, .iconst 0, 1, 0, 0), (12, .putfield 31, 3, 11, 5), (15, .aload_n 0, 1, 0, 0), (16, .iconst (-1), 1, 0, 0), (17, .putfield 34, 3, 11, 6), (20, .iload_n 1, 1, 0, 0), (21, .iconst 3, 1, 0, 0), (22, .invokestatic 83, 3, 172, 0), (25, .ifCond .ne 5, 3, 0, 0), (28, .iconst (-1), 1, 0, 0), (29, .ireturn, 1, 0, 0), (30, .aload_n 0, 1, 0, 0), (31, .getfield 40, 3, 11, 7), (34, .aload_n 0, 1, 0, 0), (35, .getfield 23, 3, 11, 3), (38, .iload_n 2, 1, 0, 0), (39, .iload_n 1, 1, 0, 0), (40, .iconst 2, 1, 0, 0), (41, .if_icmp .ne 7, 3, 0, 0), (44, .iconst 1, 1, 0, 0), (45, .goto 4, 3, 0, 0), (48, .iconst 0, 1, 0, 0), (49, .invokevirtual 125, 3, 63, 0), (52, .aload_n 0, 1, 0, 0), (53, .getfield 40, 3, 11, 7), (56, .invokevirtual 129, 3, 68, 0), (59, .aload_n 0, 1, 0, 0), (60, .aload_n 0, 1, 0, 0), (61, .getfield 40, 3, 11, 7), (64, .getfield 132, 3, 4, 0), (67, .putfield 31, 3, 11, 5), (70, .aload_n 0, 1, 0, 0), (71, .aload_n 0, 1, 0, 0), (72, .getfield 40, 3, 11, 7), (75, .getfield 135, 3, 4, 1), (78, .putfield 34, 3, 11, 6), (81, .aload_n 0, 1, 0, 0), (82, .getfield 31, 3, 11, 5), (85, .ifCond .eq 5, 3, 0, 0), (88, .iconst (-1), 1, 0, 0), (89, .ireturn, 1, 0, 0), (90, .aload_n 0, 1, 0, 0), (91, .getfield 10, 3, 11, 0), (94, .iload_n 1, 1, 0, 0), (95, .invokevirtual 136, 3, 130, 0), (98, .astore_n 3, 1, 0, 0), (99, .aload_n 3, 1, 0, 0), (100, .aload_n 0, 1, 0, 0), (101, .getfield 40, 3, 11, 7), (104, .invokevirtual 140, 3, 113, 0), (107, .aload_n 0, 1, 0, 0), (108, .getfield 49, 3, 11, 8), (111, .invokevirtual 101, 3, 57, 0), (114, .aload_n 0, 1, 0, 0), (115, .getfield 58, 3, 11, 9), (118, .invokevirtual 104, 3, 80, 0), (121, .aload_n 3, 1, 0, 0), (122, .getfield 146, 3, 8, 0), (125, .ireturn, 1, 0, 0)]
set_option maxRecDepth 100000 in
theorem ck145 : codeOK 145 cd145 := ⟨by decide, by decide +kernel⟩
/-- CountedTwice.fault(I)I -/
def cd146 : List Ent := [(0, .iload_n 1, 1, 0, 0), (1, .lookupswitch 37 #[(0, 27), (1, 32)], 27, 0, 0), (28, .aload_n 0, 1, 0, 0), (29, .getfield 31, 3, 11, 5), (32, .ireturn, 1, 0, 0), (33, .aload_n 0, 1, 0, 0), (34, .getfield 34, 3, 11, 6), (37, .ireturn, 1, 0, 0), (38, .iconst (-1), 1, 0, 0), (39, .ireturn, 1, 0, 0)]
set_option maxRecDepth 100000 in
theorem ck146 : codeOK 146 cd146 := ⟨by decide, by decide +kernel⟩
/-- CountedTwice.entry(IIIIII)I -/
def cd147 : List Ent := [(0, .aload_n 0, 1, 0, 0), (1, .getfield 27, 3, 11, 4), (4, .istore 7, 2, 0, 0), (6, .aload_n 0, 1, 0, 0), (7, .iconst 0, 1, 0, 0), (8, .putfield 27, 3, 11, 4), (11, .iload_n 1, 1, 0, 0), (12, .iconst 2, 1, 0, 0), (13, .invokestatic 83, 3, 172, 0), (16, .ifCond .eq 33, 3, 0, 0), (19, .iload_n 2, 1, 0, 0), (20, .bipush 11, 2, 0, 0), (22, .invokestatic 83, 3, 172, 0), (25, .ifCond .eq 24, 3, 0, 0), (28, .iload_n 3, 1, 0, 0), (29, .aload_n 0, 1, 0, 0), (30, .getfield 10, 3, 11, 0), (33, .getfield 87, 3, 10, 1), (36, .getfield 111, 3, 9, 0), (39, .invokestatic 83, 3, 172, 0), (42, .ifCond .eq 7, 3, 0, 0), (45, .iconst 1, 1, 0, 0), (46, .goto 4, 3, 0, 0), (49, .iconst 0, 1, 0, 0), (50, .istore 8, 2, 0, 0), (52, .iload 4, 2, 0, 0), (54, .bipush 100, 2, 0, 0), (56, .invokestatic 83, 3, 172, 0), (59, .ifCond .eq 28, 3, 0, 0), (62, .iload 5, 2, 0, 0), (64, .sipush 1440, 3, 0, 0), (67, .invokestatic 83, 3, 172, 0), (70, .ifCond .eq 17, 3, 0, 0), (73, .iload 6, 2, 0, 0), (75, .bipush 120, 2, 0, 0), (77, .invokestatic 83, 3, 172, 0), (80, .ifCond .eq 7, 3, 0, 0), (83, .iconst 1, 1, 0, 0), (84, .goto 4, 3, 0, 0), (87, .iconst 0, 1, 0, 0), (88, .istore 9, 2, 0, 0), (90, .iload 8, 2, 0, 0), (92, .ifCond .eq 32, 3, 0, 0), (95, .iload 9, 2, 0, 0), (97, .ifCond .eq 27, 3, 0, 0), (100, .aload_n 0, 1, 0, 0), (101, .iload 7, 2, 0, 0), (103, .invokevirtual 149, 3, 148, 0), (106, .ifCond .eq 18, 3, 0, 0), (109, .aload_n 0, 1, 0, 0), (110, .getfield 10, 3, 11, 0), (113, .getfield 153, 3, 10, 2), (116, .getfield 157, 3, 0, 0), (119, .bipush 120, 2, 0, 0), (121, .if_icmp .lt 5, 3, 0, 0), (124, .iconst (-1), 1, 0, 0), (125, .ireturn, 1, 0, 0), (126, .aload_n 0, 1, 0, 0), (127, .getfield 10, 3, 11, 0), (130, .getfield 153, 3, 10, 2), (133, .aload_n 0, 1, 0, 0), (134, .getfield 23, 3, 11, 3), (137, .iload 7, 2, 0, 0), (139, .invokevirtual 162, 3, 23, 0), (142, .aload_n 0, 1, 0, 0), (143, .getfield 58, 3, 11, 9), (146, .invokevirtual 104, 3, 80, 0), (149, .aload_n 0, 1, 0, 0), (150, .getfield 10, 3, 11, 0), (153, .getfield 153, 3, 10, 2), (156, .iload_n 1, 1, 0, 0), (157, .iload_n 2, 1, 0, 0), (158, .iload_n 3, 1, 0, 0), (159, .iload 4, 2, 0, 0), (161, .iload 5, 2, 0, 0), (163, .iload 6, 2, 0, 0), (165, .invokevirtual 166, 3, 24, 0), (168, .ireturn, 1, 0, 0)]
set_option maxRecDepth 100000 in
theorem ck147 : codeOK 147 cd147 := ⟨by decide, by decide +kernel⟩
/-- CountedTwice.isName(I)Z -/
def cd148 : List Ent := [(0, .iload_n 1, 1, 0, 0), (1, .iconst 1, 1, 0, 0), (2, .if_icmp .lt 9, 3, 0, 0), (5, .iload_n 1, 1, 0, 0), (6, .bipush 8, 2, 0, 0), (8, .if_icmp .le 5, 3, 0, 0), (11, .iconst 0, 1, 0, 0), (12, .ireturn, 1, 0, 0), (13, .iconst 0, 1, 0, 0), (14, .istore_n 2, 1, 0, 0), (15, .iload_n 2, 1, 0, 0), (16, .iload_n 1, 1, 0, 0), (17, .if_icmp .ge 23, 3, 0, 0), (20, .aload_n 0, 1, 0, 0), (21, .getfield 23, 3, 11, 3), (24, .iload_n 2, 1, 0, 0), (25, .baload, 1, 0, 0), (26, .invokestatic 170, 3, 173, 0), (29, .ifCond .ne 5, 3, 0, 0), (32, .iconst 0, 1, 0, 0), (33, .ireturn, 1, 0, 0), (34, .iinc 2 1, 3, 0, 0), (37, .goto (-22), 3, 0, 0), (40, .iconst 1, 1, 0, 0), (41, .ireturn, 1, 0, 0)]
set_option maxRecDepth 100000 in
theorem ck148 : codeOK 148 cd148 := ⟨by decide, by decide +kernel⟩
/-- CountedTwice.voids(I)Z -/
def cd149 : List Ent := [(0, .iload_n 1, 1, 0, 0), (1, .aload_n 0, 1, 0, 0), (2, .getfield 10, 3, 11, 0), (5, .getfield 153, 3, 10, 2), (8, .getfield 157, 3, 0, 0), (11, .invokestatic 83, 3, 172, 0), (14, .ifCond .eq 17, 3, 0, 0), (17, .aload_n 0, 1, 0, 0), (18, .getfield 10, 3, 11, 0), (21, .getfield 153, 3, 10, 2), (24, .iload_n 1, 1, 0, 0), (25, .invokevirtual 173, 3, 26, 0), (28, .ifCond .eq 5, 3, 0, 0), (31, .iconst 0, 1, 0, 0), (32, .ireturn, 1, 0, 0), (33, .aload_n 0, 1, 0, 0), (34, .getfield 10, 3, 11, 0), (37, .getfield 153, 3, 10, 2), (40, .iload_n 1, 1, 0, 0), (41, .invokevirtual 176, 3, 25, 0), (44, .aload_n 0, 1, 0, 0), (45, .getfield 58, 3, 11, 9), (48, .invokevirtual 104, 3, 80, 0), (51, .iconst 1, 1, 0, 0), (52, .ireturn, 1, 0, 0)]
set_option maxRecDepth 100000 in
theorem ck149 : codeOK 149 cd149 := ⟨by decide, by decide +kernel⟩
/-- CountedTwice.view(I)Z -/
def cd150 : List Ent := [(0, .iload_n 1, 1, 0, 0), (1, .iconst (-1), 1, 0, 0), (2, .if_icmp .lt 17, 3, 0, 0), (5, .iload_n 1, 1, 0, 0), (6, .aload_n 0, 1, 0, 0), (7, .getfield 10, 3, 11, 0), (10, .getfield 153, 3, 10, 2), (13, .getfield 179, 3, 0, 1), (16, .if_icmp .le 5, 3, 0, 0), (19, .iconst 0, 1, 0, 0), (20, .ireturn, 1, 0, 0), (21, .aload_n 0, 1, 0, 0), (22, .getfield 10, 3, 11, 0), (25, .getfield 153, 3, 10, 2), (28, .iload_n 1, 1, 0, 0), (29, .putfield 182, 3, 0, 2), (32, .aload_n 0, 1, 0, 0), (33, .getfield 58, 3, 11, 9), (36, .invokevirtual 104, 3, 80, 0), (39, .iconst 1, 1, 0, 0), (40, .ireturn, 1, 0, 0)]
set_option maxRecDepth 100000 in
theorem ck150 : codeOK 150 cd150 := ⟨by decide, by decide +kernel⟩
/-- CountedTwice.of(II)I -/
def cd151 : List Ent := [(0, .aload_n 0, 1, 0, 0), (1, .getfield 10, 3, 11, 0), (4, .getfield 153, 3, 10, 2), (7, .astore_n 3, 1, 0, 0), (8, .iload_n 1, 1, 0, 0), (9, .aload_n 3, 1, 0, 0), (10, .getfield 157, 3, 0, 0), (13, .invokestatic 83, 3, 172, 0), (16, .ifCond .eq 7, 3, 0, 0), (19, .iload_n 2, 1, 0, 0), (20, .ifCond .ge 5, 3, 0, 0), (23, .iconst (-1), 1, 0, 0), (24, .ireturn, 1, 0, 0), (25, .iload_n 2, 1, 0, 0), (26, .bipush 6, 2, 0, 0), (28, .if_icmp .ge 10, 3, 0, 0), (31, .aload_n 3, 1, 0, 0), (32, .iload_n 1, 1, 0, 0), (33, .iload_n 2, 1, 0, 0), (34, .invokevirtual 185, 3, 29, 0), (37, .ireturn, 1, 0, 0), (38, .iload_n 2, 1, 0, 0), (39, .tableswitch 61 6 8 #[25, 31, 45], 25, 0, 0), (64, .aload_n 3, 1, 0, 0), (65, .iload_n 1, 1, 0, 0), (66, .invokevirtual 188, 3, 30, 0), (69, .ireturn, 1, 0, 0), (70, .aload_n 3, 1, 0, 0), (71, .iload_n 1, 1, 0, 0), (72, .invokevirtual 192, 3, 27, 0), (75, .ifCond .eq 7, 3, 0, 0), (78, .iconst 1, 1, 0, 0), (79, .goto 4, 3, 0, 0), (82, .iconst 0, 1, 0, 0), (83, .ireturn, 1, 0, 0), (84, .aload_n 0, 1, 0, 0), (85, .getfield 58, 3, 11, 9), (88, .invokevirtual 195, 3, 81, 0), (91, .aload_n 0, 1, 0, 0), (92, .getfield 58, 3, 11, 9), (95, .iload_n 1, 1, 0, 0), (96, .invokevirtual 198, 3, 84, 0), (99, .ireturn, 1, 0, 0), (100, .iload_n 2, 1, 0, 0), (101, .bipush 10, 2, 0, 0), (103, .isub, 1, 0, 0), (104, .aload_n 3, 1, 0, 0), (105, .iload_n 1, 1, 0, 0), (106, .invokevirtual 188, 3, 30, 0), (109, .invokestatic 83, 3, 172, 0), (112, .ifCond .eq 15, 3, 0, 0), (115, .aload_n 3, 1, 0, 0), (116, .iload_n 1, 1, 0, 0), (117, .iload_n 2, 1, 0, 0), (118, .bipush 10, 2, 0, 0), (120, .isub, 1, 0, 0), (121, .invokevirtual 201, 3, 31, 0), (124, .goto 4, 3, 0, 0), (127, .iconst (-1), 1, 0, 0), (128, .ireturn, 1, 0, 0)]
set_option maxRecDepth 100000 in
theorem ck151 : codeOK 151 cd151 := ⟨by decide, by decide +kernel⟩
/-- CountedTwice.alike(III)I -/
def cd152 : List Ent := [(0, .iload_n 1, 1, 0, 0), (1, .aload_n 0, 1, 0, 0), (2, .getfield 10, 3, 11, 0), (5, .getfield 153, 3, 10, 2), (8, .getfield 157, 3, 0, 0), (11, .invokestatic 83, 3, 172, 0), (14, .ifCond .eq 25, 3, 0, 0), (17, .iload_n 2, 1, 0, 0), (18, .aload_n 0, 1, 0, 0), (19, .getfield 10, 3, 11, 0), (22, .getfield 153, 3, 10, 2), (25, .getfield 157, 3, 0, 0), (28, .invokestatic 83, 3, 172, 0), (31, .ifCond .eq 8, 3, 0, 0), (34, .iload_n 1, 1, 0, 0), (35, .iload_n 2, 1, 0, 0), (36, .if_icmp .ne 5, 3, 0, 0), (39, .iconst (-1), 1, 0, 0), (40, .ireturn, 1, 0, 0), (41, .iload_n 3, 1, 0, 0), (42, .tableswitch 69 0 3 #[30, 30, 49, 59], 30, 0, 0), (72, .aload_n 0, 1, 0, 0), (73, .getfield 49, 3, 11, 8), (76, .iload_n 3, 1, 0, 0), (77, .iload_n 1, 1, 0, 0), (78, .iload_n 2, 1, 0, 0), (79, .invokevirtual 204, 3, 58, 0), (82, .ifCond .eq 7, 3, 0, 0), (85, .iconst 1, 1, 0, 0), (86, .goto 4, 3, 0, 0), (89, .iconst 0, 1, 0, 0), (90, .ireturn, 1, 0, 0), (91, .aload_n 0, 1, 0, 0), (92, .getfield 49, 3, 11, 8), (95, .iload_n 1, 1, 0, 0), (96, .iload_n 2, 1, 0, 0), (97, .invokevirtual 208, 3, 61, 0), (100, .ireturn, 1, 0, 0), (101, .aload_n 0, 1, 0, 0), (102, .getfield 49, 3, 11, 8), (105, .iload_n 1, 1, 0, 0), (106, .iload_n 2, 1, 0, 0), (107, .invokevirtual 211, 3, 60, 0), (110, .ireturn, 1, 0, 0), (111, .iconst (-1), 1, 0, 0), (112, .ireturn, 1, 0, 0)]
set_option maxRecDepth 100000 in
theorem ck152 : codeOK 152 cd152 := ⟨by decide, by decide +kernel⟩
/-- CountedTwice.home(III)I -/
def cd153 : List Ent := [(0, .iload_n 1, 1, 0, 0), (1, .aload_n 0, 1, 0, 0), (2, .getfield 10, 3, 11, 0), (5, .getfield 87, 3, 10, 1), (8, .getfield 111, 3, 9, 0), (11, .invokestatic 83, 3, 172, 0), (14, .ifCond .eq 22, 3, 0, 0), (17, .iload_n 2, 1, 0, 0), (18, .bipush 100, 2, 0, 0), (20, .invokestatic 83, 3, 172, 0), (23, .ifCond .eq 13, 3, 0, 0), (26, .iload_n 3, 1, 0, 0), (27, .sipush 1440, 3, 0, 0), (30, .invokestatic 83, 3, 172, 0), (33, .ifCond .ne 5, 3, 0, 0), (36, .iconst (-1), 1, 0, 0), (37, .ireturn, 1, 0, 0), (38, .aload_n 0, 1, 0, 0), (39, .getfield 10, 3, 11, 0), (42, .iload_n 1, 1, 0, 0), (43, .iload_n 2, 1, 0, 0), (44, .iload_n 3, 1, 0, 0), (45, .invokevirtual 214, 3, 132, 0), (48, .ifCond .eq 7, 3, 0, 0), (51, .iconst 1, 1, 0, 0), (52, .goto 4, 3, 0, 0), (55, .iconst 0, 1, 0, 0), (56, .ireturn, 1, 0, 0)]
set_option maxRecDepth 100000 in
theorem ck153 : codeOK 153 cd153 := ⟨by decide, by decide +kernel⟩
/-- CountedTwice.person(II)I -/
def cd154 : List Ent := [(0, .aload_n 0, 1, 0, 0), (1, .getfield 58, 3, 11, 9), (4, .invokevirtual 195, 3, 81, 0), (7, .iload_n 2, 1, 0, 0), (8, .tableswitch 68 0 3 #[32, 41, 50, 59], 32, 0, 0), (40, .aload_n 0, 1, 0, 0), (41, .getfield 58, 3, 11, 9), (44, .iload_n 1, 1, 0, 0), (45, .invokevirtual 217, 3, 85, 0), (48, .ireturn, 1, 0, 0), (49, .aload_n 0, 1, 0, 0), (50, .getfield 58, 3, 11, 9), (53, .iload_n 1, 1, 0, 0), (54, .invokevirtual 220, 3, 86, 0), (57, .ireturn, 1, 0, 0), (58, .aload_n 0, 1, 0, 0), (59, .getfield 58, 3, 11, 9), (62, .iload_n 1, 1, 0, 0), (63, .invokevirtual 223, 3, 87, 0), (66, .ireturn, 1, 0, 0), (67, .aload_n 0, 1, 0, 0), (68, .getfield 58, 3, 11, 9), (71, .iload_n 1, 1, 0, 0), (72, .invokevirtual 226, 3, 88, 0), (75, .ireturn, 1, 0, 0), (76, .iconst (-1), 1, 0, 0), (77, .ireturn, 1, 0, 0)]
set_option maxRecDepth 100000 in
theorem ck154 : codeOK 154 cd154 := ⟨by decide, by decide +kernel⟩
/-- CountedTwice.table(II)I -/
def cd155 : List Ent := [(0, .iload_n 1, 1, 0, 0), (1, .iconst (-1), 1, 0, 0), (2, .if_icmp .eq 14, 3, 0, 0), (5, .iload_n 1, 1, 0, 0), (6, .bipush 12, 2, 0, 0), (8, .invokestatic 83, 3, 172, 0), (11, .ifCond .ne 5, 3, 0, 0), (14, .iconst (-1), 1, 0, 0), (15, .ireturn, 1, 0, 0), (16, .aload_n 0, 1, 0, 0), (17, .getfield 58, 3, 11, 9), (20, .invokevirtual 195, 3, 81, 0), (23, .iload_n 2, 1, 0, 0), (24, .tableswitch 64 0 4 #[36, 36, 36, 46, 55], 36, 0, 0), (60, .aload_n 0, 1, 0, 0), (61, .getfield 58, 3, 11, 9), (64, .iload_n 1, 1, 0, 0), (65, .iload_n 2, 1, 0, 0), (66, .invokevirtual 229, 3, 90, 0), (69, .ireturn, 1, 0, 0), (70, .aload_n 0, 1, 0, 0), (71, .getfield 58, 3, 11, 9), (74, .iload_n 1, 1, 0, 0), (75, .invokevirtual 232, 3, 91, 0), (78, .ireturn, 1, 0, 0), (79, .aload_n 0, 1, 0, 0), (80, .getfield 58, 3, 11, 9), (83, .iload_n 1, 1, 0, 0), (84, .invokevirtual 235, 3, 92, 0), (87, .ireturn, 1, 0, 0), (88, .iconst (-1), 1, 0, 0), (89, .ireturn, 1, 0, 0)]
set_option maxRecDepth 100000 in
theorem ck155 : codeOK 155 cd155 := ⟨by decide, by decide +kernel⟩
/-- CountedTwice.ends(I)I -/
def cd156 : List Ent := [(0, .aload_n 0, 1, 0, 0), (1, .getfield 58, 3, 11, 9), (4, .invokevirtual 195, 3, 81, 0), (7, .iload_n 1, 1, 0, 0), (8, .lookupswitch 52 #[(0, 28), (1, 44)], 28, 0, 0), (36, .aload_n 0, 1, 0, 0), (37, .getfield 58, 3, 11, 9), (40, .getfield 238, 3, 5, 0), (43, .aload_n 0, 1, 0, 0), (44, .getfield 58, 3, 11, 9), (47, .invokevirtual 241, 3, 93, 0), (50, .isub, 1, 0, 0), (51, .ireturn, 1, 0, 0), (52, .aload_n 0, 1, 0, 0), (53, .getfield 58, 3, 11, 9), (56, .getfield 238, 3, 5, 0), (59, .ireturn, 1, 0, 0), (60, .iconst (-1), 1, 0, 0), (61, .ireturn, 1, 0, 0)]
set_option maxRecDepth 100000 in
theorem ck156 : codeOK 156 cd156 := ⟨by decide, by decide +kernel⟩
/-- CountedTwice.luck(IIII)J -/
def cd157 : List Ent := [(0, .iload_n 1, 1, 0, 0), (1, .iconst 1, 1, 0, 0), (2, .if_icmp .lt 40, 3, 0, 0), (5, .iload_n 1, 1, 0, 0), (6, .bipush 60, 2, 0, 0), (8, .if_icmp .gt 34, 3, 0, 0), (11, .iload_n 2, 1, 0, 0), (12, .iload_n 1, 1, 0, 0), (13, .iconst 1, 1, 0, 0), (14, .iadd, 1, 0, 0), (15, .invokestatic 83, 3, 172, 0), (18, .ifCond .eq 24, 3, 0, 0), (21, .iload_n 3, 1, 0, 0), (22, .iload_n 1, 1, 0, 0), (23, .iconst 1, 1, 0, 0), (24, .iadd, 1, 0, 0), (25, .invokestatic 83, 3, 172, 0), (28, .ifCond .eq 14, 3, 0, 0), (31, .iload 4, 2, 0, 0), (33, .iload_n 1, 1, 0, 0), (34, .iconst 1, 1, 0, 0), (35, .iadd, 1, 0, 0), (36, .invokestatic 83, 3, 172, 0), (39, .ifCond .ne 7, 3, 0, 0), (42, .ldc2_w 245, 3, 0, (-1)), (45, .lreturn, 1, 0, 0), (46, .lconst 0, 1, 0, 0), (47, .lstore 5, 2, 0, 0), (49, .iconst 0, 1, 0, 0), (50, .istore 7, 2, 0, 0), (52, .iload 7, 2, 0, 0), (54, .iload 4, 2, 0, 0), (56, .if_icmp .gt 37, 3, 0, 0), (59, .iload 7, 2, 0, 0), (61, .iload_n 3, 1, 0, 0), (62, .if_icmp .gt 31, 3, 0, 0), (65, .lload 5, 2, 0, 0), (67, .iload_n 2, 1, 0, 0), (68, .iload 7, 2, 0, 0), (70, .invokestatic 247, 3, 179, 0), (73, .iload_n 1, 1, 0, 0), (74, .iload_n 2, 1, 0, 0), (75, .isub, 1, 0, 0), (76, .iload_n 3, 1, 0, 0), (77, .iload 7, 2, 0, 0), (79, .isub, 1, 0, 0), (80, .invokestatic 247, 3, 179, 0), (83, .lmul, 1, 0, 0), (84, .ladd, 1, 0, 0), (85, .lstore 5, 2, 0, 0), (87, .iinc 7 1, 3, 0, 0), (90, .goto (-38), 3, 0, 0), (93, .lload 5, 2, 0, 0), (95, .lreturn, 1, 0, 0)]
set_option maxRecDepth 100000 in
theorem ck157 : codeOK 157 cd157 := ⟨by decide, by decide +kernel⟩
/-- CountedTwice.counter(II)I -/
def cd158 : List Ent := [(0, .iload_n 1, 1, 0, 0), (1, .bipush 11, 2, 0, 0), (3, .invokestatic 83, 3, 172, 0), (6, .ifCond .ne 5, 3, 0, 0), (9, .iconst (-1), 1, 0, 0), (10, .ireturn, 1, 0, 0), (11, .iload_n 2, 1, 0, 0), (12, .tableswitch 80 0 5 #[40, 40, 50, 59, 59, 71], 40, 0, 0), (52, .aload_n 0, 1, 0, 0), (53, .getfield 65, 3, 11, 10), (56, .iload_n 1, 1, 0, 0), (57, .iload_n 2, 1, 0, 0), (58, .invokevirtual 251, 3, 34, 0), (61, .ireturn, 1, 0, 0), (62, .aload_n 0, 1, 0, 0), (63, .getfield 65, 3, 11, 10), (66, .iload_n 1, 1, 0, 0), (67, .invokevirtual 253, 3, 35, 0), (70, .ireturn, 1, 0, 0), (71, .aload_n 0, 1, 0, 0), (72, .getfield 65, 3, 11, 10), (75, .iload_n 1, 1, 0, 0), (76, .iload_n 2, 1, 0, 0), (77, .iconst 3, 1, 0, 0), (78, .isub, 1, 0, 0), (79, .invokevirtual 256, 3, 36, 0), (82, .ireturn, 1, 0, 0), (83, .aload_n 0, 1, 0, 0), (84, .getfield 65, 3, 11, 10), (87, .iload_n 1, 1, 0, 0), (88, .invokevirtual 259, 3, 42, 0), (91, .ireturn, 1, 0, 0), (92, .iconst (-1), 1, 0, 0), (93, .ireturn, 1, 0, 0)]
set_option maxRecDepth 100000 in
theorem ck158 : codeOK 158 cd158 := ⟨by decide, by decide +kernel⟩
/-- CountedTwice.even(I)J -/
def cd159 : List Ent := [(0, .iload_n 1, 1, 0, 0), (1, .bipush 11, 2, 0, 0), (3, .invokestatic 83, 3, 172, 0), (6, .ifCond .eq 14, 3, 0, 0), (9, .aload_n 0, 1, 0, 0), (10, .getfield 65, 3, 11, 10), (13, .iload_n 1, 1, 0, 0), (14, .invokevirtual 262, 3, 43, 0), (17, .goto 6, 3, 0, 0), (20, .ldc2_w 245, 3, 0, (-1)), (23, .lreturn, 1, 0, 0)]
set_option maxRecDepth 100000 in
theorem ck159 : codeOK 159 cd159 := ⟨by decide, by decide +kernel⟩
/-- CountedTwice.suspect()I -/
def cd160 : List Ent := [(0, .aload_n 0, 1, 0, 0), (1, .getfield 65, 3, 11, 10), (4, .invokevirtual 266, 3, 45, 0), (7, .ireturn, 1, 0, 0)]
set_option maxRecDepth 100000 in
theorem ck160 : codeOK 160 cd160 := ⟨by decide, by decide +kernel⟩
/-- CountedTwice.step(III)I -/
def cd161 : List Ent := [(0, .iload_n 1, 1, 0, 0), (1, .ifCond .lt 27, 3, 0, 0), (4, .iload_n 1, 1, 0, 0), (5, .aload_n 0, 1, 0, 0), (6, .getfield 10, 3, 11, 0), (9, .getfield 269, 3, 10, 6), (12, .getfield 273, 3, 6, 0), (15, .if_icmp .gt 13, 3, 0, 0), (18, .iload_n 1, 1, 0, 0), (19, .bipush 24, 2, 0, 0), (21, .if_icmp .ge 7, 3, 0, 0), (24, .iconst 1, 1, 0, 0), (25, .goto 4, 3, 0, 0), (28, .iconst 0, 1, 0, 0), (29, .istore 4, 2, 0, 0), (31, .iload 4, 2, 0, 0), (33, .ifCond .eq 30, 3, 0, 0), (36, .iload_n 2, 1, 0, 0), (37, .aload_n 0, 1, 0, 0), (38, .getfield 10, 3, 11, 0), (41, .getfield 87, 3, 10, 1), (44, .getfield 111, 3, 9, 0), (47, .invokestatic 83, 3, 172, 0), (50, .ifCond .eq 13, 3, 0, 0), (53, .iload_n 3, 1, 0, 0), (54, .sipush 1440, 3, 0, 0), (57, .invokestatic 83, 3, 172, 0), (60, .ifCond .ne 5, 3, 0, 0), (63, .iconst (-1), 1, 0, 0), (64, .ireturn, 1, 0, 0), (65, .aload_n 0, 1, 0, 0), (66, .getfield 10, 3, 11, 0), (69, .getfield 269, 3, 10, 6), (72, .iload_n 1, 1, 0, 0), (73, .iload_n 2, 1, 0, 0), (74, .iload_n 3, 1, 0, 0), (75, .invokevirtual 278, 3, 99, 0), (78, .ireturn, 1, 0, 0)]
set_option maxRecDepth 100000 in
theorem ck161 : codeOK 161 cd161 := ⟨by decide, by decide +kernel⟩
end
section
/-- CountedTwice.round(II)I -/
def cd162 : List Ent := [(0, .iload_n 1, 1, 0, 0), (1, .bipush 100, 2, 0, 0), (3, .invokestatic 83, 3, 172, 0), (6, .ifCond .ne 5, 3, 0, 0), (9, .iconst (-1), 1, 0, 0), (10, .ireturn, 1, 0, 0), (11, .iload_n 2, 1, 0, 0), (12, .lookupswitch 60 #[(0, 28), (1, 44)], 28, 0, 0), (40, .aload_n 0, 1, 0, 0), (41, .getfield 10, 3, 11, 0), (44, .getfield 269, 3, 10, 6), (47, .aload_n 0, 1, 0, 0), (48, .getfield 10, 3, 11, 0), (51, .iload_n 1, 1, 0, 0), (52, .invokevirtual 281, 3, 100, 0), (55, .ireturn, 1, 0, 0), (56, .aload_n 0, 1, 0, 0), (57, .getfield 10, 3, 11, 0), (60, .getfield 269, 3, 10, 6), (63, .aload_n 0, 1, 0, 0), (64, .getfield 10, 3, 11, 0), (67, .iload_n 1, 1, 0, 0), (68, .invokevirtual 285, 3, 102, 0), (71, .ireturn, 1, 0, 0), (72, .iconst (-1), 1, 0, 0), (73, .ireturn, 1, 0, 0)]
set_option maxRecDepth 100000 in
theorem ck162 : codeOK 162 cd162 := ⟨by decide, by decide +kernel⟩
/-- CountedTwice.last(III)Z -/
def cd163 : List Ent := [(0, .iload_n 1, 1, 0, 0), (1, .tableswitch 81 0 3 #[31, 44, 57, 69], 31, 0, 0), (32, .aload_n 0, 1, 0, 0), (33, .getfield 10, 3, 11, 0), (36, .getfield 288, 3, 10, 7), (39, .iload_n 2, 1, 0, 0), (40, .iload_n 3, 1, 0, 0), (41, .invokevirtual 292, 3, 48, 0), (44, .ireturn, 1, 0, 0), (45, .aload_n 0, 1, 0, 0), (46, .getfield 10, 3, 11, 0), (49, .getfield 288, 3, 10, 7), (52, .iload_n 2, 1, 0, 0), (53, .iload_n 3, 1, 0, 0), (54, .invokevirtual 297, 3, 49, 0), (57, .ireturn, 1, 0, 0), (58, .aload_n 0, 1, 0, 0), (59, .getfield 10, 3, 11, 0), (62, .getfield 288, 3, 10, 7), (65, .iload_n 3, 1, 0, 0), (66, .invokevirtual 300, 3, 50, 0), (69, .ireturn, 1, 0, 0), (70, .aload_n 0, 1, 0, 0), (71, .getfield 10, 3, 11, 0), (74, .getfield 288, 3, 10, 7), (77, .iload_n 3, 1, 0, 0), (78, .invokevirtual 303, 3, 51, 0), (81, .ireturn, 1, 0, 0), (82, .iconst 0, 1, 0, 0), (83, .ireturn, 1, 0, 0)]
set_option maxRecDepth 100000 in
theorem ck163 : codeOK 163 cd163 := ⟨by decide, by decide +kernel⟩
/-- CountedTwice.closed(IIZ)Z -/
def cd164 : List Ent := [(0, .iload_n 1, 1, 0, 0), (1, .iconst 5, 1, 0, 0), (2, .invokestatic 83, 3, 172, 0), (5, .ifCond .eq 11, 3, 0, 0), (8, .iload_n 2, 1, 0, 0), (9, .iconst 4, 1, 0, 0), (10, .invokestatic 83, 3, 172, 0), (13, .ifCond .ne 5, 3, 0, 0), (16, .iconst 0, 1, 0, 0), (17, .ireturn, 1, 0, 0), (18, .aload_n 0, 1, 0, 0), (19, .getfield 10, 3, 11, 0), (22, .getfield 288, 3, 10, 7), (25, .iload_n 1, 1, 0, 0), (26, .iload_n 2, 1, 0, 0), (27, .iload_n 3, 1, 0, 0), (28, .invokevirtual 306, 3, 52, 0), (31, .iconst 1, 1, 0, 0), (32, .ireturn, 1, 0, 0)]
set_option maxRecDepth 100000 in
theorem ck164 : codeOK 164 cd164 := ⟨by decide, by decide +kernel⟩
/-- CountedTwice.plan(III)Z -/
def cd165 : List Ent := [(0, .iload_n 3, 1, 0, 0), (1, .iconst (-1), 1, 0, 0), (2, .if_icmp .eq 11, 3, 0, 0), (5, .iload_n 3, 1, 0, 0), (6, .iconst 5, 1, 0, 0), (7, .invokestatic 83, 3, 172, 0), (10, .ifCond .eq 7, 3, 0, 0), (13, .iconst 1, 1, 0, 0), (14, .goto 4, 3, 0, 0), (17, .iconst 0, 1, 0, 0), (18, .istore 4, 2, 0, 0), (20, .iload_n 1, 1, 0, 0), (21, .bipush 6, 2, 0, 0), (23, .invokestatic 83, 3, 172, 0), (26, .ifCond .eq 16, 3, 0, 0), (29, .iload_n 2, 1, 0, 0), (30, .iconst 4, 1, 0, 0), (31, .invokestatic 83, 3, 172, 0), (34, .ifCond .eq 8, 3, 0, 0), (37, .iload 4, 2, 0, 0), (39, .ifCond .ne 5, 3, 0, 0), (42, .iconst 0, 1, 0, 0), (43, .ireturn, 1, 0, 0), (44, .aload_n 0, 1, 0, 0), (45, .getfield 10, 3, 11, 0), (48, .getfield 288, 3, 10, 7), (51, .iload_n 1, 1, 0, 0), (52, .iload_n 2, 1, 0, 0), (53, .iload_n 3, 1, 0, 0), (54, .invokevirtual 310, 3, 54, 0), (57, .iconst 1, 1, 0, 0), (58, .ireturn, 1, 0, 0)]
set_option maxRecDepth 100000 in
theorem ck165 : codeOK 165 cd165 := ⟨by decide, by decide +kernel⟩
/-- CountedTwice.planned()I -/
def cd166 : List Ent := [(0, .aload_n 0, 1, 0, 0), (1, .getfield 10, 3, 11, 0), (4, .aload_n 0, 1, 0, 0), (5, .getfield 76, 3, 11, 12), (8, .invokevirtual 313, 3, 135, 0), (11, .aload_n 0, 1, 0, 0), (12, .getfield 10, 3, 11, 0), (15, .getfield 288, 3, 10, 7), (18, .aload_n 0, 1, 0, 0), (19, .getfield 76, 3, 11, 12), (22, .invokevirtual 317, 3, 55, 0), (25, .ireturn, 1, 0, 0)]
set_option maxRecDepth 100000 in
theorem ck166 : codeOK 166 cd166 := ⟨by decide, by decide +kernel⟩
/-- CountedTwice.best()I -/
def cd167 : List Ent := [(0, .aload_n 0, 1, 0, 0), (1, .getfield 10, 3, 11, 0), (4, .aload_n 0, 1, 0, 0), (5, .getfield 76, 3, 11, 12), (8, .invokevirtual 313, 3, 135, 0), (11, .aload_n 0, 1, 0, 0), (12, .getfield 72, 3, 11, 11), (15, .aload_n 0, 1, 0, 0), (16, .getfield 10, 3, 11, 0), (19, .getfield 288, 3, 10, 7), (22, .aload_n 0, 1, 0, 0), (23, .getfield 76, 3, 11, 12), (26, .invokevirtual 321, 3, 104, 0), (29, .ireturn, 1, 0, 0)]
set_option maxRecDepth 100000 in
theorem ck167 : codeOK 167 cd167 := ⟨by decide, by decide +kernel⟩
/-- CountedTwice.lots(I)J -/
def cd168 : List Ent := [(0, .aload_n 0, 1, 0, 0), (1, .getfield 10, 3, 11, 0), (4, .invokevirtual 325, 3, 133, 0), (7, .lstore_n 2, 1, 0, 0), (8, .lload_n 2, 1, 0, 0), (9, .invokestatic 329, 3, 17, 0), (12, .istore 4, 2, 0, 0), (14, .iload_n 1, 1, 0, 0), (15, .ifCond .lt 9, 3, 0, 0), (18, .iload_n 1, 1, 0, 0), (19, .iload 4, 2, 0, 0), (21, .if_icmp .le 7, 3, 0, 0), (24, .ldc2_w 245, 3, 0, (-1)), (27, .lreturn, 1, 0, 0), (28, .lconst 0, 1, 0, 0), (29, .lstore 5, 2, 0, 0), (31, .iconst 0, 1, 0, 0), (32, .istore 7, 2, 0, 0), (34, .iload 7, 2, 0, 0), (36, .iload_n 1, 1, 0, 0), (37, .if_icmp .ge 43, 3, 0, 0), (40, .lload_n 2, 1, 0, 0), (41, .aload_n 0, 1, 0, 0), (42, .getfield 10, 3, 11, 0), (45, .iload 4, 2, 0, 0), (47, .iload 7, 2, 0, 0), (49, .isub, 1, 0, 0), (50, .invokevirtual 335, 3, 131, 0), (53, .invokestatic 338, 3, 178, 0), (56, .lstore 8, 2, 0, 0), (58, .lload 5, 2, 0, 0), (60, .lload 8, 2, 0, 0), (62, .lor, 1, 0, 0), (63, .lstore 5, 2, 0, 0), (65, .lload_n 2, 1, 0, 0), (66, .lload 8, 2, 0, 0), (68, .ldc2_w 245, 3, 0, (-1)), (71, .lxor, 1, 0, 0), (72, .land, 1, 0, 0), (73, .lstore_n 2, 1, 0, 0), (74, .iinc 7 1, 3, 0, 0), (77, .goto (-43), 3, 0, 0), (80, .lload 5, 2, 0, 0), (82, .lreturn, 1, 0, 0)]
set_option maxRecDepth 100000 in
theorem ck168 : codeOK 168 cd168 := ⟨by decide, by decide +kernel⟩
/-- CountedTwice.image(Z)Z -/
def cd169 : List Ent := [(0, .iload_n 1, 1, 0, 0), (1, .ifCond .eq 22, 3, 0, 0), (4, .aload_n 0, 1, 0, 0), (5, .getfield 16, 3, 11, 1), (8, .aload_n 0, 1, 0, 0), (9, .getfield 10, 3, 11, 0), (12, .invokevirtual 342, 3, 129, 0), (15, .aload_n 0, 1, 0, 0), (16, .iconst 1, 1, 0, 0), (17, .putfield 19, 3, 11, 2), (20, .goto 35, 3, 0, 0), (23, .aload_n 0, 1, 0, 0), (24, .getfield 19, 3, 11, 2), (27, .ifCond .eq 28, 3, 0, 0), (30, .aload_n 0, 1, 0, 0), (31, .getfield 10, 3, 11, 0), (34, .aload_n 0, 1, 0, 0), (35, .getfield 16, 3, 11, 1), (38, .invokevirtual 342, 3, 129, 0), (41, .aload_n 0, 1, 0, 0), (42, .getfield 49, 3, 11, 8), (45, .invokevirtual 101, 3, 57, 0), (48, .aload_n 0, 1, 0, 0), (49, .getfield 58, 3, 11, 9), (52, .invokevirtual 104, 3, 80, 0), (55, .aload_n 0, 1, 0, 0), (56, .getfield 19, 3, 11, 2), (59, .ireturn, 1, 0, 0)]
set_option maxRecDepth 100000 in
theorem ck169 : codeOK 169 cd169 := ⟨by decide, by decide +kernel⟩
/-- CountedTwice.look(I)I -/
def cd170 : List Ent := [(0, .iload_n 1, 1, 0, 0), (1, .lookupswitch 221 #[(0, 99), (1, 110), (2, 121), (3, 132), (4, 143), (5, 154), (6, 169), (7, 180), (8, 191), (50, 199), (51, 210)], 99, 0, 0), (100, .aload_n 0, 1, 0, 0), (101, .getfield 10, 3, 11, 0), (104, .getfield 87, 3, 10, 1), (107, .getfield 111, 3, 9, 0), (110, .ireturn, 1, 0, 0), (111, .aload_n 0, 1, 0, 0), (112, .getfield 10, 3, 11, 0), (115, .getfield 153, 3, 10, 2), (118, .getfield 157, 3, 0, 0), (121, .ireturn, 1, 0, 0), (122, .aload_n 0, 1, 0, 0), (123, .getfield 10, 3, 11, 0), (126, .getfield 153, 3, 10, 2), (129, .invokevirtual 345, 3, 28, 0), (132, .ireturn, 1, 0, 0), (133, .aload_n 0, 1, 0, 0), (134, .getfield 10, 3, 11, 0), (137, .getfield 153, 3, 10, 2), (140, .getfield 179, 3, 0, 1), (143, .ireturn, 1, 0, 0), (144, .aload_n 0, 1, 0, 0), (145, .getfield 10, 3, 11, 0), (148, .getfield 153, 3, 10, 2), (151, .getfield 182, 3, 0, 2), (154, .ireturn, 1, 0, 0), (155, .aload_n 0, 1, 0, 0), (156, .getfield 58, 3, 11, 9), (159, .invokevirtual 195, 3, 81, 0), (162, .aload_n 0, 1, 0, 0), (163, .getfield 58, 3, 11, 9), (166, .getfield 238, 3, 5, 0), (169, .ireturn, 1, 0, 0), (170, .aload_n 0, 1, 0, 0), (171, .getfield 10, 3, 11, 0), (174, .invokevirtual 325, 3, 133, 0), (177, .invokestatic 329, 3, 17, 0), (180, .ireturn, 1, 0, 0), (181, .aload_n 0, 1, 0, 0), (182, .getfield 10, 3, 11, 0), (185, .getfield 269, 3, 10, 6), (188, .getfield 273, 3, 6, 0), (191, .ireturn, 1, 0, 0), (192, .aload_n 0, 1, 0, 0), (193, .getfield 10, 3, 11, 0), (196, .getfield 80, 3, 10, 0), (199, .ireturn, 1, 0, 0), (200, .aload_n 0, 1, 0, 0), (201, .getfield 10, 3, 11, 0), (204, .getfield 288, 3, 10, 7), (207, .getfield 348, 3, 2, 0), (210, .ireturn, 1, 0, 0), (211, .aload_n 0, 1, 0, 0), (212, .getfield 10, 3, 11, 0), (215, .getfield 288, 3, 10, 7), (218, .getfield 351, 3, 2, 1), (221, .ireturn, 1, 0, 0), (222, .aload_n 0, 1, 0, 0), (223, .iload_n 1, 1, 0, 0), (224, .invokevirtual 354, 3, 171, 0), (227, .ireturn, 1, 0, 0)]
set_option maxRecDepth 100000 in
theorem ck170 : codeOK 170 cd170 := ⟨by decide, by decide +kernel⟩
/-- CountedTwice.lookInRow(I)I -/
def cd171 : List Ent := [(0, .iload_n 1, 1, 0, 0), (1, .bipush 10, 2, 0, 0), (3, .if_icmp .lt 21, 3, 0, 0), (6, .iload_n 1, 1, 0, 0), (7, .bipush 22, 2, 0, 0), (9, .if_icmp .ge 15, 3, 0, 0), (12, .aload_n 0, 1, 0, 0), (13, .getfield 10, 3, 11, 0), (16, .iload_n 1, 1, 0, 0), (17, .bipush 10, 2, 0, 0), (19, .isub, 1, 0, 0), (20, .invokevirtual 357, 3, 134, 0), (23, .ireturn, 1, 0, 0), (24, .iload_n 1, 1, 0, 0), (25, .bipush 30, 2, 0, 0), (27, .if_icmp .lt 25, 3, 0, 0), (30, .iload_n 1, 1, 0, 0), (31, .bipush 35, 2, 0, 0), (33, .if_icmp .ge 19, 3, 0, 0), (36, .aload_n 0, 1, 0, 0), (37, .getfield 10, 3, 11, 0), (40, .getfield 288, 3, 10, 7), (43, .getfield 360, 3, 2, 2), (46, .iload_n 1, 1, 0, 0), (47, .bipush 30, 2, 0, 0), (49, .isub, 1, 0, 0), (50, .iaload, 1, 0, 0), (51, .ireturn, 1, 0, 0), (52, .iload_n 1, 1, 0, 0), (53, .bipush 40, 2, 0, 0), (55, .if_icmp .lt 25, 3, 0, 0), (58, .iload_n 1, 1, 0, 0), (59, .bipush 46, 2, 0, 0), (61, .if_icmp .ge 19, 3, 0, 0), (64, .aload_n 0, 1, 0, 0), (65, .getfield 10, 3, 11, 0), (68, .getfield 288, 3, 10, 7), (71, .getfield 363, 3, 2, 3), (74, .iload_n 1, 1, 0, 0), (75, .bipush 40, 2, 0, 0), (77, .isub, 1, 0, 0), (78, .iaload, 1, 0, 0), (79, .ireturn, 1, 0, 0), (80, .iconst (-1), 1, 0, 0), (81, .ireturn, 1, 0, 0)]
set_option maxRecDepth 100000 in
theorem ck171 : codeOK 171 cd171 := ⟨by decide, by decide +kernel⟩
/-- CountedTwice.below(II)Z -/
def cd172 : List Ent := [(0, .iload_n 0, 1, 0, 0), (1, .ifCond .lt 12, 3, 0, 0), (4, .iload_n 0, 1, 0, 0), (5, .iload_n 1, 1, 0, 0), (6, .if_icmp .ge 7, 3, 0, 0), (9, .iconst 1, 1, 0, 0), (10, .goto 4, 3, 0, 0), (13, .iconst 0, 1, 0, 0), (14, .ireturn, 1, 0, 0)]
set_option maxRecDepth 100000 in
theorem ck172 : codeOK 172 cd172 := ⟨by decide, by decide +kernel⟩
/-- CountedTwice.isSmallLetter(I)Z -/
def cd173 : List Ent := [(0, .iload_n 0, 1, 0, 0), (1, .bipush 97, 2, 0, 0), (3, .if_icmp .lt 13, 3, 0, 0), (6, .iload_n 0, 1, 0, 0), (7, .bipush 122, 2, 0, 0), (9, .if_icmp .gt 7, 3, 0, 0), (12, .iconst 1, 1, 0, 0), (13, .goto 4, 3, 0, 0), (16, .iconst 0, 1, 0, 0), (17, .ireturn, 1, 0, 0)]
set_option maxRecDepth 100000 in
theorem ck173 : codeOK 173 cd173 := ⟨by decide, by decide +kernel⟩
/-- CountedTwice.isLetter(I)Z -/
def cd174 : List Ent := [(0, .iload_n 0, 1, 0, 0), (1, .invokestatic 170, 3, 173, 0), (4, .ifCond .ne 15, 3, 0, 0), (7, .iload_n 0, 1, 0, 0), (8, .bipush 65, 2, 0, 0), (10, .if_icmp .lt 13, 3, 0, 0), (13, .iload_n 0, 1, 0, 0), (14, .bipush 90, 2, 0, 0), (16, .if_icmp .gt 7, 3, 0, 0), (19, .iconst 1, 1, 0, 0), (20, .goto 4, 3, 0, 0), (23, .iconst 0, 1, 0, 0), (24, .ireturn, 1, 0, 0)]
set_option maxRecDepth 100000 in
theorem ck174 : codeOK 174 cd174 := ⟨by decide, by decide +kernel⟩
/-- CountedTwice.isDigit(I)Z -/
def cd175 : List Ent := [(0, .iload_n 0, 1, 0, 0), (1, .bipush 48, 2, 0, 0), (3, .if_icmp .lt 13, 3, 0, 0), (6, .iload_n 0, 1, 0, 0), (7, .bipush 57, 2, 0, 0), (9, .if_icmp .gt 7, 3, 0, 0), (12, .iconst 1, 1, 0, 0), (13, .goto 4, 3, 0, 0), (16, .iconst 0, 1, 0, 0), (17, .ireturn, 1, 0, 0)]
set_option maxRecDepth 100000 in
theorem ck175 : codeOK 175 cd175 := ⟨by decide, by decide +kernel⟩
/-- CountedTwice.hasBit([JI)Z -/
def cd176 : List Ent := [(0, .iload_n 1, 1, 0, 0), (1, .bipush 6, 2, 0, 0), (3, .ishr, 1, 0, 0), (4, .istore_n 2, 1, 0, 0), (5, .iload_n 2, 1, 0, 0), (6, .aload_n 0, 1, 0, 0), (7, .arraylength, 1, 0, 0), (8, .invokestatic 83, 3, 172, 0), (11, .ifCond .eq 22, 3, 0, 0), (14, .aload_n 0, 1, 0, 0), (15, .iload_n 2, 1, 0, 0), (16, .laload, 1, 0, 0), (17, .iload_n 1, 1, 0, 0), (18, .bipush 63, 2, 0, 0), (20, .iand, 1, 0, 0), (21, .lushr, 1, 0, 0), (22, .lconst 1, 1, 0, 0), (23, .land, 1, 0, 0), (24, .lconst 0, 1, 0, 0), (25, .lcmp, 1, 0, 0), (26, .ifCond .eq 7, 3, 0, 0), (29, .iconst 1, 1, 0, 0), (30, .goto 4, 3, 0, 0), (33, .iconst 0, 1, 0, 0), (34, .ireturn, 1, 0, 0)]
set_option maxRecDepth 100000 in
theorem ck176 : codeOK 176 cd176 := ⟨by decide, by decide +kernel⟩
/-- CountedTwice.setBit([JI)V -/
def cd177 : List Ent := [(0, .iload_n 1, 1, 0, 0), (1, .bipush 6, 2, 0, 0), (3, .ishr, 1, 0, 0), (4, .istore_n 2, 1, 0, 0), (5, .iload_n 2, 1, 0, 0), (6, .aload_n 0, 1, 0, 0), (7, .arraylength, 1, 0, 0), (8, .invokestatic 83, 3, 172, 0), (11, .ifCond .eq 15, 3, 0, 0), (14, .aload_n 0, 1, 0, 0), (15, .iload_n 2, 1, 0, 0), (16, .dup2, 1, 0, 0), (17, .laload, 1, 0, 0), (18, .lconst 1, 1, 0, 0), (19, .iload_n 1, 1, 0, 0), (20, .bipush 63, 2, 0, 0), (22, .iand, 1, 0, 0), (23, .lshl, 1, 0, 0), (24, .lor, 1, 0, 0), (25, .lastore, 1, 0, 0), (26, .return_, 1, 0, 0)]
set_option maxRecDepth 100000 in
theorem ck177 : codeOK 177 cd177 := ⟨by decide, by decide +kernel⟩
/-- CountedTwice.bitInOrder(JI)J -/
def cd178 : List Ent := [(0, .lload_n 0, 1, 0, 0), (1, .lstore_n 3, 1, 0, 0), (2, .iconst 0, 1, 0, 0), (3, .istore 5, 2, 0, 0), (5, .iload 5, 2, 0, 0), (7, .iload_n 2, 1, 0, 0), (8, .if_icmp .ge 21, 3, 0, 0), (11, .lload_n 3, 1, 0, 0), (12, .lconst 0, 1, 0, 0), (13, .lcmp, 1, 0, 0), (14, .ifCond .eq 15, 3, 0, 0), (17, .lload_n 3, 1, 0, 0), (18, .lload_n 3, 1, 0, 0), (19, .lconst 1, 1, 0, 0), (20, .lsub, 1, 0, 0), (21, .land, 1, 0, 0), (22, .lstore_n 3, 1, 0, 0), (23, .iinc 5 1, 3, 0, 0), (26, .goto (-21), 3, 0, 0), (29, .lload_n 3, 1, 0, 0), (30, .lload_n 3, 1, 0, 0), (31, .lneg, 1, 0, 0), (32, .land, 1, 0, 0), (33, .lreturn, 1, 0, 0)]
set_option maxRecDepth 100000 in
theorem ck178 : codeOK 178 cd178 := ⟨by decide, by decide +kernel⟩
/-- CountedTwice.choose(II)J -/
def cd179 : List Ent := [(0, .iload_n 1, 1, 0, 0), (1, .ifCond .lt 8, 3, 0, 0), (4, .iload_n 1, 1, 0, 0), (5, .iload_n 0, 1, 0, 0), (6, .if_icmp .le 5, 3, 0, 0), (9, .lconst 0, 1, 0, 0), (10, .lreturn, 1, 0, 0), (11, .lconst 1, 1, 0, 0), (12, .lstore_n 2, 1, 0, 0), (13, .iconst 1, 1, 0, 0), (14, .istore 4, 2, 0, 0), (16, .iload 4, 2, 0, 0), (18, .iload_n 1, 1, 0, 0), (19, .if_icmp .gt 23, 3, 0, 0), (22, .lload_n 2, 1, 0, 0), (23, .iload_n 0, 1, 0, 0), (24, .iload_n 1, 1, 0, 0), (25, .isub, 1, 0, 0), (26, .iload 4, 2, 0, 0), (28, .iadd, 1, 0, 0), (29, .i2l, 1, 0, 0), (30, .lmul, 1, 0, 0), (31, .iload 4, 2, 0, 0), (33, .i2l, 1, 0, 0), (34, .ldiv, 1, 0, 0), (35, .lstore_n 2, 1, 0, 0), (36, .iinc 4 1, 3, 0, 0), (39, .goto (-23), 3, 0, 0), (42, .lload_n 2, 1, 0, 0), (43, .lreturn, 1, 0, 0)]
set_option maxRecDepth 100000 in
theorem ck179 : codeOK 179 cd179 := ⟨by decide, by decide +kernel⟩
/-- CountedTwiceModel.<init>()V -/
def cd180 : List Ent := [(0, .aload_n 0, 1, 0, 0), (1, .invokespecial 1, 3, 999, 0), (4, .aload_n 0, 1, 0, 0), (5, .sipush 5120, 3, 0, 0), (8, .newarray .int, 2, 0, 0), (10, .putfield 7, 3, 12, 0), (13, .aload_n 0, 1, 0, 0), (14, .sipush 5120, 3, 0, 0), (17, .newarray .int, 2, 0, 0), (19, .putfield 13, 3, 12, 1), (22, .aload_n 0, 1, 0, 0), (23, .bipush 48, 2, 0, 0), (25, .newarray .int, 2, 0, 0), (27, .putfield 16, 3, 12, 3), (30, .aload_n 0, 1, 0, 0), (31, .sipush 820, 3, 0, 0), (34, .newarray .int, 2, 0, 0), (36, .putfield 19, 3, 12, 4), (39, .aload_n 0, 1, 0, 0), (40, .sipush 400, 3, 0, 0), (43, .newarray .int, 2, 0, 0), (45, .putfield 22, 3, 12, 5), (48, .aload_n 0, 1, 0, 0), (49, .sipush 420, 3, 0, 0), (52, .newarray .int, 2, 0, 0), (54, .putfield 25, 3, 12, 6), (57, .aload_n 0, 1, 0, 0), (58, .bipush 13, 2, 0, 0), (60, .newarray .int, 2, 0, 0), (62, .putfield 28, 3, 12, 7), (65, .aload_n 0, 1, 0, 0), (66, .iconst (-1), 1, 0, 0), (67, .putfield 31, 3, 12, 20), (70, .aload_n 0, 1, 0, 0), (71, .bipush 9, 2, 0, 0), (73, .newarray .int, 2, 0, 0), (75, .putfield 35, 3, 12, 21), (78, .aload_n 0, 1, 0, 0), (79, .bipush 9, 2, 0, 0), (81, .newarray .int, 2, 0, 0), (83, .putfield 38, 3, 12, 22), (86, .aload_n 0, 1, 0, 0), (87, .bipush 120, 2, 0, 0), (89, .newarray .int, 2, 0, 0), (91, .putfield 41, 3, 12, 23), (94, .aload_n 0, 1, 0, 0), (95, .bipush 120, 2, 0, 0), (97, .newarray .int, 2, 0, 0), (99, .putfield 44, 3, 12, 24), (102, .aload_n 0, 1, 0, 0), (103, .bipush 120, 2, 0, 0), (105, .newarray .int, 2, 0, 0), (107, .putfield 47, 3, 12, 25), (110, .aload_n 0, 1, 0, 0), (111, .iconst 4, 1, 0, 0), (112, .newarray .int, 2, 0, 0), (114, .putfield 50, 3, 12, 27), (117, .aload_n 0, 1, 0, 0), (118, .bipush 120, 2, 0, 0), (120, .newarray .int, 2, 0, 0), (122, .putfield 53, 3, 12, 28), (125, .aload_n 0, 1, 0, 0), (126, .bipush 120, 2, 0, 0), (128, .newarray .int, 2, 0, 0), (130, .putfield 56, 3, 12, 29), (133, .aload_n 0, 1, 0, 0), (134, .bipush 120, 2, 0, 0), (136, .newarray .boolean, 2, 0, 0), (138, .putfield 59, 3, 12, 30), (141, .aload_n 0, 1, 0, 0), (142, .sipush 14400, 3, 0, 0), (145, .newarray .boolean, 2, 0, 0), (147, .putfield 63, 3, 12, 31), (150, .aload_n 0, 1, 0, 0), (151, .sipush 3721, 3, 0, 0), (154, .newarray .long, 2, 0, 0), (156, .putfield 66, 3, 12, 32), (159, .aload_n 0, 1, 0, 0), (160, .bipush 120, 2, 0, 0), (162, .newarray .int, 2, 0, 0), (164, .putfield 70, 3, 12, 33), (167, .aload_n 0, 1, 0, 0), (168, .bipush 10, 2, 0, 0), (170, .newarray .int, 2, 0, 0), (172, .putfield 73, 3, 12, 34), (175, .aload_n 0, 1, 0, 0), (176, .sipush 3616, 3, 0, 0), (179, .newarray .long, 2, 0, 0), (181, .putfield 76, 3, 12, 36), (184, .aload_n 0, 1, 0, 0), (185, .sipush 3616, 3, 0, 0), (188, .newarray .long, 2, 0, 0), (190, .putfield 79, 3, 12, 37), (193, .aload_n 0, 1, 0, 0), (194, .bipush 60, 2, 0, 0), (196, .newarray .boolean, 2, 0, 0), (198, .putfield 82, 3, 12, 38), (201, .aload_n 0, 1, 0, 0), (202, .iconst 5, 1, 0, 0), (203, .newarray .int, 2, 0, 0), (205, .putfield 85, 3, 12, 39), (208, .aload_n 0, 1, 0, 0), (209, .ldc 88, 2, 0, 100000), (211, .newarray .boolean, 2, 0, 0), (213, .putfield 89, 3, 12, 40), (216, .aload_n 0, 1, 0, 0), (217, .ldc 88, 2, 0, 100000), (219, .newarray .boolean, 2, 0, 0), (221, .putfield 92, 3, 12, 41), (224, .aload_n 0, 1, 0, 0), (225, .bipush 60, 2, 0, 0), (227, .newarray .int, 2, 0, 0), (229, .putfield 95, 3, 12, 42), (232, .aload_n 0, 1, 0, 0), (233, .getfield 7, 3, 12, 0), (236, .iconst 1, 1, 0, 0), (237, .iconst 2, 1, 0, 0), (238, .iastore, 1, 0, 0), (239, .aload_n 0, 1, 0, 0), (240, .getfield 7, 3, 12, 0), (243, .iconst 2, 1, 0, 0), (244, .iconst 5, 1, 0, 0), (245, .iastore, 1, 0, 0), (246, .aload_n 0, 1, 0, 0), (247, .getfield 7, 3, 12, 0), (250, .bipush 6, 2, 0, 0), (252, .iconst (-1), 1, 0, 0), (253, .iastore, 1, 0, 0), (254, .aload_n 0, 1, 0, 0), (255, .getfield 7, 3, 12, 0), (258, .bipush 8, 2, 0, 0), (260, .iconst 1, 1, 0, 0), (261, .iastore, 1, 0, 0), (262, .aload_n 0, 1, 0, 0), (263, .getfield 7, 3, 12, 0), (266, .bipush 9, 2, 0, 0), (268, .iconst 1, 1, 0, 0), (269, .iastore, 1, 0, 0), (270, .iconst 0, 1, 0, 0), (271, .istore_n 1, 1, 0, 0), (272, .iload_n 1, 1, 0, 0), (273, .iconst 5, 1, 0, 0), (274, .if_icmp .ge 19, 3, 0, 0), (277, .aload_n 0, 1, 0, 0), (278, .getfield 7, 3, 12, 0), (281, .bipush 10, 2, 0, 0), (283, .iload_n 1, 1, 0, 0), (284, .iadd, 1, 0, 0), (285, .iconst (-1), 1, 0, 0), (286, .iastore, 1, 0, 0), (287, .iinc 1 1, 3, 0, 0), (290, .goto (-18), 3, 0, 0), (293, .iconst 0, 1, 0, 0), (294, .istore_n 1, 1, 0, 0), (295, .iload_n 1, 1, 0, 0), (296, .bipush 24, 2, 0, 0), (298, .if_icmp .ge 19, 3, 0, 0), (301, .aload_n 0, 1, 0, 0), (302, .getfield 7, 3, 12, 0), (305, .bipush 41, 2, 0, 0), (307, .iload_n 1, 1, 0, 0), (308, .iadd, 1, 0, 0), (309, .iconst (-1), 1, 0, 0), (310, .iastore, 1, 0, 0), (311, .iinc 1 1, 3, 0, 0), (314, .goto (-19), 3, 0, 0), (317, .iconst 0, 1, 0, 0), (318, .istore_n 1, 1, 0, 0), (319, .iload_n 1, 1, 0, 0), (320, .bipush 12, 2, 0, 0), (322, .if_icmp .ge 48, 3, 0, 0), (325, .iconst 0, 1, 0, 0), (326, .istore_n 2, 1, 0, 0), (327, .iload_n 2, 1, 0, 0), (328, .bipush 12, 2, 0, 0), (330, .if_icmp .ge 34, 3, 0, 0), (333, .aload_n 0, 1, 0, 0), (334, .getfield 7, 3, 12, 0), (337, .bipush 70, 2, 0, 0), (339, .bipush 12, 2, 0, 0), (341, .iload_n 1, 1, 0, 0), (342, .imul, 1, 0, 0), (343, .iadd, 1, 0, 0), (344, .iload_n 2, 1, 0, 0), (345, .iadd, 1, 0, 0), (346, .iload_n 1, 1, 0, 0), (347, .iload_n 2, 1, 0, 0), (348, .if_icmp .ne 7, 3, 0, 0), (351, .iconst 0, 1, 0, 0), (352, .goto 5, 3, 0, 0), (355, .bipush 100, 2, 0, 0), (357, .iastore, 1, 0, 0), (358, .iinc 2 1, 3, 0, 0), (361, .goto (-34), 3, 0, 0), (364, .iinc 1 1, 3, 0, 0), (367, .goto (-48), 3, 0, 0), (370, .return_, 1, 0, 0)]
set_option maxRecDepth 100000 in
theorem ck180 : codeOK 180 cd180 := ⟨by decide, by decide +kernel⟩
/-- CountedTwiceModel.isIn(III)Z -/
def cd181 : List Ent := [(0, .iload_n 0, 1, 0, 0), (1, .iload_n 1, 1, 0, 0), (2, .if_icmp .lt 12, 3, 0, 0), (5, .iload_n 0, 1, 0, 0), (6, .iload_n 2, 1, 0, 0), (7, .if_icmp .gt 7, 3, 0, 0), (10, .iconst 1, 1, 0, 0), (11, .goto 4, 3, 0, 0), (14, .iconst 0, 1, 0, 0), (15, .ireturn, 1, 0, 0)]
set_option maxRecDepth 100000 in
theorem ck181 : codeOK 181 cd181 := ⟨by decide, by decide +kernel⟩
/-- CountedTwiceModel.apart(II)I -/
def cd182 : List Ent := [(0, .iload_n 0, 1, 0, 0), (1, .iload_n 1, 1, 0, 0), (2, .if_icmp .le 9, 3, 0, 0), (5, .iload_n 0, 1, 0, 0), (6, .iload_n 1, 1, 0, 0), (7, .isub, 1, 0, 0), (8, .goto 6, 3, 0, 0), (11, .iload_n 1, 1, 0, 0), (12, .iload_n 0, 1, 0, 0), (13, .isub, 1, 0, 0), (14, .ireturn, 1, 0, 0)]
set_option maxRecDepth 100000 in
theorem ck182 : codeOK 182 cd182 := ⟨by decide, by decide +kernel⟩
/-- CountedTwiceModel.state(I)I -/
def cd183 : List Ent := [(0, .aload_n 0, 1, 0, 0), (1, .getfield 7, 3, 12, 0), (4, .iconst 0, 1, 0, 0), (5, .iaload, 1, 0, 0), (6, .istore_n 2, 1, 0, 0), (7, .aload_n 0, 1, 0, 0), (8, .getfield 7, 3, 12, 0), (11, .iconst 0, 1, 0, 0), (12, .iload_n 1, 1, 0, 0), (13, .iastore, 1, 0, 0), (14, .iload_n 2, 1, 0, 0), (15, .ireturn, 1, 0, 0)]
set_option maxRecDepth 100000 in
theorem ck183 : codeOK 183 cd183 := ⟨by decide, by decide +kernel⟩
/-- CountedTwiceModel.draw(I)I -/
def cd184 : List Ent := [(0, .aload_n 0, 1, 0, 0), (1, .getfield 7, 3, 12, 0), (4, .iconst 0, 1, 0, 0), (5, .ldc 98, 2, 0, 1664525), (7, .aload_n 0, 1, 0, 0), (8, .getfield 7, 3, 12, 0), (11, .iconst 0, 1, 0, 0), (12, .iaload, 1, 0, 0), (13, .imul, 1, 0, 0), (14, .ldc 99, 2, 0, 1013904223), (16, .iadd, 1, 0, 0), (17, .iastore, 1, 0, 0), (18, .aload_n 0, 1, 0, 0), (19, .getfield 7, 3, 12, 0), (22, .iconst 0, 1, 0, 0), (23, .iaload, 1, 0, 0), (24, .bipush 8, 2, 0, 0), (26, .iushr, 1, 0, 0), (27, .iload_n 1, 1, 0, 0), (28, .irem, 1, 0, 0), (29, .ireturn, 1, 0, 0)]
set_option maxRecDepth 100000 in
theorem ck184 : codeOK 184 cd184 := ⟨by decide, by decide +kernel⟩
/-- CountedTwiceModel.isHouse(I)Z -/
def cd185 : List Ent := [(0, .iload_n 1, 1, 0, 0), (1, .iconst 0, 1, 0, 0), (2, .aload_n 0, 1, 0, 0), (3, .getfield 7, 3, 12, 0), (6, .iconst 3, 1, 0, 0), (7, .iaload, 1, 0, 0), (8, .iconst 1, 1, 0, 0), (9, .isub, 1, 0, 0), (10, .invokestatic 100, 3, 181, 0), (13, .ireturn, 1, 0, 0)]
set_option maxRecDepth 100000 in
theorem ck185 : codeOK 185 cd185 := ⟨by decide, by decide +kernel⟩
/-- CountedTwiceModel.isStreet(I)Z -/
def cd186 : List Ent := [(0, .iload_n 0, 1, 0, 0), (1, .iconst 0, 1, 0, 0), (2, .bipush 11, 2, 0, 0), (4, .invokestatic 100, 3, 181, 0), (7, .ireturn, 1, 0, 0)]
set_option maxRecDepth 100000 in
theorem ck186 : codeOK 186 cd186 := ⟨by decide, by decide +kernel⟩
/-- CountedTwiceModel.isEntry(I)Z -/
def cd187 : List Ent := [(0, .iload_n 1, 1, 0, 0), (1, .iconst 0, 1, 0, 0), (2, .aload_n 0, 1, 0, 0), (3, .getfield 7, 3, 12, 0), (6, .iconst 4, 1, 0, 0), (7, .iaload, 1, 0, 0), (8, .iconst 1, 1, 0, 0), (9, .isub, 1, 0, 0), (10, .invokestatic 100, 3, 181, 0), (13, .ireturn, 1, 0, 0)]
set_option maxRecDepth 100000 in
theorem ck187 : codeOK 187 cd187 := ⟨by decide, by decide +kernel⟩
/-- CountedTwiceModel.own(II)I -/
def cd188 : List Ent := [(0, .aload_n 0, 1, 0, 0), (1, .getfield 7, 3, 12, 0), (4, .sipush 450, 3, 0, 0), (7, .bipush 17, 2, 0, 0), (9, .iload_n 1, 1, 0, 0), (10, .imul, 1, 0, 0), (11, .iadd, 1, 0, 0), (12, .iload_n 2, 1, 0, 0), (13, .iadd, 1, 0, 0), (14, .iaload, 1, 0, 0), (15, .ireturn, 1, 0, 0)]
set_option maxRecDepth 100000 in
theorem ck188 : codeOK 188 cd188 := ⟨by decide, by decide +kernel⟩
/-- CountedTwiceModel.street(I)I -/
def cd189 : List Ent := [(0, .aload_n 0, 1, 0, 0), (1, .getfield 7, 3, 12, 0), (4, .sipush 220, 3, 0, 0), (7, .iconst 3, 1, 0, 0), (8, .iload_n 1, 1, 0, 0), (9, .imul, 1, 0, 0), (10, .iadd, 1, 0, 0), (11, .iaload, 1, 0, 0), (12, .ireturn, 1, 0, 0)]
set_option maxRecDepth 100000 in
theorem ck189 : codeOK 189 cd189 := ⟨by decide, by decide +kernel⟩
/-- CountedTwiceModel.number0(I)I -/
def cd190 : List Ent := [(0, .aload_n 0, 1, 0, 0), (1, .getfield 7, 3, 12, 0), (4, .sipush 220, 3, 0, 0), (7, .iconst 3, 1, 0, 0), (8, .iload_n 1, 1, 0, 0), (9, .imul, 1, 0, 0), (10, .iadd, 1, 0, 0), (11, .iconst 1, 1, 0, 0), (12, .iadd, 1, 0, 0), (13, .iaload, 1, 0, 0), (14, .ireturn, 1, 0, 0)]
set_option maxRecDepth 100000 in
theorem ck190 : codeOK 190 cd190 := ⟨by decide, by decide +kernel⟩
/-- CountedTwiceModel.house(III)I -/
def cd191 : List Ent := [(0, .iload_n 1, 1, 0, 0), (1, .invokestatic 104, 3, 186, 0), (4, .ifCond .eq 35, 3, 0, 0), (7, .iload_n 2, 1, 0, 0), (8, .iconst 0, 1, 0, 0), (9, .sipush 999, 3, 0, 0), (12, .invokestatic 100, 3, 181, 0), (15, .ifCond .eq 24, 3, 0, 0), (18, .iload_n 3, 1, 0, 0), (19, .iconst 0, 1, 0, 0), (20, .bipush 9, 2, 0, 0), (22, .invokestatic 100, 3, 181, 0), (25, .ifCond .eq 14, 3, 0, 0), (28, .aload_n 0, 1, 0, 0), (29, .getfield 7, 3, 12, 0), (32, .iconst 3, 1, 0, 0), (33, .iaload, 1, 0, 0), (34, .bipush 60, 2, 0, 0), (36, .if_icmp .ne 5, 3, 0, 0), (39, .iconst (-1), 1, 0, 0), (40, .ireturn, 1, 0, 0), (41, .sipush 220, 3, 0, 0), (44, .iconst 3, 1, 0, 0), (45, .aload_n 0, 1, 0, 0), (46, .getfield 7, 3, 12, 0), (49, .iconst 3, 1, 0, 0), (50, .iaload, 1, 0, 0), (51, .imul, 1, 0, 0), (52, .iadd, 1, 0, 0), (53, .istore 4, 2, 0, 0), (55, .aload_n 0, 1, 0, 0), (56, .getfield 7, 3, 12, 0), (59, .iload 4, 2, 0, 0), (61, .iload_n 1, 1, 0, 0), (62, .iastore, 1, 0, 0), (63, .aload_n 0, 1, 0, 0), (64, .getfield 7, 3, 12, 0), (67, .iload 4, 2, 0, 0), (69, .iconst 1, 1, 0, 0), (70, .iadd, 1, 0, 0), (71, .iload_n 2, 1, 0, 0), (72, .iastore, 1, 0, 0), (73, .aload_n 0, 1, 0, 0), (74, .getfield 7, 3, 12, 0), (77, .iload 4, 2, 0, 0), (79, .iconst 2, 1, 0, 0), (80, .iadd, 1, 0, 0), (81, .iload_n 3, 1, 0, 0), (82, .iastore, 1, 0, 0), (83, .aload_n 0, 1, 0, 0), (84, .getfield 7, 3, 12, 0), (87, .iconst 3, 1, 0, 0), (88, .dup2, 1, 0, 0), (89, .iaload, 1, 0, 0), (90, .iconst 1, 1, 0, 0), (91, .iadd, 1, 0, 0), (92, .iastore, 1, 0, 0), (93, .aload_n 0, 1, 0, 0), (94, .getfield 7, 3, 12, 0), (97, .iconst 3, 1, 0, 0), (98, .iaload, 1, 0, 0), (99, .iconst 1, 1, 0, 0), (100, .isub, 1, 0, 0), (101, .ireturn, 1, 0, 0)]
set_option maxRecDepth 100000 in
theorem ck191 : codeOK 191 cd191 := ⟨by decide, by decide +kernel⟩
/-- CountedTwiceModel.gap(III)Z -/
def cd192 : List Ent := [(0, .iload_n 1, 1, 0, 0), (1, .invokestatic 104, 3, 186, 0), (4, .ifCond .eq 26, 3, 0, 0), (7, .iload_n 2, 1, 0, 0), (8, .invokestatic 104, 3, 186, 0), (11, .ifCond .eq 19, 3, 0, 0), (14, .iload_n 1, 1, 0, 0), (15, .iload_n 2, 1, 0, 0), (16, .if_icmp .eq 14, 3, 0, 0), (19, .iload_n 3, 1, 0, 0), (20, .iconst 0, 1, 0, 0), (21, .sipush 999, 3, 0, 0), (24, .invokestatic 100, 3, 181, 0), (27, .ifCond .ne 5, 3, 0, 0), (30, .iconst 0, 1, 0, 0), (31, .ireturn, 1, 0, 0), (32, .aload_n 0, 1, 0, 0), (33, .getfield 7, 3, 12, 0), (36, .bipush 70, 2, 0, 0), (38, .bipush 12, 2, 0, 0), (40, .iload_n 1, 1, 0, 0), (41, .imul, 1, 0, 0), (42, .iadd, 1, 0, 0), (43, .iload_n 2, 1, 0, 0), (44, .iadd, 1, 0, 0), (45, .iload_n 3, 1, 0, 0), (46, .iastore, 1, 0, 0), (47, .aload_n 0, 1, 0, 0), (48, .getfield 7, 3, 12, 0), (51, .bipush 70, 2, 0, 0), (53, .bipush 12, 2, 0, 0), (55, .iload_n 2, 1, 0, 0), (56, .imul, 1, 0, 0), (57, .iadd, 1, 0, 0), (58, .iload_n 1, 1, 0, 0), (59, .iadd, 1, 0, 0), (60, .iload_n 3, 1, 0, 0), (61, .iastore, 1, 0, 0), (62, .iconst 1, 1, 0, 0), (63, .ireturn, 1, 0, 0)]
set_option maxRecDepth 100000 in
theorem ck192 : codeOK 192 cd192 := ⟨by decide, by decide +kernel⟩
/-- CountedTwiceModel.set(II)Z -/
def cd193 : List Ent := [(0, .iload_n 1, 1, 0, 0), (1, .iconst 0, 1, 0, 0), (2, .iconst 1, 1, 0, 0), (3, .invokestatic 100, 3, 181, 0), (6, .ifCond .eq 13, 3, 0, 0), (9, .iload_n 2, 1, 0, 0), (10, .iconst 0, 1, 0, 0), (11, .bipush 99, 2, 0, 0), (13, .invokestatic 100, 3, 181, 0), (16, .ifCond .ne 5, 3, 0, 0), (19, .iconst 0, 1, 0, 0), (20, .ireturn, 1, 0, 0), (21, .aload_n 0, 1, 0, 0), (22, .getfield 7, 3, 12, 0), (25, .iconst 1, 1, 0, 0), (26, .iload_n 1, 1, 0, 0), (27, .iadd, 1, 0, 0), (28, .iload_n 2, 1, 0, 0), (29, .iastore, 1, 0, 0), (30, .iconst 1, 1, 0, 0), (31, .ireturn, 1, 0, 0)]
set_option maxRecDepth 100000 in
theorem ck193 : codeOK 193 cd193 := ⟨by decide, by decide +kernel⟩
/-- CountedTwiceModel.wayOf(II)I -/
def cd194 : List Ent := [(0, .aload_n 0, 1, 0, 0), (1, .iload_n 1, 1, 0, 0), (2, .invokevirtual 108, 3, 189, 0), (5, .aload_n 0, 1, 0, 0), (6, .iload_n 2, 1, 0, 0), (7, .invokevirtual 108, 3, 189, 0), (10, .if_icmp .ne 19, 3, 0, 0), (13, .aload_n 0, 1, 0, 0), (14, .iload_n 1, 1, 0, 0), (15, .invokevirtual 112, 3, 190, 0), (18, .aload_n 0, 1, 0, 0), (19, .iload_n 2, 1, 0, 0), (20, .invokevirtual 112, 3, 190, 0), (23, .invokestatic 115, 3, 182, 0), (26, .goto 37, 3, 0, 0), (29, .aload_n 0, 1, 0, 0), (30, .iload_n 1, 1, 0, 0), (31, .invokevirtual 112, 3, 190, 0), (34, .aload_n 0, 1, 0, 0), (35, .iload_n 2, 1, 0, 0), (36, .invokevirtual 112, 3, 190, 0), (39, .iadd, 1, 0, 0), (40, .aload_n 0, 1, 0, 0), (41, .getfield 7, 3, 12, 0), (44, .bipush 70, 2, 0, 0), (46, .bipush 12, 2, 0, 0), (48, .aload_n 0, 1, 0, 0), (49, .iload_n 1, 1, 0, 0), (50, .invokevirtual 108, 3, 189, 0), (53, .imul, 1, 0, 0), (54, .iadd, 1, 0, 0), (55, .aload_n 0, 1, 0, 0), (56, .iload_n 2, 1, 0, 0), (57, .invokevirtual 108, 3, 189, 0), (60, .iadd, 1, 0, 0), (61, .iaload, 1, 0, 0), (62, .iadd, 1, 0, 0), (63, .ireturn, 1, 0, 0)]
set_option maxRecDepth 100000 in
theorem ck194 : codeOK 194 cd194 := ⟨by decide, by decide +kernel⟩
/-- CountedTwiceModel.minutesOf(II)I -/
def cd195 : List Ent := [(0, .aload_n 0, 1, 0, 0), (1, .iload_n 1, 1, 0, 0), (2, .iload_n 2, 1, 0, 0), (3, .invokevirtual 119, 3, 194, 0), (6, .aload_n 0, 1, 0, 0), (7, .getfield 7, 3, 12, 0), (10, .iconst 1, 1, 0, 0), (11, .iaload, 1, 0, 0), (12, .imul, 1, 0, 0), (13, .bipush 100, 2, 0, 0), (15, .idiv, 1, 0, 0), (16, .aload_n 0, 1, 0, 0), (17, .getfield 7, 3, 12, 0), (20, .iconst 2, 1, 0, 0), (21, .iaload, 1, 0, 0), (22, .iadd, 1, 0, 0), (23, .ireturn, 1, 0, 0)]
set_option maxRecDepth 100000 in
theorem ck195 : codeOK 195 cd195 := ⟨by decide, by decide +kernel⟩
/-- CountedTwiceModel.way(III)I -/
def cd196 : List Ent := [(0, .aload_n 0, 1, 0, 0), (1, .iload_n 1, 1, 0, 0), (2, .invokevirtual 122, 3, 185, 0), (5, .ifCond .eq 20, 3, 0, 0), (8, .aload_n 0, 1, 0, 0), (9, .iload_n 2, 1, 0, 0), (10, .invokevirtual 122, 3, 185, 0), (13, .ifCond .eq 12, 3, 0, 0), (16, .iload_n 3, 1, 0, 0), (17, .iconst 0, 1, 0, 0), (18, .iconst 1, 1, 0, 0), (19, .invokestatic 100, 3, 181, 0), (22, .ifCond .ne 7, 3, 0, 0), (25, .iconst (-1), 1, 0, 0), (26, .goto 22, 3, 0, 0), (29, .iload_n 3, 1, 0, 0), (30, .ifCond .ne 12, 3, 0, 0), (33, .aload_n 0, 1, 0, 0), (34, .iload_n 1, 1, 0, 0), (35, .iload_n 2, 1, 0, 0), (36, .invokevirtual 119, 3, 194, 0), (39, .goto 9, 3, 0, 0), (42, .aload_n 0, 1, 0, 0), (43, .iload_n 1, 1, 0, 0), (44, .iload_n 2, 1, 0, 0), (45, .invokevirtual 125, 3, 195, 0), (48, .ireturn, 1, 0, 0)]
set_option maxRecDepth 100000 in
theorem ck196 : codeOK 196 cd196 := ⟨by decide, by decide +kernel⟩
/-- CountedTwiceModel.feed(IIIII)I -/
def cd197 : List Ent := [(0, .aload_n 0, 1, 0, 0), (1, .getfield 128, 3, 12, 11), (4, .bipush 20, 2, 0, 0), (6, .iadd, 1, 0, 0), (7, .sipush 400, 3, 0, 0), (10, .if_icmp .le 5, 3, 0, 0), (13, .iconst (-1), 1, 0, 0), (14, .ireturn, 1, 0, 0), (15, .iconst 0, 1, 0, 0), (16, .istore 6, 2, 0, 0), (18, .iload 6, 2, 0, 0), (20, .bipush 20, 2, 0, 0), (22, .if_icmp .ge 93, 3, 0, 0), (25, .iload 6, 2, 0, 0), (27, .iconst 4, 1, 0, 0), (28, .if_icmp .ge 7, 3, 0, 0), (31, .iload_n 1, 1, 0, 0), (32, .goto 39, 3, 0, 0), (35, .iload 6, 2, 0, 0), (37, .bipush 8, 2, 0, 0), (39, .if_icmp .ge 7, 3, 0, 0), (42, .iload_n 2, 1, 0, 0), (43, .goto 28, 3, 0, 0), (46, .iload 6, 2, 0, 0), (48, .bipush 12, 2, 0, 0), (50, .if_icmp .ge 7, 3, 0, 0), (53, .iload_n 3, 1, 0, 0), (54, .goto 17, 3, 0, 0), (57, .iload 6, 2, 0, 0), (59, .bipush 16, 2, 0, 0), (61, .if_icmp .ge 8, 3, 0, 0), (64, .iload 4, 2, 0, 0), (66, .goto 5, 3, 0, 0), (69, .iload 5, 2, 0, 0), (71, .istore 7, 2, 0, 0), (73, .aload_n 0, 1, 0, 0), (74, .getfield 22, 3, 12, 5), (77, .aload_n 0, 1, 0, 0), (78, .getfield 128, 3, 12, 11), (81, .iload 7, 2, 0, 0), (83, .bipush 24, 2, 0, 0), (85, .bipush 8, 2, 0, 0), (87, .iload 6, 2, 0, 0), (89, .iconst 4, 1, 0, 0), (90, .irem, 1, 0, 0), (91, .imul, 1, 0, 0), (92, .isub, 1, 0, 0), (93, .ishr, 1, 0, 0), (94, .sipush 255, 3, 0, 0), (97, .iand, 1, 0, 0), (98, .iastore, 1, 0, 0), (99, .aload_n 0, 1, 0, 0), (100, .dup, 1, 0, 0), (101, .getfield 128, 3, 12, 11), (104, .iconst 1, 1, 0, 0), (105, .iadd, 1, 0, 0), (106, .putfield 128, 3, 12, 11), (109, .iinc 6 1, 3, 0, 0), (112, .goto (-94), 3, 0, 0), (115, .aload_n 0, 1, 0, 0), (116, .getfield 128, 3, 12, 11), (119, .ireturn, 1, 0, 0)]
set_option maxRecDepth 100000 in
theorem ck197 : codeOK 197 cd197 := ⟨by decide, by decide +kernel⟩
/-- CountedTwiceModel.end(I)Z -/
def cd198 : List Ent := [(0, .iload_n 1, 1, 0, 0), (1, .iconst 0, 1, 0, 0), (2, .aload_n 0, 1, 0, 0), (3, .getfield 128, 3, 12, 11), (6, .invokestatic 100, 3, 181, 0), (9, .ifCond .ne 5, 3, 0, 0), (12, .iconst 0, 1, 0, 0), (13, .ireturn, 1, 0, 0), (14, .aload_n 0, 1, 0, 0), (15, .iload_n 1, 1, 0, 0), (16, .putfield 128, 3, 12, 11), (19, .iconst 1, 1, 0, 0), (20, .ireturn, 1, 0, 0)]
set_option maxRecDepth 100000 in
theorem ck198 : codeOK 198 cd198 := ⟨by decide, by decide +kernel⟩
/-- CountedTwiceModel.see(I)I -/
def cd199 : List Ent := [(0, .iload_n 1, 1, 0, 0), (1, .aload_n 0, 1, 0, 0), (2, .getfield 128, 3, 12, 11), (5, .if_icmp .ge 12, 3, 0, 0), (8, .aload_n 0, 1, 0, 0), (9, .getfield 22, 3, 12, 5), (12, .iload_n 1, 1, 0, 0), (13, .iaload, 1, 0, 0), (14, .goto 4, 3, 0, 0), (17, .iconst (-1), 1, 0, 0), (18, .ireturn, 1, 0, 0)]
set_option maxRecDepth 100000 in
theorem ck199 : codeOK 199 cd199 := ⟨by decide, by decide +kernel⟩
/-- CountedTwiceModel.isLetter(I)Z -/
def cd200 : List Ent := [(0, .iload_n 0, 1, 0, 0), (1, .bipush 97, 2, 0, 0), (3, .bipush 122, 2, 0, 0), (5, .invokestatic 100, 3, 181, 0), (8, .ifCond .ne 14, 3, 0, 0), (11, .iload_n 0, 1, 0, 0), (12, .bipush 65, 2, 0, 0), (14, .bipush 90, 2, 0, 0), (16, .invokestatic 100, 3, 181, 0), (19, .ifCond .eq 7, 3, 0, 0), (22, .iconst 1, 1, 0, 0), (23, .goto 4, 3, 0, 0), (26, .iconst 0, 1, 0, 0), (27, .ireturn, 1, 0, 0)]
set_option maxRecDepth 100000 in
theorem ck200 : codeOK 200 cd200 := ⟨by decide, by decide +kernel⟩
/-- CountedTwiceModel.isDigit(I)Z -/
def cd201 : List Ent := [(0, .iload_n 0, 1, 0, 0), (1, .bipush 48, 2, 0, 0), (3, .bipush 57, 2, 0, 0), (5, .invokestatic 100, 3, 181, 0), (8, .ireturn, 1, 0, 0)]
set_option maxRecDepth 100000 in
theorem ck201 : codeOK 201 cd201 := ⟨by decide, by decide +kernel⟩
/-- CountedTwiceModel.is(Ljava/lang/String;)Z -/
def cd202 : List Ent := [(0, .aload_n 0, 1, 0, 0), (1, .getfield 131, 3, 12, 12), (4, .aload_n 0, 1, 0, 0), (5, .getfield 134, 3, 12, 14), (8, .isub, 1, 0, 0), (9, .aload_n 1, 1, 0, 0), (10, .invokevirtual 137, 3, 4, 0), (13, .if_icmp .ne 7, 3, 0, 0), (16, .iconst 1, 1, 0, 0), (17, .goto 4, 3, 0, 0), (20, .iconst 0, 1, 0, 0), (21, .istore_n 2, 1, 0, 0), (22, .iconst 0, 1, 0, 0), (23, .istore_n 3, 1, 0, 0), (24, .iload_n 3, 1, 0, 0), (25, .aload_n 1, 1, 0, 0), (26, .invokevirtual 137, 3, 4, 0), (29, .if_icmp .ge 38, 3, 0, 0), (32, .iload_n 2, 1, 0, 0), (33, .ifCond .eq 34, 3, 0, 0), (36, .aload_n 0, 1, 0, 0), (37, .getfield 22, 3, 12, 5), (40, .aload_n 0, 1, 0, 0), (41, .getfield 134, 3, 12, 14), (44, .iload_n 3, 1, 0, 0), (45, .iadd, 1, 0, 0), (46, .iaload, 1, 0, 0), (47, .aload_n 1, 1, 0, 0), (48, .iload_n 3, 1, 0, 0), (49, .invokevirtual 143, 3, 6, 0), (52, .if_icmp .ne 7, 3, 0, 0), (55, .iconst 1, 1, 0, 0), (56, .goto 4, 3, 0, 0), (59, .iconst 0, 1, 0, 0), (60, .istore_n 2, 1, 0, 0), (61, .iinc 3 1, 3, 0, 0), (64, .goto (-40), 3, 0, 0), (67, .iload_n 2, 1, 0, 0), (68, .ireturn, 1, 0, 0)]
set_option maxRecDepth 100000 in
theorem ck202 : codeOK 202 cd202 := ⟨by decide, by decide +kernel⟩
/-- CountedTwiceModel.likeWord()I -/
def cd203 : List Ent := [(0, .aload_n 0, 1, 0, 0), (1, .ldc 147, 2, 1, 7), (3, .invokevirtual 149, 3, 202, 0), (6, .ifCond .eq 6, 3, 0, 0), (9, .bipush 20, 2, 0, 0), (11, .ireturn, 1, 0, 0), (12, .aload_n 0, 1, 0, 0), (13, .ldc 153, 2, 1, 8), (15, .invokevirtual 149, 3, 202, 0), (18, .ifCond .eq 6, 3, 0, 0), (21, .bipush 41, 2, 0, 0), (23, .ireturn, 1, 0, 0), (24, .aload_n 0, 1, 0, 0), (25, .ldc 155, 2, 1, 9), (27, .invokevirtual 149, 3, 202, 0), (30, .ifCond .eq 6, 3, 0, 0), (33, .bipush 42, 2, 0, 0), (35, .ireturn, 1, 0, 0), (36, .aload_n 0, 1, 0, 0), (37, .ldc 157, 2, 1, 10), (39, .invokevirtual 149, 3, 202, 0), (42, .ifCond .eq 6, 3, 0, 0), (45, .bipush 43, 2, 0, 0), (47, .ireturn, 1, 0, 0), (48, .aload_n 0, 1, 0, 0), (49, .ldc 159, 2, 1, 11), (51, .invokevirtual 149, 3, 202, 0), (54, .ifCond .eq 6, 3, 0, 0), (57, .bipush 44, 2, 0, 0), (59, .ireturn, 1, 0, 0), (60, .aload_n 0, 1, 0, 0), (61, .ldc 161, 2, 1, 12), (63, .invokevirtual 149, 3, 202, 0), (66, .ifCond .eq 6, 3, 0, 0), (69, .bipush 45, 2, 0, 0), (71, .ireturn, 1, 0, 0), (72, .aload_n 0, 1, 0, 0), (73, .ldc 163, 2, 1, 13), (75, .invokevirtual 149, 3, 202, 0), (78, .ifCond .eq 6, 3, 0, 0), (81, .bipush 46, 2, 0, 0), (83, .ireturn, 1, 0, 0), (84, .aload_n 0, 1, 0, 0), (85, .ldc 164, 2, 1, 14), (87, .invokevirtual 149, 3, 202, 0), (90, .ifCond .eq 8, 3, 0, 0), (93, .bipush 47, 2, 0, 0), (95, .goto 4, 3, 0, 0), (98, .iconst 1, 1, 0, 0), (99, .ireturn, 1, 0, 0)]
set_option maxRecDepth 100000 in
theorem ck203 : codeOK 203 cd203 := ⟨by decide, by decide +kernel⟩
/-- CountedTwiceModel.homeWord()I -/
def cd204 : List Ent := [(0, .aload_n 0, 1, 0, 0), (1, .ldc 166, 2, 1, 15), (3, .invokevirtual 149, 3, 202, 0), (6, .ifCond .eq 6, 3, 0, 0), (9, .bipush 21, 2, 0, 0), (11, .ireturn, 1, 0, 0), (12, .aload_n 0, 1, 0, 0), (13, .ldc 168, 2, 1, 16), (15, .invokevirtual 149, 3, 202, 0), (18, .ifCond .eq 6, 3, 0, 0), (21, .bipush 22, 2, 0, 0), (23, .ireturn, 1, 0, 0), (24, .aload_n 0, 1, 0, 0), (25, .ldc 170, 2, 1, 17), (27, .invokevirtual 149, 3, 202, 0), (30, .ifCond .eq 6, 3, 0, 0), (33, .bipush 48, 2, 0, 0), (35, .ireturn, 1, 0, 0), (36, .aload_n 0, 1, 0, 0), (37, .ldc 172, 2, 1, 18), (39, .invokevirtual 149, 3, 202, 0), (42, .ifCond .eq 6, 3, 0, 0), (45, .bipush 49, 2, 0, 0), (47, .ireturn, 1, 0, 0), (48, .aload_n 0, 1, 0, 0), (49, .ldc 174, 2, 1, 19), (51, .invokevirtual 149, 3, 202, 0), (54, .ifCond .eq 6, 3, 0, 0), (57, .bipush 50, 2, 0, 0), (59, .ireturn, 1, 0, 0), (60, .aload_n 0, 1, 0, 0), (61, .ldc 175, 2, 1, 20), (63, .invokevirtual 149, 3, 202, 0), (66, .ifCond .eq 6, 3, 0, 0), (69, .bipush 51, 2, 0, 0), (71, .ireturn, 1, 0, 0), (72, .aload_n 0, 1, 0, 0), (73, .ldc 177, 2, 1, 21), (75, .invokevirtual 149, 3, 202, 0), (78, .ifCond .eq 8, 3, 0, 0), (81, .bipush 52, 2, 0, 0), (83, .goto 4, 3, 0, 0), (86, .iconst 1, 1, 0, 0), (87, .ireturn, 1, 0, 0)]
set_option maxRecDepth 100000 in
theorem ck204 : codeOK 204 cd204 := ⟨by decide, by decide +kernel⟩
/-- CountedTwiceModel.word()I -/
def cd205 : List Ent := [(0, .aload_n 0, 1, 0, 0), (1, .ldc 179, 2, 1, 3), (3, .invokevirtual 149, 3, 202, 0), (6, .ifCond .eq 5, 3, 0, 0), (9, .iconst 3, 1, 0, 0), (10, .ireturn, 1, 0, 0), (11, .aload_n 0, 1, 0, 0), (12, .ldc 181, 2, 1, 4), (14, .invokevirtual 149, 3, 202, 0), (17, .ifCond .eq 5, 3, 0, 0), (20, .iconst 4, 1, 0, 0), (21, .ireturn, 1, 0, 0), (22, .aload_n 0, 1, 0, 0), (23, .ldc 183, 2, 1, 5), (25, .invokevirtual 149, 3, 202, 0), (28, .ifCond .eq 5, 3, 0, 0), (31, .iconst 5, 1, 0, 0), (32, .ireturn, 1, 0, 0), (33, .aload_n 0, 1, 0, 0), (34, .ldc 185, 2, 1, 6), (36, .invokevirtual 149, 3, 202, 0), (39, .ifCond .eq 6, 3, 0, 0), (42, .bipush 6, 2, 0, 0), (44, .ireturn, 1, 0, 0), (45, .aload_n 0, 1, 0, 0), (46, .getfield 187, 3, 12, 8), (49, .iconst 2, 1, 0, 0), (50, .if_icmp .ge 10, 3, 0, 0), (53, .aload_n 0, 1, 0, 0), (54, .invokevirtual 190, 3, 203, 0), (57, .goto 7, 3, 0, 0), (60, .aload_n 0, 1, 0, 0), (61, .invokevirtual 193, 3, 204, 0), (64, .ireturn, 1, 0, 0)]
set_option maxRecDepth 100000 in
theorem ck205 : codeOK 205 cd205 := ⟨by decide, by decide +kernel⟩
/-- CountedTwiceModel.next0()V -/
def cd206 : List Ent := [(0, .aload_n 0, 1, 0, 0), (1, .aload_n 0, 1, 0, 0), (2, .getfield 131, 3, 12, 12), (5, .invokevirtual 196, 3, 199, 0), (8, .bipush 32, 2, 0, 0), (10, .if_icmp .eq 16, 3, 0, 0), (13, .aload_n 0, 1, 0, 0), (14, .aload_n 0, 1, 0, 0), (15, .getfield 131, 3, 12, 12), (18, .invokevirtual 196, 3, 199, 0), (21, .bipush 10, 2, 0, 0), (23, .if_icmp .ne 16, 3, 0, 0), (26, .aload_n 0, 1, 0, 0), (27, .dup, 1, 0, 0), (28, .getfield 131, 3, 12, 12), (31, .iconst 1, 1, 0, 0), (32, .iadd, 1, 0, 0), (33, .putfield 131, 3, 12, 12), (36, .goto (-36), 3, 0, 0), (39, .aload_n 0, 1, 0, 0), (40, .aload_n 0, 1, 0, 0), (41, .getfield 131, 3, 12, 12), (44, .putfield 134, 3, 12, 14), (47, .aload_n 0, 1, 0, 0), (48, .aload_n 0, 1, 0, 0), (49, .getfield 131, 3, 12, 12), (52, .invokevirtual 196, 3, 199, 0), (55, .istore_n 1, 1, 0, 0), (56, .iload_n 1, 1, 0, 0), (57, .iconst (-1), 1, 0, 0), (58, .if_icmp .ne 11, 3, 0, 0), (61, .aload_n 0, 1, 0, 0), (62, .iconst 0, 1, 0, 0), (63, .putfield 199, 3, 12, 13), (66, .goto 240, 3, 0, 0), (69, .iload_n 1, 1, 0, 0), (70, .invokestatic 202, 3, 200, 0), (73, .ifCond .eq 41, 3, 0, 0), (76, .aload_n 0, 1, 0, 0), (77, .aload_n 0, 1, 0, 0), (78, .getfield 131, 3, 12, 12), (81, .invokevirtual 196, 3, 199, 0), (84, .invokestatic 202, 3, 200, 0), (87, .ifCond .eq 16, 3, 0, 0), (90, .aload_n 0, 1, 0, 0), (91, .dup, 1, 0, 0), (92, .getfield 131, 3, 12, 12), (95, .iconst 1, 1, 0, 0), (96, .iadd, 1, 0, 0), (97, .putfield 131, 3, 12, 12), (100, .goto (-24), 3, 0, 0), (103, .aload_n 0, 1, 0, 0), (104, .aload_n 0, 1, 0, 0), (105, .invokevirtual 205, 3, 205, 0), (108, .putfield 199, 3, 12, 13), (111, .goto 195, 3, 0, 0), (114, .iload_n 1, 1, 0, 0), (115, .invokestatic 208, 3, 201, 0), (118, .ifCond .eq 96, 3, 0, 0), (121, .aload_n 0, 1, 0, 0), (122, .iconst 0, 1, 0, 0), (123, .putfield 211, 3, 12, 15), (126, .aload_n 0, 1, 0, 0), (127, .aload_n 0, 1, 0, 0), (128, .getfield 131, 3, 12, 12), (131, .invokevirtual 196, 3, 199, 0), (134, .invokestatic 208, 3, 201, 0), (137, .ifCond .eq 52, 3, 0, 0), (140, .aload_n 0, 1, 0, 0), (141, .getfield 131, 3, 12, 12), (144, .aload_n 0, 1, 0, 0), (145, .getfield 134, 3, 12, 14), (148, .iconst 4, 1, 0, 0), (149, .iadd, 1, 0, 0), (150, .if_icmp .ge 26, 3, 0, 0), (153, .aload_n 0, 1, 0, 0), (154, .bipush 10, 2, 0, 0), (156, .aload_n 0, 1, 0, 0), (157, .getfield 211, 3, 12, 15), (160, .imul, 1, 0, 0), (161, .aload_n 0, 1, 0, 0), (162, .aload_n 0, 1, 0, 0), (163, .getfield 131, 3, 12, 12), (166, .invokevirtual 196, 3, 199, 0), (169, .iadd, 1, 0, 0), (170, .bipush 48, 2, 0, 0), (172, .isub, 1, 0, 0), (173, .putfield 211, 3, 12, 15), (176, .aload_n 0, 1, 0, 0), (177, .dup, 1, 0, 0), (178, .getfield 131, 3, 12, 12), (181, .iconst 1, 1, 0, 0), (182, .iadd, 1, 0, 0), (183, .putfield 131, 3, 12, 12), (186, .goto (-60), 3, 0, 0), (189, .aload_n 0, 1, 0, 0), (190, .aload_n 0, 1, 0, 0), (191, .getfield 131, 3, 12, 12), (194, .aload_n 0, 1, 0, 0), (195, .getfield 134, 3, 12, 14), (198, .isub, 1, 0, 0), (199, .iconst 5, 1, 0, 0), (200, .if_icmp .ge 7, 3, 0, 0), (203, .iconst 2, 1, 0, 0), (204, .goto 4, 3, 0, 0), (207, .iconst 1, 1, 0, 0), (208, .putfield 199, 3, 12, 13), (211, .goto 95, 3, 0, 0), (214, .aload_n 0, 1, 0, 0), (215, .dup, 1, 0, 0), (216, .getfield 131, 3, 12, 12), (219, .iconst 1, 1, 0, 0), (220, .iadd, 1, 0, 0), (221, .putfield 131, 3, 12, 12), (224, .iload_n 1, 1, 0, 0), (225, .bipush 59, 2, 0, 0), (227, .if_icmp .eq 57, 3, 0, 0), (230, .iload_n 1, 1, 0, 0), (231, .bipush 43, 2, 0, 0), (233, .if_icmp .eq 51, 3, 0, 0), (236, .iload_n 1, 1, 0, 0), (237, .bipush 45, 2, 0, 0), (239, .if_icmp .eq 45, 3, 0, 0), (242, .iload_n 1, 1, 0, 0), (243, .bipush 42, 2, 0, 0), (245, .if_icmp .eq 39, 3, 0, 0), (248, .iload_n 1, 1, 0, 0), (249, .bipush 47, 2, 0, 0), (251, .if_icmp .eq 33, 3, 0, 0), (254, .iload_n 1, 1, 0, 0), (255, .bipush 40, 2, 0, 0), (257, .if_icmp .eq 27, 3, 0, 0), (260, .iload_n 1, 1, 0, 0), (261, .bipush 41, 2, 0, 0), (263, .if_icmp .eq 21, 3, 0, 0), (266, .iload_n 1, 1, 0, 0), (267, .bipush 60, 2, 0, 0), (269, .if_icmp .eq 15, 3, 0, 0), (272, .iload_n 1, 1, 0, 0), (273, .bipush 61, 2, 0, 0), (275, .if_icmp .eq 9, 3, 0, 0), (278, .iload_n 1, 1, 0, 0), (279, .bipush 62, 2, 0, 0), (281, .if_icmp .ne 7, 3, 0, 0), (284, .iconst 1, 1, 0, 0), (285, .goto 4, 3, 0, 0), (288, .iconst 0, 1, 0, 0), (289, .istore_n 2, 1, 0, 0), (290, .aload_n 0, 1, 0, 0), (291, .iload_n 2, 1, 0, 0), (292, .ifCond .eq 10, 3, 0, 0), (295, .bipush 100, 2, 0, 0), (297, .iload_n 1, 1, 0, 0), (298, .iadd, 1, 0, 0), (299, .goto 4, 3, 0, 0), (302, .iconst 1, 1, 0, 0), (303, .putfield 199, 3, 12, 13), (306, .return_, 1, 0, 0)]
set_option maxRecDepth 100000 in
theorem ck206 : codeOK 206 cd206 := ⟨by decide, by decide +kernel⟩
/-- CountedTwiceModel.bad(I)Z -/
def cd207 : List Ent := [(0, .aload_n 0, 1, 0, 0), (1, .iload_n 1, 1, 0, 0), (2, .putfield 214, 3, 12, 16), (5, .aload_n 0, 1, 0, 0), (6, .aload_n 0, 1, 0, 0), (7, .getfield 134, 3, 12, 14), (10, .putfield 217, 3, 12, 17), (13, .iconst 0, 1, 0, 0), (14, .ireturn, 1, 0, 0)]
set_option maxRecDepth 100000 in
theorem ck207 : codeOK 207 cd207 := ⟨by decide, by decide +kernel⟩
/-- CountedTwiceModel.need(I)Z -/
def cd208 : List Ent := [(0, .aload_n 0, 1, 0, 0), (1, .getfield 199, 3, 12, 13), (4, .iload_n 1, 1, 0, 0), (5, .if_icmp .eq 9, 3, 0, 0), (8, .aload_n 0, 1, 0, 0), (9, .iconst 1, 1, 0, 0), (10, .invokevirtual 220, 3, 207, 0), (13, .ireturn, 1, 0, 0), (14, .aload_n 0, 1, 0, 0), (15, .invokevirtual 223, 3, 206, 0), (18, .iconst 1, 1, 0, 0), (19, .ireturn, 1, 0, 0)]
set_option maxRecDepth 100000 in
theorem ck208 : codeOK 208 cd208 := ⟨by decide, by decide +kernel⟩
/-- CountedTwiceModel.lay(II)V -/
def cd209 : List Ent := [(0, .aload_n 0, 1, 0, 0), (1, .getfield 19, 3, 12, 4), (4, .iconst 2, 1, 0, 0), (5, .aload_n 0, 1, 0, 0), (6, .getfield 226, 3, 12, 10), (9, .imul, 1, 0, 0), (10, .iload_n 1, 1, 0, 0), (11, .iastore, 1, 0, 0), (12, .aload_n 0, 1, 0, 0), (13, .getfield 19, 3, 12, 4), (16, .iconst 2, 1, 0, 0), (17, .aload_n 0, 1, 0, 0), (18, .getfield 226, 3, 12, 10), (21, .imul, 1, 0, 0), (22, .iconst 1, 1, 0, 0), (23, .iadd, 1, 0, 0), (24, .iload_n 2, 1, 0, 0), (25, .iastore, 1, 0, 0), (26, .aload_n 0, 1, 0, 0), (27, .dup, 1, 0, 0), (28, .getfield 226, 3, 12, 10), (31, .iconst 1, 1, 0, 0), (32, .iadd, 1, 0, 0), (33, .putfield 226, 3, 12, 10), (36, .return_, 1, 0, 0)]
set_option maxRecDepth 100000 in
theorem ck209 : codeOK 209 cd209 := ⟨by decide, by decide +kernel⟩
/-- CountedTwiceModel.opens()Z -/
def cd210 : List Ent := [(0, .aload_n 0, 1, 0, 0), (1, .getfield 229, 3, 12, 19), (4, .bipush 8, 2, 0, 0), (6, .if_icmp .ne 9, 3, 0, 0), (9, .aload_n 0, 1, 0, 0), (10, .iconst 3, 1, 0, 0), (11, .invokevirtual 220, 3, 207, 0), (14, .ireturn, 1, 0, 0), (15, .aload_n 0, 1, 0, 0), (16, .dup, 1, 0, 0), (17, .getfield 229, 3, 12, 19), (20, .iconst 1, 1, 0, 0), (21, .iadd, 1, 0, 0), (22, .putfield 229, 3, 12, 19), (25, .aload_n 0, 1, 0, 0), (26, .invokevirtual 223, 3, 206, 0), (29, .iconst 1, 1, 0, 0), (30, .ireturn, 1, 0, 0)]
set_option maxRecDepth 100000 in
theorem ck210 : codeOK 210 cd210 := ⟨by decide, by decide +kernel⟩
/-- CountedTwiceModel.sumUp()Z -/
def cd211 : List Ent := [(0, .aload_n 0, 1, 0, 0), (1, .invokevirtual 232, 3, 212, 0), (4, .ifCond .ne 5, 3, 0, 0), (7, .iconst 0, 1, 0, 0), (8, .ireturn, 1, 0, 0), (9, .aload_n 0, 1, 0, 0), (10, .getfield 199, 3, 12, 13), (13, .sipush 143, 3, 0, 0), (16, .if_icmp .eq 13, 3, 0, 0), (19, .aload_n 0, 1, 0, 0), (20, .getfield 199, 3, 12, 13), (23, .sipush 145, 3, 0, 0), (26, .if_icmp .ne 43, 3, 0, 0), (29, .aload_n 0, 1, 0, 0), (30, .getfield 199, 3, 12, 13), (33, .sipush 143, 3, 0, 0), (36, .if_icmp .ne 8, 3, 0, 0), (39, .bipush 13, 2, 0, 0), (41, .goto 5, 3, 0, 0), (44, .bipush 14, 2, 0, 0), (46, .istore_n 1, 1, 0, 0), (47, .aload_n 0, 1, 0, 0), (48, .invokevirtual 223, 3, 206, 0), (51, .aload_n 0, 1, 0, 0), (52, .invokevirtual 232, 3, 212, 0), (55, .ifCond .ne 5, 3, 0, 0), (58, .iconst 0, 1, 0, 0), (59, .ireturn, 1, 0, 0), (60, .aload_n 0, 1, 0, 0), (61, .iload_n 1, 1, 0, 0), (62, .iconst 0, 1, 0, 0), (63, .invokevirtual 236, 3, 209, 0), (66, .goto (-57), 3, 0, 0), (69, .iconst 1, 1, 0, 0), (70, .ireturn, 1, 0, 0)]
set_option maxRecDepth 100000 in
theorem ck211 : codeOK 211 cd211 := ⟨by decide, by decide +kernel⟩
/-- CountedTwiceModel.product()Z -/
def cd212 : List Ent := [(0, .aload_n 0, 1, 0, 0), (1, .invokevirtual 240, 3, 213, 0), (4, .ifCond .ne 5, 3, 0, 0), (7, .iconst 0, 1, 0, 0), (8, .ireturn, 1, 0, 0), (9, .aload_n 0, 1, 0, 0), (10, .getfield 199, 3, 12, 13), (13, .sipush 142, 3, 0, 0), (16, .if_icmp .eq 13, 3, 0, 0), (19, .aload_n 0, 1, 0, 0), (20, .getfield 199, 3, 12, 13), (23, .sipush 147, 3, 0, 0), (26, .if_icmp .ne 89, 3, 0, 0), (29, .aload_n 0, 1, 0, 0), (30, .getfield 199, 3, 12, 13), (33, .sipush 147, 3, 0, 0), (36, .if_icmp .ne 7, 3, 0, 0), (39, .iconst 1, 1, 0, 0), (40, .goto 4, 3, 0, 0), (43, .iconst 0, 1, 0, 0), (44, .istore_n 1, 1, 0, 0), (45, .aload_n 0, 1, 0, 0), (46, .invokevirtual 223, 3, 206, 0), (49, .iload_n 1, 1, 0, 0), (50, .ifCond .eq 46, 3, 0, 0), (53, .aload_n 0, 1, 0, 0), (54, .getfield 211, 3, 12, 15), (57, .istore_n 2, 1, 0, 0), (58, .aload_n 0, 1, 0, 0), (59, .getfield 199, 3, 12, 13), (62, .iconst 2, 1, 0, 0), (63, .if_icmp .eq 9, 3, 0, 0), (66, .aload_n 0, 1, 0, 0), (67, .iconst 1, 1, 0, 0), (68, .invokevirtual 220, 3, 207, 0), (71, .ireturn, 1, 0, 0), (72, .iload_n 2, 1, 0, 0), (73, .ifCond .ne 9, 3, 0, 0), (76, .aload_n 0, 1, 0, 0), (77, .iconst 2, 1, 0, 0), (78, .invokevirtual 220, 3, 207, 0), (81, .ireturn, 1, 0, 0), (82, .aload_n 0, 1, 0, 0), (83, .invokevirtual 223, 3, 206, 0), (86, .aload_n 0, 1, 0, 0), (87, .bipush 16, 2, 0, 0), (89, .iload_n 2, 1, 0, 0), (90, .invokevirtual 236, 3, 209, 0), (93, .goto 19, 3, 0, 0), (96, .aload_n 0, 1, 0, 0), (97, .invokevirtual 240, 3, 213, 0), (100, .ifCond .ne 5, 3, 0, 0), (103, .iconst 0, 1, 0, 0), (104, .ireturn, 1, 0, 0), (105, .aload_n 0, 1, 0, 0), (106, .bipush 15, 2, 0, 0), (108, .iconst 0, 1, 0, 0), (109, .invokevirtual 236, 3, 209, 0), (112, .goto (-103), 3, 0, 0), (115, .iconst 1, 1, 0, 0), (116, .ireturn, 1, 0, 0)]
set_option maxRecDepth 100000 in
theorem ck212 : codeOK 212 cd212 := ⟨by decide, by decide +kernel⟩
/-- CountedTwiceModel.unit()Z -/
def cd213 : List Ent := [(0, .aload_n 0, 1, 0, 0), (1, .getfield 199, 3, 12, 13), (4, .bipush 41, 2, 0, 0), (6, .bipush 52, 2, 0, 0), (8, .invokestatic 100, 3, 181, 0), (11, .istore_n 1, 1, 0, 0), (12, .aload_n 0, 1, 0, 0), (13, .getfield 199, 3, 12, 13), (16, .iconst 2, 1, 0, 0), (17, .if_icmp .eq 13, 3, 0, 0), (20, .iload_n 1, 1, 0, 0), (21, .ifCond .ne 9, 3, 0, 0), (24, .aload_n 0, 1, 0, 0), (25, .iconst 1, 1, 0, 0), (26, .invokevirtual 220, 3, 207, 0), (29, .ireturn, 1, 0, 0), (30, .aload_n 0, 1, 0, 0), (31, .iload_n 1, 1, 0, 0), (32, .ifCond .eq 13, 3, 0, 0), (35, .aload_n 0, 1, 0, 0), (36, .getfield 199, 3, 12, 13), (39, .bipush 40, 2, 0, 0), (41, .isub, 1, 0, 0), (42, .goto 4, 3, 0, 0), (45, .iconst 0, 1, 0, 0), (46, .aload_n 0, 1, 0, 0), (47, .getfield 211, 3, 12, 15), (50, .invokevirtual 236, 3, 209, 0), (53, .aload_n 0, 1, 0, 0), (54, .invokevirtual 223, 3, 206, 0), (57, .iconst 1, 1, 0, 0), (58, .ireturn, 1, 0, 0)]
set_option maxRecDepth 100000 in
theorem ck213 : codeOK 213 cd213 := ⟨by decide, by decide +kernel⟩
/-- CountedTwiceModel.any()Z -/
def cd214 : List Ent := [(0, .aload_n 0, 1, 0, 0), (1, .invokevirtual 243, 3, 215, 0), (4, .ifCond .ne 5, 3, 0, 0), (7, .iconst 0, 1, 0, 0), (8, .ireturn, 1, 0, 0), (9, .aload_n 0, 1, 0, 0), (10, .getfield 199, 3, 12, 13), (13, .iconst 4, 1, 0, 0), (14, .if_icmp .ne 26, 3, 0, 0), (17, .aload_n 0, 1, 0, 0), (18, .invokevirtual 223, 3, 206, 0), (21, .aload_n 0, 1, 0, 0), (22, .invokevirtual 243, 3, 215, 0), (25, .ifCond .ne 5, 3, 0, 0), (28, .iconst 0, 1, 0, 0), (29, .ireturn, 1, 0, 0), (30, .aload_n 0, 1, 0, 0), (31, .bipush 22, 2, 0, 0), (33, .iconst 0, 1, 0, 0), (34, .invokevirtual 236, 3, 209, 0), (37, .goto (-28), 3, 0, 0), (40, .iconst 1, 1, 0, 0), (41, .ireturn, 1, 0, 0)]
set_option maxRecDepth 100000 in
theorem ck214 : codeOK 214 cd214 := ⟨by decide, by decide +kernel⟩
/-- CountedTwiceModel.every()Z -/
def cd215 : List Ent := [(0, .aload_n 0, 1, 0, 0), (1, .invokevirtual 246, 3, 216, 0), (4, .ifCond .ne 5, 3, 0, 0), (7, .iconst 0, 1, 0, 0), (8, .ireturn, 1, 0, 0), (9, .aload_n 0, 1, 0, 0), (10, .getfield 199, 3, 12, 13), (13, .iconst 5, 1, 0, 0), (14, .if_icmp .ne 26, 3, 0, 0), (17, .aload_n 0, 1, 0, 0), (18, .invokevirtual 223, 3, 206, 0), (21, .aload_n 0, 1, 0, 0), (22, .invokevirtual 246, 3, 216, 0), (25, .ifCond .ne 5, 3, 0, 0), (28, .iconst 0, 1, 0, 0), (29, .ireturn, 1, 0, 0), (30, .aload_n 0, 1, 0, 0), (31, .bipush 21, 2, 0, 0), (33, .iconst 0, 1, 0, 0), (34, .invokevirtual 236, 3, 209, 0), (37, .goto (-28), 3, 0, 0), (40, .iconst 1, 1, 0, 0), (41, .ireturn, 1, 0, 0)]
set_option maxRecDepth 100000 in
theorem ck215 : codeOK 215 cd215 := ⟨by decide, by decide +kernel⟩
/-- CountedTwiceModel.one()Z -/
def cd216 : List Ent := [(0, .aload_n 0, 1, 0, 0), (1, .getfield 199, 3, 12, 13), (4, .bipush 6, 2, 0, 0), (6, .if_icmp .ne 38, 3, 0, 0), (9, .aload_n 0, 1, 0, 0), (10, .invokevirtual 249, 3, 210, 0), (13, .ifCond .eq 10, 3, 0, 0), (16, .aload_n 0, 1, 0, 0), (17, .invokevirtual 246, 3, 216, 0), (20, .ifCond .ne 5, 3, 0, 0), (23, .iconst 0, 1, 0, 0), (24, .ireturn, 1, 0, 0), (25, .aload_n 0, 1, 0, 0), (26, .dup, 1, 0, 0), (27, .getfield 229, 3, 12, 19), (30, .iconst 1, 1, 0, 0), (31, .isub, 1, 0, 0), (32, .putfield 229, 3, 12, 19), (35, .aload_n 0, 1, 0, 0), (36, .bipush 20, 2, 0, 0), (38, .iconst 0, 1, 0, 0), (39, .invokevirtual 236, 3, 209, 0), (42, .iconst 1, 1, 0, 0), (43, .ireturn, 1, 0, 0), (44, .aload_n 0, 1, 0, 0), (45, .getfield 199, 3, 12, 13), (48, .sipush 140, 3, 0, 0), (51, .if_icmp .ne 41, 3, 0, 0), (54, .aload_n 0, 1, 0, 0), (55, .invokevirtual 249, 3, 210, 0), (58, .ifCond .eq 20, 3, 0, 0), (61, .aload_n 0, 1, 0, 0), (62, .invokevirtual 252, 3, 214, 0), (65, .ifCond .eq 13, 3, 0, 0), (68, .aload_n 0, 1, 0, 0), (69, .sipush 141, 3, 0, 0), (72, .invokevirtual 255, 3, 208, 0), (75, .ifCond .ne 5, 3, 0, 0), (78, .iconst 0, 1, 0, 0), (79, .ireturn, 1, 0, 0), (80, .aload_n 0, 1, 0, 0), (81, .dup, 1, 0, 0), (82, .getfield 229, 3, 12, 19), (85, .iconst 1, 1, 0, 0), (86, .isub, 1, 0, 0), (87, .putfield 229, 3, 12, 19), (90, .iconst 1, 1, 0, 0), (91, .ireturn, 1, 0, 0), (92, .aload_n 0, 1, 0, 0), (93, .invokevirtual 258, 3, 211, 0), (96, .ifCond .ne 5, 3, 0, 0), (99, .iconst 0, 1, 0, 0), (100, .ireturn, 1, 0, 0), (101, .aload_n 0, 1, 0, 0), (102, .getfield 199, 3, 12, 13), (105, .sipush 160, 3, 0, 0), (108, .if_icmp .ne 8, 3, 0, 0), (111, .bipush 17, 2, 0, 0), (113, .goto 34, 3, 0, 0), (116, .aload_n 0, 1, 0, 0), (117, .getfield 199, 3, 12, 13), (120, .sipush 161, 3, 0, 0), (123, .if_icmp .ne 8, 3, 0, 0), (126, .bipush 18, 2, 0, 0), (128, .goto 19, 3, 0, 0), (131, .aload_n 0, 1, 0, 0), (132, .getfield 199, 3, 12, 13), (135, .sipush 162, 3, 0, 0), (138, .if_icmp .ne 8, 3, 0, 0), (141, .bipush 19, 2, 0, 0), (143, .goto 4, 3, 0, 0), (146, .iconst (-1), 1, 0, 0), (147, .istore_n 1, 1, 0, 0), (148, .iload_n 1, 1, 0, 0), (149, .iconst (-1), 1, 0, 0), (150, .if_icmp .ne 9, 3, 0, 0), (153, .aload_n 0, 1, 0, 0), (154, .iconst 1, 1, 0, 0), (155, .invokevirtual 220, 3, 207, 0), (158, .ireturn, 1, 0, 0), (159, .aload_n 0, 1, 0, 0), (160, .invokevirtual 223, 3, 206, 0), (163, .aload_n 0, 1, 0, 0), (164, .invokevirtual 258, 3, 211, 0), (167, .ifCond .ne 5, 3, 0, 0), (170, .iconst 0, 1, 0, 0), (171, .ireturn, 1, 0, 0), (172, .aload_n 0, 1, 0, 0), (173, .iload_n 1, 1, 0, 0), (174, .iconst 0, 1, 0, 0), (175, .invokevirtual 236, 3, 209, 0), (178, .iconst 1, 1, 0, 0), (179, .ireturn, 1, 0, 0)]
set_option maxRecDepth 100000 in
theorem ck216 : codeOK 216 cd216 := ⟨by decide, by decide +kernel⟩
/-- CountedTwiceModel.aLine()Z -/
def cd217 : List Ent := [(0, .aload_n 0, 1, 0, 0), (1, .getfield 187, 3, 12, 8), (4, .iconst 2, 1, 0, 0), (5, .if_icmp .ge 7, 3, 0, 0), (8, .iconst 1, 1, 0, 0), (9, .goto 4, 3, 0, 0), (12, .iconst 0, 1, 0, 0), (13, .istore_n 1, 1, 0, 0), (14, .aload_n 0, 1, 0, 0), (15, .getfield 199, 3, 12, 13), (18, .bipush 20, 2, 0, 0), (20, .iload_n 1, 1, 0, 0), (21, .ifCond .eq 7, 3, 0, 0), (24, .iconst 0, 1, 0, 0), (25, .goto 4, 3, 0, 0), (28, .iconst 1, 1, 0, 0), (29, .iadd, 1, 0, 0), (30, .bipush 20, 2, 0, 0), (32, .iload_n 1, 1, 0, 0), (33, .ifCond .eq 7, 3, 0, 0), (36, .iconst 0, 1, 0, 0), (37, .goto 4, 3, 0, 0), (40, .iconst 2, 1, 0, 0), (41, .iadd, 1, 0, 0), (42, .invokestatic 100, 3, 181, 0), (45, .ifCond .ne 9, 3, 0, 0), (48, .aload_n 0, 1, 0, 0), (49, .iconst 1, 1, 0, 0), (50, .invokevirtual 220, 3, 207, 0), (53, .ireturn, 1, 0, 0), (54, .aload_n 0, 1, 0, 0), (55, .getfield 261, 3, 12, 9), (58, .bipush 16, 2, 0, 0), (60, .if_icmp .ne 9, 3, 0, 0), (63, .aload_n 0, 1, 0, 0), (64, .iconst 3, 1, 0, 0), (65, .invokevirtual 220, 3, 207, 0), (68, .ireturn, 1, 0, 0), (69, .aload_n 0, 1, 0, 0), (70, .getfield 16, 3, 12, 3), (73, .iconst 3, 1, 0, 0), (74, .aload_n 0, 1, 0, 0), (75, .getfield 261, 3, 12, 9), (78, .imul, 1, 0, 0), (79, .aload_n 0, 1, 0, 0), (80, .getfield 199, 3, 12, 13), (83, .bipush 20, 2, 0, 0), (85, .isub, 1, 0, 0), (86, .iastore, 1, 0, 0), (87, .aload_n 0, 1, 0, 0), (88, .iconst 0, 1, 0, 0), (89, .putfield 229, 3, 12, 19), (92, .aload_n 0, 1, 0, 0), (93, .invokevirtual 223, 3, 206, 0), (96, .aload_n 0, 1, 0, 0), (97, .getfield 16, 3, 12, 3), (100, .iconst 3, 1, 0, 0), (101, .aload_n 0, 1, 0, 0), (102, .getfield 261, 3, 12, 9), (105, .imul, 1, 0, 0), (106, .iconst 1, 1, 0, 0), (107, .iadd, 1, 0, 0), (108, .aload_n 0, 1, 0, 0), (109, .getfield 226, 3, 12, 10), (112, .iastore, 1, 0, 0), (113, .aload_n 0, 1, 0, 0), (114, .iconst 3, 1, 0, 0), (115, .invokevirtual 255, 3, 208, 0), (118, .ifCond .eq 10, 3, 0, 0), (121, .aload_n 0, 1, 0, 0), (122, .invokevirtual 252, 3, 214, 0), (125, .ifCond .ne 5, 3, 0, 0), (128, .iconst 0, 1, 0, 0), (129, .ireturn, 1, 0, 0), (130, .aload_n 0, 1, 0, 0), (131, .getfield 16, 3, 12, 3), (134, .iconst 3, 1, 0, 0), (135, .aload_n 0, 1, 0, 0), (136, .getfield 261, 3, 12, 9), (139, .imul, 1, 0, 0), (140, .iconst 2, 1, 0, 0), (141, .iadd, 1, 0, 0), (142, .aload_n 0, 1, 0, 0), (143, .getfield 226, 3, 12, 10), (146, .iastore, 1, 0, 0), (147, .aload_n 0, 1, 0, 0), (148, .sipush 159, 3, 0, 0), (151, .invokevirtual 255, 3, 208, 0), (154, .ireturn, 1, 0, 0)]
set_option maxRecDepth 100000 in
theorem ck217 : codeOK 217 cd217 := ⟨by decide, by decide +kernel⟩
/-- CountedTwiceModel.text(I)I -/
def cd218 : List Ent := [(0, .aload_n 0, 1, 0, 0), (1, .iconst 0, 1, 0, 0), (2, .putfield 214, 3, 12, 16), (5, .iload_n 1, 1, 0, 0), (6, .iconst 0, 1, 0, 0), (7, .iconst 2, 1, 0, 0), (8, .invokestatic 100, 3, 181, 0), (11, .ifCond .ne 20, 3, 0, 0), (14, .aload_n 0, 1, 0, 0), (15, .iconst 0, 1, 0, 0), (16, .putfield 128, 3, 12, 11), (19, .aload_n 0, 1, 0, 0), (20, .iconst 0, 1, 0, 0), (21, .putfield 264, 3, 12, 18), (24, .aload_n 0, 1, 0, 0), (25, .iconst (-1), 1, 0, 0), (26, .putfield 31, 3, 12, 20), (29, .iconst (-1), 1, 0, 0), (30, .ireturn, 1, 0, 0), (31, .aload_n 0, 1, 0, 0), (32, .iload_n 1, 1, 0, 0), (33, .putfield 187, 3, 12, 8), (36, .aload_n 0, 1, 0, 0), (37, .iconst 0, 1, 0, 0), (38, .putfield 131, 3, 12, 12), (41, .aload_n 0, 1, 0, 0), (42, .iconst 0, 1, 0, 0), (43, .putfield 261, 3, 12, 9), (46, .aload_n 0, 1, 0, 0), (47, .iconst 0, 1, 0, 0), (48, .putfield 226, 3, 12, 10), (51, .aload_n 0, 1, 0, 0), (52, .invokevirtual 223, 3, 206, 0), (55, .iconst 1, 1, 0, 0), (56, .istore_n 2, 1, 0, 0), (57, .iload_n 2, 1, 0, 0), (58, .ifCond .eq 36, 3, 0, 0), (61, .aload_n 0, 1, 0, 0), (62, .getfield 199, 3, 12, 13), (65, .ifCond .eq 29, 3, 0, 0), (68, .aload_n 0, 1, 0, 0), (69, .invokevirtual 267, 3, 217, 0), (72, .istore_n 2, 1, 0, 0), (73, .aload_n 0, 1, 0, 0), (74, .dup, 1, 0, 0), (75, .getfield 261, 3, 12, 9), (78, .iload_n 2, 1, 0, 0), (79, .ifCond .eq 7, 3, 0, 0), (82, .iconst 1, 1, 0, 0), (83, .goto 4, 3, 0, 0), (86, .iconst 0, 1, 0, 0), (87, .iadd, 1, 0, 0), (88, .putfield 261, 3, 12, 9), (91, .goto (-34), 3, 0, 0), (94, .aload_n 0, 1, 0, 0), (95, .iconst 0, 1, 0, 0), (96, .putfield 128, 3, 12, 11), (99, .aload_n 0, 1, 0, 0), (100, .aload_n 0, 1, 0, 0), (101, .getfield 214, 3, 12, 16), (104, .putfield 264, 3, 12, 18), (107, .aload_n 0, 1, 0, 0), (108, .iload_n 2, 1, 0, 0), (109, .ifCond .eq 7, 3, 0, 0), (112, .iconst (-1), 1, 0, 0), (113, .goto 7, 3, 0, 0), (116, .aload_n 0, 1, 0, 0), (117, .getfield 217, 3, 12, 17), (120, .putfield 31, 3, 12, 20), (123, .iload_n 2, 1, 0, 0), (124, .ifCond .ne 5, 3, 0, 0), (127, .iconst (-1), 1, 0, 0), (128, .ireturn, 1, 0, 0), (129, .aload_n 0, 1, 0, 0), (130, .getfield 7, 3, 12, 0), (133, .sipush 2500, 3, 0, 0), (136, .iload_n 1, 1, 0, 0), (137, .iadd, 1, 0, 0), (138, .aload_n 0, 1, 0, 0), (139, .getfield 261, 3, 12, 9), (142, .iastore, 1, 0, 0), (143, .iconst 0, 1, 0, 0), (144, .istore_n 3, 1, 0, 0), (145, .iload_n 3, 1, 0, 0), (146, .aload_n 0, 1, 0, 0), (147, .getfield 261, 3, 12, 9), (150, .if_icmp .ge 82, 3, 0, 0), (153, .aload_n 0, 1, 0, 0), (154, .getfield 7, 3, 12, 0), (157, .sipush 2610, 3, 0, 0), (160, .bipush 16, 2, 0, 0), (162, .iload_n 1, 1, 0, 0), (163, .imul, 1, 0, 0), (164, .iadd, 1, 0, 0), (165, .iload_n 3, 1, 0, 0), (166, .iadd, 1, 0, 0), (167, .aload_n 0, 1, 0, 0), (168, .getfield 16, 3, 12, 3), (171, .iconst 3, 1, 0, 0), (172, .iload_n 3, 1, 0, 0), (173, .imul, 1, 0, 0), (174, .iaload, 1, 0, 0), (175, .iastore, 1, 0, 0), (176, .aload_n 0, 1, 0, 0), (177, .getfield 7, 3, 12, 0), (180, .sipush 2510, 3, 0, 0), (183, .bipush 16, 2, 0, 0), (185, .iload_n 1, 1, 0, 0), (186, .imul, 1, 0, 0), (187, .iadd, 1, 0, 0), (188, .iload_n 3, 1, 0, 0), (189, .iadd, 1, 0, 0), (190, .aload_n 0, 1, 0, 0), (191, .getfield 16, 3, 12, 3), (194, .iconst 3, 1, 0, 0), (195, .iload_n 3, 1, 0, 0), (196, .imul, 1, 0, 0), (197, .iconst 1, 1, 0, 0), (198, .iadd, 1, 0, 0), (199, .iaload, 1, 0, 0), (200, .iastore, 1, 0, 0), (201, .aload_n 0, 1, 0, 0), (202, .getfield 7, 3, 12, 0), (205, .sipush 2560, 3, 0, 0), (208, .bipush 16, 2, 0, 0), (210, .iload_n 1, 1, 0, 0), (211, .imul, 1, 0, 0), (212, .iadd, 1, 0, 0), (213, .iload_n 3, 1, 0, 0), (214, .iadd, 1, 0, 0), (215, .aload_n 0, 1, 0, 0), (216, .getfield 16, 3, 12, 3), (219, .iconst 3, 1, 0, 0), (220, .iload_n 3, 1, 0, 0), (221, .imul, 1, 0, 0), (222, .iconst 2, 1, 0, 0), (223, .iadd, 1, 0, 0), (224, .iaload, 1, 0, 0), (225, .iastore, 1, 0, 0), (226, .iinc 3 1, 3, 0, 0), (229, .goto (-84), 3, 0, 0), (232, .iconst 0, 1, 0, 0), (233, .istore_n 3, 1, 0, 0), (234, .iload_n 3, 1, 0, 0), (235, .iconst 2, 1, 0, 0), (236, .aload_n 0, 1, 0, 0), (237, .getfield 226, 3, 12, 10), (240, .imul, 1, 0, 0), (241, .if_icmp .ge 31, 3, 0, 0), (244, .aload_n 0, 1, 0, 0), (245, .getfield 7, 3, 12, 0), (248, .sipush 2660, 3, 0, 0), (251, .sipush 820, 3, 0, 0), (254, .iload_n 1, 1, 0, 0), (255, .imul, 1, 0, 0), (256, .iadd, 1, 0, 0), (257, .iload_n 3, 1, 0, 0), (258, .iadd, 1, 0, 0), (259, .aload_n 0, 1, 0, 0), (260, .getfield 19, 3, 12, 4), (263, .iload_n 3, 1, 0, 0), (264, .iaload, 1, 0, 0), (265, .iastore, 1, 0, 0), (266, .iinc 3 1, 3, 0, 0), (269, .goto (-35), 3, 0, 0), (272, .aload_n 0, 1, 0, 0), (273, .getfield 261, 3, 12, 9), (276, .ireturn, 1, 0, 0)]
set_option maxRecDepth 100000 in
theorem ck218 : codeOK 218 cd218 := ⟨by decide, by decide +kernel⟩
/-- CountedTwiceModel.fault(I)I -/
def cd219 : List Ent := [(0, .iload_n 1, 1, 0, 0), (1, .ifCond .ne 10, 3, 0, 0), (4, .aload_n 0, 1, 0, 0), (5, .getfield 264, 3, 12, 18), (8, .goto 16, 3, 0, 0), (11, .iload_n 1, 1, 0, 0), (12, .iconst 1, 1, 0, 0), (13, .if_icmp .ne 10, 3, 0, 0), (16, .aload_n 0, 1, 0, 0), (17, .getfield 31, 3, 12, 20), (20, .goto 4, 3, 0, 0), (23, .iconst (-1), 1, 0, 0), (24, .ireturn, 1, 0, 0)]
set_option maxRecDepth 100000 in
theorem ck219 : codeOK 219 cd219 := ⟨by decide, by decide +kernel⟩
/-- CountedTwiceModel.both(III)I -/
def cd220 : List Ent := [(0, .iload_n 0, 1, 0, 0), (1, .tableswitch 100 13 21 #[51, 55, 59, 100, 63, 74, 85, 100, 96], 51, 0, 0), (52, .iload_n 1, 1, 0, 0), (53, .iload_n 2, 1, 0, 0), (54, .iadd, 1, 0, 0), (55, .ireturn, 1, 0, 0), (56, .iload_n 1, 1, 0, 0), (57, .iload_n 2, 1, 0, 0), (58, .isub, 1, 0, 0), (59, .ireturn, 1, 0, 0), (60, .iload_n 1, 1, 0, 0), (61, .iload_n 2, 1, 0, 0), (62, .imul, 1, 0, 0), (63, .ireturn, 1, 0, 0), (64, .iload_n 1, 1, 0, 0), (65, .iload_n 2, 1, 0, 0), (66, .if_icmp .ge 7, 3, 0, 0), (69, .iconst 1, 1, 0, 0), (70, .goto 4, 3, 0, 0), (73, .iconst 0, 1, 0, 0), (74, .ireturn, 1, 0, 0), (75, .iload_n 1, 1, 0, 0), (76, .iload_n 2, 1, 0, 0), (77, .if_icmp .ne 7, 3, 0, 0), (80, .iconst 1, 1, 0, 0), (81, .goto 4, 3, 0, 0), (84, .iconst 0, 1, 0, 0), (85, .ireturn, 1, 0, 0), (86, .iload_n 1, 1, 0, 0), (87, .iload_n 2, 1, 0, 0), (88, .if_icmp .le 7, 3, 0, 0), (91, .iconst 1, 1, 0, 0), (92, .goto 4, 3, 0, 0), (95, .iconst 0, 1, 0, 0), (96, .ireturn, 1, 0, 0), (97, .iload_n 1, 1, 0, 0), (98, .iload_n 2, 1, 0, 0), (99, .iand, 1, 0, 0), (100, .ireturn, 1, 0, 0), (101, .iload_n 1, 1, 0, 0), (102, .iload_n 2, 1, 0, 0), (103, .ior, 1, 0, 0), (104, .ireturn, 1, 0, 0)]
set_option maxRecDepth 100000 in
theorem ck220 : codeOK 220 cd220 := ⟨by decide, by decide +kernel⟩
/-- CountedTwiceModel.isSo(II)Z -/
def cd221 : List Ent := [(0, .iconst 0, 1, 0, 0), (1, .istore_n 3, 1, 0, 0), (2, .aload_n 0, 1, 0, 0), (3, .getfield 7, 3, 12, 0), (6, .sipush 2510, 3, 0, 0), (9, .bipush 16, 2, 0, 0), (11, .iload_n 1, 1, 0, 0), (12, .imul, 1, 0, 0), (13, .iadd, 1, 0, 0), (14, .iload_n 2, 1, 0, 0), (15, .iadd, 1, 0, 0), (16, .iaload, 1, 0, 0), (17, .istore 4, 2, 0, 0), (19, .iload 4, 2, 0, 0), (21, .aload_n 0, 1, 0, 0), (22, .getfield 7, 3, 12, 0), (25, .sipush 2560, 3, 0, 0), (28, .bipush 16, 2, 0, 0), (30, .iload_n 1, 1, 0, 0), (31, .imul, 1, 0, 0), (32, .iadd, 1, 0, 0), (33, .iload_n 2, 1, 0, 0), (34, .iadd, 1, 0, 0), (35, .iaload, 1, 0, 0), (36, .if_icmp .ge 170, 3, 0, 0), (39, .aload_n 0, 1, 0, 0), (40, .getfield 7, 3, 12, 0), (43, .sipush 2660, 3, 0, 0), (46, .sipush 820, 3, 0, 0), (49, .iload_n 1, 1, 0, 0), (50, .imul, 1, 0, 0), (51, .iadd, 1, 0, 0), (52, .iconst 2, 1, 0, 0), (53, .iload 4, 2, 0, 0), (55, .imul, 1, 0, 0), (56, .iadd, 1, 0, 0), (57, .iaload, 1, 0, 0), (58, .istore 5, 2, 0, 0), (60, .aload_n 0, 1, 0, 0), (61, .getfield 7, 3, 12, 0), (64, .sipush 2660, 3, 0, 0), (67, .sipush 820, 3, 0, 0), (70, .iload_n 1, 1, 0, 0), (71, .imul, 1, 0, 0), (72, .iadd, 1, 0, 0), (73, .iconst 2, 1, 0, 0), (74, .iload 4, 2, 0, 0), (76, .imul, 1, 0, 0), (77, .iadd, 1, 0, 0), (78, .iconst 1, 1, 0, 0), (79, .iadd, 1, 0, 0), (80, .iaload, 1, 0, 0), (81, .istore 6, 2, 0, 0), (83, .iload 5, 2, 0, 0), (85, .bipush 13, 2, 0, 0), (87, .if_icmp .ge 32, 3, 0, 0), (90, .aload_n 0, 1, 0, 0), (91, .getfield 25, 3, 12, 6), (94, .iload_n 3, 1, 0, 0), (95, .iload 5, 2, 0, 0), (97, .ifCond .ne 8, 3, 0, 0), (100, .iload 6, 2, 0, 0), (102, .goto 10, 3, 0, 0), (105, .aload_n 0, 1, 0, 0), (106, .getfield 28, 3, 12, 7), (109, .iload 5, 2, 0, 0), (111, .iaload, 1, 0, 0), (112, .iastore, 1, 0, 0), (113, .iinc 3 1, 3, 0, 0), (116, .goto 84, 3, 0, 0), (119, .iload 5, 2, 0, 0), (121, .bipush 16, 2, 0, 0), (123, .if_icmp .ne 19, 3, 0, 0), (126, .aload_n 0, 1, 0, 0), (127, .getfield 25, 3, 12, 6), (130, .iload_n 3, 1, 0, 0), (131, .iconst 1, 1, 0, 0), (132, .isub, 1, 0, 0), (133, .dup2, 1, 0, 0), (134, .iaload, 1, 0, 0), (135, .iload 6, 2, 0, 0), (137, .idiv, 1, 0, 0), (138, .iastore, 1, 0, 0), (139, .goto 61, 3, 0, 0), (142, .iload 5, 2, 0, 0), (144, .bipush 20, 2, 0, 0), (146, .if_icmp .ne 24, 3, 0, 0), (149, .aload_n 0, 1, 0, 0), (150, .getfield 25, 3, 12, 6), (153, .iload_n 3, 1, 0, 0), (154, .iconst 1, 1, 0, 0), (155, .isub, 1, 0, 0), (156, .iconst 1, 1, 0, 0), (157, .aload_n 0, 1, 0, 0), (158, .getfield 25, 3, 12, 6), (161, .iload_n 3, 1, 0, 0), (162, .iconst 1, 1, 0, 0), (163, .isub, 1, 0, 0), (164, .iaload, 1, 0, 0), (165, .isub, 1, 0, 0), (166, .iastore, 1, 0, 0), (167, .goto 33, 3, 0, 0), (170, .iinc 3 (-1), 3, 0, 0), (173, .aload_n 0, 1, 0, 0), (174, .getfield 25, 3, 12, 6), (177, .iload_n 3, 1, 0, 0), (178, .iconst 1, 1, 0, 0), (179, .isub, 1, 0, 0), (180, .iload 5, 2, 0, 0), (182, .aload_n 0, 1, 0, 0), (183, .getfield 25, 3, 12, 6), (186, .iload_n 3, 1, 0, 0), (187, .iconst 1, 1, 0, 0), (188, .isub, 1, 0, 0), (189, .iaload, 1, 0, 0), (190, .aload_n 0, 1, 0, 0), (191, .getfield 25, 3, 12, 6), (194, .iload_n 3, 1, 0, 0), (195, .iaload, 1, 0, 0), (196, .invokestatic 270, 3, 220, 0), (199, .iastore, 1, 0, 0), (200, .iinc 4 1, 3, 0, 0), (203, .goto (-184), 3, 0, 0), (206, .aload_n 0, 1, 0, 0), (207, .getfield 25, 3, 12, 6), (210, .iconst 0, 1, 0, 0), (211, .iaload, 1, 0, 0), (212, .iconst 1, 1, 0, 0), (213, .if_icmp .ne 7, 3, 0, 0), (216, .iconst 1, 1, 0, 0), (217, .goto 4, 3, 0, 0), (220, .iconst 0, 1, 0, 0), (221, .ireturn, 1, 0, 0)]
set_option maxRecDepth 100000 in
theorem ck221 : codeOK 221 cd221 := ⟨by decide, by decide +kernel⟩
/-- CountedTwiceModel.entry(IIIIII)I -/
def cd222 : List Ent := [(0, .aload_n 0, 1, 0, 0), (1, .getfield 128, 3, 12, 11), (4, .istore 7, 2, 0, 0), (6, .aload_n 0, 1, 0, 0), (7, .iconst 0, 1, 0, 0), (8, .putfield 128, 3, 12, 11), (11, .iload_n 1, 1, 0, 0), (12, .iconst 0, 1, 0, 0), (13, .iconst 1, 1, 0, 0), (14, .invokestatic 100, 3, 181, 0), (17, .ifCond .eq 77, 3, 0, 0), (20, .iload_n 2, 1, 0, 0), (21, .iconst 0, 1, 0, 0), (22, .bipush 10, 2, 0, 0), (24, .invokestatic 100, 3, 181, 0), (27, .ifCond .eq 67, 3, 0, 0), (30, .aload_n 0, 1, 0, 0), (31, .iload_n 3, 1, 0, 0), (32, .invokevirtual 122, 3, 185, 0), (35, .ifCond .eq 59, 3, 0, 0), (38, .iload 4, 2, 0, 0), (40, .iconst 0, 1, 0, 0), (41, .bipush 99, 2, 0, 0), (43, .invokestatic 100, 3, 181, 0), (46, .ifCond .eq 48, 3, 0, 0), (49, .iload 5, 2, 0, 0), (51, .iconst 0, 1, 0, 0), (52, .sipush 1439, 3, 0, 0), (55, .invokestatic 100, 3, 181, 0), (58, .ifCond .eq 36, 3, 0, 0), (61, .iload 6, 2, 0, 0), (63, .iconst 0, 1, 0, 0), (64, .bipush 119, 2, 0, 0), (66, .invokestatic 100, 3, 181, 0), (69, .ifCond .eq 25, 3, 0, 0), (72, .iload 7, 2, 0, 0), (74, .iconst 1, 1, 0, 0), (75, .bipush 8, 2, 0, 0), (77, .invokestatic 100, 3, 181, 0), (80, .ifCond .eq 14, 3, 0, 0), (83, .aload_n 0, 1, 0, 0), (84, .getfield 7, 3, 12, 0), (87, .iconst 4, 1, 0, 0), (88, .iaload, 1, 0, 0), (89, .bipush 120, 2, 0, 0), (91, .if_icmp .ne 5, 3, 0, 0), (94, .iconst (-1), 1, 0, 0), (95, .ireturn, 1, 0, 0), (96, .iconst 0, 1, 0, 0), (97, .istore 8, 2, 0, 0), (99, .iload 8, 2, 0, 0), (101, .iload 7, 2, 0, 0), (103, .if_icmp .ge 28, 3, 0, 0), (106, .aload_n 0, 1, 0, 0), (107, .getfield 22, 3, 12, 5), (110, .iload 8, 2, 0, 0), (112, .iaload, 1, 0, 0), (113, .bipush 97, 2, 0, 0), (115, .bipush 122, 2, 0, 0), (117, .invokestatic 100, 3, 181, 0), (120, .ifCond .ne 5, 3, 0, 0), (123, .iconst (-1), 1, 0, 0), (124, .ireturn, 1, 0, 0), (125, .iinc 8 1, 3, 0, 0), (128, .goto (-29), 3, 0, 0), (131, .sipush 450, 3, 0, 0), (134, .bipush 17, 2, 0, 0), (136, .aload_n 0, 1, 0, 0), (137, .getfield 7, 3, 12, 0), (140, .iconst 4, 1, 0, 0), (141, .iaload, 1, 0, 0), (142, .imul, 1, 0, 0), (143, .iadd, 1, 0, 0), (144, .istore 8, 2, 0, 0), (146, .aload_n 0, 1, 0, 0), (147, .getfield 7, 3, 12, 0), (150, .iconst 5, 1, 0, 0), (151, .dup2, 1, 0, 0), (152, .iaload, 1, 0, 0), (153, .iconst 1, 1, 0, 0), (154, .iadd, 1, 0, 0), (155, .iastore, 1, 0, 0), (156, .aload_n 0, 1, 0, 0), (157, .getfield 7, 3, 12, 0), (160, .iload 8, 2, 0, 0), (162, .iconst 0, 1, 0, 0), (163, .iadd, 1, 0, 0), (164, .iload_n 1, 1, 0, 0), (165, .iastore, 1, 0, 0), (166, .aload_n 0, 1, 0, 0), (167, .getfield 7, 3, 12, 0), (170, .iload 8, 2, 0, 0), (172, .iconst 1, 1, 0, 0), (173, .iadd, 1, 0, 0), (174, .iload_n 2, 1, 0, 0), (175, .iastore, 1, 0, 0), (176, .aload_n 0, 1, 0, 0), (177, .getfield 7, 3, 12, 0), (180, .iload 8, 2, 0, 0), (182, .iconst 2, 1, 0, 0), (183, .iadd, 1, 0, 0), (184, .iload_n 3, 1, 0, 0), (185, .iastore, 1, 0, 0), (186, .aload_n 0, 1, 0, 0), (187, .getfield 7, 3, 12, 0), (190, .iload 8, 2, 0, 0), (192, .iconst 3, 1, 0, 0), (193, .iadd, 1, 0, 0), (194, .iload 4, 2, 0, 0), (196, .iastore, 1, 0, 0), (197, .aload_n 0, 1, 0, 0), (198, .getfield 7, 3, 12, 0), (201, .iload 8, 2, 0, 0), (203, .iconst 4, 1, 0, 0), (204, .iadd, 1, 0, 0), (205, .iload 5, 2, 0, 0), (207, .iastore, 1, 0, 0), (208, .aload_n 0, 1, 0, 0), (209, .getfield 7, 3, 12, 0), (212, .iload 8, 2, 0, 0), (214, .iconst 5, 1, 0, 0), (215, .iadd, 1, 0, 0), (216, .iload 6, 2, 0, 0), (218, .iastore, 1, 0, 0), (219, .aload_n 0, 1, 0, 0), (220, .getfield 7, 3, 12, 0), (223, .iload 8, 2, 0, 0), (225, .bipush 6, 2, 0, 0), (227, .iadd, 1, 0, 0), (228, .aload_n 0, 1, 0, 0), (229, .getfield 7, 3, 12, 0), (232, .iconst 5, 1, 0, 0), (233, .iaload, 1, 0, 0), (234, .iastore, 1, 0, 0), (235, .aload_n 0, 1, 0, 0), (236, .getfield 7, 3, 12, 0), (239, .iload 8, 2, 0, 0), (241, .bipush 7, 2, 0, 0), (243, .iadd, 1, 0, 0), (244, .iconst 0, 1, 0, 0), (245, .iastore, 1, 0, 0), (246, .aload_n 0, 1, 0, 0), (247, .getfield 7, 3, 12, 0), (250, .iload 8, 2, 0, 0), (252, .bipush 8, 2, 0, 0), (254, .iadd, 1, 0, 0), (255, .iload 7, 2, 0, 0), (257, .iastore, 1, 0, 0), (258, .iconst 0, 1, 0, 0), (259, .istore 9, 2, 0, 0), (261, .iload 9, 2, 0, 0), (263, .iload 7, 2, 0, 0), (265, .if_icmp .ge 32, 3, 0, 0), (268, .aload_n 0, 1, 0, 0), (269, .getfield 7, 3, 12, 0), (272, .iload 8, 2, 0, 0), (274, .bipush 9, 2, 0, 0), (276, .iadd, 1, 0, 0), (277, .iload 9, 2, 0, 0), (279, .iadd, 1, 0, 0), (280, .aload_n 0, 1, 0, 0), (281, .getfield 22, 3, 12, 5), (284, .iload 9, 2, 0, 0), (286, .iaload, 1, 0, 0), (287, .bipush 97, 2, 0, 0), (289, .isub, 1, 0, 0), (290, .iastore, 1, 0, 0), (291, .iinc 9 1, 3, 0, 0), (294, .goto (-33), 3, 0, 0), (297, .aload_n 0, 1, 0, 0), (298, .getfield 7, 3, 12, 0), (301, .iconst 4, 1, 0, 0), (302, .dup2, 1, 0, 0), (303, .iaload, 1, 0, 0), (304, .iconst 1, 1, 0, 0), (305, .iadd, 1, 0, 0), (306, .iastore, 1, 0, 0), (307, .aload_n 0, 1, 0, 0), (308, .getfield 7, 3, 12, 0), (311, .iconst 4, 1, 0, 0), (312, .iaload, 1, 0, 0), (313, .iconst 1, 1, 0, 0), (314, .isub, 1, 0, 0), (315, .ireturn, 1, 0, 0)]
set_option maxRecDepth 100000 in
theorem ck222 : codeOK 222 cd222 := ⟨by decide, by decide +kernel⟩
/-- CountedTwiceModel.voids(I)Z -/
def cd223 : List Ent := [(0, .aload_n 0, 1, 0, 0), (1, .iload_n 1, 1, 0, 0), (2, .invokevirtual 274, 3, 187, 0), (5, .ifCond .eq 13, 3, 0, 0), (8, .aload_n 0, 1, 0, 0), (9, .iload_n 1, 1, 0, 0), (10, .bipush 7, 2, 0, 0), (12, .invokevirtual 277, 3, 188, 0), (15, .ifCond .le 5, 3, 0, 0), (18, .iconst 0, 1, 0, 0), (19, .ireturn, 1, 0, 0), (20, .aload_n 0, 1, 0, 0), (21, .getfield 7, 3, 12, 0), (24, .iconst 5, 1, 0, 0), (25, .dup2, 1, 0, 0), (26, .iaload, 1, 0, 0), (27, .iconst 1, 1, 0, 0), (28, .iadd, 1, 0, 0), (29, .iastore, 1, 0, 0), (30, .aload_n 0, 1, 0, 0), (31, .getfield 7, 3, 12, 0), (34, .sipush 450, 3, 0, 0), (37, .bipush 17, 2, 0, 0), (39, .iload_n 1, 1, 0, 0), (40, .imul, 1, 0, 0), (41, .iadd, 1, 0, 0), (42, .bipush 7, 2, 0, 0), (44, .iadd, 1, 0, 0), (45, .aload_n 0, 1, 0, 0), (46, .getfield 7, 3, 12, 0), (49, .iconst 5, 1, 0, 0), (50, .iaload, 1, 0, 0), (51, .iastore, 1, 0, 0), (52, .iconst 1, 1, 0, 0), (53, .ireturn, 1, 0, 0)]
set_option maxRecDepth 100000 in
theorem ck223 : codeOK 223 cd223 := ⟨by decide, by decide +kernel⟩
/-- CountedTwiceModel.view(I)Z -/
def cd224 : List Ent := [(0, .iload_n 1, 1, 0, 0), (1, .iconst (-1), 1, 0, 0), (2, .aload_n 0, 1, 0, 0), (3, .getfield 7, 3, 12, 0), (6, .iconst 5, 1, 0, 0), (7, .iaload, 1, 0, 0), (8, .invokestatic 100, 3, 181, 0), (11, .ifCond .ne 5, 3, 0, 0), (14, .iconst 0, 1, 0, 0), (15, .ireturn, 1, 0, 0), (16, .aload_n 0, 1, 0, 0), (17, .getfield 7, 3, 12, 0), (20, .bipush 6, 2, 0, 0), (22, .iload_n 1, 1, 0, 0), (23, .iastore, 1, 0, 0), (24, .iconst 1, 1, 0, 0), (25, .ireturn, 1, 0, 0)]
set_option maxRecDepth 100000 in
theorem ck224 : codeOK 224 cd224 := ⟨by decide, by decide +kernel⟩
/-- CountedTwiceModel.isKnown(I)Z -/
def cd225 : List Ent := [(0, .aload_n 0, 1, 0, 0), (1, .getfield 7, 3, 12, 0), (4, .bipush 6, 2, 0, 0), (6, .iaload, 1, 0, 0), (7, .iconst (-1), 1, 0, 0), (8, .if_icmp .ne 12, 3, 0, 0), (11, .aload_n 0, 1, 0, 0), (12, .getfield 7, 3, 12, 0), (15, .iconst 5, 1, 0, 0), (16, .iaload, 1, 0, 0), (17, .goto 10, 3, 0, 0), (20, .aload_n 0, 1, 0, 0), (21, .getfield 7, 3, 12, 0), (24, .bipush 6, 2, 0, 0), (26, .iaload, 1, 0, 0), (27, .istore_n 2, 1, 0, 0), (28, .aload_n 0, 1, 0, 0), (29, .iload_n 1, 1, 0, 0), (30, .bipush 6, 2, 0, 0), (32, .invokevirtual 277, 3, 188, 0), (35, .iload_n 2, 1, 0, 0), (36, .if_icmp .gt 28, 3, 0, 0), (39, .aload_n 0, 1, 0, 0), (40, .iload_n 1, 1, 0, 0), (41, .bipush 7, 2, 0, 0), (43, .invokevirtual 277, 3, 188, 0), (46, .ifCond .eq 14, 3, 0, 0), (49, .aload_n 0, 1, 0, 0), (50, .iload_n 1, 1, 0, 0), (51, .bipush 7, 2, 0, 0), (53, .invokevirtual 277, 3, 188, 0), (56, .iload_n 2, 1, 0, 0), (57, .if_icmp .le 7, 3, 0, 0), (60, .iconst 1, 1, 0, 0), (61, .goto 4, 3, 0, 0), (64, .iconst 0, 1, 0, 0), (65, .ireturn, 1, 0, 0)]
set_option maxRecDepth 100000 in
theorem ck225 : codeOK 225 cd225 := ⟨by decide, by decide +kernel⟩
/-- CountedTwiceModel.letters(II)I -/
def cd226 : List Ent := [(0, .aload_n 0, 1, 0, 0), (1, .iload_n 2, 1, 0, 0), (2, .bipush 8, 2, 0, 0), (4, .invokevirtual 277, 3, 188, 0), (7, .istore_n 3, 1, 0, 0), (8, .iconst 0, 1, 0, 0), (9, .istore 4, 2, 0, 0), (11, .iload 4, 2, 0, 0), (13, .iload_n 3, 1, 0, 0), (14, .if_icmp .gt 18, 3, 0, 0), (17, .aload_n 0, 1, 0, 0), (18, .getfield 35, 3, 12, 21), (21, .iload 4, 2, 0, 0), (23, .iload 4, 2, 0, 0), (25, .iastore, 1, 0, 0), (26, .iinc 4 1, 3, 0, 0), (29, .goto (-18), 3, 0, 0), (32, .iconst 1, 1, 0, 0), (33, .istore 4, 2, 0, 0), (35, .iload 4, 2, 0, 0), (37, .aload_n 0, 1, 0, 0), (38, .iload_n 1, 1, 0, 0), (39, .bipush 8, 2, 0, 0), (41, .invokevirtual 277, 3, 188, 0), (44, .if_icmp .gt 174, 3, 0, 0), (47, .aload_n 0, 1, 0, 0), (48, .getfield 38, 3, 12, 22), (51, .iconst 0, 1, 0, 0), (52, .iload 4, 2, 0, 0), (54, .iastore, 1, 0, 0), (55, .iconst 1, 1, 0, 0), (56, .istore 5, 2, 0, 0), (58, .iload 5, 2, 0, 0), (60, .iload_n 3, 1, 0, 0), (61, .if_icmp .gt 122, 3, 0, 0), (64, .aload_n 0, 1, 0, 0), (65, .getfield 35, 3, 12, 21), (68, .iload 5, 2, 0, 0), (70, .iconst 1, 1, 0, 0), (71, .isub, 1, 0, 0), (72, .iaload, 1, 0, 0), (73, .aload_n 0, 1, 0, 0), (74, .iload_n 1, 1, 0, 0), (75, .bipush 9, 2, 0, 0), (77, .iload 4, 2, 0, 0), (79, .iadd, 1, 0, 0), (80, .iconst 1, 1, 0, 0), (81, .isub, 1, 0, 0), (82, .invokevirtual 277, 3, 188, 0), (85, .aload_n 0, 1, 0, 0), (86, .iload_n 2, 1, 0, 0), (87, .bipush 9, 2, 0, 0), (89, .iload 5, 2, 0, 0), (91, .iadd, 1, 0, 0), (92, .iconst 1, 1, 0, 0), (93, .isub, 1, 0, 0), (94, .invokevirtual 277, 3, 188, 0), (97, .if_icmp .ne 7, 3, 0, 0), (100, .iconst 0, 1, 0, 0), (101, .goto 4, 3, 0, 0), (104, .iconst 1, 1, 0, 0), (105, .iadd, 1, 0, 0), (106, .istore 6, 2, 0, 0), (108, .aload_n 0, 1, 0, 0), (109, .getfield 35, 3, 12, 21), (112, .iload 5, 2, 0, 0), (114, .iaload, 1, 0, 0), (115, .iconst 1, 1, 0, 0), (116, .iadd, 1, 0, 0), (117, .iload 6, 2, 0, 0), (119, .if_icmp .ge 15, 3, 0, 0), (122, .aload_n 0, 1, 0, 0), (123, .getfield 35, 3, 12, 21), (126, .iload 5, 2, 0, 0), (128, .iaload, 1, 0, 0), (129, .iconst 1, 1, 0, 0), (130, .iadd, 1, 0, 0), (131, .goto 5, 3, 0, 0), (134, .iload 6, 2, 0, 0), (136, .istore 6, 2, 0, 0), (138, .aload_n 0, 1, 0, 0), (139, .getfield 38, 3, 12, 22), (142, .iload 5, 2, 0, 0), (144, .aload_n 0, 1, 0, 0), (145, .getfield 38, 3, 12, 22), (148, .iload 5, 2, 0, 0), (150, .iconst 1, 1, 0, 0), (151, .isub, 1, 0, 0), (152, .iaload, 1, 0, 0), (153, .iconst 1, 1, 0, 0), (154, .iadd, 1, 0, 0), (155, .iload 6, 2, 0, 0), (157, .if_icmp .ge 17, 3, 0, 0), (160, .aload_n 0, 1, 0, 0), (161, .getfield 38, 3, 12, 22), (164, .iload 5, 2, 0, 0), (166, .iconst 1, 1, 0, 0), (167, .isub, 1, 0, 0), (168, .iaload, 1, 0, 0), (169, .iconst 1, 1, 0, 0), (170, .iadd, 1, 0, 0), (171, .goto 5, 3, 0, 0), (174, .iload 6, 2, 0, 0), (176, .iastore, 1, 0, 0), (177, .iinc 5 1, 3, 0, 0), (180, .goto (-122), 3, 0, 0), (183, .iconst 0, 1, 0, 0), (184, .istore 5, 2, 0, 0), (186, .iload 5, 2, 0, 0), (188, .iload_n 3, 1, 0, 0), (189, .if_icmp .gt 23, 3, 0, 0), (192, .aload_n 0, 1, 0, 0), (193, .getfield 35, 3, 12, 21), (196, .iload 5, 2, 0, 0), (198, .aload_n 0, 1, 0, 0), (199, .getfield 38, 3, 12, 22), (202, .iload 5, 2, 0, 0), (204, .iaload, 1, 0, 0), (205, .iastore, 1, 0, 0), (206, .iinc 5 1, 3, 0, 0), (209, .goto (-23), 3, 0, 0), (212, .iinc 4 1, 3, 0, 0), (215, .goto (-180), 3, 0, 0), (218, .aload_n 0, 1, 0, 0), (219, .getfield 35, 3, 12, 21), (222, .iload_n 3, 1, 0, 0), (223, .iaload, 1, 0, 0), (224, .ireturn, 1, 0, 0)]
set_option maxRecDepth 100000 in
theorem ck226 : codeOK 226 cd226 := ⟨by decide, by decide +kernel⟩
end
section
/-- CountedTwiceModel.areAlike(III)Z -/
def cd227 : List Ent := [(0, .aload_n 0, 1, 0, 0), (1, .getfield 7, 3, 12, 0), (4, .sipush 2500, 3, 0, 0), (7, .iload_n 1, 1, 0, 0), (8, .iadd, 1, 0, 0), (9, .iaload, 1, 0, 0), (10, .ifCond .ne 5, 3, 0, 0), (13, .iconst 0, 1, 0, 0), (14, .ireturn, 1, 0, 0), (15, .aload_n 0, 1, 0, 0), (16, .getfield 28, 3, 12, 7), (19, .iconst 1, 1, 0, 0), (20, .aload_n 0, 1, 0, 0), (21, .iload_n 2, 1, 0, 0), (22, .iload_n 3, 1, 0, 0), (23, .invokevirtual 280, 3, 226, 0), (26, .iastore, 1, 0, 0), (27, .aload_n 0, 1, 0, 0), (28, .getfield 28, 3, 12, 7), (31, .iconst 2, 1, 0, 0), (32, .aload_n 0, 1, 0, 0), (33, .iload_n 2, 1, 0, 0), (34, .bipush 9, 2, 0, 0), (36, .invokevirtual 277, 3, 188, 0), (39, .aload_n 0, 1, 0, 0), (40, .iload_n 3, 1, 0, 0), (41, .bipush 9, 2, 0, 0), (43, .invokevirtual 277, 3, 188, 0), (46, .if_icmp .ne 7, 3, 0, 0), (49, .iconst 1, 1, 0, 0), (50, .goto 4, 3, 0, 0), (53, .iconst 0, 1, 0, 0), (54, .iastore, 1, 0, 0), (55, .aload_n 0, 1, 0, 0), (56, .getfield 28, 3, 12, 7), (59, .iconst 3, 1, 0, 0), (60, .aload_n 0, 1, 0, 0), (61, .iload_n 2, 1, 0, 0), (62, .iconst 5, 1, 0, 0), (63, .invokevirtual 277, 3, 188, 0), (66, .aload_n 0, 1, 0, 0), (67, .iload_n 3, 1, 0, 0), (68, .iconst 5, 1, 0, 0), (69, .invokevirtual 277, 3, 188, 0), (72, .invokestatic 115, 3, 182, 0), (75, .iastore, 1, 0, 0), (76, .aload_n 0, 1, 0, 0), (77, .getfield 28, 3, 12, 7), (80, .iconst 4, 1, 0, 0), (81, .aload_n 0, 1, 0, 0), (82, .aload_n 0, 1, 0, 0), (83, .iload_n 2, 1, 0, 0), (84, .iconst 2, 1, 0, 0), (85, .invokevirtual 277, 3, 188, 0), (88, .aload_n 0, 1, 0, 0), (89, .iload_n 3, 1, 0, 0), (90, .iconst 2, 1, 0, 0), (91, .invokevirtual 277, 3, 188, 0), (94, .invokevirtual 119, 3, 194, 0), (97, .iastore, 1, 0, 0), (98, .aload_n 0, 1, 0, 0), (99, .getfield 28, 3, 12, 7), (102, .iconst 5, 1, 0, 0), (103, .aload_n 0, 1, 0, 0), (104, .iload_n 2, 1, 0, 0), (105, .iconst 3, 1, 0, 0), (106, .invokevirtual 277, 3, 188, 0), (109, .aload_n 0, 1, 0, 0), (110, .iload_n 3, 1, 0, 0), (111, .iconst 3, 1, 0, 0), (112, .invokevirtual 277, 3, 188, 0), (115, .invokestatic 115, 3, 182, 0), (118, .iastore, 1, 0, 0), (119, .aload_n 0, 1, 0, 0), (120, .getfield 28, 3, 12, 7), (123, .bipush 6, 2, 0, 0), (125, .aload_n 0, 1, 0, 0), (126, .iload_n 2, 1, 0, 0), (127, .iconst 0, 1, 0, 0), (128, .invokevirtual 277, 3, 188, 0), (131, .aload_n 0, 1, 0, 0), (132, .iload_n 3, 1, 0, 0), (133, .iconst 0, 1, 0, 0), (134, .invokevirtual 277, 3, 188, 0), (137, .if_icmp .ne 22, 3, 0, 0), (140, .aload_n 0, 1, 0, 0), (141, .iload_n 2, 1, 0, 0), (142, .iconst 1, 1, 0, 0), (143, .invokevirtual 277, 3, 188, 0), (146, .aload_n 0, 1, 0, 0), (147, .iload_n 3, 1, 0, 0), (148, .iconst 1, 1, 0, 0), (149, .invokevirtual 277, 3, 188, 0), (152, .if_icmp .ne 7, 3, 0, 0), (155, .iconst 1, 1, 0, 0), (156, .goto 4, 3, 0, 0), (159, .iconst 0, 1, 0, 0), (160, .iastore, 1, 0, 0), (161, .aload_n 0, 1, 0, 0), (162, .getfield 28, 3, 12, 7), (165, .bipush 7, 2, 0, 0), (167, .aload_n 0, 1, 0, 0), (168, .iload_n 2, 1, 0, 0), (169, .iconst 2, 1, 0, 0), (170, .invokevirtual 277, 3, 188, 0), (173, .aload_n 0, 1, 0, 0), (174, .iload_n 3, 1, 0, 0), (175, .iconst 2, 1, 0, 0), (176, .invokevirtual 277, 3, 188, 0), (179, .if_icmp .ne 7, 3, 0, 0), (182, .iconst 1, 1, 0, 0), (183, .goto 4, 3, 0, 0), (186, .iconst 0, 1, 0, 0), (187, .iastore, 1, 0, 0), (188, .iconst 0, 1, 0, 0), (189, .istore 4, 2, 0, 0), (191, .iload 4, 2, 0, 0), (193, .aload_n 0, 1, 0, 0), (194, .getfield 7, 3, 12, 0), (197, .sipush 2500, 3, 0, 0), (200, .iload_n 1, 1, 0, 0), (201, .iadd, 1, 0, 0), (202, .iaload, 1, 0, 0), (203, .if_icmp .ge 21, 3, 0, 0), (206, .aload_n 0, 1, 0, 0), (207, .iload_n 1, 1, 0, 0), (208, .iload 4, 2, 0, 0), (210, .invokevirtual 282, 3, 221, 0), (213, .ifCond .eq 5, 3, 0, 0), (216, .iconst 1, 1, 0, 0), (217, .ireturn, 1, 0, 0), (218, .iinc 4 1, 3, 0, 0), (221, .goto (-30), 3, 0, 0), (224, .iconst 0, 1, 0, 0), (225, .ireturn, 1, 0, 0)]
set_option maxRecDepth 100000 in
theorem ck227 : codeOK 227 cd227 := ⟨by decide, by decide +kernel⟩
/-- CountedTwiceModel.alike(III)I -/
def cd228 : List Ent := [(0, .aload_n 0, 1, 0, 0), (1, .iload_n 1, 1, 0, 0), (2, .invokevirtual 274, 3, 187, 0), (5, .ifCond .eq 25, 3, 0, 0), (8, .aload_n 0, 1, 0, 0), (9, .iload_n 2, 1, 0, 0), (10, .invokevirtual 274, 3, 187, 0), (13, .ifCond .eq 17, 3, 0, 0), (16, .iload_n 1, 1, 0, 0), (17, .iload_n 2, 1, 0, 0), (18, .if_icmp .eq 12, 3, 0, 0), (21, .iload_n 3, 1, 0, 0), (22, .iconst 0, 1, 0, 0), (23, .iconst 3, 1, 0, 0), (24, .invokestatic 100, 3, 181, 0), (27, .ifCond .ne 5, 3, 0, 0), (30, .iconst (-1), 1, 0, 0), (31, .ireturn, 1, 0, 0), (32, .iload_n 3, 1, 0, 0), (33, .iconst 2, 1, 0, 0), (34, .if_icmp .ne 10, 3, 0, 0), (37, .aload_n 0, 1, 0, 0), (38, .iload_n 1, 1, 0, 0), (39, .iload_n 2, 1, 0, 0), (40, .invokevirtual 280, 3, 226, 0), (43, .ireturn, 1, 0, 0), (44, .iload_n 3, 1, 0, 0), (45, .iconst 3, 1, 0, 0), (46, .if_icmp .ne 22, 3, 0, 0), (49, .aload_n 0, 1, 0, 0), (50, .aload_n 0, 1, 0, 0), (51, .iload_n 1, 1, 0, 0), (52, .iconst 2, 1, 0, 0), (53, .invokevirtual 277, 3, 188, 0), (56, .aload_n 0, 1, 0, 0), (57, .iload_n 2, 1, 0, 0), (58, .iconst 2, 1, 0, 0), (59, .invokevirtual 277, 3, 188, 0), (62, .invokevirtual 119, 3, 194, 0), (65, .goto 18, 3, 0, 0), (68, .aload_n 0, 1, 0, 0), (69, .iload_n 3, 1, 0, 0), (70, .iload_n 1, 1, 0, 0), (71, .iload_n 2, 1, 0, 0), (72, .invokevirtual 286, 3, 227, 0), (75, .ifCond .eq 7, 3, 0, 0), (78, .iconst 1, 1, 0, 0), (79, .goto 4, 3, 0, 0), (82, .iconst 0, 1, 0, 0), (83, .ireturn, 1, 0, 0)]
set_option maxRecDepth 100000 in
theorem ck228 : codeOK 228 cd228 := ⟨by decide, by decide +kernel⟩
/-- CountedTwiceModel.isHome(III)Z -/
def cd229 : List Ent := [(0, .aload_n 0, 1, 0, 0), (1, .getfield 28, 3, 12, 7), (4, .bipush 8, 2, 0, 0), (6, .iload_n 3, 1, 0, 0), (7, .bipush 60, 2, 0, 0), (9, .idiv, 1, 0, 0), (10, .iastore, 1, 0, 0), (11, .aload_n 0, 1, 0, 0), (12, .getfield 28, 3, 12, 7), (15, .bipush 9, 2, 0, 0), (17, .iload_n 2, 1, 0, 0), (18, .iastore, 1, 0, 0), (19, .aload_n 0, 1, 0, 0), (20, .getfield 28, 3, 12, 7), (23, .bipush 10, 2, 0, 0), (25, .aload_n 0, 1, 0, 0), (26, .iload_n 1, 1, 0, 0), (27, .invokevirtual 108, 3, 189, 0), (30, .iastore, 1, 0, 0), (31, .aload_n 0, 1, 0, 0), (32, .getfield 28, 3, 12, 7), (35, .bipush 11, 2, 0, 0), (37, .aload_n 0, 1, 0, 0), (38, .iload_n 1, 1, 0, 0), (39, .invokevirtual 112, 3, 190, 0), (42, .iastore, 1, 0, 0), (43, .aload_n 0, 1, 0, 0), (44, .getfield 28, 3, 12, 7), (47, .bipush 12, 2, 0, 0), (49, .aload_n 0, 1, 0, 0), (50, .getfield 7, 3, 12, 0), (53, .sipush 220, 3, 0, 0), (56, .iconst 3, 1, 0, 0), (57, .iload_n 1, 1, 0, 0), (58, .imul, 1, 0, 0), (59, .iadd, 1, 0, 0), (60, .iconst 2, 1, 0, 0), (61, .iadd, 1, 0, 0), (62, .iaload, 1, 0, 0), (63, .iastore, 1, 0, 0), (64, .iconst 0, 1, 0, 0), (65, .istore 4, 2, 0, 0), (67, .iload 4, 2, 0, 0), (69, .aload_n 0, 1, 0, 0), (70, .getfield 7, 3, 12, 0), (73, .sipush 2502, 3, 0, 0), (76, .iaload, 1, 0, 0), (77, .if_icmp .ge 40, 3, 0, 0), (80, .aload_n 0, 1, 0, 0), (81, .iconst 2, 1, 0, 0), (82, .iload 4, 2, 0, 0), (84, .invokevirtual 282, 3, 221, 0), (87, .ifCond .eq 24, 3, 0, 0), (90, .aload_n 0, 1, 0, 0), (91, .getfield 7, 3, 12, 0), (94, .sipush 2642, 3, 0, 0), (97, .iload 4, 2, 0, 0), (99, .iadd, 1, 0, 0), (100, .iaload, 1, 0, 0), (101, .iconst 1, 1, 0, 0), (102, .if_icmp .ne 7, 3, 0, 0), (105, .iconst 1, 1, 0, 0), (106, .goto 4, 3, 0, 0), (109, .iconst 0, 1, 0, 0), (110, .ireturn, 1, 0, 0), (111, .iinc 4 1, 3, 0, 0), (114, .goto (-47), 3, 0, 0), (117, .iconst 1, 1, 0, 0), (118, .ireturn, 1, 0, 0)]
set_option maxRecDepth 100000 in
theorem ck229 : codeOK 229 cd229 := ⟨by decide, by decide +kernel⟩
/-- CountedTwiceModel.home(III)I -/
def cd230 : List Ent := [(0, .aload_n 0, 1, 0, 0), (1, .iload_n 1, 1, 0, 0), (2, .invokevirtual 122, 3, 185, 0), (5, .ifCond .eq 24, 3, 0, 0), (8, .iload_n 2, 1, 0, 0), (9, .iconst 0, 1, 0, 0), (10, .bipush 99, 2, 0, 0), (12, .invokestatic 100, 3, 181, 0), (15, .ifCond .eq 14, 3, 0, 0), (18, .iload_n 3, 1, 0, 0), (19, .iconst 0, 1, 0, 0), (20, .sipush 1439, 3, 0, 0), (23, .invokestatic 100, 3, 181, 0), (26, .ifCond .ne 7, 3, 0, 0), (29, .iconst (-1), 1, 0, 0), (30, .goto 18, 3, 0, 0), (33, .aload_n 0, 1, 0, 0), (34, .iload_n 1, 1, 0, 0), (35, .iload_n 2, 1, 0, 0), (36, .iload_n 3, 1, 0, 0), (37, .invokevirtual 289, 3, 229, 0), (40, .ifCond .eq 7, 3, 0, 0), (43, .iconst 1, 1, 0, 0), (44, .goto 4, 3, 0, 0), (47, .iconst 0, 1, 0, 0), (48, .ireturn, 1, 0, 0)]
set_option maxRecDepth 100000 in
theorem ck230 : codeOK 230 cd230 := ⟨by decide, by decide +kernel⟩
/-- CountedTwiceModel.laysPersons()V -/
def cd231 : List Ent := [(0, .aload_n 0, 1, 0, 0), (1, .iconst 0, 1, 0, 0), (2, .putfield 292, 3, 12, 26), (5, .iconst 0, 1, 0, 0), (6, .istore_n 1, 1, 0, 0), (7, .iload_n 1, 1, 0, 0), (8, .aload_n 0, 1, 0, 0), (9, .getfield 7, 3, 12, 0), (12, .iconst 4, 1, 0, 0), (13, .iaload, 1, 0, 0), (14, .if_icmp .ge 16, 3, 0, 0), (17, .aload_n 0, 1, 0, 0), (18, .getfield 41, 3, 12, 23), (21, .iload_n 1, 1, 0, 0), (22, .iconst (-1), 1, 0, 0), (23, .iastore, 1, 0, 0), (24, .iinc 1 1, 3, 0, 0), (27, .goto (-20), 3, 0, 0), (30, .iconst 0, 1, 0, 0), (31, .istore_n 1, 1, 0, 0), (32, .iload_n 1, 1, 0, 0), (33, .aload_n 0, 1, 0, 0), (34, .getfield 7, 3, 12, 0), (37, .iconst 4, 1, 0, 0), (38, .iaload, 1, 0, 0), (39, .if_icmp .ge 163, 3, 0, 0), (42, .aload_n 0, 1, 0, 0), (43, .getfield 41, 3, 12, 23), (46, .iload_n 1, 1, 0, 0), (47, .iaload, 1, 0, 0), (48, .iconst (-1), 1, 0, 0), (49, .if_icmp .ne 147, 3, 0, 0), (52, .aload_n 0, 1, 0, 0), (53, .iload_n 1, 1, 0, 0), (54, .invokevirtual 295, 3, 225, 0), (57, .ifCond .ne 6, 3, 0, 0), (60, .goto 136, 3, 0, 0), (63, .aload_n 0, 1, 0, 0), (64, .getfield 41, 3, 12, 23), (67, .iload_n 1, 1, 0, 0), (68, .aload_n 0, 1, 0, 0), (69, .getfield 292, 3, 12, 26), (72, .iastore, 1, 0, 0), (73, .aload_n 0, 1, 0, 0), (74, .getfield 44, 3, 12, 24), (77, .aload_n 0, 1, 0, 0), (78, .getfield 292, 3, 12, 26), (81, .iload_n 1, 1, 0, 0), (82, .iastore, 1, 0, 0), (83, .aload_n 0, 1, 0, 0), (84, .getfield 47, 3, 12, 25), (87, .iconst 0, 1, 0, 0), (88, .iload_n 1, 1, 0, 0), (89, .iastore, 1, 0, 0), (90, .iconst 1, 1, 0, 0), (91, .istore_n 2, 1, 0, 0), (92, .iconst 0, 1, 0, 0), (93, .istore_n 3, 1, 0, 0), (94, .iload_n 3, 1, 0, 0), (95, .iload_n 2, 1, 0, 0), (96, .if_icmp .ge 90, 3, 0, 0), (99, .iconst 0, 1, 0, 0), (100, .istore 4, 2, 0, 0), (102, .iload 4, 2, 0, 0), (104, .aload_n 0, 1, 0, 0), (105, .getfield 7, 3, 12, 0), (108, .iconst 4, 1, 0, 0), (109, .iaload, 1, 0, 0), (110, .if_icmp .ge 70, 3, 0, 0), (113, .aload_n 0, 1, 0, 0), (114, .getfield 41, 3, 12, 23), (117, .iload 4, 2, 0, 0), (119, .iaload, 1, 0, 0), (120, .iconst (-1), 1, 0, 0), (121, .if_icmp .ne 53, 3, 0, 0), (124, .aload_n 0, 1, 0, 0), (125, .iload 4, 2, 0, 0), (127, .invokevirtual 295, 3, 225, 0), (130, .ifCond .eq 44, 3, 0, 0), (133, .aload_n 0, 1, 0, 0), (134, .iconst 0, 1, 0, 0), (135, .aload_n 0, 1, 0, 0), (136, .getfield 47, 3, 12, 25), (139, .iload_n 3, 1, 0, 0), (140, .iaload, 1, 0, 0), (141, .iload 4, 2, 0, 0), (143, .invokevirtual 286, 3, 227, 0), (146, .ifCond .ne 6, 3, 0, 0), (149, .goto 25, 3, 0, 0), (152, .aload_n 0, 1, 0, 0), (153, .getfield 41, 3, 12, 23), (156, .iload 4, 2, 0, 0), (158, .aload_n 0, 1, 0, 0), (159, .getfield 292, 3, 12, 26), (162, .iastore, 1, 0, 0), (163, .aload_n 0, 1, 0, 0), (164, .getfield 47, 3, 12, 25), (167, .iload_n 2, 1, 0, 0), (168, .iload 4, 2, 0, 0), (170, .iastore, 1, 0, 0), (171, .iinc 2 1, 3, 0, 0), (174, .iinc 4 1, 3, 0, 0), (177, .goto (-75), 3, 0, 0), (180, .iinc 3 1, 3, 0, 0), (183, .goto (-89), 3, 0, 0), (186, .aload_n 0, 1, 0, 0), (187, .dup, 1, 0, 0), (188, .getfield 292, 3, 12, 26), (191, .iconst 1, 1, 0, 0), (192, .iadd, 1, 0, 0), (193, .putfield 292, 3, 12, 26), (196, .iinc 1 1, 3, 0, 0), (199, .goto (-167), 3, 0, 0), (202, .return_, 1, 0, 0)]
set_option maxRecDepth 100000 in
theorem ck231 : codeOK 231 cd231 := ⟨by decide, by decide +kernel⟩
/-- CountedTwiceModel.whatIs(I)I -/
def cd232 : List Ent := [(0, .iconst (-1), 1, 0, 0), (1, .istore_n 2, 1, 0, 0), (2, .iconst 0, 1, 0, 0), (3, .istore_n 3, 1, 0, 0), (4, .iload_n 3, 1, 0, 0), (5, .aload_n 0, 1, 0, 0), (6, .getfield 7, 3, 12, 0), (9, .iconst 4, 1, 0, 0), (10, .iaload, 1, 0, 0), (11, .if_icmp .ge 45, 3, 0, 0), (14, .aload_n 0, 1, 0, 0), (15, .getfield 41, 3, 12, 23), (18, .iload_n 3, 1, 0, 0), (19, .iaload, 1, 0, 0), (20, .iload_n 1, 1, 0, 0), (21, .if_icmp .ne 29, 3, 0, 0), (24, .iload_n 2, 1, 0, 0), (25, .iconst (-1), 1, 0, 0), (26, .if_icmp .eq 13, 3, 0, 0), (29, .iload_n 2, 1, 0, 0), (30, .aload_n 0, 1, 0, 0), (31, .iload_n 3, 1, 0, 0), (32, .iconst 0, 1, 0, 0), (33, .invokevirtual 277, 3, 188, 0), (36, .if_icmp .ne 12, 3, 0, 0), (39, .aload_n 0, 1, 0, 0), (40, .iload_n 3, 1, 0, 0), (41, .iconst 0, 1, 0, 0), (42, .invokevirtual 277, 3, 188, 0), (45, .goto 4, 3, 0, 0), (48, .iconst 2, 1, 0, 0), (49, .istore_n 2, 1, 0, 0), (50, .iinc 3 1, 3, 0, 0), (53, .goto (-49), 3, 0, 0), (56, .iload_n 2, 1, 0, 0), (57, .ireturn, 1, 0, 0)]
set_option maxRecDepth 100000 in
theorem ck232 : codeOK 232 cd232 := ⟨by decide, by decide +kernel⟩
/-- CountedTwiceModel.housesOf(I)I -/
def cd233 : List Ent := [(0, .iconst 0, 1, 0, 0), (1, .istore_n 2, 1, 0, 0), (2, .iconst 0, 1, 0, 0), (3, .istore_n 3, 1, 0, 0), (4, .iload_n 3, 1, 0, 0), (5, .aload_n 0, 1, 0, 0), (6, .getfield 7, 3, 12, 0), (9, .iconst 3, 1, 0, 0), (10, .iaload, 1, 0, 0), (11, .if_icmp .ge 79, 3, 0, 0), (14, .iconst 0, 1, 0, 0), (15, .istore 4, 2, 0, 0), (17, .iconst 0, 1, 0, 0), (18, .istore 5, 2, 0, 0), (20, .iload 5, 2, 0, 0), (22, .aload_n 0, 1, 0, 0), (23, .getfield 7, 3, 12, 0), (26, .iconst 4, 1, 0, 0), (27, .iaload, 1, 0, 0), (28, .if_icmp .ge 43, 3, 0, 0), (31, .iload 4, 2, 0, 0), (33, .ifCond .ne 38, 3, 0, 0), (36, .aload_n 0, 1, 0, 0), (37, .getfield 41, 3, 12, 23), (40, .iload 5, 2, 0, 0), (42, .iaload, 1, 0, 0), (43, .iload_n 1, 1, 0, 0), (44, .if_icmp .ne 18, 3, 0, 0), (47, .aload_n 0, 1, 0, 0), (48, .iload 5, 2, 0, 0), (50, .iconst 2, 1, 0, 0), (51, .invokevirtual 277, 3, 188, 0), (54, .iload_n 3, 1, 0, 0), (55, .if_icmp .ne 7, 3, 0, 0), (58, .iconst 1, 1, 0, 0), (59, .goto 4, 3, 0, 0), (62, .iconst 0, 1, 0, 0), (63, .istore 4, 2, 0, 0), (65, .iinc 5 1, 3, 0, 0), (68, .goto (-48), 3, 0, 0), (71, .iload_n 2, 1, 0, 0), (72, .iload 4, 2, 0, 0), (74, .ifCond .eq 7, 3, 0, 0), (77, .iconst 1, 1, 0, 0), (78, .goto 4, 3, 0, 0), (81, .iconst 0, 1, 0, 0), (82, .iadd, 1, 0, 0), (83, .istore_n 2, 1, 0, 0), (84, .iinc 3 1, 3, 0, 0), (87, .goto (-83), 3, 0, 0), (90, .iload_n 2, 1, 0, 0), (91, .ireturn, 1, 0, 0)]
set_option maxRecDepth 100000 in
theorem ck233 : codeOK 233 cd233 := ⟨by decide, by decide +kernel⟩
/-- CountedTwiceModel.of(II)I -/
def cd234 : List Ent := [(0, .aload_n 0, 1, 0, 0), (1, .iload_n 1, 1, 0, 0), (2, .invokevirtual 274, 3, 187, 0), (5, .ifCond .ne 5, 3, 0, 0), (8, .iconst (-1), 1, 0, 0), (9, .ireturn, 1, 0, 0), (10, .iload_n 2, 1, 0, 0), (11, .iconst 0, 1, 0, 0), (12, .iconst 5, 1, 0, 0), (13, .invokestatic 100, 3, 181, 0), (16, .ifCond .eq 10, 3, 0, 0), (19, .aload_n 0, 1, 0, 0), (20, .iload_n 1, 1, 0, 0), (21, .iload_n 2, 1, 0, 0), (22, .invokevirtual 277, 3, 188, 0), (25, .ireturn, 1, 0, 0), (26, .iload_n 2, 1, 0, 0), (27, .bipush 6, 2, 0, 0), (29, .if_icmp .ne 11, 3, 0, 0), (32, .aload_n 0, 1, 0, 0), (33, .iload_n 1, 1, 0, 0), (34, .bipush 8, 2, 0, 0), (36, .invokevirtual 277, 3, 188, 0), (39, .ireturn, 1, 0, 0), (40, .iload_n 2, 1, 0, 0), (41, .bipush 7, 2, 0, 0), (43, .if_icmp .ne 17, 3, 0, 0), (46, .aload_n 0, 1, 0, 0), (47, .iload_n 1, 1, 0, 0), (48, .invokevirtual 295, 3, 225, 0), (51, .ifCond .eq 7, 3, 0, 0), (54, .iconst 1, 1, 0, 0), (55, .goto 4, 3, 0, 0), (58, .iconst 0, 1, 0, 0), (59, .ireturn, 1, 0, 0), (60, .iload_n 2, 1, 0, 0), (61, .bipush 8, 2, 0, 0), (63, .if_icmp .ne 14, 3, 0, 0), (66, .aload_n 0, 1, 0, 0), (67, .invokevirtual 298, 3, 231, 0), (70, .aload_n 0, 1, 0, 0), (71, .getfield 41, 3, 12, 23), (74, .iload_n 1, 1, 0, 0), (75, .iaload, 1, 0, 0), (76, .ireturn, 1, 0, 0), (77, .iload_n 2, 1, 0, 0), (78, .bipush 10, 2, 0, 0), (80, .bipush 9, 2, 0, 0), (82, .aload_n 0, 1, 0, 0), (83, .iload_n 1, 1, 0, 0), (84, .bipush 8, 2, 0, 0), (86, .invokevirtual 277, 3, 188, 0), (89, .iadd, 1, 0, 0), (90, .invokestatic 100, 3, 181, 0), (93, .ifCond .eq 18, 3, 0, 0), (96, .aload_n 0, 1, 0, 0), (97, .iload_n 1, 1, 0, 0), (98, .bipush 9, 2, 0, 0), (100, .iload_n 2, 1, 0, 0), (101, .iadd, 1, 0, 0), (102, .bipush 10, 2, 0, 0), (104, .isub, 1, 0, 0), (105, .invokevirtual 277, 3, 188, 0), (108, .goto 4, 3, 0, 0), (111, .iconst (-1), 1, 0, 0), (112, .ireturn, 1, 0, 0)]
set_option maxRecDepth 100000 in
theorem ck234 : codeOK 234 cd234 := ⟨by decide, by decide +kernel⟩
/-- CountedTwiceModel.person(II)I -/
def cd235 : List Ent := [(0, .aload_n 0, 1, 0, 0), (1, .invokevirtual 298, 3, 231, 0), (4, .iload_n 1, 1, 0, 0), (5, .iconst 0, 1, 0, 0), (6, .aload_n 0, 1, 0, 0), (7, .getfield 292, 3, 12, 26), (10, .iconst 1, 1, 0, 0), (11, .isub, 1, 0, 0), (12, .invokestatic 100, 3, 181, 0), (15, .ifCond .eq 12, 3, 0, 0), (18, .iload_n 2, 1, 0, 0), (19, .iconst 0, 1, 0, 0), (20, .iconst 3, 1, 0, 0), (21, .invokestatic 100, 3, 181, 0), (24, .ifCond .ne 5, 3, 0, 0), (27, .iconst (-1), 1, 0, 0), (28, .ireturn, 1, 0, 0), (29, .iload_n 2, 1, 0, 0), (30, .iconst 1, 1, 0, 0), (31, .if_icmp .ne 10, 3, 0, 0), (34, .aload_n 0, 1, 0, 0), (35, .getfield 44, 3, 12, 24), (38, .iload_n 1, 1, 0, 0), (39, .iaload, 1, 0, 0), (40, .ireturn, 1, 0, 0), (41, .iload_n 2, 1, 0, 0), (42, .iconst 2, 1, 0, 0), (43, .if_icmp .ne 9, 3, 0, 0), (46, .aload_n 0, 1, 0, 0), (47, .iload_n 1, 1, 0, 0), (48, .invokevirtual 301, 3, 232, 0), (51, .ireturn, 1, 0, 0), (52, .iload_n 2, 1, 0, 0), (53, .iconst 3, 1, 0, 0), (54, .if_icmp .ne 9, 3, 0, 0), (57, .aload_n 0, 1, 0, 0), (58, .iload_n 1, 1, 0, 0), (59, .invokevirtual 304, 3, 233, 0), (62, .ireturn, 1, 0, 0), (63, .iconst 0, 1, 0, 0), (64, .istore_n 3, 1, 0, 0), (65, .iconst 0, 1, 0, 0), (66, .istore 4, 2, 0, 0), (68, .iload 4, 2, 0, 0), (70, .aload_n 0, 1, 0, 0), (71, .getfield 7, 3, 12, 0), (74, .iconst 4, 1, 0, 0), (75, .iaload, 1, 0, 0), (76, .if_icmp .ge 28, 3, 0, 0), (79, .iload_n 3, 1, 0, 0), (80, .aload_n 0, 1, 0, 0), (81, .getfield 41, 3, 12, 23), (84, .iload 4, 2, 0, 0), (86, .iaload, 1, 0, 0), (87, .iload_n 1, 1, 0, 0), (88, .if_icmp .ne 7, 3, 0, 0), (91, .iconst 1, 1, 0, 0), (92, .goto 4, 3, 0, 0), (95, .iconst 0, 1, 0, 0), (96, .iadd, 1, 0, 0), (97, .istore_n 3, 1, 0, 0), (98, .iinc 4 1, 3, 0, 0), (101, .goto (-33), 3, 0, 0), (104, .iload_n 3, 1, 0, 0), (105, .ireturn, 1, 0, 0)]
set_option maxRecDepth 100000 in
theorem ck235 : codeOK 235 cd235 := ⟨by decide, by decide +kernel⟩
/-- CountedTwiceModel.table(II)I -/
def cd236 : List Ent := [(0, .iload_n 1, 1, 0, 0), (1, .iconst (-1), 1, 0, 0), (2, .if_icmp .eq 10, 3, 0, 0), (5, .iload_n 1, 1, 0, 0), (6, .invokestatic 104, 3, 186, 0), (9, .ifCond .eq 12, 3, 0, 0), (12, .iload_n 2, 1, 0, 0), (13, .iconst 0, 1, 0, 0), (14, .iconst 4, 1, 0, 0), (15, .invokestatic 100, 3, 181, 0), (18, .ifCond .ne 5, 3, 0, 0), (21, .iconst (-1), 1, 0, 0), (22, .ireturn, 1, 0, 0), (23, .aload_n 0, 1, 0, 0), (24, .invokevirtual 298, 3, 231, 0), (27, .iconst 0, 1, 0, 0), (28, .istore_n 3, 1, 0, 0), (29, .iload_n 3, 1, 0, 0), (30, .iconst 4, 1, 0, 0), (31, .if_icmp .ge 16, 3, 0, 0), (34, .aload_n 0, 1, 0, 0), (35, .getfield 50, 3, 12, 27), (38, .iload_n 3, 1, 0, 0), (39, .iconst 0, 1, 0, 0), (40, .iastore, 1, 0, 0), (41, .iinc 3 1, 3, 0, 0), (44, .goto (-15), 3, 0, 0), (47, .iconst 0, 1, 0, 0), (48, .istore_n 3, 1, 0, 0), (49, .iload_n 3, 1, 0, 0), (50, .aload_n 0, 1, 0, 0), (51, .getfield 292, 3, 12, 26), (54, .if_icmp .ge 73, 3, 0, 0), (57, .iload_n 1, 1, 0, 0), (58, .iconst (-1), 1, 0, 0), (59, .if_icmp .eq 25, 3, 0, 0), (62, .aload_n 0, 1, 0, 0), (63, .aload_n 0, 1, 0, 0), (64, .aload_n 0, 1, 0, 0), (65, .getfield 44, 3, 12, 24), (68, .iload_n 3, 1, 0, 0), (69, .iaload, 1, 0, 0), (70, .iconst 2, 1, 0, 0), (71, .invokevirtual 277, 3, 188, 0), (74, .invokevirtual 108, 3, 189, 0), (77, .iload_n 1, 1, 0, 0), (78, .if_icmp .eq 6, 3, 0, 0), (81, .goto 40, 3, 0, 0), (84, .aload_n 0, 1, 0, 0), (85, .getfield 50, 3, 12, 27), (88, .aload_n 0, 1, 0, 0), (89, .iload_n 3, 1, 0, 0), (90, .invokevirtual 301, 3, 232, 0), (93, .dup2, 1, 0, 0), (94, .iaload, 1, 0, 0), (95, .iconst 1, 1, 0, 0), (96, .iadd, 1, 0, 0), (97, .iastore, 1, 0, 0), (98, .aload_n 0, 1, 0, 0), (99, .getfield 50, 3, 12, 27), (102, .iconst 3, 1, 0, 0), (103, .dup2, 1, 0, 0), (104, .iaload, 1, 0, 0), (105, .aload_n 0, 1, 0, 0), (106, .iload_n 3, 1, 0, 0), (107, .invokevirtual 304, 3, 233, 0), (110, .iconst 1, 1, 0, 0), (111, .if_icmp .le 7, 3, 0, 0), (114, .iconst 1, 1, 0, 0), (115, .goto 4, 3, 0, 0), (118, .iconst 0, 1, 0, 0), (119, .iadd, 1, 0, 0), (120, .iastore, 1, 0, 0), (121, .iinc 3 1, 3, 0, 0), (124, .goto (-75), 3, 0, 0), (127, .iload_n 2, 1, 0, 0), (128, .iconst 3, 1, 0, 0), (129, .if_icmp .ne 37, 3, 0, 0), (132, .aload_n 0, 1, 0, 0), (133, .getfield 50, 3, 12, 27), (136, .iconst 2, 1, 0, 0), (137, .iaload, 1, 0, 0), (138, .ifCond .ne 7, 3, 0, 0), (141, .iconst (-1), 1, 0, 0), (142, .goto 23, 3, 0, 0), (145, .aload_n 0, 1, 0, 0), (146, .getfield 50, 3, 12, 27), (149, .iconst 0, 1, 0, 0), (150, .iaload, 1, 0, 0), (151, .aload_n 0, 1, 0, 0), (152, .getfield 50, 3, 12, 27), (155, .iconst 1, 1, 0, 0), (156, .iaload, 1, 0, 0), (157, .imul, 1, 0, 0), (158, .aload_n 0, 1, 0, 0), (159, .getfield 50, 3, 12, 27), (162, .iconst 2, 1, 0, 0), (163, .iaload, 1, 0, 0), (164, .idiv, 1, 0, 0), (165, .ireturn, 1, 0, 0), (166, .aload_n 0, 1, 0, 0), (167, .getfield 50, 3, 12, 27), (170, .iload_n 2, 1, 0, 0), (171, .iconst 4, 1, 0, 0), (172, .if_icmp .ne 7, 3, 0, 0), (175, .iconst 3, 1, 0, 0), (176, .goto 4, 3, 0, 0), (179, .iload_n 2, 1, 0, 0), (180, .iaload, 1, 0, 0), (181, .ireturn, 1, 0, 0)]
set_option maxRecDepth 100000 in
theorem ck236 : codeOK 236 cd236 := ⟨by decide, by decide +kernel⟩
/-- CountedTwiceModel.laysCouples()V -/
def cd237 : List Ent := [(0, .iconst 0, 1, 0, 0), (1, .istore_n 1, 1, 0, 0), (2, .iload_n 1, 1, 0, 0), (3, .sipush 14400, 3, 0, 0), (6, .if_icmp .ge 16, 3, 0, 0), (9, .aload_n 0, 1, 0, 0), (10, .getfield 63, 3, 12, 31), (13, .iload_n 1, 1, 0, 0), (14, .iconst 0, 1, 0, 0), (15, .bastore, 1, 0, 0), (16, .iinc 1 1, 3, 0, 0), (19, .goto (-17), 3, 0, 0), (22, .iconst 0, 1, 0, 0), (23, .istore_n 1, 1, 0, 0), (24, .iload_n 1, 1, 0, 0), (25, .aload_n 0, 1, 0, 0), (26, .getfield 7, 3, 12, 0), (29, .iconst 4, 1, 0, 0), (30, .iaload, 1, 0, 0), (31, .if_icmp .ge 114, 3, 0, 0), (34, .aload_n 0, 1, 0, 0), (35, .getfield 41, 3, 12, 23), (38, .iload_n 1, 1, 0, 0), (39, .iaload, 1, 0, 0), (40, .iconst (-1), 1, 0, 0), (41, .if_icmp .eq 98, 3, 0, 0), (44, .aload_n 0, 1, 0, 0), (45, .getfield 53, 3, 12, 28), (48, .aload_n 0, 1, 0, 0), (49, .getfield 41, 3, 12, 23), (52, .iload_n 1, 1, 0, 0), (53, .iaload, 1, 0, 0), (54, .iaload, 1, 0, 0), (55, .ifCond .eq 6, 3, 0, 0), (58, .goto 81, 3, 0, 0), (61, .iconst 0, 1, 0, 0), (62, .istore_n 2, 1, 0, 0), (63, .iload_n 2, 1, 0, 0), (64, .aload_n 0, 1, 0, 0), (65, .getfield 7, 3, 12, 0), (68, .iconst 4, 1, 0, 0), (69, .iaload, 1, 0, 0), (70, .if_icmp .ge 69, 3, 0, 0), (73, .aload_n 0, 1, 0, 0), (74, .getfield 41, 3, 12, 23), (77, .iload_n 2, 1, 0, 0), (78, .iaload, 1, 0, 0), (79, .iconst (-1), 1, 0, 0), (80, .if_icmp .eq 53, 3, 0, 0), (83, .aload_n 0, 1, 0, 0), (84, .getfield 53, 3, 12, 28), (87, .aload_n 0, 1, 0, 0), (88, .getfield 41, 3, 12, 23), (91, .iload_n 2, 1, 0, 0), (92, .iaload, 1, 0, 0), (93, .iaload, 1, 0, 0), (94, .iconst 1, 1, 0, 0), (95, .if_icmp .ne 38, 3, 0, 0), (98, .aload_n 0, 1, 0, 0), (99, .iconst 1, 1, 0, 0), (100, .iload_n 1, 1, 0, 0), (101, .iload_n 2, 1, 0, 0), (102, .invokevirtual 286, 3, 227, 0), (105, .ifCond .ne 6, 3, 0, 0), (108, .goto 25, 3, 0, 0), (111, .aload_n 0, 1, 0, 0), (112, .getfield 63, 3, 12, 31), (115, .bipush 120, 2, 0, 0), (117, .aload_n 0, 1, 0, 0), (118, .getfield 41, 3, 12, 23), (121, .iload_n 1, 1, 0, 0), (122, .iaload, 1, 0, 0), (123, .imul, 1, 0, 0), (124, .aload_n 0, 1, 0, 0), (125, .getfield 41, 3, 12, 23), (128, .iload_n 2, 1, 0, 0), (129, .iaload, 1, 0, 0), (130, .iadd, 1, 0, 0), (131, .iconst 1, 1, 0, 0), (132, .bastore, 1, 0, 0), (133, .iinc 2 1, 3, 0, 0), (136, .goto (-73), 3, 0, 0), (139, .iinc 1 1, 3, 0, 0), (142, .goto (-118), 3, 0, 0), (145, .return_, 1, 0, 0)]
set_option maxRecDepth 100000 in
theorem ck237 : codeOK 237 cd237 := ⟨by decide, by decide +kernel⟩
/-- CountedTwiceModel.findsMate(I)Z -/
def cd238 : List Ent := [(0, .iconst 0, 1, 0, 0), (1, .istore_n 2, 1, 0, 0), (2, .iload_n 2, 1, 0, 0), (3, .aload_n 0, 1, 0, 0), (4, .getfield 292, 3, 12, 26), (7, .if_icmp .ge 77, 3, 0, 0), (10, .aload_n 0, 1, 0, 0), (11, .getfield 59, 3, 12, 30), (14, .iload_n 2, 1, 0, 0), (15, .baload, 1, 0, 0), (16, .ifCond .ne 62, 3, 0, 0), (19, .aload_n 0, 1, 0, 0), (20, .getfield 63, 3, 12, 31), (23, .bipush 120, 2, 0, 0), (25, .iload_n 1, 1, 0, 0), (26, .imul, 1, 0, 0), (27, .iload_n 2, 1, 0, 0), (28, .iadd, 1, 0, 0), (29, .baload, 1, 0, 0), (30, .ifCond .ne 6, 3, 0, 0), (33, .goto 45, 3, 0, 0), (36, .aload_n 0, 1, 0, 0), (37, .getfield 59, 3, 12, 30), (40, .iload_n 2, 1, 0, 0), (41, .iconst 1, 1, 0, 0), (42, .bastore, 1, 0, 0), (43, .aload_n 0, 1, 0, 0), (44, .getfield 56, 3, 12, 29), (47, .iload_n 2, 1, 0, 0), (48, .iaload, 1, 0, 0), (49, .iconst (-1), 1, 0, 0), (50, .if_icmp .eq 19, 3, 0, 0), (53, .aload_n 0, 1, 0, 0), (54, .aload_n 0, 1, 0, 0), (55, .getfield 56, 3, 12, 29), (58, .iload_n 2, 1, 0, 0), (59, .iaload, 1, 0, 0), (60, .invokevirtual 307, 3, 238, 0), (63, .ifCond .ne 6, 3, 0, 0), (66, .goto 12, 3, 0, 0), (69, .aload_n 0, 1, 0, 0), (70, .getfield 56, 3, 12, 29), (73, .iload_n 2, 1, 0, 0), (74, .iload_n 1, 1, 0, 0), (75, .iastore, 1, 0, 0), (76, .iconst 1, 1, 0, 0), (77, .ireturn, 1, 0, 0), (78, .iinc 2 1, 3, 0, 0), (81, .goto (-79), 3, 0, 0), (84, .iconst 0, 1, 0, 0), (85, .ireturn, 1, 0, 0)]
set_option maxRecDepth 100000 in
theorem ck238 : codeOK 238 cd238 := ⟨by decide, by decide +kernel⟩
/-- CountedTwiceModel.ends(I)I -/
def cd239 : List Ent := [(0, .iload_n 1, 1, 0, 0), (1, .iconst 0, 1, 0, 0), (2, .iconst 1, 1, 0, 0), (3, .invokestatic 100, 3, 181, 0), (6, .ifCond .ne 5, 3, 0, 0), (9, .iconst (-1), 1, 0, 0), (10, .ireturn, 1, 0, 0), (11, .aload_n 0, 1, 0, 0), (12, .invokevirtual 298, 3, 231, 0), (15, .iload_n 1, 1, 0, 0), (16, .iconst 1, 1, 0, 0), (17, .if_icmp .ne 8, 3, 0, 0), (20, .aload_n 0, 1, 0, 0), (21, .getfield 292, 3, 12, 26), (24, .ireturn, 1, 0, 0), (25, .iconst 0, 1, 0, 0), (26, .istore_n 2, 1, 0, 0), (27, .iload_n 2, 1, 0, 0), (28, .aload_n 0, 1, 0, 0), (29, .getfield 292, 3, 12, 26), (32, .if_icmp .ge 27, 3, 0, 0), (35, .aload_n 0, 1, 0, 0), (36, .getfield 53, 3, 12, 28), (39, .iload_n 2, 1, 0, 0), (40, .aload_n 0, 1, 0, 0), (41, .iload_n 2, 1, 0, 0), (42, .invokevirtual 301, 3, 232, 0), (45, .iastore, 1, 0, 0), (46, .aload_n 0, 1, 0, 0), (47, .getfield 56, 3, 12, 29), (50, .iload_n 2, 1, 0, 0), (51, .iconst (-1), 1, 0, 0), (52, .iastore, 1, 0, 0), (53, .iinc 2 1, 3, 0, 0), (56, .goto (-29), 3, 0, 0), (59, .aload_n 0, 1, 0, 0), (60, .invokevirtual 310, 3, 237, 0), (63, .aload_n 0, 1, 0, 0), (64, .getfield 292, 3, 12, 26), (67, .istore_n 2, 1, 0, 0), (68, .iconst 0, 1, 0, 0), (69, .istore_n 3, 1, 0, 0), (70, .iload_n 3, 1, 0, 0), (71, .aload_n 0, 1, 0, 0), (72, .getfield 292, 3, 12, 26), (75, .if_icmp .ge 63, 3, 0, 0), (78, .aload_n 0, 1, 0, 0), (79, .getfield 53, 3, 12, 28), (82, .iload_n 3, 1, 0, 0), (83, .iaload, 1, 0, 0), (84, .ifCond .eq 6, 3, 0, 0), (87, .goto 45, 3, 0, 0), (90, .iconst 0, 1, 0, 0), (91, .istore 4, 2, 0, 0), (93, .iload 4, 2, 0, 0), (95, .aload_n 0, 1, 0, 0), (96, .getfield 292, 3, 12, 26), (99, .if_icmp .ge 17, 3, 0, 0), (102, .aload_n 0, 1, 0, 0), (103, .getfield 59, 3, 12, 30), (106, .iload 4, 2, 0, 0), (108, .iconst 0, 1, 0, 0), (109, .bastore, 1, 0, 0), (110, .iinc 4 1, 3, 0, 0), (113, .goto (-20), 3, 0, 0), (116, .iload_n 2, 1, 0, 0), (117, .aload_n 0, 1, 0, 0), (118, .iload_n 3, 1, 0, 0), (119, .invokevirtual 307, 3, 238, 0), (122, .ifCond .eq 7, 3, 0, 0), (125, .iconst 1, 1, 0, 0), (126, .goto 4, 3, 0, 0), (129, .iconst 0, 1, 0, 0), (130, .isub, 1, 0, 0), (131, .istore_n 2, 1, 0, 0), (132, .iinc 3 1, 3, 0, 0), (135, .goto (-65), 3, 0, 0), (138, .iload_n 2, 1, 0, 0), (139, .ireturn, 1, 0, 0)]
set_option maxRecDepth 100000 in
theorem ck239 : codeOK 239 cd239 := ⟨by decide, by decide +kernel⟩
/-- CountedTwiceModel.laysChoose()V -/
def cd240 : List Ent := [(0, .aload_n 0, 1, 0, 0), (1, .getfield 66, 3, 12, 32), (4, .iconst 0, 1, 0, 0), (5, .laload, 1, 0, 0), (6, .lconst 1, 1, 0, 0), (7, .lcmp, 1, 0, 0), (8, .ifCond .ne 4, 3, 0, 0), (11, .return_, 1, 0, 0), (12, .iconst 0, 1, 0, 0), (13, .istore_n 1, 1, 0, 0), (14, .iload_n 1, 1, 0, 0), (15, .bipush 61, 2, 0, 0), (17, .if_icmp .ge 81, 3, 0, 0), (20, .aload_n 0, 1, 0, 0), (21, .getfield 66, 3, 12, 32), (24, .bipush 61, 2, 0, 0), (26, .iload_n 1, 1, 0, 0), (27, .imul, 1, 0, 0), (28, .lconst 1, 1, 0, 0), (29, .lastore, 1, 0, 0), (30, .iconst 1, 1, 0, 0), (31, .istore_n 2, 1, 0, 0), (32, .iload_n 2, 1, 0, 0), (33, .iload_n 1, 1, 0, 0), (34, .if_icmp .gt 58, 3, 0, 0), (37, .aload_n 0, 1, 0, 0), (38, .getfield 66, 3, 12, 32), (41, .bipush 61, 2, 0, 0), (43, .iload_n 1, 1, 0, 0), (44, .imul, 1, 0, 0), (45, .iload_n 2, 1, 0, 0), (46, .iadd, 1, 0, 0), (47, .aload_n 0, 1, 0, 0), (48, .getfield 66, 3, 12, 32), (51, .bipush 61, 2, 0, 0), (53, .iload_n 1, 1, 0, 0), (54, .iconst 1, 1, 0, 0), (55, .isub, 1, 0, 0), (56, .imul, 1, 0, 0), (57, .iload_n 2, 1, 0, 0), (58, .iadd, 1, 0, 0), (59, .iconst 1, 1, 0, 0), (60, .isub, 1, 0, 0), (61, .laload, 1, 0, 0), (62, .iload_n 2, 1, 0, 0), (63, .iload_n 1, 1, 0, 0), (64, .if_icmp .ge 19, 3, 0, 0), (67, .aload_n 0, 1, 0, 0), (68, .getfield 66, 3, 12, 32), (71, .bipush 61, 2, 0, 0), (73, .iload_n 1, 1, 0, 0), (74, .iconst 1, 1, 0, 0), (75, .isub, 1, 0, 0), (76, .imul, 1, 0, 0), (77, .iload_n 2, 1, 0, 0), (78, .iadd, 1, 0, 0), (79, .laload, 1, 0, 0), (80, .goto 4, 3, 0, 0), (83, .lconst 0, 1, 0, 0), (84, .ladd, 1, 0, 0), (85, .lastore, 1, 0, 0), (86, .iinc 2 1, 3, 0, 0), (89, .goto (-57), 3, 0, 0), (92, .iinc 1 1, 3, 0, 0), (95, .goto (-81), 3, 0, 0), (98, .return_, 1, 0, 0)]
set_option maxRecDepth 100000 in
theorem ck240 : codeOK 240 cd240 := ⟨by decide, by decide +kernel⟩
/-- CountedTwiceModel.of0(II)J -/
def cd241 : List Ent := [(0, .iload_n 2, 1, 0, 0), (1, .iconst 0, 1, 0, 0), (2, .iload_n 1, 1, 0, 0), (3, .invokestatic 100, 3, 181, 0), (6, .ifCond .eq 17, 3, 0, 0), (9, .aload_n 0, 1, 0, 0), (10, .getfield 66, 3, 12, 32), (13, .bipush 61, 2, 0, 0), (15, .iload_n 1, 1, 0, 0), (16, .imul, 1, 0, 0), (17, .iload_n 2, 1, 0, 0), (18, .iadd, 1, 0, 0), (19, .laload, 1, 0, 0), (20, .goto 4, 3, 0, 0), (23, .lconst 0, 1, 0, 0), (24, .lreturn, 1, 0, 0)]
set_option maxRecDepth 100000 in
theorem ck241 : codeOK 241 cd241 := ⟨by decide, by decide +kernel⟩
/-- CountedTwiceModel.luck(IIII)J -/
def cd242 : List Ent := [(0, .iload_n 1, 1, 0, 0), (1, .iconst 1, 1, 0, 0), (2, .bipush 60, 2, 0, 0), (4, .invokestatic 100, 3, 181, 0), (7, .ifCond .eq 31, 3, 0, 0), (10, .iload_n 2, 1, 0, 0), (11, .iconst 0, 1, 0, 0), (12, .iload_n 1, 1, 0, 0), (13, .invokestatic 100, 3, 181, 0), (16, .ifCond .eq 22, 3, 0, 0), (19, .iload_n 3, 1, 0, 0), (20, .iconst 0, 1, 0, 0), (21, .iload_n 1, 1, 0, 0), (22, .invokestatic 100, 3, 181, 0), (25, .ifCond .eq 13, 3, 0, 0), (28, .iload 4, 2, 0, 0), (30, .iconst 0, 1, 0, 0), (31, .iload_n 1, 1, 0, 0), (32, .invokestatic 100, 3, 181, 0), (35, .ifCond .ne 7, 3, 0, 0), (38, .ldc2_w 313, 3, 0, (-1)), (41, .lreturn, 1, 0, 0), (42, .aload_n 0, 1, 0, 0), (43, .invokevirtual 315, 3, 240, 0), (46, .lconst 0, 1, 0, 0), (47, .lstore 5, 2, 0, 0), (49, .iconst 0, 1, 0, 0), (50, .istore 7, 2, 0, 0), (52, .iload 7, 2, 0, 0), (54, .iload 4, 2, 0, 0), (56, .if_icmp .gt 33, 3, 0, 0), (59, .lload 5, 2, 0, 0), (61, .aload_n 0, 1, 0, 0), (62, .iload_n 2, 1, 0, 0), (63, .iload 7, 2, 0, 0), (65, .invokevirtual 318, 3, 241, 0), (68, .aload_n 0, 1, 0, 0), (69, .iload_n 1, 1, 0, 0), (70, .iload_n 2, 1, 0, 0), (71, .isub, 1, 0, 0), (72, .iload_n 3, 1, 0, 0), (73, .iload 7, 2, 0, 0), (75, .isub, 1, 0, 0), (76, .invokevirtual 318, 3, 241, 0), (79, .lmul, 1, 0, 0), (80, .ladd, 1, 0, 0), (81, .lstore 5, 2, 0, 0), (83, .iinc 7 1, 3, 0, 0), (86, .goto (-34), 3, 0, 0), (89, .lload 5, 2, 0, 0), (91, .lreturn, 1, 0, 0)]
set_option maxRecDepth 100000 in
theorem ck242 : codeOK 242 cd242 := ⟨by decide, by decide +kernel⟩
/-- CountedTwiceModel.isAhead(II)Z -/
def cd243 : List Ent := [(0, .aload_n 0, 1, 0, 0), (1, .iload_n 1, 1, 0, 0), (2, .iconst 3, 1, 0, 0), (3, .invokevirtual 277, 3, 188, 0), (6, .aload_n 0, 1, 0, 0), (7, .iload_n 2, 1, 0, 0), (8, .iconst 3, 1, 0, 0), (9, .invokevirtual 277, 3, 188, 0), (12, .if_icmp .eq 24, 3, 0, 0), (15, .aload_n 0, 1, 0, 0), (16, .iload_n 1, 1, 0, 0), (17, .iconst 3, 1, 0, 0), (18, .invokevirtual 277, 3, 188, 0), (21, .aload_n 0, 1, 0, 0), (22, .iload_n 2, 1, 0, 0), (23, .iconst 3, 1, 0, 0), (24, .invokevirtual 277, 3, 188, 0), (27, .if_icmp .ge 7, 3, 0, 0), (30, .iconst 1, 1, 0, 0), (31, .goto 4, 3, 0, 0), (34, .iconst 0, 1, 0, 0), (35, .ireturn, 1, 0, 0), (36, .aload_n 0, 1, 0, 0), (37, .iload_n 1, 1, 0, 0), (38, .iconst 4, 1, 0, 0), (39, .invokevirtual 277, 3, 188, 0), (42, .aload_n 0, 1, 0, 0), (43, .iload_n 2, 1, 0, 0), (44, .iconst 4, 1, 0, 0), (45, .invokevirtual 277, 3, 188, 0), (48, .if_icmp .eq 26, 3, 0, 0), (51, .aload_n 0, 1, 0, 0), (52, .iload_n 1, 1, 0, 0), (53, .iconst 4, 1, 0, 0), (54, .invokevirtual 277, 3, 188, 0), (57, .aload_n 0, 1, 0, 0), (58, .iload_n 2, 1, 0, 0), (59, .iconst 4, 1, 0, 0), (60, .invokevirtual 277, 3, 188, 0), (63, .if_icmp .ge 7, 3, 0, 0), (66, .iconst 1, 1, 0, 0), (67, .goto 17, 3, 0, 0), (70, .iconst 0, 1, 0, 0), (71, .goto 13, 3, 0, 0), (74, .iload_n 1, 1, 0, 0), (75, .iload_n 2, 1, 0, 0), (76, .if_icmp .ge 7, 3, 0, 0), (79, .iconst 1, 1, 0, 0), (80, .goto 4, 3, 0, 0), (83, .iconst 0, 1, 0, 0), (84, .ireturn, 1, 0, 0)]
set_option maxRecDepth 100000 in
theorem ck243 : codeOK 243 cd243 := ⟨by decide, by decide +kernel⟩
/-- CountedTwiceModel.laysBook(II)I -/
def cd244 : List Ent := [(0, .iconst 0, 1, 0, 0), (1, .istore_n 3, 1, 0, 0), (2, .iconst 0, 1, 0, 0), (3, .istore 4, 2, 0, 0), (5, .iload 4, 2, 0, 0), (7, .aload_n 0, 1, 0, 0), (8, .getfield 7, 3, 12, 0), (11, .iconst 4, 1, 0, 0), (12, .iaload, 1, 0, 0), (13, .if_icmp .ge 103, 3, 0, 0), (16, .aload_n 0, 1, 0, 0), (17, .iload 4, 2, 0, 0), (19, .invokevirtual 295, 3, 225, 0), (22, .ifCond .eq 88, 3, 0, 0), (25, .aload_n 0, 1, 0, 0), (26, .iload 4, 2, 0, 0), (28, .iconst 1, 1, 0, 0), (29, .invokevirtual 277, 3, 188, 0), (32, .iload_n 1, 1, 0, 0), (33, .if_icmp .ne 77, 3, 0, 0), (36, .aload_n 0, 1, 0, 0), (37, .iload 4, 2, 0, 0), (39, .iconst 0, 1, 0, 0), (40, .invokevirtual 277, 3, 188, 0), (43, .iload_n 2, 1, 0, 0), (44, .if_icmp .eq 6, 3, 0, 0), (47, .goto 63, 3, 0, 0), (50, .iload_n 3, 1, 0, 0), (51, .istore 5, 2, 0, 0), (53, .iload 5, 2, 0, 0), (55, .ifCond .le 43, 3, 0, 0), (58, .aload_n 0, 1, 0, 0), (59, .iload 4, 2, 0, 0), (61, .aload_n 0, 1, 0, 0), (62, .getfield 70, 3, 12, 33), (65, .iload 5, 2, 0, 0), (67, .iconst 1, 1, 0, 0), (68, .isub, 1, 0, 0), (69, .iaload, 1, 0, 0), (70, .invokevirtual 322, 3, 243, 0), (73, .ifCond .eq 25, 3, 0, 0), (76, .aload_n 0, 1, 0, 0), (77, .getfield 70, 3, 12, 33), (80, .iload 5, 2, 0, 0), (82, .aload_n 0, 1, 0, 0), (83, .getfield 70, 3, 12, 33), (86, .iload 5, 2, 0, 0), (88, .iconst 1, 1, 0, 0), (89, .isub, 1, 0, 0), (90, .iaload, 1, 0, 0), (91, .iastore, 1, 0, 0), (92, .iinc 5 (-1), 3, 0, 0), (95, .goto (-42), 3, 0, 0), (98, .aload_n 0, 1, 0, 0), (99, .getfield 70, 3, 12, 33), (102, .iload 5, 2, 0, 0), (104, .iload 4, 2, 0, 0), (106, .iastore, 1, 0, 0), (107, .iinc 3 1, 3, 0, 0), (110, .iinc 4 1, 3, 0, 0), (113, .goto (-108), 3, 0, 0), (116, .iload_n 3, 1, 0, 0), (117, .ireturn, 1, 0, 0)]
set_option maxRecDepth 100000 in
theorem ck244 : codeOK 244 cd244 := ⟨by decide, by decide +kernel⟩
/-- CountedTwiceModel.ghosts(I)I -/
def cd245 : List Ent := [(0, .aload_n 0, 1, 0, 0), (1, .iload_n 1, 1, 0, 0), (2, .iconst 0, 1, 0, 0), (3, .invokevirtual 325, 3, 244, 0), (6, .istore_n 2, 1, 0, 0), (7, .iconst 0, 1, 0, 0), (8, .istore_n 3, 1, 0, 0), (9, .iconst 0, 1, 0, 0), (10, .istore 4, 2, 0, 0), (12, .iload 4, 2, 0, 0), (14, .iload_n 2, 1, 0, 0), (15, .if_icmp .ge 60, 3, 0, 0), (18, .iload_n 3, 1, 0, 0), (19, .aload_n 0, 1, 0, 0), (20, .aload_n 0, 1, 0, 0), (21, .aload_n 0, 1, 0, 0), (22, .getfield 70, 3, 12, 33), (25, .iload 4, 2, 0, 0), (27, .iaload, 1, 0, 0), (28, .iconst 2, 1, 0, 0), (29, .invokevirtual 277, 3, 188, 0), (32, .aload_n 0, 1, 0, 0), (33, .aload_n 0, 1, 0, 0), (34, .getfield 70, 3, 12, 33), (37, .iload 4, 2, 0, 0), (39, .iaload, 1, 0, 0), (40, .iconst 3, 1, 0, 0), (41, .invokevirtual 277, 3, 188, 0), (44, .aload_n 0, 1, 0, 0), (45, .aload_n 0, 1, 0, 0), (46, .getfield 70, 3, 12, 33), (49, .iload 4, 2, 0, 0), (51, .iaload, 1, 0, 0), (52, .iconst 4, 1, 0, 0), (53, .invokevirtual 277, 3, 188, 0), (56, .invokevirtual 289, 3, 229, 0), (59, .ifCond .eq 7, 3, 0, 0), (62, .iconst 0, 1, 0, 0), (63, .goto 4, 3, 0, 0), (66, .iconst 1, 1, 0, 0), (67, .iadd, 1, 0, 0), (68, .istore_n 3, 1, 0, 0), (69, .iinc 4 1, 3, 0, 0), (72, .goto (-60), 3, 0, 0), (75, .iload_n 3, 1, 0, 0), (76, .ireturn, 1, 0, 0)]
set_option maxRecDepth 100000 in
theorem ck245 : codeOK 245 cd245 := ⟨by decide, by decide +kernel⟩
/-- CountedTwiceModel.quick(II)I -/
def cd246 : List Ent := [(0, .aload_n 0, 1, 0, 0), (1, .iload_n 1, 1, 0, 0), (2, .iload_n 2, 1, 0, 0), (3, .invokevirtual 325, 3, 244, 0), (6, .istore_n 3, 1, 0, 0), (7, .iconst 0, 1, 0, 0), (8, .istore 4, 2, 0, 0), (10, .iconst 1, 1, 0, 0), (11, .istore 5, 2, 0, 0), (13, .iload 5, 2, 0, 0), (15, .iload_n 3, 1, 0, 0), (16, .if_icmp .ge 112, 3, 0, 0), (19, .aload_n 0, 1, 0, 0), (20, .getfield 70, 3, 12, 33), (23, .iload 5, 2, 0, 0), (25, .iconst 1, 1, 0, 0), (26, .isub, 1, 0, 0), (27, .iaload, 1, 0, 0), (28, .istore 6, 2, 0, 0), (30, .aload_n 0, 1, 0, 0), (31, .getfield 70, 3, 12, 33), (34, .iload 5, 2, 0, 0), (36, .iaload, 1, 0, 0), (37, .istore 7, 2, 0, 0), (39, .aload_n 0, 1, 0, 0), (40, .iload 6, 2, 0, 0), (42, .iconst 3, 1, 0, 0), (43, .invokevirtual 277, 3, 188, 0), (46, .aload_n 0, 1, 0, 0), (47, .iload 7, 2, 0, 0), (49, .iconst 3, 1, 0, 0), (50, .invokevirtual 277, 3, 188, 0), (53, .if_icmp .ne 69, 3, 0, 0), (56, .aload_n 0, 1, 0, 0), (57, .iload 6, 2, 0, 0), (59, .iconst 2, 1, 0, 0), (60, .invokevirtual 277, 3, 188, 0), (63, .aload_n 0, 1, 0, 0), (64, .iload 7, 2, 0, 0), (66, .iconst 2, 1, 0, 0), (67, .invokevirtual 277, 3, 188, 0), (70, .if_icmp .ne 6, 3, 0, 0), (73, .goto 49, 3, 0, 0), (76, .iload 4, 2, 0, 0), (78, .aload_n 0, 1, 0, 0), (79, .iload 7, 2, 0, 0), (81, .iconst 4, 1, 0, 0), (82, .invokevirtual 277, 3, 188, 0), (85, .aload_n 0, 1, 0, 0), (86, .iload 6, 2, 0, 0), (88, .iconst 4, 1, 0, 0), (89, .invokevirtual 277, 3, 188, 0), (92, .isub, 1, 0, 0), (93, .aload_n 0, 1, 0, 0), (94, .aload_n 0, 1, 0, 0), (95, .iload 6, 2, 0, 0), (97, .iconst 2, 1, 0, 0), (98, .invokevirtual 277, 3, 188, 0), (101, .aload_n 0, 1, 0, 0), (102, .iload 7, 2, 0, 0), (104, .iconst 2, 1, 0, 0), (105, .invokevirtual 277, 3, 188, 0), (108, .invokevirtual 125, 3, 195, 0), (111, .if_icmp .ge 7, 3, 0, 0), (114, .iconst 1, 1, 0, 0), (115, .goto 4, 3, 0, 0), (118, .iconst 0, 1, 0, 0), (119, .iadd, 1, 0, 0), (120, .istore 4, 2, 0, 0), (122, .iinc 5 1, 3, 0, 0), (125, .goto (-112), 3, 0, 0), (128, .iload 4, 2, 0, 0), (130, .ireturn, 1, 0, 0)]
set_option maxRecDepth 100000 in
theorem ck246 : codeOK 246 cd246 := ⟨by decide, by decide +kernel⟩
/-- CountedTwiceModel.evenness(I)I -/
def cd247 : List Ent := [(0, .aload_n 0, 1, 0, 0), (1, .iconst 0, 1, 0, 0), (2, .putfield 328, 3, 12, 35), (5, .iconst 0, 1, 0, 0), (6, .istore_n 2, 1, 0, 0), (7, .iload_n 2, 1, 0, 0), (8, .bipush 10, 2, 0, 0), (10, .if_icmp .ge 16, 3, 0, 0), (13, .aload_n 0, 1, 0, 0), (14, .getfield 73, 3, 12, 34), (17, .iload_n 2, 1, 0, 0), (18, .iconst 0, 1, 0, 0), (19, .iastore, 1, 0, 0), (20, .iinc 2 1, 3, 0, 0), (23, .goto (-16), 3, 0, 0), (26, .iconst 0, 1, 0, 0), (27, .istore_n 2, 1, 0, 0), (28, .iload_n 2, 1, 0, 0), (29, .aload_n 0, 1, 0, 0), (30, .getfield 7, 3, 12, 0), (33, .iconst 4, 1, 0, 0), (34, .iaload, 1, 0, 0), (35, .if_icmp .ge 76, 3, 0, 0), (38, .aload_n 0, 1, 0, 0), (39, .getfield 328, 3, 12, 35), (42, .bipush 15, 2, 0, 0), (44, .if_icmp .ge 67, 3, 0, 0), (47, .aload_n 0, 1, 0, 0), (48, .iload_n 2, 1, 0, 0), (49, .invokevirtual 295, 3, 225, 0), (52, .ifCond .eq 53, 3, 0, 0), (55, .aload_n 0, 1, 0, 0), (56, .iload_n 2, 1, 0, 0), (57, .iconst 1, 1, 0, 0), (58, .invokevirtual 277, 3, 188, 0), (61, .iload_n 1, 1, 0, 0), (62, .if_icmp .ne 43, 3, 0, 0), (65, .aload_n 0, 1, 0, 0), (66, .iload_n 2, 1, 0, 0), (67, .iconst 0, 1, 0, 0), (68, .invokevirtual 277, 3, 188, 0), (71, .ifCond .eq 6, 3, 0, 0), (74, .goto 31, 3, 0, 0), (77, .aload_n 0, 1, 0, 0), (78, .getfield 73, 3, 12, 34), (81, .aload_n 0, 1, 0, 0), (82, .iload_n 2, 1, 0, 0), (83, .iconst 5, 1, 0, 0), (84, .invokevirtual 277, 3, 188, 0), (87, .bipush 10, 2, 0, 0), (89, .irem, 1, 0, 0), (90, .dup2, 1, 0, 0), (91, .iaload, 1, 0, 0), (92, .iconst 1, 1, 0, 0), (93, .iadd, 1, 0, 0), (94, .iastore, 1, 0, 0), (95, .aload_n 0, 1, 0, 0), (96, .dup, 1, 0, 0), (97, .getfield 328, 3, 12, 35), (100, .iconst 1, 1, 0, 0), (101, .iadd, 1, 0, 0), (102, .putfield 328, 3, 12, 35), (105, .iinc 2 1, 3, 0, 0), (108, .goto (-80), 3, 0, 0), (111, .iconst 0, 1, 0, 0), (112, .istore_n 2, 1, 0, 0), (113, .iconst 0, 1, 0, 0), (114, .istore_n 3, 1, 0, 0), (115, .iload_n 3, 1, 0, 0), (116, .bipush 10, 2, 0, 0), (118, .if_icmp .ge 25, 3, 0, 0), (121, .iload_n 2, 1, 0, 0), (122, .aload_n 0, 1, 0, 0), (123, .getfield 73, 3, 12, 34), (126, .iload_n 3, 1, 0, 0), (127, .iaload, 1, 0, 0), (128, .aload_n 0, 1, 0, 0), (129, .getfield 73, 3, 12, 34), (132, .iload_n 3, 1, 0, 0), (133, .iaload, 1, 0, 0), (134, .imul, 1, 0, 0), (135, .iadd, 1, 0, 0), (136, .istore_n 2, 1, 0, 0), (137, .iinc 3 1, 3, 0, 0), (140, .goto (-25), 3, 0, 0), (143, .iload_n 2, 1, 0, 0), (144, .ireturn, 1, 0, 0)]
set_option maxRecDepth 100000 in
theorem ck247 : codeOK 247 cd247 := ⟨by decide, by decide +kernel⟩
/-- CountedTwiceModel.isCounter(I)Z -/
def cd248 : List Ent := [(0, .iload_n 0, 1, 0, 0), (1, .iconst 0, 1, 0, 0), (2, .bipush 10, 2, 0, 0), (4, .invokestatic 100, 3, 181, 0), (7, .ireturn, 1, 0, 0)]
set_option maxRecDepth 100000 in
theorem ck248 : codeOK 248 cd248 := ⟨by decide, by decide +kernel⟩
/-- CountedTwiceModel.counter(II)I -/
def cd249 : List Ent := [(0, .iload_n 1, 1, 0, 0), (1, .invokestatic 331, 3, 248, 0), (4, .ifCond .ne 5, 3, 0, 0), (7, .iconst (-1), 1, 0, 0), (8, .ireturn, 1, 0, 0), (9, .iload_n 2, 1, 0, 0), (10, .tableswitch 66 0 5 #[38, 38, 45, 51, 51, 60], 38, 0, 0), (48, .aload_n 0, 1, 0, 0), (49, .iload_n 1, 1, 0, 0), (50, .iload_n 2, 1, 0, 0), (51, .invokevirtual 325, 3, 244, 0), (54, .ireturn, 1, 0, 0), (55, .aload_n 0, 1, 0, 0), (56, .iload_n 1, 1, 0, 0), (57, .invokevirtual 334, 3, 245, 0), (60, .ireturn, 1, 0, 0), (61, .aload_n 0, 1, 0, 0), (62, .iload_n 1, 1, 0, 0), (63, .iload_n 2, 1, 0, 0), (64, .iconst 3, 1, 0, 0), (65, .isub, 1, 0, 0), (66, .invokevirtual 337, 3, 246, 0), (69, .ireturn, 1, 0, 0), (70, .aload_n 0, 1, 0, 0), (71, .iload_n 1, 1, 0, 0), (72, .invokevirtual 340, 3, 247, 0), (75, .ireturn, 1, 0, 0), (76, .iconst (-1), 1, 0, 0), (77, .ireturn, 1, 0, 0)]
set_option maxRecDepth 100000 in
theorem ck249 : codeOK 249 cd249 := ⟨by decide, by decide +kernel⟩
/-- CountedTwiceModel.aDigit(I)V -/
def cd250 : List Ent := [(0, .iconst 0, 1, 0, 0), (1, .istore_n 2, 1, 0, 0), (2, .iload_n 2, 1, 0, 0), (3, .sipush 3616, 3, 0, 0), (6, .if_icmp .ge 16, 3, 0, 0), (9, .aload_n 0, 1, 0, 0), (10, .getfield 79, 3, 12, 37), (13, .iload_n 2, 1, 0, 0), (14, .lconst 0, 1, 0, 0), (15, .lastore, 1, 0, 0), (16, .iinc 2 1, 3, 0, 0), (19, .goto (-17), 3, 0, 0), (22, .iconst 0, 1, 0, 0), (23, .istore_n 2, 1, 0, 0), (24, .iload_n 2, 1, 0, 0), (25, .iload_n 1, 1, 0, 0), (26, .if_icmp .gt 120, 3, 0, 0), (29, .iconst 0, 1, 0, 0), (30, .istore_n 3, 1, 0, 0), (31, .iload_n 3, 1, 0, 0), (32, .sipush 226, 3, 0, 0), (35, .if_icmp .ge 105, 3, 0, 0), (38, .aload_n 0, 1, 0, 0), (39, .getfield 76, 3, 12, 36), (42, .sipush 226, 3, 0, 0), (45, .iload_n 2, 1, 0, 0), (46, .imul, 1, 0, 0), (47, .iload_n 3, 1, 0, 0), (48, .iadd, 1, 0, 0), (49, .laload, 1, 0, 0), (50, .lconst 0, 1, 0, 0), (51, .lcmp, 1, 0, 0), (52, .ifCond .ne 6, 3, 0, 0), (55, .goto 79, 3, 0, 0), (58, .iconst 0, 1, 0, 0), (59, .istore 4, 2, 0, 0), (61, .iload_n 2, 1, 0, 0), (62, .iload 4, 2, 0, 0), (64, .iadd, 1, 0, 0), (65, .iload_n 1, 1, 0, 0), (66, .if_icmp .gt 68, 3, 0, 0), (69, .iload_n 3, 1, 0, 0), (70, .iload 4, 2, 0, 0), (72, .iload 4, 2, 0, 0), (74, .imul, 1, 0, 0), (75, .iadd, 1, 0, 0), (76, .sipush 226, 3, 0, 0), (79, .if_icmp .ge 49, 3, 0, 0), (82, .aload_n 0, 1, 0, 0), (83, .getfield 79, 3, 12, 37), (86, .sipush 226, 3, 0, 0), (89, .iload_n 2, 1, 0, 0), (90, .iload 4, 2, 0, 0), (92, .iadd, 1, 0, 0), (93, .imul, 1, 0, 0), (94, .iload_n 3, 1, 0, 0), (95, .iadd, 1, 0, 0), (96, .iload 4, 2, 0, 0), (98, .iload 4, 2, 0, 0), (100, .imul, 1, 0, 0), (101, .iadd, 1, 0, 0), (102, .dup2, 1, 0, 0), (103, .laload, 1, 0, 0), (104, .aload_n 0, 1, 0, 0), (105, .getfield 76, 3, 12, 36), (108, .sipush 226, 3, 0, 0), (111, .iload_n 2, 1, 0, 0), (112, .imul, 1, 0, 0), (113, .iload_n 3, 1, 0, 0), (114, .iadd, 1, 0, 0), (115, .laload, 1, 0, 0), (116, .aload_n 0, 1, 0, 0), (117, .iload_n 1, 1, 0, 0), (118, .iload_n 2, 1, 0, 0), (119, .isub, 1, 0, 0), (120, .iload 4, 2, 0, 0), (122, .invokevirtual 318, 3, 241, 0), (125, .lmul, 1, 0, 0), (126, .ladd, 1, 0, 0), (127, .lastore, 1, 0, 0), (128, .iinc 4 1, 3, 0, 0), (131, .goto (-70), 3, 0, 0), (134, .iinc 3 1, 3, 0, 0), (137, .goto (-106), 3, 0, 0), (140, .iinc 2 1, 3, 0, 0), (143, .goto (-119), 3, 0, 0), (146, .aload_n 0, 1, 0, 0), (147, .getfield 76, 3, 12, 36), (150, .astore_n 2, 1, 0, 0), (151, .aload_n 0, 1, 0, 0), (152, .aload_n 0, 1, 0, 0), (153, .getfield 79, 3, 12, 37), (156, .putfield 76, 3, 12, 36), (159, .aload_n 0, 1, 0, 0), (160, .aload_n 2, 1, 0, 0), (161, .putfield 79, 3, 12, 37), (164, .return_, 1, 0, 0)]
set_option maxRecDepth 100000 in
theorem ck250 : codeOK 250 cd250 := ⟨by decide, by decide +kernel⟩
/-- CountedTwiceModel.even(I)J -/
def cd251 : List Ent := [(0, .iload_n 1, 1, 0, 0), (1, .invokestatic 331, 3, 248, 0), (4, .ifCond .ne 7, 3, 0, 0), (7, .ldc2_w 313, 3, 0, (-1)), (10, .lreturn, 1, 0, 0), (11, .aload_n 0, 1, 0, 0), (12, .invokevirtual 315, 3, 240, 0), (15, .aload_n 0, 1, 0, 0), (16, .iload_n 1, 1, 0, 0), (17, .invokevirtual 340, 3, 247, 0), (20, .istore_n 2, 1, 0, 0), (21, .aload_n 0, 1, 0, 0), (22, .getfield 328, 3, 12, 35), (25, .istore_n 3, 1, 0, 0), (26, .iconst 0, 1, 0, 0), (27, .istore 4, 2, 0, 0), (29, .iload 4, 2, 0, 0), (31, .sipush 3616, 3, 0, 0), (34, .if_icmp .ge 17, 3, 0, 0), (37, .aload_n 0, 1, 0, 0), (38, .getfield 76, 3, 12, 36), (41, .iload 4, 2, 0, 0), (43, .lconst 0, 1, 0, 0), (44, .lastore, 1, 0, 0), (45, .iinc 4 1, 3, 0, 0), (48, .goto (-19), 3, 0, 0), (51, .aload_n 0, 1, 0, 0), (52, .getfield 76, 3, 12, 36), (55, .iconst 0, 1, 0, 0), (56, .lconst 1, 1, 0, 0), (57, .lastore, 1, 0, 0), (58, .iconst 0, 1, 0, 0), (59, .istore 4, 2, 0, 0), (61, .iload 4, 2, 0, 0), (63, .bipush 10, 2, 0, 0), (65, .if_icmp .ge 14, 3, 0, 0), (68, .aload_n 0, 1, 0, 0), (69, .iload_n 3, 1, 0, 0), (70, .invokevirtual 343, 3, 250, 0), (73, .iinc 4 1, 3, 0, 0), (76, .goto (-15), 3, 0, 0), (79, .lconst 0, 1, 0, 0), (80, .lstore 4, 2, 0, 0), (82, .iconst 0, 1, 0, 0), (83, .istore 6, 2, 0, 0), (85, .iload 6, 2, 0, 0), (87, .iload_n 2, 1, 0, 0), (88, .if_icmp .gt 27, 3, 0, 0), (91, .lload 4, 2, 0, 0), (93, .aload_n 0, 1, 0, 0), (94, .getfield 76, 3, 12, 36), (97, .sipush 226, 3, 0, 0), (100, .iload_n 3, 1, 0, 0), (101, .imul, 1, 0, 0), (102, .iload 6, 2, 0, 0), (104, .iadd, 1, 0, 0), (105, .laload, 1, 0, 0), (106, .ladd, 1, 0, 0), (107, .lstore 4, 2, 0, 0), (109, .iinc 6 1, 3, 0, 0), (112, .goto (-27), 3, 0, 0), (115, .lload 4, 2, 0, 0), (117, .lreturn, 1, 0, 0)]
set_option maxRecDepth 100000 in
theorem ck251 : codeOK 251 cd251 := ⟨by decide, by decide +kernel⟩
/-- CountedTwiceModel.suspect()I -/
def cd252 : List Ent := [(0, .iconst (-1), 1, 0, 0), (1, .istore_n 1, 1, 0, 0), (2, .iconst 0, 1, 0, 0), (3, .istore_n 2, 1, 0, 0), (4, .iconst 0, 1, 0, 0), (5, .istore_n 3, 1, 0, 0), (6, .iload_n 3, 1, 0, 0), (7, .bipush 11, 2, 0, 0), (9, .if_icmp .ge 37, 3, 0, 0), (12, .aload_n 0, 1, 0, 0), (13, .iload_n 3, 1, 0, 0), (14, .invokevirtual 334, 3, 245, 0), (17, .aload_n 0, 1, 0, 0), (18, .iload_n 3, 1, 0, 0), (19, .iconst 0, 1, 0, 0), (20, .invokevirtual 337, 3, 246, 0), (23, .iadd, 1, 0, 0), (24, .istore 4, 2, 0, 0), (26, .iload 4, 2, 0, 0), (28, .iload_n 2, 1, 0, 0), (29, .if_icmp .gt 6, 3, 0, 0), (32, .goto 8, 3, 0, 0), (35, .iload_n 3, 1, 0, 0), (36, .istore_n 1, 1, 0, 0), (37, .iload 4, 2, 0, 0), (39, .istore_n 2, 1, 0, 0), (40, .iinc 3 1, 3, 0, 0), (43, .goto (-37), 3, 0, 0), (46, .iload_n 1, 1, 0, 0), (47, .ireturn, 1, 0, 0)]
set_option maxRecDepth 100000 in
theorem ck252 : codeOK 252 cd252 := ⟨by decide, by decide +kernel⟩
/-- CountedTwiceModel.step(III)I -/
def cd253 : List Ent := [(0, .iload_n 1, 1, 0, 0), (1, .iconst 0, 1, 0, 0), (2, .aload_n 0, 1, 0, 0), (3, .getfield 7, 3, 12, 0), (6, .bipush 7, 2, 0, 0), (8, .iaload, 1, 0, 0), (9, .invokestatic 100, 3, 181, 0), (12, .ifCond .eq 28, 3, 0, 0), (15, .iload_n 1, 1, 0, 0), (16, .bipush 24, 2, 0, 0), (18, .if_icmp .eq 22, 3, 0, 0), (21, .aload_n 0, 1, 0, 0), (22, .iload_n 2, 1, 0, 0), (23, .invokevirtual 122, 3, 185, 0), (26, .ifCond .eq 14, 3, 0, 0), (29, .iload_n 3, 1, 0, 0), (30, .iconst 0, 1, 0, 0), (31, .sipush 1439, 3, 0, 0), (34, .invokestatic 100, 3, 181, 0), (37, .ifCond .ne 5, 3, 0, 0), (40, .iconst (-1), 1, 0, 0), (41, .ireturn, 1, 0, 0), (42, .aload_n 0, 1, 0, 0), (43, .getfield 7, 3, 12, 0), (46, .sipush 400, 3, 0, 0), (49, .iconst 2, 1, 0, 0), (50, .iload_n 1, 1, 0, 0), (51, .imul, 1, 0, 0), (52, .iadd, 1, 0, 0), (53, .iload_n 2, 1, 0, 0), (54, .iastore, 1, 0, 0), (55, .aload_n 0, 1, 0, 0), (56, .getfield 7, 3, 12, 0), (59, .sipush 400, 3, 0, 0), (62, .iconst 2, 1, 0, 0), (63, .iload_n 1, 1, 0, 0), (64, .imul, 1, 0, 0), (65, .iadd, 1, 0, 0), (66, .iconst 1, 1, 0, 0), (67, .iadd, 1, 0, 0), (68, .iload_n 3, 1, 0, 0), (69, .iastore, 1, 0, 0), (70, .aload_n 0, 1, 0, 0), (71, .getfield 7, 3, 12, 0), (74, .bipush 7, 2, 0, 0), (76, .iload_n 1, 1, 0, 0), (77, .iconst 1, 1, 0, 0), (78, .iadd, 1, 0, 0), (79, .iastore, 1, 0, 0), (80, .aload_n 0, 1, 0, 0), (81, .getfield 7, 3, 12, 0), (84, .bipush 7, 2, 0, 0), (86, .iaload, 1, 0, 0), (87, .ireturn, 1, 0, 0)]
set_option maxRecDepth 100000 in
theorem ck253 : codeOK 253 cd253 := ⟨by decide, by decide +kernel⟩
/-- CountedTwiceModel.isRight(II)Z -/
def cd254 : List Ent := [(0, .aload_n 0, 1, 0, 0), (1, .getfield 7, 3, 12, 0), (4, .sipush 400, 3, 0, 0), (7, .iconst 2, 1, 0, 0), (8, .iload_n 1, 1, 0, 0), (9, .imul, 1, 0, 0), (10, .iadd, 1, 0, 0), (11, .iaload, 1, 0, 0), (12, .istore_n 3, 1, 0, 0), (13, .aload_n 0, 1, 0, 0), (14, .getfield 7, 3, 12, 0), (17, .sipush 400, 3, 0, 0), (20, .iconst 2, 1, 0, 0), (21, .iload_n 1, 1, 0, 0), (22, .imul, 1, 0, 0), (23, .iadd, 1, 0, 0), (24, .iconst 1, 1, 0, 0), (25, .iadd, 1, 0, 0), (26, .iaload, 1, 0, 0), (27, .istore 4, 2, 0, 0), (29, .aload_n 0, 1, 0, 0), (30, .iload_n 3, 1, 0, 0), (31, .iload_n 2, 1, 0, 0), (32, .iload 4, 2, 0, 0), (34, .invokevirtual 289, 3, 229, 0), (37, .ifCond .eq 50, 3, 0, 0), (40, .iload_n 1, 1, 0, 0), (41, .ifCond .eq 42, 3, 0, 0), (44, .iload 4, 2, 0, 0), (46, .aload_n 0, 1, 0, 0), (47, .getfield 7, 3, 12, 0), (50, .sipush 400, 3, 0, 0), (53, .iconst 2, 1, 0, 0), (54, .iload_n 1, 1, 0, 0), (55, .imul, 1, 0, 0), (56, .iadd, 1, 0, 0), (57, .iconst 1, 1, 0, 0), (58, .isub, 1, 0, 0), (59, .iaload, 1, 0, 0), (60, .aload_n 0, 1, 0, 0), (61, .aload_n 0, 1, 0, 0), (62, .getfield 7, 3, 12, 0), (65, .sipush 400, 3, 0, 0), (68, .iconst 2, 1, 0, 0), (69, .iload_n 1, 1, 0, 0), (70, .imul, 1, 0, 0), (71, .iadd, 1, 0, 0), (72, .iconst 2, 1, 0, 0), (73, .isub, 1, 0, 0), (74, .iaload, 1, 0, 0), (75, .iload_n 3, 1, 0, 0), (76, .invokevirtual 125, 3, 195, 0), (79, .iadd, 1, 0, 0), (80, .if_icmp .lt 7, 3, 0, 0), (83, .iconst 1, 1, 0, 0), (84, .goto 4, 3, 0, 0), (87, .iconst 0, 1, 0, 0), (88, .ireturn, 1, 0, 0)]
set_option maxRecDepth 100000 in
theorem ck254 : codeOK 254 cd254 := ⟨by decide, by decide +kernel⟩
/-- CountedTwiceModel.round(II)I -/
def cd255 : List Ent := [(0, .iload_n 1, 1, 0, 0), (1, .iconst 0, 1, 0, 0), (2, .bipush 99, 2, 0, 0), (4, .invokestatic 100, 3, 181, 0), (7, .ifCond .eq 12, 3, 0, 0), (10, .iload_n 2, 1, 0, 0), (11, .iconst 0, 1, 0, 0), (12, .iconst 1, 1, 0, 0), (13, .invokestatic 100, 3, 181, 0), (16, .ifCond .ne 5, 3, 0, 0), (19, .iconst (-1), 1, 0, 0), (20, .ireturn, 1, 0, 0), (21, .iconst 0, 1, 0, 0), (22, .istore_n 3, 1, 0, 0), (23, .iload_n 3, 1, 0, 0), (24, .aload_n 0, 1, 0, 0), (25, .getfield 7, 3, 12, 0), (28, .bipush 7, 2, 0, 0), (30, .iaload, 1, 0, 0), (31, .if_icmp .ge 18, 3, 0, 0), (34, .aload_n 0, 1, 0, 0), (35, .iload_n 3, 1, 0, 0), (36, .iload_n 1, 1, 0, 0), (37, .invokevirtual 347, 3, 254, 0), (40, .ifCond .eq 9, 3, 0, 0), (43, .iinc 3 1, 3, 0, 0), (46, .goto (-23), 3, 0, 0), (49, .iload_n 2, 1, 0, 0), (50, .ifCond .ne 20, 3, 0, 0), (53, .iload_n 3, 1, 0, 0), (54, .aload_n 0, 1, 0, 0), (55, .getfield 7, 3, 12, 0), (58, .bipush 7, 2, 0, 0), (60, .iaload, 1, 0, 0), (61, .if_icmp .ne 7, 3, 0, 0), (64, .iconst (-1), 1, 0, 0), (65, .goto 4, 3, 0, 0), (68, .iload_n 3, 1, 0, 0), (69, .ireturn, 1, 0, 0), (70, .iconst 0, 1, 0, 0), (71, .istore 4, 2, 0, 0), (73, .iconst 0, 1, 0, 0), (74, .istore 5, 2, 0, 0), (76, .iload 5, 2, 0, 0), (78, .iload_n 3, 1, 0, 0), (79, .if_icmp .ge 84, 3, 0, 0), (82, .iconst 0, 1, 0, 0), (83, .istore 6, 2, 0, 0), (85, .iconst 0, 1, 0, 0), (86, .istore 7, 2, 0, 0), (88, .iload 7, 2, 0, 0), (90, .iload 5, 2, 0, 0), (92, .if_icmp .ge 50, 3, 0, 0), (95, .iload 6, 2, 0, 0), (97, .ifCond .ne 32, 3, 0, 0), (100, .aload_n 0, 1, 0, 0), (101, .getfield 7, 3, 12, 0), (104, .sipush 400, 3, 0, 0), (107, .iconst 2, 1, 0, 0), (108, .iload 7, 2, 0, 0), (110, .imul, 1, 0, 0), (111, .iadd, 1, 0, 0), (112, .iaload, 1, 0, 0), (113, .aload_n 0, 1, 0, 0), (114, .getfield 7, 3, 12, 0), (117, .sipush 400, 3, 0, 0), (120, .iconst 2, 1, 0, 0), (121, .iload 5, 2, 0, 0), (123, .imul, 1, 0, 0), (124, .iadd, 1, 0, 0), (125, .iaload, 1, 0, 0), (126, .if_icmp .ne 7, 3, 0, 0), (129, .iconst 1, 1, 0, 0), (130, .goto 4, 3, 0, 0), (133, .iconst 0, 1, 0, 0), (134, .istore 6, 2, 0, 0), (136, .iinc 7 1, 3, 0, 0), (139, .goto (-51), 3, 0, 0), (142, .iload 4, 2, 0, 0), (144, .iload 6, 2, 0, 0), (146, .ifCond .eq 7, 3, 0, 0), (149, .iconst 0, 1, 0, 0), (150, .goto 4, 3, 0, 0), (153, .iconst 1, 1, 0, 0), (154, .iadd, 1, 0, 0), (155, .istore 4, 2, 0, 0), (157, .iinc 5 1, 3, 0, 0), (160, .goto (-84), 3, 0, 0), (163, .iload 4, 2, 0, 0), (165, .ireturn, 1, 0, 0)]
set_option maxRecDepth 100000 in
theorem ck255 : codeOK 255 cd255 := ⟨by decide, by decide +kernel⟩
/-- CountedTwiceModel.missed(I)I -/
def cd256 : List Ent := [(0, .iconst 0, 1, 0, 0), (1, .istore_n 2, 1, 0, 0), (2, .iload_n 2, 1, 0, 0), (3, .bipush 60, 2, 0, 0), (5, .if_icmp .ge 16, 3, 0, 0), (8, .aload_n 0, 1, 0, 0), (9, .getfield 82, 3, 12, 38), (12, .iload_n 2, 1, 0, 0), (13, .iconst 0, 1, 0, 0), (14, .bastore, 1, 0, 0), (15, .iinc 2 1, 3, 0, 0), (18, .goto (-16), 3, 0, 0), (21, .iconst 0, 1, 0, 0), (22, .istore_n 2, 1, 0, 0), (23, .iload_n 2, 1, 0, 0), (24, .aload_n 0, 1, 0, 0), (25, .getfield 7, 3, 12, 0), (28, .iconst 4, 1, 0, 0), (29, .iaload, 1, 0, 0), (30, .if_icmp .ge 29, 3, 0, 0), (33, .aload_n 0, 1, 0, 0), (34, .iload_n 2, 1, 0, 0), (35, .invokevirtual 295, 3, 225, 0), (38, .ifCond .eq 15, 3, 0, 0), (41, .aload_n 0, 1, 0, 0), (42, .getfield 82, 3, 12, 38), (45, .aload_n 0, 1, 0, 0), (46, .iload_n 2, 1, 0, 0), (47, .iconst 2, 1, 0, 0), (48, .invokevirtual 277, 3, 188, 0), (51, .iconst 1, 1, 0, 0), (52, .bastore, 1, 0, 0), (53, .iinc 2 1, 3, 0, 0), (56, .goto (-33), 3, 0, 0), (59, .iconst 0, 1, 0, 0), (60, .istore_n 2, 1, 0, 0), (61, .iconst 0, 1, 0, 0), (62, .istore_n 3, 1, 0, 0), (63, .iload_n 3, 1, 0, 0), (64, .aload_n 0, 1, 0, 0), (65, .getfield 7, 3, 12, 0), (68, .iconst 3, 1, 0, 0), (69, .iaload, 1, 0, 0), (70, .if_icmp .ge 40, 3, 0, 0), (73, .iload_n 2, 1, 0, 0), (74, .aload_n 0, 1, 0, 0), (75, .getfield 82, 3, 12, 38), (78, .iload_n 3, 1, 0, 0), (79, .baload, 1, 0, 0), (80, .ifCond .ne 21, 3, 0, 0), (83, .iload_n 1, 1, 0, 0), (84, .iconst (-1), 1, 0, 0), (85, .if_icmp .eq 12, 3, 0, 0), (88, .aload_n 0, 1, 0, 0), (89, .iload_n 3, 1, 0, 0), (90, .invokevirtual 108, 3, 189, 0), (93, .iload_n 1, 1, 0, 0), (94, .if_icmp .ne 7, 3, 0, 0), (97, .iconst 1, 1, 0, 0), (98, .goto 4, 3, 0, 0), (101, .iconst 0, 1, 0, 0), (102, .iadd, 1, 0, 0), (103, .istore_n 2, 1, 0, 0), (104, .iinc 3 1, 3, 0, 0), (107, .goto (-44), 3, 0, 0), (110, .iload_n 2, 1, 0, 0), (111, .ireturn, 1, 0, 0)]
set_option maxRecDepth 100000 in
theorem ck256 : codeOK 256 cd256 := ⟨by decide, by decide +kernel⟩
/-- CountedTwiceModel.last(III)Z -/
def cd257 : List Ent := [(0, .iload_n 1, 1, 0, 0), (1, .tableswitch 184 0 3 #[31, 108, 141, 162], 31, 0, 0), (32, .iload_n 2, 1, 0, 0), (33, .iconst 0, 1, 0, 0), (34, .iconst 4, 1, 0, 0), (35, .invokestatic 100, 3, 181, 0), (38, .ifCond .eq 15, 3, 0, 0), (41, .iload_n 3, 1, 0, 0), (42, .iconst (-1), 1, 0, 0), (43, .if_icmp .eq 12, 3, 0, 0), (46, .iload_n 3, 1, 0, 0), (47, .invokestatic 104, 3, 186, 0), (50, .ifCond .ne 5, 3, 0, 0), (53, .iconst 0, 1, 0, 0), (54, .ireturn, 1, 0, 0), (55, .iconst 0, 1, 0, 0), (56, .istore 4, 2, 0, 0), (58, .iload 4, 2, 0, 0), (60, .iconst 5, 1, 0, 0), (61, .if_icmp .ge 36, 3, 0, 0), (64, .iload 4, 2, 0, 0), (66, .iload_n 2, 1, 0, 0), (67, .if_icmp .eq 24, 3, 0, 0), (70, .iload_n 3, 1, 0, 0), (71, .iconst (-1), 1, 0, 0), (72, .if_icmp .eq 19, 3, 0, 0), (75, .aload_n 0, 1, 0, 0), (76, .getfield 7, 3, 12, 0), (79, .bipush 10, 2, 0, 0), (81, .iload 4, 2, 0, 0), (83, .iadd, 1, 0, 0), (84, .iaload, 1, 0, 0), (85, .iload_n 3, 1, 0, 0), (86, .if_icmp .ne 5, 3, 0, 0), (89, .iconst 0, 1, 0, 0), (90, .ireturn, 1, 0, 0), (91, .iinc 4 1, 3, 0, 0), (94, .goto (-36), 3, 0, 0), (97, .aload_n 0, 1, 0, 0), (98, .getfield 7, 3, 12, 0), (101, .bipush 10, 2, 0, 0), (103, .iload_n 2, 1, 0, 0), (104, .iadd, 1, 0, 0), (105, .iload_n 3, 1, 0, 0), (106, .iastore, 1, 0, 0), (107, .iconst 1, 1, 0, 0), (108, .ireturn, 1, 0, 0), (109, .iload_n 2, 1, 0, 0), (110, .iconst 0, 1, 0, 0), (111, .iconst 5, 1, 0, 0), (112, .invokestatic 100, 3, 181, 0), (115, .ifCond .eq 13, 3, 0, 0), (118, .iload_n 3, 1, 0, 0), (119, .iconst 0, 1, 0, 0), (120, .bipush 9, 2, 0, 0), (122, .invokestatic 100, 3, 181, 0), (125, .ifCond .ne 5, 3, 0, 0), (128, .iconst 0, 1, 0, 0), (129, .ireturn, 1, 0, 0), (130, .aload_n 0, 1, 0, 0), (131, .getfield 7, 3, 12, 0), (134, .bipush 15, 2, 0, 0), (136, .iload_n 2, 1, 0, 0), (137, .iadd, 1, 0, 0), (138, .iload_n 3, 1, 0, 0), (139, .iastore, 1, 0, 0), (140, .iconst 1, 1, 0, 0), (141, .ireturn, 1, 0, 0), (142, .iload_n 3, 1, 0, 0), (143, .iconst 1, 1, 0, 0), (144, .iconst 4, 1, 0, 0), (145, .invokestatic 100, 3, 181, 0), (148, .ifCond .ne 5, 3, 0, 0), (151, .iconst 0, 1, 0, 0), (152, .ireturn, 1, 0, 0), (153, .aload_n 0, 1, 0, 0), (154, .getfield 7, 3, 12, 0), (157, .bipush 8, 2, 0, 0), (159, .iload_n 3, 1, 0, 0), (160, .iastore, 1, 0, 0), (161, .iconst 1, 1, 0, 0), (162, .ireturn, 1, 0, 0), (163, .iload_n 3, 1, 0, 0), (164, .iconst 1, 1, 0, 0), (165, .bipush 6, 2, 0, 0), (167, .invokestatic 100, 3, 181, 0), (170, .ifCond .ne 5, 3, 0, 0), (173, .iconst 0, 1, 0, 0), (174, .ireturn, 1, 0, 0), (175, .aload_n 0, 1, 0, 0), (176, .getfield 7, 3, 12, 0), (179, .bipush 9, 2, 0, 0), (181, .iload_n 3, 1, 0, 0), (182, .iastore, 1, 0, 0), (183, .iconst 1, 1, 0, 0), (184, .ireturn, 1, 0, 0), (185, .iconst 0, 1, 0, 0), (186, .ireturn, 1, 0, 0)]
set_option maxRecDepth 100000 in
theorem ck257 : codeOK 257 cd257 := ⟨by decide, by decide +kernel⟩
/-- CountedTwiceModel.closed(IIZ)Z -/
def cd258 : List Ent := [(0, .iload_n 1, 1, 0, 0), (1, .iconst 0, 1, 0, 0), (2, .iconst 4, 1, 0, 0), (3, .invokestatic 100, 3, 181, 0), (6, .ifCond .eq 12, 3, 0, 0), (9, .iload_n 2, 1, 0, 0), (10, .iconst 0, 1, 0, 0), (11, .iconst 3, 1, 0, 0), (12, .invokestatic 100, 3, 181, 0), (15, .ifCond .ne 5, 3, 0, 0), (18, .iconst 0, 1, 0, 0), (19, .ireturn, 1, 0, 0), (20, .aload_n 0, 1, 0, 0), (21, .getfield 7, 3, 12, 0), (24, .bipush 21, 2, 0, 0), (26, .iconst 4, 1, 0, 0), (27, .iload_n 1, 1, 0, 0), (28, .imul, 1, 0, 0), (29, .iadd, 1, 0, 0), (30, .iload_n 2, 1, 0, 0), (31, .iadd, 1, 0, 0), (32, .iload_n 3, 1, 0, 0), (33, .ifCond .eq 7, 3, 0, 0), (36, .iconst 1, 1, 0, 0), (37, .goto 4, 3, 0, 0), (40, .iconst 0, 1, 0, 0), (41, .iastore, 1, 0, 0), (42, .iconst 1, 1, 0, 0), (43, .ireturn, 1, 0, 0)]
set_option maxRecDepth 100000 in
theorem ck258 : codeOK 258 cd258 := ⟨by decide, by decide +kernel⟩
/-- CountedTwiceModel.plan(III)Z -/
def cd259 : List Ent := [(0, .iload_n 1, 1, 0, 0), (1, .iconst 0, 1, 0, 0), (2, .iconst 5, 1, 0, 0), (3, .invokestatic 100, 3, 181, 0), (6, .ifCond .eq 21, 3, 0, 0), (9, .iload_n 2, 1, 0, 0), (10, .iconst 0, 1, 0, 0), (11, .iconst 3, 1, 0, 0), (12, .invokestatic 100, 3, 181, 0), (15, .ifCond .eq 12, 3, 0, 0), (18, .iload_n 3, 1, 0, 0), (19, .iconst (-1), 1, 0, 0), (20, .iconst 4, 1, 0, 0), (21, .invokestatic 100, 3, 181, 0), (24, .ifCond .ne 5, 3, 0, 0), (27, .iconst 0, 1, 0, 0), (28, .ireturn, 1, 0, 0), (29, .aload_n 0, 1, 0, 0), (30, .getfield 7, 3, 12, 0), (33, .bipush 41, 2, 0, 0), (35, .iconst 4, 1, 0, 0), (36, .iload_n 1, 1, 0, 0), (37, .imul, 1, 0, 0), (38, .iadd, 1, 0, 0), (39, .iload_n 2, 1, 0, 0), (40, .iadd, 1, 0, 0), (41, .iload_n 3, 1, 0, 0), (42, .iastore, 1, 0, 0), (43, .iconst 1, 1, 0, 0), (44, .ireturn, 1, 0, 0)]
set_option maxRecDepth 100000 in
theorem ck259 : codeOK 259 cd259 := ⟨by decide, by decide +kernel⟩
/-- CountedTwiceModel.laysSlots()I -/
def cd260 : List Ent := [(0, .iconst 0, 1, 0, 0), (1, .istore_n 1, 1, 0, 0), (2, .iconst 0, 1, 0, 0), (3, .istore_n 2, 1, 0, 0), (4, .iload_n 2, 1, 0, 0), (5, .iconst 5, 1, 0, 0), (6, .if_icmp .ge 67, 3, 0, 0), (9, .aload_n 0, 1, 0, 0), (10, .getfield 7, 3, 12, 0), (13, .bipush 10, 2, 0, 0), (15, .iload_n 2, 1, 0, 0), (16, .iadd, 1, 0, 0), (17, .iaload, 1, 0, 0), (18, .iconst (-1), 1, 0, 0), (19, .if_icmp .ne 7, 3, 0, 0), (22, .iconst 0, 1, 0, 0), (23, .goto 16, 3, 0, 0), (26, .aload_n 0, 1, 0, 0), (27, .aload_n 0, 1, 0, 0), (28, .getfield 7, 3, 12, 0), (31, .bipush 10, 2, 0, 0), (33, .iload_n 2, 1, 0, 0), (34, .iadd, 1, 0, 0), (35, .iaload, 1, 0, 0), (36, .invokevirtual 350, 3, 256, 0), (39, .istore_n 3, 1, 0, 0), (40, .aload_n 0, 1, 0, 0), (41, .getfield 85, 3, 12, 39), (44, .iload_n 2, 1, 0, 0), (45, .iload_n 3, 1, 0, 0), (46, .bipush 9, 2, 0, 0), (48, .if_icmp .le 8, 3, 0, 0), (51, .bipush 9, 2, 0, 0), (53, .goto 4, 3, 0, 0), (56, .iload_n 3, 1, 0, 0), (57, .iastore, 1, 0, 0), (58, .iload_n 1, 1, 0, 0), (59, .aload_n 0, 1, 0, 0), (60, .getfield 85, 3, 12, 39), (63, .iload_n 2, 1, 0, 0), (64, .iaload, 1, 0, 0), (65, .iadd, 1, 0, 0), (66, .istore_n 1, 1, 0, 0), (67, .iinc 2 1, 3, 0, 0), (70, .goto (-66), 3, 0, 0), (73, .iload_n 1, 1, 0, 0), (74, .ireturn, 1, 0, 0)]
set_option maxRecDepth 100000 in
theorem ck260 : codeOK 260 cd260 := ⟨by decide, by decide +kernel⟩
/-- CountedTwiceModel.isOpen(II)Z -/
def cd261 : List Ent := [(0, .aload_n 0, 1, 0, 0), (1, .getfield 7, 3, 12, 0), (4, .bipush 10, 2, 0, 0), (6, .iload_n 1, 1, 0, 0), (7, .iadd, 1, 0, 0), (8, .iaload, 1, 0, 0), (9, .iconst (-1), 1, 0, 0), (10, .if_icmp .eq 23, 3, 0, 0), (13, .aload_n 0, 1, 0, 0), (14, .getfield 7, 3, 12, 0), (17, .bipush 21, 2, 0, 0), (19, .iconst 4, 1, 0, 0), (20, .iload_n 1, 1, 0, 0), (21, .imul, 1, 0, 0), (22, .iadd, 1, 0, 0), (23, .iload_n 2, 1, 0, 0), (24, .iadd, 1, 0, 0), (25, .iaload, 1, 0, 0), (26, .ifCond .ne 7, 3, 0, 0), (29, .iconst 1, 1, 0, 0), (30, .goto 4, 3, 0, 0), (33, .iconst 0, 1, 0, 0), (34, .ireturn, 1, 0, 0)]
set_option maxRecDepth 100000 in
theorem ck261 : codeOK 261 cd261 := ⟨by decide, by decide +kernel⟩
/-- CountedTwiceModel.planned()I -/
def cd262 : List Ent := [(0, .aload_n 0, 1, 0, 0), (1, .invokevirtual 353, 3, 260, 0), (4, .pop, 1, 0, 0), (5, .iconst 0, 1, 0, 0), (6, .istore_n 1, 1, 0, 0), (7, .iconst 0, 1, 0, 0), (8, .istore_n 2, 1, 0, 0), (9, .iload_n 2, 1, 0, 0), (10, .aload_n 0, 1, 0, 0), (11, .getfield 7, 3, 12, 0), (14, .bipush 8, 2, 0, 0), (16, .iaload, 1, 0, 0), (17, .if_icmp .ge 119, 3, 0, 0), (20, .iconst 0, 1, 0, 0), (21, .istore_n 3, 1, 0, 0), (22, .iload_n 3, 1, 0, 0), (23, .aload_n 0, 1, 0, 0), (24, .getfield 7, 3, 12, 0), (27, .bipush 9, 2, 0, 0), (29, .iaload, 1, 0, 0), (30, .if_icmp .ge 100, 3, 0, 0), (33, .aload_n 0, 1, 0, 0), (34, .getfield 7, 3, 12, 0), (37, .bipush 41, 2, 0, 0), (39, .iconst 4, 1, 0, 0), (40, .iload_n 3, 1, 0, 0), (41, .imul, 1, 0, 0), (42, .iadd, 1, 0, 0), (43, .iload_n 2, 1, 0, 0), (44, .iadd, 1, 0, 0), (45, .iaload, 1, 0, 0), (46, .istore 4, 2, 0, 0), (48, .iload 4, 2, 0, 0), (50, .iconst (-1), 1, 0, 0), (51, .if_icmp .eq 73, 3, 0, 0), (54, .aload_n 0, 1, 0, 0), (55, .iload 4, 2, 0, 0), (57, .iload_n 2, 1, 0, 0), (58, .invokevirtual 356, 3, 261, 0), (61, .ifCond .ne 6, 3, 0, 0), (64, .goto 60, 3, 0, 0), (67, .aload_n 0, 1, 0, 0), (68, .getfield 85, 3, 12, 39), (71, .iload 4, 2, 0, 0), (73, .iaload, 1, 0, 0), (74, .aload_n 0, 1, 0, 0), (75, .getfield 7, 3, 12, 0), (78, .bipush 15, 2, 0, 0), (80, .iload_n 3, 1, 0, 0), (81, .iadd, 1, 0, 0), (82, .iaload, 1, 0, 0), (83, .if_icmp .ge 13, 3, 0, 0), (86, .aload_n 0, 1, 0, 0), (87, .getfield 85, 3, 12, 39), (90, .iload 4, 2, 0, 0), (92, .iaload, 1, 0, 0), (93, .goto 12, 3, 0, 0), (96, .aload_n 0, 1, 0, 0), (97, .getfield 7, 3, 12, 0), (100, .bipush 15, 2, 0, 0), (102, .iload_n 3, 1, 0, 0), (103, .iadd, 1, 0, 0), (104, .iaload, 1, 0, 0), (105, .istore 5, 2, 0, 0), (107, .aload_n 0, 1, 0, 0), (108, .getfield 85, 3, 12, 39), (111, .iload 4, 2, 0, 0), (113, .dup2, 1, 0, 0), (114, .iaload, 1, 0, 0), (115, .iload 5, 2, 0, 0), (117, .isub, 1, 0, 0), (118, .iastore, 1, 0, 0), (119, .iload_n 1, 1, 0, 0), (120, .iload 5, 2, 0, 0), (122, .iadd, 1, 0, 0), (123, .istore_n 1, 1, 0, 0), (124, .iinc 3 1, 3, 0, 0), (127, .goto (-105), 3, 0, 0), (130, .iinc 2 1, 3, 0, 0), (133, .goto (-124), 3, 0, 0), (136, .iload_n 1, 1, 0, 0), (137, .ireturn, 1, 0, 0)]
set_option maxRecDepth 100000 in
theorem ck262 : codeOK 262 cd262 := ⟨by decide, by decide +kernel⟩
/-- CountedTwiceModel.aWalk(II)V -/
def cd263 : List Ent := [(0, .iconst 0, 1, 0, 0), (1, .istore_n 3, 1, 0, 0), (2, .iload_n 3, 1, 0, 0), (3, .ldc 88, 2, 0, 100000), (5, .if_icmp .ge 21, 3, 0, 0), (8, .aload_n 0, 1, 0, 0), (9, .getfield 92, 3, 12, 41), (12, .iload_n 3, 1, 0, 0), (13, .aload_n 0, 1, 0, 0), (14, .getfield 89, 3, 12, 40), (17, .iload_n 3, 1, 0, 0), (18, .baload, 1, 0, 0), (19, .bastore, 1, 0, 0), (20, .iinc 3 1, 3, 0, 0), (23, .goto (-21), 3, 0, 0), (26, .iconst 1, 1, 0, 0), (27, .istore_n 3, 1, 0, 0), (28, .iconst 0, 1, 0, 0), (29, .istore 4, 2, 0, 0), (31, .iload 4, 2, 0, 0), (33, .iconst 5, 1, 0, 0), (34, .if_icmp .ge 105, 3, 0, 0), (37, .iconst 0, 1, 0, 0), (38, .istore 5, 2, 0, 0), (40, .iload 5, 2, 0, 0), (42, .ldc 88, 2, 0, 100000), (44, .if_icmp .ge 84, 3, 0, 0), (47, .aload_n 0, 1, 0, 0), (48, .iload 4, 2, 0, 0), (50, .iload_n 2, 1, 0, 0), (51, .invokevirtual 356, 3, 261, 0), (54, .ifCond .eq 74, 3, 0, 0), (57, .aload_n 0, 1, 0, 0), (58, .getfield 89, 3, 12, 40), (61, .iload 5, 2, 0, 0), (63, .baload, 1, 0, 0), (64, .ifCond .ne 6, 3, 0, 0), (67, .goto 55, 3, 0, 0), (70, .iload 5, 2, 0, 0), (72, .iload_n 3, 1, 0, 0), (73, .idiv, 1, 0, 0), (74, .bipush 10, 2, 0, 0), (76, .irem, 1, 0, 0), (77, .istore 6, 2, 0, 0), (79, .iload 6, 2, 0, 0), (81, .aload_n 0, 1, 0, 0), (82, .getfield 7, 3, 12, 0), (85, .bipush 15, 2, 0, 0), (87, .iload_n 1, 1, 0, 0), (88, .iadd, 1, 0, 0), (89, .iaload, 1, 0, 0), (90, .if_icmp .ge 8, 3, 0, 0), (93, .iload 6, 2, 0, 0), (95, .goto 12, 3, 0, 0), (98, .aload_n 0, 1, 0, 0), (99, .getfield 7, 3, 12, 0), (102, .bipush 15, 2, 0, 0), (104, .iload_n 1, 1, 0, 0), (105, .iadd, 1, 0, 0), (106, .iaload, 1, 0, 0), (107, .istore 7, 2, 0, 0), (109, .aload_n 0, 1, 0, 0), (110, .getfield 92, 3, 12, 41), (113, .iload 5, 2, 0, 0), (115, .iload 7, 2, 0, 0), (117, .iload_n 3, 1, 0, 0), (118, .imul, 1, 0, 0), (119, .isub, 1, 0, 0), (120, .iconst 1, 1, 0, 0), (121, .bastore, 1, 0, 0), (122, .iinc 5 1, 3, 0, 0), (125, .goto (-85), 3, 0, 0), (128, .iload_n 3, 1, 0, 0), (129, .bipush 10, 2, 0, 0), (131, .imul, 1, 0, 0), (132, .istore_n 3, 1, 0, 0), (133, .iinc 4 1, 3, 0, 0), (136, .goto (-105), 3, 0, 0), (139, .aload_n 0, 1, 0, 0), (140, .getfield 89, 3, 12, 40), (143, .astore 4, 2, 0, 0), (145, .aload_n 0, 1, 0, 0), (146, .aload_n 0, 1, 0, 0), (147, .getfield 92, 3, 12, 41), (150, .putfield 89, 3, 12, 40), (153, .aload_n 0, 1, 0, 0), (154, .aload 4, 2, 0, 0), (156, .putfield 92, 3, 12, 41), (159, .return_, 1, 0, 0)]
set_option maxRecDepth 100000 in
theorem ck263 : codeOK 263 cd263 := ⟨by decide, by decide +kernel⟩
/-- CountedTwiceModel.best()I -/
def cd264 : List Ent := [(0, .aload_n 0, 1, 0, 0), (1, .invokevirtual 353, 3, 260, 0), (4, .istore_n 1, 1, 0, 0), (5, .iconst 0, 1, 0, 0), (6, .istore_n 2, 1, 0, 0), (7, .iload_n 2, 1, 0, 0), (8, .ldc 88, 2, 0, 100000), (10, .if_icmp .ge 16, 3, 0, 0), (13, .aload_n 0, 1, 0, 0), (14, .getfield 89, 3, 12, 40), (17, .iload_n 2, 1, 0, 0), (18, .iconst 0, 1, 0, 0), (19, .bastore, 1, 0, 0), (20, .iinc 2 1, 3, 0, 0), (23, .goto (-16), 3, 0, 0), (26, .iconst 0, 1, 0, 0), (27, .istore_n 2, 1, 0, 0), (28, .iconst 4, 1, 0, 0), (29, .istore_n 3, 1, 0, 0), (30, .iload_n 3, 1, 0, 0), (31, .ifCond .lt 21, 3, 0, 0), (34, .bipush 10, 2, 0, 0), (36, .iload_n 2, 1, 0, 0), (37, .imul, 1, 0, 0), (38, .aload_n 0, 1, 0, 0), (39, .getfield 85, 3, 12, 39), (42, .iload_n 3, 1, 0, 0), (43, .iaload, 1, 0, 0), (44, .iadd, 1, 0, 0), (45, .istore_n 2, 1, 0, 0), (46, .iinc 3 (-1), 3, 0, 0), (49, .goto (-19), 3, 0, 0), (52, .aload_n 0, 1, 0, 0), (53, .getfield 89, 3, 12, 40), (56, .iload_n 2, 1, 0, 0), (57, .iconst 1, 1, 0, 0), (58, .bastore, 1, 0, 0), (59, .iconst 0, 1, 0, 0), (60, .istore_n 3, 1, 0, 0), (61, .iload_n 3, 1, 0, 0), (62, .aload_n 0, 1, 0, 0), (63, .getfield 7, 3, 12, 0), (66, .bipush 8, 2, 0, 0), (68, .iaload, 1, 0, 0), (69, .if_icmp .ge 37, 3, 0, 0), (72, .iconst 0, 1, 0, 0), (73, .istore 4, 2, 0, 0), (75, .iload 4, 2, 0, 0), (77, .aload_n 0, 1, 0, 0), (78, .getfield 7, 3, 12, 0), (81, .bipush 9, 2, 0, 0), (83, .iaload, 1, 0, 0), (84, .if_icmp .ge 16, 3, 0, 0), (87, .aload_n 0, 1, 0, 0), (88, .iload 4, 2, 0, 0), (90, .iload_n 3, 1, 0, 0), (91, .invokevirtual 359, 3, 263, 0), (94, .iinc 4 1, 3, 0, 0), (97, .goto (-22), 3, 0, 0), (100, .iinc 3 1, 3, 0, 0), (103, .goto (-42), 3, 0, 0), (106, .iconst 0, 1, 0, 0), (107, .istore_n 3, 1, 0, 0), (108, .iconst 0, 1, 0, 0), (109, .istore 4, 2, 0, 0), (111, .iload 4, 2, 0, 0), (113, .ldc 88, 2, 0, 100000), (115, .if_icmp .ge 81, 3, 0, 0), (118, .aload_n 0, 1, 0, 0), (119, .getfield 89, 3, 12, 40), (122, .iload 4, 2, 0, 0), (124, .baload, 1, 0, 0), (125, .ifCond .ne 6, 3, 0, 0), (128, .goto 62, 3, 0, 0), (131, .iload 4, 2, 0, 0), (133, .bipush 10, 2, 0, 0), (135, .irem, 1, 0, 0), (136, .iload 4, 2, 0, 0), (138, .bipush 10, 2, 0, 0), (140, .idiv, 1, 0, 0), (141, .bipush 10, 2, 0, 0), (143, .irem, 1, 0, 0), (144, .iadd, 1, 0, 0), (145, .iload 4, 2, 0, 0), (147, .bipush 100, 2, 0, 0), (149, .idiv, 1, 0, 0), (150, .bipush 10, 2, 0, 0), (152, .irem, 1, 0, 0), (153, .iadd, 1, 0, 0), (154, .iload 4, 2, 0, 0), (156, .sipush 1000, 3, 0, 0), (159, .idiv, 1, 0, 0), (160, .bipush 10, 2, 0, 0), (162, .irem, 1, 0, 0), (163, .iadd, 1, 0, 0), (164, .iload 4, 2, 0, 0), (166, .sipush 10000, 3, 0, 0), (169, .idiv, 1, 0, 0), (170, .iadd, 1, 0, 0), (171, .istore 5, 2, 0, 0), (173, .iload_n 1, 1, 0, 0), (174, .iload 5, 2, 0, 0), (176, .isub, 1, 0, 0), (177, .iload_n 3, 1, 0, 0), (178, .if_icmp .le 10, 3, 0, 0), (181, .iload_n 1, 1, 0, 0), (182, .iload 5, 2, 0, 0), (184, .isub, 1, 0, 0), (185, .goto 4, 3, 0, 0), (188, .iload_n 3, 1, 0, 0), (189, .istore_n 3, 1, 0, 0), (190, .iinc 4 1, 3, 0, 0), (193, .goto (-82), 3, 0, 0), (196, .iload_n 3, 1, 0, 0), (197, .ireturn, 1, 0, 0)]
set_option maxRecDepth 100000 in
theorem ck264 : codeOK 264 cd264 := ⟨by decide, by decide +kernel⟩
/-- CountedTwiceModel.lots(I)J -/
def cd265 : List Ent := [(0, .aload_n 0, 1, 0, 0), (1, .iconst (-1), 1, 0, 0), (2, .invokevirtual 350, 3, 256, 0), (5, .istore_n 2, 1, 0, 0), (6, .iload_n 1, 1, 0, 0), (7, .iconst 0, 1, 0, 0), (8, .iload_n 2, 1, 0, 0), (9, .invokestatic 100, 3, 181, 0), (12, .ifCond .ne 7, 3, 0, 0), (15, .ldc2_w 313, 3, 0, (-1)), (18, .lreturn, 1, 0, 0), (19, .iconst 0, 1, 0, 0), (20, .istore_n 3, 1, 0, 0), (21, .iconst 0, 1, 0, 0), (22, .istore 4, 2, 0, 0), (24, .iload 4, 2, 0, 0), (26, .aload_n 0, 1, 0, 0), (27, .getfield 7, 3, 12, 0), (30, .iconst 3, 1, 0, 0), (31, .iaload, 1, 0, 0), (32, .if_icmp .ge 33, 3, 0, 0), (35, .aload_n 0, 1, 0, 0), (36, .getfield 82, 3, 12, 38), (39, .iload 4, 2, 0, 0), (41, .baload, 1, 0, 0), (42, .ifCond .eq 6, 3, 0, 0), (45, .goto 14, 3, 0, 0), (48, .aload_n 0, 1, 0, 0), (49, .getfield 95, 3, 12, 42), (52, .iload_n 3, 1, 0, 0), (53, .iload 4, 2, 0, 0), (55, .iastore, 1, 0, 0), (56, .iinc 3 1, 3, 0, 0), (59, .iinc 4 1, 3, 0, 0), (62, .goto (-38), 3, 0, 0), (65, .lconst 0, 1, 0, 0), (66, .lstore 4, 2, 0, 0), (68, .iconst 0, 1, 0, 0), (69, .istore 6, 2, 0, 0), (71, .iload 6, 2, 0, 0), (73, .iload_n 1, 1, 0, 0), (74, .if_icmp .ge 65, 3, 0, 0), (77, .aload_n 0, 1, 0, 0), (78, .iload_n 3, 1, 0, 0), (79, .invokevirtual 362, 3, 184, 0), (82, .istore 7, 2, 0, 0), (84, .lload 4, 2, 0, 0), (86, .lconst 1, 1, 0, 0), (87, .aload_n 0, 1, 0, 0), (88, .getfield 95, 3, 12, 42), (91, .iload 7, 2, 0, 0), (93, .iaload, 1, 0, 0), (94, .lshl, 1, 0, 0), (95, .lor, 1, 0, 0), (96, .lstore 4, 2, 0, 0), (98, .iinc 3 (-1), 3, 0, 0), (101, .iload 7, 2, 0, 0), (103, .istore 8, 2, 0, 0), (105, .iload 8, 2, 0, 0), (107, .iload_n 3, 1, 0, 0), (108, .if_icmp .ge 25, 3, 0, 0), (111, .aload_n 0, 1, 0, 0), (112, .getfield 95, 3, 12, 42), (115, .iload 8, 2, 0, 0), (117, .aload_n 0, 1, 0, 0), (118, .getfield 95, 3, 12, 42), (121, .iload 8, 2, 0, 0), (123, .iconst 1, 1, 0, 0), (124, .iadd, 1, 0, 0), (125, .iaload, 1, 0, 0), (126, .iastore, 1, 0, 0), (127, .iinc 8 1, 3, 0, 0), (130, .goto (-25), 3, 0, 0), (133, .iinc 6 1, 3, 0, 0), (136, .goto (-65), 3, 0, 0), (139, .lload 4, 2, 0, 0), (141, .lreturn, 1, 0, 0)]
set_option maxRecDepth 100000 in
theorem ck265 : codeOK 265 cd265 := ⟨by decide, by decide +kernel⟩
/-- CountedTwiceModel.image(Z)Z -/
def cd266 : List Ent := [(0, .iload_n 1, 1, 0, 0), (1, .ifCond .ne 12, 3, 0, 0), (4, .aload_n 0, 1, 0, 0), (5, .getfield 365, 3, 12, 2), (8, .ifCond .ne 5, 3, 0, 0), (11, .iconst 0, 1, 0, 0), (12, .ireturn, 1, 0, 0), (13, .iconst 0, 1, 0, 0), (14, .istore_n 2, 1, 0, 0), (15, .iload_n 2, 1, 0, 0), (16, .sipush 5120, 3, 0, 0), (19, .if_icmp .ge 40, 3, 0, 0), (22, .iload_n 1, 1, 0, 0), (23, .ifCond .eq 18, 3, 0, 0), (26, .aload_n 0, 1, 0, 0), (27, .getfield 13, 3, 12, 1), (30, .iload_n 2, 1, 0, 0), (31, .aload_n 0, 1, 0, 0), (32, .getfield 7, 3, 12, 0), (35, .iload_n 2, 1, 0, 0), (36, .iaload, 1, 0, 0), (37, .iastore, 1, 0, 0), (38, .goto 15, 3, 0, 0), (41, .aload_n 0, 1, 0, 0), (42, .getfield 7, 3, 12, 0), (45, .iload_n 2, 1, 0, 0), (46, .aload_n 0, 1, 0, 0), (47, .getfield 13, 3, 12, 1), (50, .iload_n 2, 1, 0, 0), (51, .iaload, 1, 0, 0), (52, .iastore, 1, 0, 0), (53, .iinc 2 1, 3, 0, 0), (56, .goto (-41), 3, 0, 0), (59, .aload_n 0, 1, 0, 0), (60, .iconst 1, 1, 0, 0), (61, .putfield 365, 3, 12, 2), (64, .iconst 1, 1, 0, 0), (65, .ireturn, 1, 0, 0)]
set_option maxRecDepth 100000 in
theorem ck266 : codeOK 266 cd266 := ⟨by decide, by decide +kernel⟩
/-- CountedTwiceModel.known()I -/
def cd267 : List Ent := [(0, .iconst 0, 1, 0, 0), (1, .istore_n 1, 1, 0, 0), (2, .iconst 0, 1, 0, 0), (3, .istore_n 2, 1, 0, 0), (4, .iload_n 2, 1, 0, 0), (5, .aload_n 0, 1, 0, 0), (6, .getfield 7, 3, 12, 0), (9, .iconst 4, 1, 0, 0), (10, .iaload, 1, 0, 0), (11, .if_icmp .ge 25, 3, 0, 0), (14, .iload_n 1, 1, 0, 0), (15, .aload_n 0, 1, 0, 0), (16, .iload_n 2, 1, 0, 0), (17, .invokevirtual 295, 3, 225, 0), (20, .ifCond .eq 7, 3, 0, 0), (23, .iconst 1, 1, 0, 0), (24, .goto 4, 3, 0, 0), (27, .iconst 0, 1, 0, 0), (28, .iadd, 1, 0, 0), (29, .istore_n 1, 1, 0, 0), (30, .iinc 2 1, 3, 0, 0), (33, .goto (-29), 3, 0, 0), (36, .iload_n 1, 1, 0, 0), (37, .ireturn, 1, 0, 0)]
set_option maxRecDepth 100000 in
theorem ck267 : codeOK 267 cd267 := ⟨by decide, by decide +kernel⟩
end
section
/-- CountedTwiceModel.look(I)I -/
def cd268 : List Ent := [(0, .iload_n 1, 1, 0, 0), (1, .lookupswitch 179 #[(0, 99), (1, 106), (2, 113), (3, 118), (4, 125), (5, 133), (6, 142), (7, 148), (8, 156), (50, 163), (51, 171)], 99, 0, 0), (100, .aload_n 0, 1, 0, 0), (101, .getfield 7, 3, 12, 0), (104, .iconst 3, 1, 0, 0), (105, .iaload, 1, 0, 0), (106, .ireturn, 1, 0, 0), (107, .aload_n 0, 1, 0, 0), (108, .getfield 7, 3, 12, 0), (111, .iconst 4, 1, 0, 0), (112, .iaload, 1, 0, 0), (113, .ireturn, 1, 0, 0), (114, .aload_n 0, 1, 0, 0), (115, .invokevirtual 369, 3, 267, 0), (118, .ireturn, 1, 0, 0), (119, .aload_n 0, 1, 0, 0), (120, .getfield 7, 3, 12, 0), (123, .iconst 5, 1, 0, 0), (124, .iaload, 1, 0, 0), (125, .ireturn, 1, 0, 0), (126, .aload_n 0, 1, 0, 0), (127, .getfield 7, 3, 12, 0), (130, .bipush 6, 2, 0, 0), (132, .iaload, 1, 0, 0), (133, .ireturn, 1, 0, 0), (134, .aload_n 0, 1, 0, 0), (135, .invokevirtual 298, 3, 231, 0), (138, .aload_n 0, 1, 0, 0), (139, .getfield 292, 3, 12, 26), (142, .ireturn, 1, 0, 0), (143, .aload_n 0, 1, 0, 0), (144, .iconst (-1), 1, 0, 0), (145, .invokevirtual 350, 3, 256, 0), (148, .ireturn, 1, 0, 0), (149, .aload_n 0, 1, 0, 0), (150, .getfield 7, 3, 12, 0), (153, .bipush 7, 2, 0, 0), (155, .iaload, 1, 0, 0), (156, .ireturn, 1, 0, 0), (157, .aload_n 0, 1, 0, 0), (158, .getfield 7, 3, 12, 0), (161, .iconst 0, 1, 0, 0), (162, .iaload, 1, 0, 0), (163, .ireturn, 1, 0, 0), (164, .aload_n 0, 1, 0, 0), (165, .getfield 7, 3, 12, 0), (168, .bipush 8, 2, 0, 0), (170, .iaload, 1, 0, 0), (171, .ireturn, 1, 0, 0), (172, .aload_n 0, 1, 0, 0), (173, .getfield 7, 3, 12, 0), (176, .bipush 9, 2, 0, 0), (178, .iaload, 1, 0, 0), (179, .ireturn, 1, 0, 0), (180, .iload_n 1, 1, 0, 0), (181, .bipush 10, 2, 0, 0), (183, .bipush 21, 2, 0, 0), (185, .invokestatic 100, 3, 181, 0), (188, .ifCond .eq 12, 3, 0, 0), (191, .aload_n 0, 1, 0, 0), (192, .iload_n 1, 1, 0, 0), (193, .bipush 10, 2, 0, 0), (195, .isub, 1, 0, 0), (196, .invokevirtual 350, 3, 256, 0), (199, .ireturn, 1, 0, 0), (200, .iload_n 1, 1, 0, 0), (201, .bipush 30, 2, 0, 0), (203, .bipush 34, 2, 0, 0), (205, .invokestatic 100, 3, 181, 0), (208, .ifCond .eq 16, 3, 0, 0), (211, .aload_n 0, 1, 0, 0), (212, .getfield 7, 3, 12, 0), (215, .bipush 10, 2, 0, 0), (217, .iload_n 1, 1, 0, 0), (218, .iadd, 1, 0, 0), (219, .bipush 30, 2, 0, 0), (221, .isub, 1, 0, 0), (222, .iaload, 1, 0, 0), (223, .ireturn, 1, 0, 0), (224, .iload_n 1, 1, 0, 0), (225, .bipush 40, 2, 0, 0), (227, .bipush 45, 2, 0, 0), (229, .invokestatic 100, 3, 181, 0), (232, .ifCond .eq 18, 3, 0, 0), (235, .aload_n 0, 1, 0, 0), (236, .getfield 7, 3, 12, 0), (239, .bipush 15, 2, 0, 0), (241, .iload_n 1, 1, 0, 0), (242, .iadd, 1, 0, 0), (243, .bipush 40, 2, 0, 0), (245, .isub, 1, 0, 0), (246, .iaload, 1, 0, 0), (247, .goto 4, 3, 0, 0), (250, .iconst (-1), 1, 0, 0), (251, .ireturn, 1, 0, 0)]
set_option maxRecDepth 100000 in
theorem ck268 : codeOK 268 cd268 := ⟨by decide, by decide +kernel⟩
def cd269_0 : List Ent := [(0, .new 7, 3, 11, 0), (3, .dup, 1, 0, 0), (4, .invokespecial 9, 3, 136, 0), (7, .astore_n 1, 1, 0, 0), (8, .new 10, 3, 12, 0), (11, .dup, 1, 0, 0), (12, .invokespecial 12, 3, 180, 0), (15, .astore_n 2, 1, 0, 0), (16, .iconst 0, 1, 0, 0), (17, .istore_n 3, 1, 0, 0), (18, .iload_n 3, 1, 0, 0), (19, .aload_n 0, 1, 0, 0), (20, .arraylength, 1, 0, 0), (21, .bipush 7, 2, 0, 0), (23, .isub, 1, 0, 0), (24, .if_icmp .gt 1261, 3, 0, 0), (27, .aload_n 0, 1, 0, 0), (28, .iload_n 3, 1, 0, 0), (29, .iaload, 1, 0, 0), (30, .bipush 31, 2, 0, 0), (32, .iand, 1, 0, 0), (33, .tableswitch 1246 0 31 #[143, 166, 209, 252, 285, 328, 391, 414, 437, 460, 535, 558, 581, 614, 657, 700, 733, 766, 789, 843, 876, 900, 913, 956, 989, 1032, 1091, 1134, 1147, 1160, 1184, 1223], 143, 0, 0), (176, .aload_n 1, 1, 0, 0), (177, .aload_n 0, 1, 0, 0), (178, .iload_n 3, 1, 0, 0), (179, .iconst 1, 1, 0, 0), (180, .iadd, 1, 0, 0), (181, .iaload, 1, 0, 0), (182, .invokevirtual 13, 3, 137, 0), (185, .aload_n 2, 1, 0, 0), (186, .aload_n 0, 1, 0, 0), (187, .iload_n 3, 1, 0, 0), (188, .iconst 1, 1, 0, 0), (189, .iadd, 1, 0, 0), (190, .iaload, 1, 0, 0), (191, .invokevirtual 17, 3, 183, 0), (194, .if_icmp .eq 1085, 3, 0, 0), (197, .iconst 0, 1, 0, 0), (198, .ireturn, 1, 0, 0), (199, .aload_n 1, 1, 0, 0)]
set_option maxRecDepth 100000 in
theorem ck269_0 : cd269_0.all (chkE 269) = true := by decide +kernel
def cd269_1 : List Ent := [(200, .aload_n 0, 1, 0, 0), (201, .iload_n 3, 1, 0, 0), (202, .iconst 1, 1, 0, 0), (203, .iadd, 1, 0, 0), (204, .iaload, 1, 0, 0), (205, .aload_n 0, 1, 0, 0), (206, .iload_n 3, 1, 0, 0), (207, .iconst 2, 1, 0, 0), (208, .iadd, 1, 0, 0), (209, .iaload, 1, 0, 0), (210, .aload_n 0, 1, 0, 0), (211, .iload_n 3, 1, 0, 0), (212, .iconst 3, 1, 0, 0), (213, .iadd, 1, 0, 0), (214, .iaload, 1, 0, 0), (215, .invokevirtual 18, 3, 138, 0), (218, .aload_n 2, 1, 0, 0), (219, .aload_n 0, 1, 0, 0), (220, .iload_n 3, 1, 0, 0), (221, .iconst 1, 1, 0, 0), (222, .iadd, 1, 0, 0), (223, .iaload, 1, 0, 0), (224, .aload_n 0, 1, 0, 0), (225, .iload_n 3, 1, 0, 0), (226, .iconst 2, 1, 0, 0), (227, .iadd, 1, 0, 0), (228, .iaload, 1, 0, 0), (229, .aload_n 0, 1, 0, 0), (230, .iload_n 3, 1, 0, 0), (231, .iconst 3, 1, 0, 0), (232, .iadd, 1, 0, 0), (233, .iaload, 1, 0, 0), (234, .invokevirtual 22, 3, 191, 0), (237, .if_icmp .eq 1042, 3, 0, 0), (240, .iconst 0, 1, 0, 0), (241, .ireturn, 1, 0, 0), (242, .aload_n 1, 1, 0, 0), (243, .aload_n 0, 1, 0, 0), (244, .iload_n 3, 1, 0, 0), (245, .iconst 1, 1, 0, 0)]
set_option maxRecDepth 100000 in
theorem ck269_1 : cd269_1.all (chkE 269) = true := by decide +kernel
def cd269_2 : List Ent := [(246, .iadd, 1, 0, 0), (247, .iaload, 1, 0, 0), (248, .aload_n 0, 1, 0, 0), (249, .iload_n 3, 1, 0, 0), (250, .iconst 2, 1, 0, 0), (251, .iadd, 1, 0, 0), (252, .iaload, 1, 0, 0), (253, .aload_n 0, 1, 0, 0), (254, .iload_n 3, 1, 0, 0), (255, .iconst 3, 1, 0, 0), (256, .iadd, 1, 0, 0), (257, .iaload, 1, 0, 0), (258, .invokevirtual 23, 3, 139, 0), (261, .aload_n 2, 1, 0, 0), (262, .aload_n 0, 1, 0, 0), (263, .iload_n 3, 1, 0, 0), (264, .iconst 1, 1, 0, 0), (265, .iadd, 1, 0, 0), (266, .iaload, 1, 0, 0), (267, .aload_n 0, 1, 0, 0), (268, .iload_n 3, 1, 0, 0), (269, .iconst 2, 1, 0, 0), (270, .iadd, 1, 0, 0), (271, .iaload, 1, 0, 0), (272, .aload_n 0, 1, 0, 0), (273, .iload_n 3, 1, 0, 0), (274, .iconst 3, 1, 0, 0), (275, .iadd, 1, 0, 0), (276, .iaload, 1, 0, 0), (277, .invokevirtual 27, 3, 192, 0), (280, .if_icmp .eq 999, 3, 0, 0), (283, .iconst 0, 1, 0, 0), (284, .ireturn, 1, 0, 0), (285, .aload_n 1, 1, 0, 0), (286, .aload_n 0, 1, 0, 0), (287, .iload_n 3, 1, 0, 0), (288, .iconst 1, 1, 0, 0), (289, .iadd, 1, 0, 0), (290, .iaload, 1, 0, 0), (291, .aload_n 0, 1, 0, 0)]
set_option maxRecDepth 100000 in
theorem ck269_2 : cd269_2.all (chkE 269) = true := by decide +kernel
def cd269_3 : List Ent := [(292, .iload_n 3, 1, 0, 0), (293, .iconst 2, 1, 0, 0), (294, .iadd, 1, 0, 0), (295, .iaload, 1, 0, 0), (296, .invokevirtual 28, 3, 140, 0), (299, .aload_n 2, 1, 0, 0), (300, .aload_n 0, 1, 0, 0), (301, .iload_n 3, 1, 0, 0), (302, .iconst 1, 1, 0, 0), (303, .iadd, 1, 0, 0), (304, .iaload, 1, 0, 0), (305, .aload_n 0, 1, 0, 0), (306, .iload_n 3, 1, 0, 0), (307, .iconst 2, 1, 0, 0), (308, .iadd, 1, 0, 0), (309, .iaload, 1, 0, 0), (310, .invokevirtual 32, 3, 193, 0), (313, .if_icmp .eq 966, 3, 0, 0), (316, .iconst 0, 1, 0, 0), (317, .ireturn, 1, 0, 0), (318, .aload_n 1, 1, 0, 0), (319, .aload_n 0, 1, 0, 0), (320, .iload_n 3, 1, 0, 0), (321, .iconst 1, 1, 0, 0), (322, .iadd, 1, 0, 0), (323, .iaload, 1, 0, 0), (324, .aload_n 0, 1, 0, 0), (325, .iload_n 3, 1, 0, 0), (326, .iconst 2, 1, 0, 0), (327, .iadd, 1, 0, 0), (328, .iaload, 1, 0, 0), (329, .aload_n 0, 1, 0, 0), (330, .iload_n 3, 1, 0, 0), (331, .iconst 3, 1, 0, 0), (332, .iadd, 1, 0, 0), (333, .iaload, 1, 0, 0), (334, .invokevirtual 33, 3, 141, 0), (337, .aload_n 2, 1, 0, 0), (338, .aload_n 0, 1, 0, 0), (339, .iload_n 3, 1, 0, 0)]
set_option maxRecDepth 100000 in
theorem ck269_3 : cd269_3.all (chkE 269) = true := by decide +kernel
def cd269_4 : List Ent := [(340, .iconst 1, 1, 0, 0), (341, .iadd, 1, 0, 0), (342, .iaload, 1, 0, 0), (343, .aload_n 0, 1, 0, 0), (344, .iload_n 3, 1, 0, 0), (345, .iconst 2, 1, 0, 0), (346, .iadd, 1, 0, 0), (347, .iaload, 1, 0, 0), (348, .aload_n 0, 1, 0, 0), (349, .iload_n 3, 1, 0, 0), (350, .iconst 3, 1, 0, 0), (351, .iadd, 1, 0, 0), (352, .iaload, 1, 0, 0), (353, .invokevirtual 36, 3, 196, 0), (356, .if_icmp .eq 923, 3, 0, 0), (359, .iconst 0, 1, 0, 0), (360, .ireturn, 1, 0, 0), (361, .aload_n 1, 1, 0, 0), (362, .aload_n 0, 1, 0, 0), (363, .iload_n 3, 1, 0, 0), (364, .iconst 1, 1, 0, 0), (365, .iadd, 1, 0, 0), (366, .iaload, 1, 0, 0), (367, .aload_n 0, 1, 0, 0), (368, .iload_n 3, 1, 0, 0), (369, .iconst 2, 1, 0, 0), (370, .iadd, 1, 0, 0), (371, .iaload, 1, 0, 0), (372, .aload_n 0, 1, 0, 0), (373, .iload_n 3, 1, 0, 0), (374, .iconst 3, 1, 0, 0), (375, .iadd, 1, 0, 0), (376, .iaload, 1, 0, 0), (377, .aload_n 0, 1, 0, 0), (378, .iload_n 3, 1, 0, 0), (379, .iconst 4, 1, 0, 0), (380, .iadd, 1, 0, 0), (381, .iaload, 1, 0, 0), (382, .aload_n 0, 1, 0, 0), (383, .iload_n 3, 1, 0, 0)]
set_option maxRecDepth 100000 in
theorem ck269_4 : cd269_4.all (chkE 269) = true := by decide +kernel
def cd269_5 : List Ent := [(384, .iconst 5, 1, 0, 0), (385, .iadd, 1, 0, 0), (386, .iaload, 1, 0, 0), (387, .invokevirtual 37, 3, 142, 0), (390, .aload_n 2, 1, 0, 0), (391, .aload_n 0, 1, 0, 0), (392, .iload_n 3, 1, 0, 0), (393, .iconst 1, 1, 0, 0), (394, .iadd, 1, 0, 0), (395, .iaload, 1, 0, 0), (396, .aload_n 0, 1, 0, 0), (397, .iload_n 3, 1, 0, 0), (398, .iconst 2, 1, 0, 0), (399, .iadd, 1, 0, 0), (400, .iaload, 1, 0, 0), (401, .aload_n 0, 1, 0, 0), (402, .iload_n 3, 1, 0, 0), (403, .iconst 3, 1, 0, 0), (404, .iadd, 1, 0, 0), (405, .iaload, 1, 0, 0), (406, .aload_n 0, 1, 0, 0), (407, .iload_n 3, 1, 0, 0), (408, .iconst 4, 1, 0, 0), (409, .iadd, 1, 0, 0), (410, .iaload, 1, 0, 0), (411, .aload_n 0, 1, 0, 0), (412, .iload_n 3, 1, 0, 0), (413, .iconst 5, 1, 0, 0), (414, .iadd, 1, 0, 0), (415, .iaload, 1, 0, 0), (416, .invokevirtual 41, 3, 197, 0), (419, .if_icmp .eq 860, 3, 0, 0), (422, .iconst 0, 1, 0, 0), (423, .ireturn, 1, 0, 0), (424, .aload_n 1, 1, 0, 0), (425, .aload_n 0, 1, 0, 0), (426, .iload_n 3, 1, 0, 0), (427, .iconst 1, 1, 0, 0), (428, .iadd, 1, 0, 0), (429, .iaload, 1, 0, 0)]
set_option maxRecDepth 100000 in
theorem ck269_5 : cd269_5.all (chkE 269) = true := by decide +kernel
def cd269_6 : List Ent := [(430, .invokevirtual 42, 3, 144, 0), (433, .aload_n 2, 1, 0, 0), (434, .aload_n 0, 1, 0, 0), (435, .iload_n 3, 1, 0, 0), (436, .iconst 1, 1, 0, 0), (437, .iadd, 1, 0, 0), (438, .iaload, 1, 0, 0), (439, .invokevirtual 46, 3, 198, 0), (442, .if_icmp .eq 837, 3, 0, 0), (445, .iconst 0, 1, 0, 0), (446, .ireturn, 1, 0, 0), (447, .aload_n 1, 1, 0, 0), (448, .aload_n 0, 1, 0, 0), (449, .iload_n 3, 1, 0, 0), (450, .iconst 1, 1, 0, 0), (451, .iadd, 1, 0, 0), (452, .iaload, 1, 0, 0), (453, .invokevirtual 47, 3, 145, 0), (456, .aload_n 2, 1, 0, 0), (457, .aload_n 0, 1, 0, 0), (458, .iload_n 3, 1, 0, 0), (459, .iconst 1, 1, 0, 0), (460, .iadd, 1, 0, 0), (461, .iaload, 1, 0, 0), (462, .invokevirtual 50, 3, 218, 0), (465, .if_icmp .eq 814, 3, 0, 0), (468, .iconst 0, 1, 0, 0), (469, .ireturn, 1, 0, 0), (470, .aload_n 1, 1, 0, 0), (471, .aload_n 0, 1, 0, 0), (472, .iload_n 3, 1, 0, 0), (473, .iconst 1, 1, 0, 0), (474, .iadd, 1, 0, 0), (475, .iaload, 1, 0, 0), (476, .invokevirtual 51, 3, 146, 0), (479, .aload_n 2, 1, 0, 0), (480, .aload_n 0, 1, 0, 0), (481, .iload_n 3, 1, 0, 0), (482, .iconst 1, 1, 0, 0), (483, .iadd, 1, 0, 0)]
set_option maxRecDepth 100000 in
theorem ck269_6 : cd269_6.all (chkE 269) = true := by decide +kernel
def cd269_7 : List Ent := [(484, .iaload, 1, 0, 0), (485, .invokevirtual 54, 3, 219, 0), (488, .if_icmp .eq 791, 3, 0, 0), (491, .iconst 0, 1, 0, 0), (492, .ireturn, 1, 0, 0), (493, .aload_n 1, 1, 0, 0), (494, .aload_n 0, 1, 0, 0), (495, .iload_n 3, 1, 0, 0), (496, .iconst 1, 1, 0, 0), (497, .iadd, 1, 0, 0), (498, .iaload, 1, 0, 0), (499, .aload_n 0, 1, 0, 0), (500, .iload_n 3, 1, 0, 0), (501, .iconst 2, 1, 0, 0), (502, .iadd, 1, 0, 0), (503, .iaload, 1, 0, 0), (504, .aload_n 0, 1, 0, 0), (505, .iload_n 3, 1, 0, 0), (506, .iconst 3, 1, 0, 0), (507, .iadd, 1, 0, 0), (508, .iaload, 1, 0, 0), (509, .aload_n 0, 1, 0, 0), (510, .iload_n 3, 1, 0, 0), (511, .iconst 4, 1, 0, 0), (512, .iadd, 1, 0, 0), (513, .iaload, 1, 0, 0), (514, .aload_n 0, 1, 0, 0), (515, .iload_n 3, 1, 0, 0), (516, .iconst 5, 1, 0, 0), (517, .iadd, 1, 0, 0), (518, .iaload, 1, 0, 0), (519, .aload_n 0, 1, 0, 0), (520, .iload_n 3, 1, 0, 0), (521, .bipush 6, 2, 0, 0), (523, .iadd, 1, 0, 0), (524, .iaload, 1, 0, 0), (525, .invokevirtual 55, 3, 147, 0), (528, .aload_n 2, 1, 0, 0), (529, .aload_n 0, 1, 0, 0), (530, .iload_n 3, 1, 0, 0)]
set_option maxRecDepth 100000 in
theorem ck269_7 : cd269_7.all (chkE 269) = true := by decide +kernel
def cd269_8 : List Ent := [(531, .iconst 1, 1, 0, 0), (532, .iadd, 1, 0, 0), (533, .iaload, 1, 0, 0), (534, .aload_n 0, 1, 0, 0), (535, .iload_n 3, 1, 0, 0), (536, .iconst 2, 1, 0, 0), (537, .iadd, 1, 0, 0), (538, .iaload, 1, 0, 0), (539, .aload_n 0, 1, 0, 0), (540, .iload_n 3, 1, 0, 0), (541, .iconst 3, 1, 0, 0), (542, .iadd, 1, 0, 0), (543, .iaload, 1, 0, 0), (544, .aload_n 0, 1, 0, 0), (545, .iload_n 3, 1, 0, 0), (546, .iconst 4, 1, 0, 0), (547, .iadd, 1, 0, 0), (548, .iaload, 1, 0, 0), (549, .aload_n 0, 1, 0, 0), (550, .iload_n 3, 1, 0, 0), (551, .iconst 5, 1, 0, 0), (552, .iadd, 1, 0, 0), (553, .iaload, 1, 0, 0), (554, .aload_n 0, 1, 0, 0), (555, .iload_n 3, 1, 0, 0), (556, .bipush 6, 2, 0, 0), (558, .iadd, 1, 0, 0), (559, .iaload, 1, 0, 0), (560, .invokevirtual 59, 3, 222, 0), (563, .if_icmp .eq 716, 3, 0, 0), (566, .iconst 0, 1, 0, 0), (567, .ireturn, 1, 0, 0), (568, .aload_n 1, 1, 0, 0), (569, .aload_n 0, 1, 0, 0), (570, .iload_n 3, 1, 0, 0), (571, .iconst 1, 1, 0, 0), (572, .iadd, 1, 0, 0), (573, .iaload, 1, 0, 0), (574, .invokevirtual 60, 3, 149, 0), (577, .aload_n 2, 1, 0, 0)]
set_option maxRecDepth 100000 in
theorem ck269_8 : cd269_8.all (chkE 269) = true := by decide +kernel
def cd269_9 : List Ent := [(578, .aload_n 0, 1, 0, 0), (579, .iload_n 3, 1, 0, 0), (580, .iconst 1, 1, 0, 0), (581, .iadd, 1, 0, 0), (582, .iaload, 1, 0, 0), (583, .invokevirtual 63, 3, 223, 0), (586, .if_icmp .eq 693, 3, 0, 0), (589, .iconst 0, 1, 0, 0), (590, .ireturn, 1, 0, 0), (591, .aload_n 1, 1, 0, 0), (592, .aload_n 0, 1, 0, 0), (593, .iload_n 3, 1, 0, 0), (594, .iconst 1, 1, 0, 0), (595, .iadd, 1, 0, 0), (596, .iaload, 1, 0, 0), (597, .invokevirtual 64, 3, 150, 0), (600, .aload_n 2, 1, 0, 0), (601, .aload_n 0, 1, 0, 0), (602, .iload_n 3, 1, 0, 0), (603, .iconst 1, 1, 0, 0), (604, .iadd, 1, 0, 0), (605, .iaload, 1, 0, 0), (606, .invokevirtual 67, 3, 224, 0), (609, .if_icmp .eq 670, 3, 0, 0), (612, .iconst 0, 1, 0, 0), (613, .ireturn, 1, 0, 0), (614, .aload_n 1, 1, 0, 0), (615, .aload_n 0, 1, 0, 0), (616, .iload_n 3, 1, 0, 0), (617, .iconst 1, 1, 0, 0), (618, .iadd, 1, 0, 0), (619, .iaload, 1, 0, 0), (620, .aload_n 0, 1, 0, 0), (621, .iload_n 3, 1, 0, 0), (622, .iconst 2, 1, 0, 0), (623, .iadd, 1, 0, 0), (624, .iaload, 1, 0, 0), (625, .invokevirtual 68, 3, 151, 0), (628, .aload_n 2, 1, 0, 0), (629, .aload_n 0, 1, 0, 0)]
set_option maxRecDepth 100000 in
theorem ck269_9 : cd269_9.all (chkE 269) = true := by decide +kernel
def cd269_10 : List Ent := [(630, .iload_n 3, 1, 0, 0), (631, .iconst 1, 1, 0, 0), (632, .iadd, 1, 0, 0), (633, .iaload, 1, 0, 0), (634, .aload_n 0, 1, 0, 0), (635, .iload_n 3, 1, 0, 0), (636, .iconst 2, 1, 0, 0), (637, .iadd, 1, 0, 0), (638, .iaload, 1, 0, 0), (639, .invokevirtual 72, 3, 234, 0), (642, .if_icmp .eq 637, 3, 0, 0), (645, .iconst 0, 1, 0, 0), (646, .ireturn, 1, 0, 0), (647, .aload_n 1, 1, 0, 0), (648, .aload_n 0, 1, 0, 0), (649, .iload_n 3, 1, 0, 0), (650, .iconst 1, 1, 0, 0), (651, .iadd, 1, 0, 0), (652, .iaload, 1, 0, 0), (653, .aload_n 0, 1, 0, 0), (654, .iload_n 3, 1, 0, 0), (655, .iconst 2, 1, 0, 0), (656, .iadd, 1, 0, 0), (657, .iaload, 1, 0, 0), (658, .aload_n 0, 1, 0, 0), (659, .iload_n 3, 1, 0, 0), (660, .iconst 3, 1, 0, 0), (661, .iadd, 1, 0, 0), (662, .iaload, 1, 0, 0), (663, .invokevirtual 73, 3, 152, 0), (666, .aload_n 2, 1, 0, 0), (667, .aload_n 0, 1, 0, 0), (668, .iload_n 3, 1, 0, 0), (669, .iconst 1, 1, 0, 0), (670, .iadd, 1, 0, 0), (671, .iaload, 1, 0, 0), (672, .aload_n 0, 1, 0, 0), (673, .iload_n 3, 1, 0, 0), (674, .iconst 2, 1, 0, 0), (675, .iadd, 1, 0, 0)]
set_option maxRecDepth 100000 in
theorem ck269_10 : cd269_10.all (chkE 269) = true := by decide +kernel
def cd269_11 : List Ent := [(676, .iaload, 1, 0, 0), (677, .aload_n 0, 1, 0, 0), (678, .iload_n 3, 1, 0, 0), (679, .iconst 3, 1, 0, 0), (680, .iadd, 1, 0, 0), (681, .iaload, 1, 0, 0), (682, .invokevirtual 76, 3, 228, 0), (685, .if_icmp .eq 594, 3, 0, 0), (688, .iconst 0, 1, 0, 0), (689, .ireturn, 1, 0, 0), (690, .aload_n 1, 1, 0, 0), (691, .aload_n 0, 1, 0, 0), (692, .iload_n 3, 1, 0, 0), (693, .iconst 1, 1, 0, 0), (694, .iadd, 1, 0, 0), (695, .iaload, 1, 0, 0), (696, .aload_n 0, 1, 0, 0), (697, .iload_n 3, 1, 0, 0), (698, .iconst 2, 1, 0, 0), (699, .iadd, 1, 0, 0), (700, .iaload, 1, 0, 0), (701, .aload_n 0, 1, 0, 0), (702, .iload_n 3, 1, 0, 0), (703, .iconst 3, 1, 0, 0), (704, .iadd, 1, 0, 0), (705, .iaload, 1, 0, 0), (706, .invokevirtual 77, 3, 153, 0), (709, .aload_n 2, 1, 0, 0), (710, .aload_n 0, 1, 0, 0), (711, .iload_n 3, 1, 0, 0), (712, .iconst 1, 1, 0, 0), (713, .iadd, 1, 0, 0), (714, .iaload, 1, 0, 0), (715, .aload_n 0, 1, 0, 0), (716, .iload_n 3, 1, 0, 0), (717, .iconst 2, 1, 0, 0), (718, .iadd, 1, 0, 0), (719, .iaload, 1, 0, 0), (720, .aload_n 0, 1, 0, 0), (721, .iload_n 3, 1, 0, 0)]
set_option maxRecDepth 100000 in
theorem ck269_11 : cd269_11.all (chkE 269) = true := by decide +kernel
def cd269_12 : List Ent := [(722, .iconst 3, 1, 0, 0), (723, .iadd, 1, 0, 0), (724, .iaload, 1, 0, 0), (725, .invokevirtual 80, 3, 230, 0), (728, .if_icmp .eq 551, 3, 0, 0), (731, .iconst 0, 1, 0, 0), (732, .ireturn, 1, 0, 0), (733, .aload_n 1, 1, 0, 0), (734, .aload_n 0, 1, 0, 0), (735, .iload_n 3, 1, 0, 0), (736, .iconst 1, 1, 0, 0), (737, .iadd, 1, 0, 0), (738, .iaload, 1, 0, 0), (739, .aload_n 0, 1, 0, 0), (740, .iload_n 3, 1, 0, 0), (741, .iconst 2, 1, 0, 0), (742, .iadd, 1, 0, 0), (743, .iaload, 1, 0, 0), (744, .invokevirtual 81, 3, 154, 0), (747, .aload_n 2, 1, 0, 0), (748, .aload_n 0, 1, 0, 0), (749, .iload_n 3, 1, 0, 0), (750, .iconst 1, 1, 0, 0), (751, .iadd, 1, 0, 0), (752, .iaload, 1, 0, 0), (753, .aload_n 0, 1, 0, 0), (754, .iload_n 3, 1, 0, 0), (755, .iconst 2, 1, 0, 0), (756, .iadd, 1, 0, 0), (757, .iaload, 1, 0, 0), (758, .invokevirtual 84, 3, 235, 0), (761, .if_icmp .eq 518, 3, 0, 0), (764, .iconst 0, 1, 0, 0), (765, .ireturn, 1, 0, 0), (766, .aload_n 1, 1, 0, 0), (767, .aload_n 0, 1, 0, 0), (768, .iload_n 3, 1, 0, 0), (769, .iconst 1, 1, 0, 0), (770, .iadd, 1, 0, 0), (771, .iaload, 1, 0, 0)]
set_option maxRecDepth 100000 in
theorem ck269_12 : cd269_12.all (chkE 269) = true := by decide +kernel
def cd269_13 : List Ent := [(772, .aload_n 0, 1, 0, 0), (773, .iload_n 3, 1, 0, 0), (774, .iconst 2, 1, 0, 0), (775, .iadd, 1, 0, 0), (776, .iaload, 1, 0, 0), (777, .invokevirtual 85, 3, 155, 0), (780, .aload_n 2, 1, 0, 0), (781, .aload_n 0, 1, 0, 0), (782, .iload_n 3, 1, 0, 0), (783, .iconst 1, 1, 0, 0), (784, .iadd, 1, 0, 0), (785, .iaload, 1, 0, 0), (786, .aload_n 0, 1, 0, 0), (787, .iload_n 3, 1, 0, 0), (788, .iconst 2, 1, 0, 0), (789, .iadd, 1, 0, 0), (790, .iaload, 1, 0, 0), (791, .invokevirtual 88, 3, 236, 0), (794, .if_icmp .eq 485, 3, 0, 0), (797, .iconst 0, 1, 0, 0), (798, .ireturn, 1, 0, 0), (799, .aload_n 1, 1, 0, 0), (800, .aload_n 0, 1, 0, 0), (801, .iload_n 3, 1, 0, 0), (802, .iconst 1, 1, 0, 0), (803, .iadd, 1, 0, 0), (804, .iaload, 1, 0, 0), (805, .invokevirtual 89, 3, 156, 0), (808, .aload_n 2, 1, 0, 0), (809, .aload_n 0, 1, 0, 0), (810, .iload_n 3, 1, 0, 0), (811, .iconst 1, 1, 0, 0), (812, .iadd, 1, 0, 0), (813, .iaload, 1, 0, 0), (814, .invokevirtual 92, 3, 239, 0), (817, .if_icmp .eq 462, 3, 0, 0), (820, .iconst 0, 1, 0, 0), (821, .ireturn, 1, 0, 0), (822, .aload_n 1, 1, 0, 0), (823, .aload_n 0, 1, 0, 0)]
set_option maxRecDepth 100000 in
theorem ck269_13 : cd269_13.all (chkE 269) = true := by decide +kernel
def cd269_14 : List Ent := [(824, .iload_n 3, 1, 0, 0), (825, .iconst 1, 1, 0, 0), (826, .iadd, 1, 0, 0), (827, .iaload, 1, 0, 0), (828, .aload_n 0, 1, 0, 0), (829, .iload_n 3, 1, 0, 0), (830, .iconst 2, 1, 0, 0), (831, .iadd, 1, 0, 0), (832, .iaload, 1, 0, 0), (833, .aload_n 0, 1, 0, 0), (834, .iload_n 3, 1, 0, 0), (835, .iconst 3, 1, 0, 0), (836, .iadd, 1, 0, 0), (837, .iaload, 1, 0, 0), (838, .aload_n 0, 1, 0, 0), (839, .iload_n 3, 1, 0, 0), (840, .iconst 4, 1, 0, 0), (841, .iadd, 1, 0, 0), (842, .iaload, 1, 0, 0), (843, .invokevirtual 93, 3, 157, 0), (846, .aload_n 2, 1, 0, 0), (847, .aload_n 0, 1, 0, 0), (848, .iload_n 3, 1, 0, 0), (849, .iconst 1, 1, 0, 0), (850, .iadd, 1, 0, 0), (851, .iaload, 1, 0, 0), (852, .aload_n 0, 1, 0, 0), (853, .iload_n 3, 1, 0, 0), (854, .iconst 2, 1, 0, 0), (855, .iadd, 1, 0, 0), (856, .iaload, 1, 0, 0), (857, .aload_n 0, 1, 0, 0), (858, .iload_n 3, 1, 0, 0), (859, .iconst 3, 1, 0, 0), (860, .iadd, 1, 0, 0), (861, .iaload, 1, 0, 0), (862, .aload_n 0, 1, 0, 0), (863, .iload_n 3, 1, 0, 0), (864, .iconst 4, 1, 0, 0), (865, .iadd, 1, 0, 0)]
set_option maxRecDepth 100000 in
theorem ck269_14 : cd269_14.all (chkE 269) = true := by decide +kernel
def cd269_15 : List Ent := [(866, .iaload, 1, 0, 0), (867, .invokevirtual 97, 3, 242, 0), (870, .lcmp, 1, 0, 0), (871, .ifCond .eq 408, 3, 0, 0), (874, .iconst 0, 1, 0, 0), (875, .ireturn, 1, 0, 0), (876, .aload_n 1, 1, 0, 0), (877, .aload_n 0, 1, 0, 0), (878, .iload_n 3, 1, 0, 0), (879, .iconst 1, 1, 0, 0), (880, .iadd, 1, 0, 0), (881, .iaload, 1, 0, 0), (882, .aload_n 0, 1, 0, 0), (883, .iload_n 3, 1, 0, 0), (884, .iconst 2, 1, 0, 0), (885, .iadd, 1, 0, 0), (886, .iaload, 1, 0, 0), (887, .invokevirtual 98, 3, 158, 0), (890, .aload_n 2, 1, 0, 0), (891, .aload_n 0, 1, 0, 0), (892, .iload_n 3, 1, 0, 0), (893, .iconst 1, 1, 0, 0), (894, .iadd, 1, 0, 0), (895, .iaload, 1, 0, 0), (896, .aload_n 0, 1, 0, 0), (897, .iload_n 3, 1, 0, 0), (898, .iconst 2, 1, 0, 0), (899, .iadd, 1, 0, 0), (900, .iaload, 1, 0, 0), (901, .invokevirtual 101, 3, 249, 0), (904, .if_icmp .eq 375, 3, 0, 0), (907, .iconst 0, 1, 0, 0), (908, .ireturn, 1, 0, 0), (909, .aload_n 1, 1, 0, 0), (910, .aload_n 0, 1, 0, 0), (911, .iload_n 3, 1, 0, 0), (912, .iconst 1, 1, 0, 0), (913, .iadd, 1, 0, 0), (914, .iaload, 1, 0, 0), (915, .invokevirtual 102, 3, 159, 0)]
set_option maxRecDepth 100000 in
theorem ck269_15 : cd269_15.all (chkE 269) = true := by decide +kernel
def cd269_16 : List Ent := [(918, .aload_n 2, 1, 0, 0), (919, .aload_n 0, 1, 0, 0), (920, .iload_n 3, 1, 0, 0), (921, .iconst 1, 1, 0, 0), (922, .iadd, 1, 0, 0), (923, .iaload, 1, 0, 0), (924, .invokevirtual 106, 3, 251, 0), (927, .lcmp, 1, 0, 0), (928, .ifCond .eq 351, 3, 0, 0), (931, .iconst 0, 1, 0, 0), (932, .ireturn, 1, 0, 0), (933, .aload_n 1, 1, 0, 0), (934, .invokevirtual 107, 3, 160, 0), (937, .aload_n 2, 1, 0, 0), (938, .invokevirtual 111, 3, 252, 0), (941, .if_icmp .eq 338, 3, 0, 0), (944, .iconst 0, 1, 0, 0), (945, .ireturn, 1, 0, 0), (946, .aload_n 1, 1, 0, 0), (947, .aload_n 0, 1, 0, 0), (948, .iload_n 3, 1, 0, 0), (949, .iconst 1, 1, 0, 0), (950, .iadd, 1, 0, 0), (951, .iaload, 1, 0, 0), (952, .aload_n 0, 1, 0, 0), (953, .iload_n 3, 1, 0, 0), (954, .iconst 2, 1, 0, 0), (955, .iadd, 1, 0, 0), (956, .iaload, 1, 0, 0), (957, .aload_n 0, 1, 0, 0), (958, .iload_n 3, 1, 0, 0), (959, .iconst 3, 1, 0, 0), (960, .iadd, 1, 0, 0), (961, .iaload, 1, 0, 0), (962, .invokevirtual 112, 3, 161, 0), (965, .aload_n 2, 1, 0, 0), (966, .aload_n 0, 1, 0, 0), (967, .iload_n 3, 1, 0, 0), (968, .iconst 1, 1, 0, 0), (969, .iadd, 1, 0, 0)]
set_option maxRecDepth 100000 in
theorem ck269_16 : cd269_16.all (chkE 269) = true := by decide +kernel
def cd269_17 : List Ent := [(970, .iaload, 1, 0, 0), (971, .aload_n 0, 1, 0, 0), (972, .iload_n 3, 1, 0, 0), (973, .iconst 2, 1, 0, 0), (974, .iadd, 1, 0, 0), (975, .iaload, 1, 0, 0), (976, .aload_n 0, 1, 0, 0), (977, .iload_n 3, 1, 0, 0), (978, .iconst 3, 1, 0, 0), (979, .iadd, 1, 0, 0), (980, .iaload, 1, 0, 0), (981, .invokevirtual 115, 3, 253, 0), (984, .if_icmp .eq 295, 3, 0, 0), (987, .iconst 0, 1, 0, 0), (988, .ireturn, 1, 0, 0), (989, .aload_n 1, 1, 0, 0), (990, .aload_n 0, 1, 0, 0), (991, .iload_n 3, 1, 0, 0), (992, .iconst 1, 1, 0, 0), (993, .iadd, 1, 0, 0), (994, .iaload, 1, 0, 0), (995, .aload_n 0, 1, 0, 0), (996, .iload_n 3, 1, 0, 0), (997, .iconst 2, 1, 0, 0), (998, .iadd, 1, 0, 0), (999, .iaload, 1, 0, 0), (1000, .invokevirtual 116, 3, 162, 0), (1003, .aload_n 2, 1, 0, 0), (1004, .aload_n 0, 1, 0, 0), (1005, .iload_n 3, 1, 0, 0), (1006, .iconst 1, 1, 0, 0), (1007, .iadd, 1, 0, 0), (1008, .iaload, 1, 0, 0), (1009, .aload_n 0, 1, 0, 0), (1010, .iload_n 3, 1, 0, 0), (1011, .iconst 2, 1, 0, 0), (1012, .iadd, 1, 0, 0), (1013, .iaload, 1, 0, 0), (1014, .invokevirtual 119, 3, 255, 0), (1017, .if_icmp .eq 262, 3, 0, 0)]
set_option maxRecDepth 100000 in
theorem ck269_17 : cd269_17.all (chkE 269) = true := by decide +kernel
def cd269_18 : List Ent := [(1020, .iconst 0, 1, 0, 0), (1021, .ireturn, 1, 0, 0), (1022, .aload_n 1, 1, 0, 0), (1023, .aload_n 0, 1, 0, 0), (1024, .iload_n 3, 1, 0, 0), (1025, .iconst 1, 1, 0, 0), (1026, .iadd, 1, 0, 0), (1027, .iaload, 1, 0, 0), (1028, .aload_n 0, 1, 0, 0), (1029, .iload_n 3, 1, 0, 0), (1030, .iconst 2, 1, 0, 0), (1031, .iadd, 1, 0, 0), (1032, .iaload, 1, 0, 0), (1033, .aload_n 0, 1, 0, 0), (1034, .iload_n 3, 1, 0, 0), (1035, .iconst 3, 1, 0, 0), (1036, .iadd, 1, 0, 0), (1037, .iaload, 1, 0, 0), (1038, .invokevirtual 120, 3, 163, 0), (1041, .aload_n 2, 1, 0, 0), (1042, .aload_n 0, 1, 0, 0), (1043, .iload_n 3, 1, 0, 0), (1044, .iconst 1, 1, 0, 0), (1045, .iadd, 1, 0, 0), (1046, .iaload, 1, 0, 0), (1047, .aload_n 0, 1, 0, 0), (1048, .iload_n 3, 1, 0, 0), (1049, .iconst 2, 1, 0, 0), (1050, .iadd, 1, 0, 0), (1051, .iaload, 1, 0, 0), (1052, .aload_n 0, 1, 0, 0), (1053, .iload_n 3, 1, 0, 0), (1054, .iconst 3, 1, 0, 0), (1055, .iadd, 1, 0, 0), (1056, .iaload, 1, 0, 0), (1057, .invokevirtual 123, 3, 257, 0), (1060, .if_icmp .eq 219, 3, 0, 0), (1063, .iconst 0, 1, 0, 0), (1064, .ireturn, 1, 0, 0), (1065, .aload_n 1, 1, 0, 0)]
set_option maxRecDepth 100000 in
theorem ck269_18 : cd269_18.all (chkE 269) = true := by decide +kernel
def cd269_19 : List Ent := [(1066, .aload_n 0, 1, 0, 0), (1067, .iload_n 3, 1, 0, 0), (1068, .iconst 1, 1, 0, 0), (1069, .iadd, 1, 0, 0), (1070, .iaload, 1, 0, 0), (1071, .aload_n 0, 1, 0, 0), (1072, .iload_n 3, 1, 0, 0), (1073, .iconst 2, 1, 0, 0), (1074, .iadd, 1, 0, 0), (1075, .iaload, 1, 0, 0), (1076, .aload_n 0, 1, 0, 0), (1077, .iload_n 3, 1, 0, 0), (1078, .iconst 3, 1, 0, 0), (1079, .iadd, 1, 0, 0), (1080, .iaload, 1, 0, 0), (1081, .ifCond .eq 7, 3, 0, 0), (1084, .iconst 1, 1, 0, 0), (1085, .goto 4, 3, 0, 0), (1088, .iconst 0, 1, 0, 0), (1089, .invokevirtual 124, 3, 164, 0), (1092, .aload_n 2, 1, 0, 0), (1093, .aload_n 0, 1, 0, 0), (1094, .iload_n 3, 1, 0, 0), (1095, .iconst 1, 1, 0, 0), (1096, .iadd, 1, 0, 0), (1097, .iaload, 1, 0, 0), (1098, .aload_n 0, 1, 0, 0), (1099, .iload_n 3, 1, 0, 0), (1100, .iconst 2, 1, 0, 0), (1101, .iadd, 1, 0, 0), (1102, .iaload, 1, 0, 0), (1103, .aload_n 0, 1, 0, 0), (1104, .iload_n 3, 1, 0, 0), (1105, .iconst 3, 1, 0, 0), (1106, .iadd, 1, 0, 0), (1107, .iaload, 1, 0, 0), (1108, .ifCond .eq 7, 3, 0, 0), (1111, .iconst 1, 1, 0, 0), (1112, .goto 4, 3, 0, 0), (1115, .iconst 0, 1, 0, 0)]
set_option maxRecDepth 100000 in
theorem ck269_19 : cd269_19.all (chkE 269) = true := by decide +kernel
def cd269_20 : List Ent := [(1116, .invokevirtual 128, 3, 258, 0), (1119, .if_icmp .eq 160, 3, 0, 0), (1122, .iconst 0, 1, 0, 0), (1123, .ireturn, 1, 0, 0), (1124, .aload_n 1, 1, 0, 0), (1125, .aload_n 0, 1, 0, 0), (1126, .iload_n 3, 1, 0, 0), (1127, .iconst 1, 1, 0, 0), (1128, .iadd, 1, 0, 0), (1129, .iaload, 1, 0, 0), (1130, .aload_n 0, 1, 0, 0), (1131, .iload_n 3, 1, 0, 0), (1132, .iconst 2, 1, 0, 0), (1133, .iadd, 1, 0, 0), (1134, .iaload, 1, 0, 0), (1135, .aload_n 0, 1, 0, 0), (1136, .iload_n 3, 1, 0, 0), (1137, .iconst 3, 1, 0, 0), (1138, .iadd, 1, 0, 0), (1139, .iaload, 1, 0, 0), (1140, .invokevirtual 129, 3, 165, 0), (1143, .aload_n 2, 1, 0, 0), (1144, .aload_n 0, 1, 0, 0), (1145, .iload_n 3, 1, 0, 0), (1146, .iconst 1, 1, 0, 0), (1147, .iadd, 1, 0, 0), (1148, .iaload, 1, 0, 0), (1149, .aload_n 0, 1, 0, 0), (1150, .iload_n 3, 1, 0, 0), (1151, .iconst 2, 1, 0, 0), (1152, .iadd, 1, 0, 0), (1153, .iaload, 1, 0, 0), (1154, .aload_n 0, 1, 0, 0), (1155, .iload_n 3, 1, 0, 0), (1156, .iconst 3, 1, 0, 0), (1157, .iadd, 1, 0, 0), (1158, .iaload, 1, 0, 0), (1159, .invokevirtual 132, 3, 259, 0), (1162, .if_icmp .eq 117, 3, 0, 0), (1165, .iconst 0, 1, 0, 0)]
set_option maxRecDepth 100000 in
theorem ck269_20 : cd269_20.all (chkE 269) = true := by decide +kernel
def cd269_21 : List Ent := [(1166, .ireturn, 1, 0, 0), (1167, .aload_n 1, 1, 0, 0), (1168, .invokevirtual 133, 3, 166, 0), (1171, .aload_n 2, 1, 0, 0), (1172, .invokevirtual 136, 3, 262, 0), (1175, .if_icmp .eq 104, 3, 0, 0), (1178, .iconst 0, 1, 0, 0), (1179, .ireturn, 1, 0, 0), (1180, .aload_n 1, 1, 0, 0), (1181, .invokevirtual 137, 3, 167, 0), (1184, .aload_n 2, 1, 0, 0), (1185, .invokevirtual 140, 3, 264, 0), (1188, .if_icmp .eq 91, 3, 0, 0), (1191, .iconst 0, 1, 0, 0), (1192, .ireturn, 1, 0, 0), (1193, .aload_n 1, 1, 0, 0), (1194, .aload_n 0, 1, 0, 0), (1195, .iload_n 3, 1, 0, 0), (1196, .iconst 1, 1, 0, 0), (1197, .iadd, 1, 0, 0), (1198, .iaload, 1, 0, 0), (1199, .invokevirtual 141, 3, 168, 0), (1202, .aload_n 2, 1, 0, 0), (1203, .aload_n 0, 1, 0, 0), (1204, .iload_n 3, 1, 0, 0), (1205, .iconst 1, 1, 0, 0), (1206, .iadd, 1, 0, 0), (1207, .iaload, 1, 0, 0), (1208, .invokevirtual 144, 3, 265, 0), (1211, .lcmp, 1, 0, 0), (1212, .ifCond .eq 67, 3, 0, 0), (1215, .iconst 0, 1, 0, 0), (1216, .ireturn, 1, 0, 0), (1217, .aload_n 1, 1, 0, 0), (1218, .aload_n 0, 1, 0, 0), (1219, .iload_n 3, 1, 0, 0), (1220, .iconst 1, 1, 0, 0), (1221, .iadd, 1, 0, 0), (1222, .iaload, 1, 0, 0), (1223, .ifCond .eq 7, 3, 0, 0)]
set_option maxRecDepth 100000 in
theorem ck269_21 : cd269_21.all (chkE 269) = true := by decide +kernel
def cd269_22 : List Ent := [(1226, .iconst 1, 1, 0, 0), (1227, .goto 4, 3, 0, 0), (1230, .iconst 0, 1, 0, 0), (1231, .invokevirtual 145, 3, 169, 0), (1234, .aload_n 2, 1, 0, 0), (1235, .aload_n 0, 1, 0, 0), (1236, .iload_n 3, 1, 0, 0), (1237, .iconst 1, 1, 0, 0), (1238, .iadd, 1, 0, 0), (1239, .iaload, 1, 0, 0), (1240, .ifCond .eq 7, 3, 0, 0), (1243, .iconst 1, 1, 0, 0), (1244, .goto 4, 3, 0, 0), (1247, .iconst 0, 1, 0, 0), (1248, .invokevirtual 149, 3, 266, 0), (1251, .if_icmp .eq 28, 3, 0, 0), (1254, .iconst 0, 1, 0, 0), (1255, .ireturn, 1, 0, 0), (1256, .aload_n 1, 1, 0, 0), (1257, .aload_n 0, 1, 0, 0), (1258, .iload_n 3, 1, 0, 0), (1259, .iconst 1, 1, 0, 0), (1260, .iadd, 1, 0, 0), (1261, .iaload, 1, 0, 0), (1262, .invokevirtual 150, 3, 170, 0), (1265, .aload_n 2, 1, 0, 0), (1266, .aload_n 0, 1, 0, 0), (1267, .iload_n 3, 1, 0, 0), (1268, .iconst 1, 1, 0, 0), (1269, .iadd, 1, 0, 0), (1270, .iaload, 1, 0, 0), (1271, .invokevirtual 153, 3, 268, 0), (1274, .if_icmp .eq 5, 3, 0, 0), (1277, .iconst 0, 1, 0, 0), (1278, .ireturn, 1, 0, 0), (1279, .iinc 3 7, 3, 0, 0), (1282, .goto (-1264), 3, 0, 0), (1285, .iconst 1, 1, 0, 0), (1286, .ireturn, 1, 0, 0)]
set_option maxRecDepth 100000 in
theorem ck269_22 : cd269_22.all (chkE 269) = true := by decide +kernel
/-- CountedTwiceLaw.law([I)Z -/
def cd269 : List Ent := cd269_0 ++ (cd269_1 ++ (cd269_2 ++ (cd269_3 ++ (cd269_4 ++ (cd269_5 ++ (cd269_6 ++ (cd269_7 ++ (cd269_8 ++ (cd269_9 ++ (cd269_10 ++ (cd269_11 ++ (cd269_12 ++ (cd269_13 ++ (cd269_14 ++ (cd269_15 ++ (cd269_16 ++ (cd269_17 ++ (cd269_18 ++ (cd269_19 ++ (cd269_20 ++ (cd269_21 ++ (cd269_22))))))))))))))))))))))
theorem ck269 : codeOK 269 cd269 := ⟨by decide, by
  unfold cd269
  simp only [List.all_append, ck269_0, ck269_1, ck269_2, ck269_3, ck269_4, ck269_5, ck269_6, ck269_7, ck269_8, ck269_9, ck269_10, ck269_11, ck269_12, ck269_13, ck269_14, ck269_15, ck269_16, ck269_17, ck269_18, ck269_19, ck269_20, ck269_21, ck269_22, Bool.and_self]⟩
end
section
/-! after construction: which cell a field of references holds; three pairs of rows change places -/
abbrev B3 : Type := Bool × Bool × Bool
def ppT : List (List Nat) := [[1, 31, 1000, 61, 1000, 1000, 1000, 62, 67, 72, 82, 85, 90], [1000, 2, 7, 13, 16, 19, 22, 25, 30], [1000, 1000, 1000, 3, 4, 5, 6], [], [], [], [], [1000, 1000, 1000, 8, 9, 10, 11, 12], [], [], [], [], [], [1000, 14, 1000, 15], [], [], [1000, 17, 1000, 18], [], [], [1000, 20, 1000, 21], [], [], [1000, 23, 24], [], [], [1000, 1000, 26, 27, 28, 29], [], [], [], [], [], [1000, 32, 37, 43, 46, 49, 52, 55, 60], [1000, 1000, 1000, 33, 34, 35, 36], [], [], [], [], [1000, 1000, 1000, 38, 39, 40, 41, 42], [], [], [], [], [], [1000, 44, 1000, 45], [], [], [1000, 47, 1000, 48], [], [], [1000, 50, 1000, 51], [], [], [1000, 53, 54], [], [], [1000, 1000, 56, 57, 58, 59], [], [], [], [], [], [], [1000, 1000, 1000, 1000, 63, 64, 65, 66, 1000, 1000], [], [], [], [], [1, 68, 69, 70, 71], [], [], [], [], [1000, 1, 67, 1000, 73, 74, 75, 76, 77, 78, 1000, 79, 80, 81], [], [], [], [], [], [], [], [], [], [1, 83, 84], [], [], [900, 901, 88, 89, 1000], [], [], [], [], [], [92, 93, 1000, 94, 95, 96, 97, 98, 1000, 1000, 1000, 1000, 1000, 1000, 1000, 1000, 1000, 1000, 1000, 1000, 1000, 99, 100, 101, 102, 103, 1000, 104, 105, 106, 107, 108, 109, 110, 111, 1000, 902, 903, 114, 115, 904, 905, 118], [], [], [], [], [], [], [], [], [], [], [], [], [], [], [], [], [], [], [], [], [], [], [], [], [], [], []]
def pswap (b : B3) (v : Nat) : Nat := match Nat.blt v 900 with
  | true => v
  | false => match v with
    | 900 => (match b.1 with
      | true => 86
      | false => 87)
    | 901 => (match b.1 with
      | true => 87
      | false => 86)
    | 902 => (match b.2.1 with
      | true => 112
      | false => 113)
    | 903 => (match b.2.1 with
      | true => 113
      | false => 112)
    | 904 => (match b.2.2 with
      | true => 116
      | false => 117)
    | 905 => (match b.2.2 with
      | true => 117
      | false => 116)
    | v => v
def PP (b : B3) (k j : Nat) : Nat := pswap b ((ppT.getD k []).getD j 1000)
def cIN (K : Int → (Nat → Nat → Int) → (Nat → Nat → BitVec 64) → B3 → Prop) : MP := fun r σ => ∃ x I J b, r = some (vi x) ∧ σ = (I, J, PP b) ∧ (inR x → K x I J b)
def cJN (K : BitVec 64 → (Nat → Nat → Int) → (Nat → Nat → BitVec 64) → B3 → Prop) : MP := fun r σ => ∃ x I J b, r = some (vl x) ∧ σ = (I, J, PP b) ∧ K x I J b
def cVN (K : (Nat → Nat → Int) → (Nat → Nat → BitVec 64) → B3 → Prop) : MP := fun r σ => ∃ I J b, r = none ∧ σ = (I, J, PP b) ∧ K I J b
section NORM
variable {G : Ctx} {h mi n nf : Nat} {av : List MV} {σ : MS}
theorem cIN_go {K : Int → (Nat → Nat → Int) → (Nat → Nat → BitVec 64) → B3 → Prop} {K' : Int → MS → Prop} (H : TriM G h mi n nf av σ (cIN K)) (k : ∀ x I J b, K x I J b → K' x (I, J, PP b)) : TriM G h mi n nf av σ (cI' K') := H.mono (fun r σ' q hv => by
  obtain ⟨x, I, J, b, rfl, rfl, q⟩ := q
  exact ⟨x, rfl, fun hx => k x I J b (q hx)⟩)
theorem cJN_go {K : BitVec 64 → (Nat → Nat → Int) → (Nat → Nat → BitVec 64) → B3 → Prop} {K' : BitVec 64 → MS → Prop} (H : TriM G h mi n nf av σ (cJN K)) (k : ∀ x I J b, K x I J b → K' x (I, J, PP b)) : TriM G h mi n nf av σ (cJ' K') := H.mono (fun r σ' q hv => by
  obtain ⟨x, I, J, b, rfl, rfl, q⟩ := q
  exact ⟨x, rfl, k x I J b q⟩)
theorem cVN_go {K : (Nat → Nat → Int) → (Nat → Nat → BitVec 64) → B3 → Prop} {K' : MS → Prop} (H : TriM G h mi n nf av σ (cVN K)) (k : ∀ I J b, K I J b → K' (I, J, PP b)) : TriM G h mi n nf av σ (cV' K') := H.mono (fun r σ' q hv => by
  obtain ⟨I, J, b, rfl, rfl, q⟩ := q
  exact ⟨rfl, k I J b q⟩)
theorem cIN_r {K : Int → (Nat → Nat → Int) → (Nat → Nat → BitVec 64) → B3 → Prop} {x : Int} {I : Nat → Nat → Int} {J : Nat → Nat → BitVec 64} {b : B3} (k : inR x → K x I J b) : cIN K (some (vi x)) (I, J, PP b) := ⟨x, I, J, b, rfl, rfl, k⟩
theorem cJN_r {K : BitVec 64 → (Nat → Nat → Int) → (Nat → Nat → BitVec 64) → B3 → Prop} {x : BitVec 64} {I : Nat → Nat → Int} {J : Nat → Nat → BitVec 64} {b : B3} (k : K x I J b) : cJN K (some (vl x)) (I, J, PP b) := ⟨x, I, J, b, rfl, rfl, k⟩
theorem cVN_r {K : (Nat → Nat → Int) → (Nat → Nat → BitVec 64) → B3 → Prop} {I : Nat → Nat → Int} {J : Nat → Nat → BitVec 64} {b : B3} (k : K I J b) : cVN K none (I, J, PP b) := ⟨I, J, b, rfl, rfl, k⟩
theorem cI_r {K : Int → MS → Prop} {x : Int} {σ : MS} (k : K x σ) : cI' K (some (vi x)) σ := ⟨x, rfl, fun _ => k⟩
theorem cJ_r {K : BitVec 64 → MS → Prop} {x : BitVec 64} {σ : MS} (k : K x σ) : cJ' K (some (vl x)) σ := ⟨x, rfl, k⟩
theorem cV_r {K : MS → Prop} {σ : MS} (k : K σ) : cV' K none σ := ⟨rfl, k⟩
end NORM
end
section
theorem w32_id {x : Int} (h1 : -2147483648 ≤ x) (h2 : x < 2147483648) : w32 x = x := w32_eq ⟨h1, h2⟩
set_option maxRecDepth 100000 in
theorem x172 {G : Ctx} {h : Nat} {Q : MP} {I : Nat → Nat → Int} {J : Nat → Nat → BitVec 64} {b : B3} {m v : Int} (hh : 0 ≤ h) (H : ((v < 0) → (Q (some (vi 0)) (I, J, PP b))) ∧ (¬ (v < 0) → (((m ≤ v) → (Q (some (vi 0)) (I, J, PP b))) ∧ (¬ (m ≤ v) → (Q (some (vi 1)) (I, J, PP b)))))) : Tri G h 172 119 119 0 [some (vi v), some (vi m)] [] (I, J, PP b) Q := wp_at ck172 [] 400 (And.intro (fun q1 => And.intro (show (0 : Int) = 0 ∨ (0 : Int) = 1 by decide) (H.1 q1)) (fun q2 => And.intro (fun q3 => And.intro (show (0 : Int) = 0 ∨ (0 : Int) = 1 by decide) ((H.2 q2).1 q3)) (fun q4 => And.intro (show (1 : Int) = 0 ∨ (1 : Int) = 1 by decide) ((H.2 q2).2 q4))))
theorem x172_m {G : Ctx} {h : Nat} {Q : MP} {I : Nat → Nat → Int} {J : Nat → Nat → BitVec 64} {b : B3} {v m : Int} (hh : 1 ≤ h) (H : ∀ h, 0 ≤ h → Tri G h 172 119 119 0 [some (vi v), some (vi m)] [] (I, J, PP b) Q) : TriM G h 172 119 119 [vi v, vi m] (I, J, PP b) Q := TriM_intro (h - 1) (by omega) (by decide) (Nat.le_of_ble_eq_true rfl) (Nat.le_refl _) (Nat.le_refl _) (H (h - 1) (by omega))
theorem sx172 {G : Ctx} {h : Nat} {I : Nat → Nat → Int} {J : Nat → Nat → BitVec 64} {b : B3} {K : Int → MS → Prop} {v m : Int} (hh : 1 ≤ h) (k1 : (0 ≤ v ∧ v < m) → K 1 (I, J, PP b)) (k0 : ¬ (0 ≤ v ∧ v < m) → K 0 (I, J, PP b)) : TriM G h 172 119 119 [vi v, vi m] (I, J, PP b) (cI' K) := by
  refine x172_m hh (fun h hh => x172 hh ?_)
  repeat' (first | apply And.intro | intro _)
  all_goals first | exact cI_r (k1 (by omega)) | exact cI_r (k0 (by omega)) | omega
set_option maxRecDepth 100000 in
theorem x173 {G : Ctx} {h : Nat} {Q : MP} {I : Nat → Nat → Int} {J : Nat → Nat → BitVec 64} {b : B3} {c : Int} (hh : 0 ≤ h) (H : ((c < 97) → (Q (some (vi 0)) (I, J, PP b))) ∧ (¬ (c < 97) → (((122 < c) → (Q (some (vi 0)) (I, J, PP b))) ∧ (¬ (122 < c) → (Q (some (vi 1)) (I, J, PP b)))))) : Tri G h 173 119 119 0 [some (vi c)] [] (I, J, PP b) Q := wp_at ck173 [] 400 (And.intro (fun q5 => And.intro (show (0 : Int) = 0 ∨ (0 : Int) = 1 by decide) (H.1 q5)) (fun q6 => And.intro (fun q7 => And.intro (show (0 : Int) = 0 ∨ (0 : Int) = 1 by decide) ((H.2 q6).1 q7)) (fun q8 => And.intro (show (1 : Int) = 0 ∨ (1 : Int) = 1 by decide) ((H.2 q6).2 q8))))
theorem x173_m {G : Ctx} {h : Nat} {Q : MP} {I : Nat → Nat → Int} {J : Nat → Nat → BitVec 64} {b : B3} {c : Int} (hh : 1 ≤ h) (H : ∀ h, 0 ≤ h → Tri G h 173 119 119 0 [some (vi c)] [] (I, J, PP b) Q) : TriM G h 173 119 119 [vi c] (I, J, PP b) Q := TriM_intro (h - 1) (by omega) (by decide) (Nat.le_of_ble_eq_true rfl) (Nat.le_refl _) (Nat.le_refl _) (H (h - 1) (by omega))
theorem sx173 {G : Ctx} {h : Nat} {I : Nat → Nat → Int} {J : Nat → Nat → BitVec 64} {b : B3} {K : Int → MS → Prop} {c : Int} (hh : 1 ≤ h) (k1 : (97 ≤ c ∧ c ≤ 122) → K 1 (I, J, PP b)) (k0 : ¬ (97 ≤ c ∧ c ≤ 122) → K 0 (I, J, PP b)) : TriM G h 173 119 119 [vi c] (I, J, PP b) (cI' K) := by
  refine x173_m hh (fun h hh => x173 hh ?_)
  repeat' (first | apply And.intro | intro _)
  all_goals first | exact cI_r (k1 (by omega)) | exact cI_r (k0 (by omega)) | omega
set_option maxRecDepth 100000 in
theorem x174 {G : Ctx} {h : Nat} {Q : MP} {I : Nat → Nat → Int} {J : Nat → Nat → BitVec 64} {b : B3} {c : Int} (hh : 1 ≤ h) (H : ((97 ≤ c ∧ c ≤ 122) → (Q (some (vi 1)) (I, J, PP b))) ∧ (¬ (97 ≤ c ∧ c ≤ 122) → (((c < 65) → (Q (some (vi 0)) (I, J, PP b))) ∧ (¬ (c < 65) → (((90 < c) → (Q (some (vi 0)) (I, J, PP b))) ∧ (¬ (90 < c) → (Q (some (vi 1)) (I, J, PP b)))))))) : Tri G h 174 119 119 0 [some (vi c)] [] (I, J, PP b) Q := wp_at ck174 [] 400 (sx173 (by omega)  (fun q9 => And.intro (fun _ => And.intro (show (1 : Int) = 0 ∨ (1 : Int) = 1 by decide) (H.1 q9)) (fun z => absurd (show ¬ (1 : Int) = (0 : Int) by decide) z)) (fun q10 => And.intro (fun z => absurd z (show ¬ (¬ (0 : Int) = (0 : Int)) by decide)) (fun _ => And.intro (fun q11 => And.intro (show (0 : Int) = 0 ∨ (0 : Int) = 1 by decide) ((H.2 q10).1 q11)) (fun q12 => And.intro (fun q13 => And.intro (show (0 : Int) = 0 ∨ (0 : Int) = 1 by decide) (((H.2 q10).2 q12).1 q13)) (fun q14 => And.intro (show (1 : Int) = 0 ∨ (1 : Int) = 1 by decide) (((H.2 q10).2 q12).2 q14))))))
theorem x174_m {G : Ctx} {h : Nat} {Q : MP} {I : Nat → Nat → Int} {J : Nat → Nat → BitVec 64} {b : B3} {c : Int} (hh : 2 ≤ h) (H : ∀ h, 1 ≤ h → Tri G h 174 119 119 0 [some (vi c)] [] (I, J, PP b) Q) : TriM G h 174 119 119 [vi c] (I, J, PP b) Q := TriM_intro (h - 1) (by omega) (by decide) (Nat.le_of_ble_eq_true rfl) (Nat.le_refl _) (Nat.le_refl _) (H (h - 1) (by omega))
theorem sx174 {G : Ctx} {h : Nat} {I : Nat → Nat → Int} {J : Nat → Nat → BitVec 64} {b : B3} {K : Int → MS → Prop} {c : Int} (hh : 2 ≤ h) (k1 : (97 ≤ c ∧ c ≤ 122 ∨ 65 ≤ c ∧ c ≤ 90) → K 1 (I, J, PP b)) (k0 : ¬ (97 ≤ c ∧ c ≤ 122 ∨ 65 ≤ c ∧ c ≤ 90) → K 0 (I, J, PP b)) : TriM G h 174 119 119 [vi c] (I, J, PP b) (cI' K) := by
  refine x174_m hh (fun h hh => x174 hh ?_)
  repeat' (first | apply And.intro | intro _)
  all_goals first | exact cI_r (k1 (by omega)) | exact cI_r (k0 (by omega)) | omega
set_option maxRecDepth 100000 in
theorem x175 {G : Ctx} {h : Nat} {Q : MP} {I : Nat → Nat → Int} {J : Nat → Nat → BitVec 64} {b : B3} {c : Int} (hh : 0 ≤ h) (H : ((c < 48) → (Q (some (vi 0)) (I, J, PP b))) ∧ (¬ (c < 48) → (((57 < c) → (Q (some (vi 0)) (I, J, PP b))) ∧ (¬ (57 < c) → (Q (some (vi 1)) (I, J, PP b)))))) : Tri G h 175 119 119 0 [some (vi c)] [] (I, J, PP b) Q := wp_at ck175 [] 400 (And.intro (fun q15 => And.intro (show (0 : Int) = 0 ∨ (0 : Int) = 1 by decide) (H.1 q15)) (fun q16 => And.intro (fun q17 => And.intro (show (0 : Int) = 0 ∨ (0 : Int) = 1 by decide) ((H.2 q16).1 q17)) (fun q18 => And.intro (show (1 : Int) = 0 ∨ (1 : Int) = 1 by decide) ((H.2 q16).2 q18))))
theorem x175_m {G : Ctx} {h : Nat} {Q : MP} {I : Nat → Nat → Int} {J : Nat → Nat → BitVec 64} {b : B3} {c : Int} (hh : 1 ≤ h) (H : ∀ h, 0 ≤ h → Tri G h 175 119 119 0 [some (vi c)] [] (I, J, PP b) Q) : TriM G h 175 119 119 [vi c] (I, J, PP b) Q := TriM_intro (h - 1) (by omega) (by decide) (Nat.le_of_ble_eq_true rfl) (Nat.le_refl _) (Nat.le_refl _) (H (h - 1) (by omega))
theorem sx175 {G : Ctx} {h : Nat} {I : Nat → Nat → Int} {J : Nat → Nat → BitVec 64} {b : B3} {K : Int → MS → Prop} {c : Int} (hh : 1 ≤ h) (k1 : (48 ≤ c ∧ c ≤ 57) → K 1 (I, J, PP b)) (k0 : ¬ (48 ≤ c ∧ c ≤ 57) → K 0 (I, J, PP b)) : TriM G h 175 119 119 [vi c] (I, J, PP b) (cI' K) := by
  refine x175_m hh (fun h hh => x175 hh ?_)
  repeat' (first | apply And.intro | intro _)
  all_goals first | exact cI_r (k1 (by omega)) | exact cI_r (k0 (by omega)) | omega
set_option maxRecDepth 100000 in
theorem x181 {G : Ctx} {h : Nat} {Q : MP} {I : Nat → Nat → Int} {J : Nat → Nat → BitVec 64} {b : B3} {hi lo v : Int} (hh : 0 ≤ h) (H : ((v < lo) → (Q (some (vi 0)) (I, J, PP b))) ∧ (¬ (v < lo) → (((hi < v) → (Q (some (vi 0)) (I, J, PP b))) ∧ (¬ (hi < v) → (Q (some (vi 1)) (I, J, PP b)))))) : Tri G h 181 119 119 0 [some (vi v), some (vi lo), some (vi hi)] [] (I, J, PP b) Q := wp_at ck181 [] 400 (And.intro (fun q19 => And.intro (show (0 : Int) = 0 ∨ (0 : Int) = 1 by decide) (H.1 q19)) (fun q20 => And.intro (fun q21 => And.intro (show (0 : Int) = 0 ∨ (0 : Int) = 1 by decide) ((H.2 q20).1 q21)) (fun q22 => And.intro (show (1 : Int) = 0 ∨ (1 : Int) = 1 by decide) ((H.2 q20).2 q22))))
theorem x181_m {G : Ctx} {h : Nat} {Q : MP} {I : Nat → Nat → Int} {J : Nat → Nat → BitVec 64} {b : B3} {v lo hi : Int} (hh : 1 ≤ h) (H : ∀ h, 0 ≤ h → Tri G h 181 119 119 0 [some (vi v), some (vi lo), some (vi hi)] [] (I, J, PP b) Q) : TriM G h 181 119 119 [vi v, vi lo, vi hi] (I, J, PP b) Q := TriM_intro (h - 1) (by omega) (by decide) (Nat.le_of_ble_eq_true rfl) (Nat.le_refl _) (Nat.le_refl _) (H (h - 1) (by omega))
theorem sx181 {G : Ctx} {h : Nat} {I : Nat → Nat → Int} {J : Nat → Nat → BitVec 64} {b : B3} {K : Int → MS → Prop} {v lo hi : Int} (hh : 1 ≤ h) (k1 : (lo ≤ v ∧ v ≤ hi) → K 1 (I, J, PP b)) (k0 : ¬ (lo ≤ v ∧ v ≤ hi) → K 0 (I, J, PP b)) : TriM G h 181 119 119 [vi v, vi lo, vi hi] (I, J, PP b) (cI' K) := by
  refine x181_m hh (fun h hh => x181 hh ?_)
  repeat' (first | apply And.intro | intro _)
  all_goals first | exact cI_r (k1 (by omega)) | exact cI_r (k0 (by omega)) | omega
set_option maxRecDepth 100000 in
theorem x200 {G : Ctx} {h : Nat} {Q : MP} {I : Nat → Nat → Int} {J : Nat → Nat → BitVec 64} {b : B3} {c : Int} (hh : 1 ≤ h) (H : (((97 : Int) ≤ c ∧ c ≤ (122 : Int)) → (Q (some (vi 1)) (I, J, PP b))) ∧ (¬ ((97 : Int) ≤ c ∧ c ≤ (122 : Int)) → ((((65 : Int) ≤ c ∧ c ≤ (90 : Int)) → (Q (some (vi 1)) (I, J, PP b))) ∧ (¬ ((65 : Int) ≤ c ∧ c ≤ (90 : Int)) → (Q (some (vi 0)) (I, J, PP b)))))) : Tri G h 200 119 119 0 [some (vi c)] [] (I, J, PP b) Q := wp_at ck200 [] 400 (sx181 (by omega)  (fun q23 => And.intro (fun _ => And.intro (show (1 : Int) = 0 ∨ (1 : Int) = 1 by decide) (H.1 q23)) (fun z => absurd (show ¬ (1 : Int) = (0 : Int) by decide) z)) (fun q24 => And.intro (fun z => absurd z (show ¬ (¬ (0 : Int) = (0 : Int)) by decide)) (fun _ => sx181 (by omega)  (fun q25 => And.intro (fun z => absurd z (show ¬ ((1 : Int) = (0 : Int)) by decide)) (fun _ => And.intro (show (1 : Int) = 0 ∨ (1 : Int) = 1 by decide) ((H.2 q24).1 q25))) (fun q26 => And.intro (fun _ => And.intro (show (0 : Int) = 0 ∨ (0 : Int) = 1 by decide) ((H.2 q24).2 q26)) (fun z => absurd (show (0 : Int) = (0 : Int) by decide) z)))))
theorem x200_m {G : Ctx} {h : Nat} {Q : MP} {I : Nat → Nat → Int} {J : Nat → Nat → BitVec 64} {b : B3} {c : Int} (hh : 2 ≤ h) (H : ∀ h, 1 ≤ h → Tri G h 200 119 119 0 [some (vi c)] [] (I, J, PP b) Q) : TriM G h 200 119 119 [vi c] (I, J, PP b) Q := TriM_intro (h - 1) (by omega) (by decide) (Nat.le_of_ble_eq_true rfl) (Nat.le_refl _) (Nat.le_refl _) (H (h - 1) (by omega))
theorem sx200 {G : Ctx} {h : Nat} {I : Nat → Nat → Int} {J : Nat → Nat → BitVec 64} {b : B3} {K : Int → MS → Prop} {c : Int} (hh : 2 ≤ h) (k1 : (97 ≤ c ∧ c ≤ 122 ∨ 65 ≤ c ∧ c ≤ 90) → K 1 (I, J, PP b)) (k0 : ¬ (97 ≤ c ∧ c ≤ 122 ∨ 65 ≤ c ∧ c ≤ 90) → K 0 (I, J, PP b)) : TriM G h 200 119 119 [vi c] (I, J, PP b) (cI' K) := by
  refine x200_m hh (fun h hh => x200 hh ?_)
  repeat' (first | apply And.intro | intro _)
  all_goals first | exact cI_r (k1 (by omega)) | exact cI_r (k0 (by omega)) | omega
set_option maxRecDepth 100000 in
theorem x201 {G : Ctx} {h : Nat} {Q : MP} {I : Nat → Nat → Int} {J : Nat → Nat → BitVec 64} {b : B3} {c : Int} (hh : 1 ≤ h) (H : (((48 : Int) ≤ c ∧ c ≤ (57 : Int)) → (Q (some (vi 1)) (I, J, PP b))) ∧ (¬ ((48 : Int) ≤ c ∧ c ≤ (57 : Int)) → (Q (some (vi 0)) (I, J, PP b)))) : Tri G h 201 119 119 0 [some (vi c)] [] (I, J, PP b) Q := wp_at ck201 [] 400 (sx181 (by omega)  (fun q27 => And.intro (show (1 : Int) = 0 ∨ (1 : Int) = 1 by decide) (H.1 q27)) (fun q28 => And.intro (show (0 : Int) = 0 ∨ (0 : Int) = 1 by decide) (H.2 q28)))
theorem x201_m {G : Ctx} {h : Nat} {Q : MP} {I : Nat → Nat → Int} {J : Nat → Nat → BitVec 64} {b : B3} {c : Int} (hh : 2 ≤ h) (H : ∀ h, 1 ≤ h → Tri G h 201 119 119 0 [some (vi c)] [] (I, J, PP b) Q) : TriM G h 201 119 119 [vi c] (I, J, PP b) Q := TriM_intro (h - 1) (by omega) (by decide) (Nat.le_of_ble_eq_true rfl) (Nat.le_refl _) (Nat.le_refl _) (H (h - 1) (by omega))
theorem sx201 {G : Ctx} {h : Nat} {I : Nat → Nat → Int} {J : Nat → Nat → BitVec 64} {b : B3} {K : Int → MS → Prop} {c : Int} (hh : 2 ≤ h) (k1 : (48 ≤ c ∧ c ≤ 57) → K 1 (I, J, PP b)) (k0 : ¬ (48 ≤ c ∧ c ≤ 57) → K 0 (I, J, PP b)) : TriM G h 201 119 119 [vi c] (I, J, PP b) (cI' K) := by
  refine x201_m hh (fun h hh => x201 hh ?_)
  repeat' (first | apply And.intro | intro _)
  all_goals first | exact cI_r (k1 (by omega)) | exact cI_r (k0 (by omega)) | omega
set_option maxRecDepth 100000 in
theorem x186 {G : Ctx} {h : Nat} {Q : MP} {I : Nat → Nat → Int} {J : Nat → Nat → BitVec 64} {b : B3} {c : Int} (hh : 1 ≤ h) (H : (((0 : Int) ≤ c ∧ c ≤ (11 : Int)) → (Q (some (vi 1)) (I, J, PP b))) ∧ (¬ ((0 : Int) ≤ c ∧ c ≤ (11 : Int)) → (Q (some (vi 0)) (I, J, PP b)))) : Tri G h 186 119 119 0 [some (vi c)] [] (I, J, PP b) Q := wp_at ck186 [] 400 (sx181 (by omega)  (fun q29 => And.intro (show (1 : Int) = 0 ∨ (1 : Int) = 1 by decide) (H.1 q29)) (fun q30 => And.intro (show (0 : Int) = 0 ∨ (0 : Int) = 1 by decide) (H.2 q30)))
theorem x186_m {G : Ctx} {h : Nat} {Q : MP} {I : Nat → Nat → Int} {J : Nat → Nat → BitVec 64} {b : B3} {c : Int} (hh : 2 ≤ h) (H : ∀ h, 1 ≤ h → Tri G h 186 119 119 0 [some (vi c)] [] (I, J, PP b) Q) : TriM G h 186 119 119 [vi c] (I, J, PP b) Q := TriM_intro (h - 1) (by omega) (by decide) (Nat.le_of_ble_eq_true rfl) (Nat.le_refl _) (Nat.le_refl _) (H (h - 1) (by omega))
theorem sx186 {G : Ctx} {h : Nat} {I : Nat → Nat → Int} {J : Nat → Nat → BitVec 64} {b : B3} {K : Int → MS → Prop} {c : Int} (hh : 2 ≤ h) (k1 : (0 ≤ c ∧ c < 12) → K 1 (I, J, PP b)) (k0 : ¬ (0 ≤ c ∧ c < 12) → K 0 (I, J, PP b)) : TriM G h 186 119 119 [vi c] (I, J, PP b) (cI' K) := by
  refine x186_m hh (fun h hh => x186 hh ?_)
  repeat' (first | apply And.intro | intro _)
  all_goals first | exact cI_r (k1 (by omega)) | exact cI_r (k0 (by omega)) | omega
set_option maxRecDepth 100000 in
theorem x248 {G : Ctx} {h : Nat} {Q : MP} {I : Nat → Nat → Int} {J : Nat → Nat → BitVec 64} {b : B3} {c : Int} (hh : 1 ≤ h) (H : (((0 : Int) ≤ c ∧ c ≤ (10 : Int)) → (Q (some (vi 1)) (I, J, PP b))) ∧ (¬ ((0 : Int) ≤ c ∧ c ≤ (10 : Int)) → (Q (some (vi 0)) (I, J, PP b)))) : Tri G h 248 119 119 0 [some (vi c)] [] (I, J, PP b) Q := wp_at ck248 [] 400 (sx181 (by omega)  (fun q31 => And.intro (show (1 : Int) = 0 ∨ (1 : Int) = 1 by decide) (H.1 q31)) (fun q32 => And.intro (show (0 : Int) = 0 ∨ (0 : Int) = 1 by decide) (H.2 q32)))
theorem x248_m {G : Ctx} {h : Nat} {Q : MP} {I : Nat → Nat → Int} {J : Nat → Nat → BitVec 64} {b : B3} {c : Int} (hh : 2 ≤ h) (H : ∀ h, 1 ≤ h → Tri G h 248 119 119 0 [some (vi c)] [] (I, J, PP b) Q) : TriM G h 248 119 119 [vi c] (I, J, PP b) Q := TriM_intro (h - 1) (by omega) (by decide) (Nat.le_of_ble_eq_true rfl) (Nat.le_refl _) (Nat.le_refl _) (H (h - 1) (by omega))
theorem sx248 {G : Ctx} {h : Nat} {I : Nat → Nat → Int} {J : Nat → Nat → BitVec 64} {b : B3} {K : Int → MS → Prop} {c : Int} (hh : 2 ≤ h) (k1 : (0 ≤ c ∧ c < 11) → K 1 (I, J, PP b)) (k0 : ¬ (0 ≤ c ∧ c < 11) → K 0 (I, J, PP b)) : TriM G h 248 119 119 [vi c] (I, J, PP b) (cI' K) := by
  refine x248_m hh (fun h hh => x248 hh ?_)
  repeat' (first | apply And.intro | intro _)
  all_goals first | exact cI_r (k1 (by omega)) | exact cI_r (k0 (by omega)) | omega
set_option maxRecDepth 100000 in
theorem x185 {G : Ctx} {h : Nat} {Q : MP} {I : Nat → Nat → Int} {J : Nat → Nat → BitVec 64} {b : B3} {c : Int} (hh : 1 ≤ h) (H : (((0 : Int) ≤ c ∧ c ≤ (w32 ((I 92 3) - 1))) → (Q (some (vi 1)) (I, J, PP b))) ∧ (¬ ((0 : Int) ≤ c ∧ c ≤ (w32 ((I 92 3) - 1))) → (Q (some (vi 0)) (I, J, PP b)))) : Tri G h 185 119 119 0 [some (vr 91), some (vi c)] [] (I, J, PP b) Q := wp_at ck185 [] 400 (And.intro (show (0 : Int) ≤ 3 ∧ (3 : Int) < ((5120 : Nat) : Int) by decide) (sx181 (by omega)  (fun q33 => And.intro (show (1 : Int) = 0 ∨ (1 : Int) = 1 by decide) (H.1 q33)) (fun q34 => And.intro (show (0 : Int) = 0 ∨ (0 : Int) = 1 by decide) (H.2 q34))))
theorem x185_m {G : Ctx} {h : Nat} {Q : MP} {I : Nat → Nat → Int} {J : Nat → Nat → BitVec 64} {b : B3} {c : Int} (hh : 2 ≤ h) (H : ∀ h, 1 ≤ h → Tri G h 185 119 119 0 [some (vr 91), some (vi c)] [] (I, J, PP b) Q) : TriM G h 185 119 119 [vr 91, vi c] (I, J, PP b) Q := TriM_intro (h - 1) (by omega) (by decide) (Nat.le_of_ble_eq_true rfl) (Nat.le_refl _) (Nat.le_refl _) (H (h - 1) (by omega))
theorem sx185 {G : Ctx} {h : Nat} {I : Nat → Nat → Int} {J : Nat → Nat → BitVec 64} {b : B3} {K : Int → MS → Prop} {c : Int} (hh : 2 ≤ h) (g0 : 0 ≤ I 92 3 ∧ I 92 3 < 1000) (k1 : (0 ≤ c ∧ c < I 92 3) → K 1 (I, J, PP b)) (k0 : ¬ (0 ≤ c ∧ c < I 92 3) → K 0 (I, J, PP b)) : TriM G h 185 119 119 [vr 91, vi c] (I, J, PP b) (cI' K) := by
  refine x185_m hh (fun h hh => x185 hh ?_)
  rw [w32_id (by omega) (by omega)]
  repeat' (first | apply And.intro | intro _)
  all_goals first | exact cI_r (k1 (by omega)) | exact cI_r (k0 (by omega)) | omega
set_option maxRecDepth 100000 in
theorem x187 {G : Ctx} {h : Nat} {Q : MP} {I : Nat → Nat → Int} {J : Nat → Nat → BitVec 64} {b : B3} {c : Int} (hh : 1 ≤ h) (H : (((0 : Int) ≤ c ∧ c ≤ (w32 ((I 92 4) - 1))) → (Q (some (vi 1)) (I, J, PP b))) ∧ (¬ ((0 : Int) ≤ c ∧ c ≤ (w32 ((I 92 4) - 1))) → (Q (some (vi 0)) (I, J, PP b)))) : Tri G h 187 119 119 0 [some (vr 91), some (vi c)] [] (I, J, PP b) Q := wp_at ck187 [] 400 (And.intro (show (0 : Int) ≤ 4 ∧ (4 : Int) < ((5120 : Nat) : Int) by decide) (sx181 (by omega)  (fun q35 => And.intro (show (1 : Int) = 0 ∨ (1 : Int) = 1 by decide) (H.1 q35)) (fun q36 => And.intro (show (0 : Int) = 0 ∨ (0 : Int) = 1 by decide) (H.2 q36))))
theorem x187_m {G : Ctx} {h : Nat} {Q : MP} {I : Nat → Nat → Int} {J : Nat → Nat → BitVec 64} {b : B3} {c : Int} (hh : 2 ≤ h) (H : ∀ h, 1 ≤ h → Tri G h 187 119 119 0 [some (vr 91), some (vi c)] [] (I, J, PP b) Q) : TriM G h 187 119 119 [vr 91, vi c] (I, J, PP b) Q := TriM_intro (h - 1) (by omega) (by decide) (Nat.le_of_ble_eq_true rfl) (Nat.le_refl _) (Nat.le_refl _) (H (h - 1) (by omega))
theorem sx187 {G : Ctx} {h : Nat} {I : Nat → Nat → Int} {J : Nat → Nat → BitVec 64} {b : B3} {K : Int → MS → Prop} {c : Int} (hh : 2 ≤ h) (g0 : 0 ≤ I 92 4 ∧ I 92 4 < 1000) (k1 : (0 ≤ c ∧ c < I 92 4) → K 1 (I, J, PP b)) (k0 : ¬ (0 ≤ c ∧ c < I 92 4) → K 0 (I, J, PP b)) : TriM G h 187 119 119 [vr 91, vi c] (I, J, PP b) (cI' K) := by
  refine x187_m hh (fun h hh => x187 hh ?_)
  rw [w32_id (by omega) (by omega)]
  repeat' (first | apply And.intro | intro _)
  all_goals first | exact cI_r (k1 (by omega)) | exact cI_r (k0 (by omega)) | omega
set_option maxRecDepth 100000 in
theorem x188 {G : Ctx} {h : Nat} {Q : MP} {I : Nat → Nat → Int} {J : Nat → Nat → BitVec 64} {b : B3} {e f : Int} (hh : 0 ≤ h) (H : (0 ≤ (w32 ((w32 (450 + (w32 (17 * e)))) + f)) ∧ (w32 ((w32 (450 + (w32 (17 * e)))) + f)) < (5120 : Int)) ∧ (Q (some (vi (I 92 ((w32 ((w32 (450 + (w32 (17 * e)))) + f)).toNat)))) (I, J, PP b))) : Tri G h 188 119 119 0 [some (vr 91), some (vi e), some (vi f)] [] (I, J, PP b) Q := wp_at ck188 [] 400 H
theorem x188_m {G : Ctx} {h : Nat} {Q : MP} {I : Nat → Nat → Int} {J : Nat → Nat → BitVec 64} {b : B3} {e f : Int} (hh : 1 ≤ h) (H : ∀ h, 0 ≤ h → Tri G h 188 119 119 0 [some (vr 91), some (vi e), some (vi f)] [] (I, J, PP b) Q) : TriM G h 188 119 119 [vr 91, vi e, vi f] (I, J, PP b) Q := TriM_intro (h - 1) (by omega) (by decide) (Nat.le_of_ble_eq_true rfl) (Nat.le_refl _) (Nat.le_refl _) (H (h - 1) (by omega))
theorem sx188 {G : Ctx} {h : Nat} {I : Nat → Nat → Int} {J : Nat → Nat → BitVec 64} {b : B3} {K : Int → MS → Prop} {e f : Int} (hh : 1 ≤ h) (g0 : 0 ≤ e ∧ e < 120 ∧ 0 ≤ f ∧ f < 17) (k1 : K (I 92 (450 + 17 * e + f).toNat) (I, J, PP b)) : TriM G h 188 119 119 [vr 91, vi e, vi f] (I, J, PP b) (cI' K) := by
  refine x188_m hh (fun h hh => x188 hh ?_)
  simp (disch := omega) only [w32_id]
  exact ⟨by omega, cI_r k1⟩
set_option maxRecDepth 100000 in
theorem x189 {G : Ctx} {h : Nat} {Q : MP} {I : Nat → Nat → Int} {J : Nat → Nat → BitVec 64} {b : B3} {c : Int} (hh : 0 ≤ h) (H : (0 ≤ (w32 (220 + (w32 (3 * c)))) ∧ (w32 (220 + (w32 (3 * c)))) < (5120 : Int)) ∧ (Q (some (vi (I 92 ((w32 (220 + (w32 (3 * c)))).toNat)))) (I, J, PP b))) : Tri G h 189 119 119 0 [some (vr 91), some (vi c)] [] (I, J, PP b) Q := wp_at ck189 [] 400 H
theorem x189_m {G : Ctx} {h : Nat} {Q : MP} {I : Nat → Nat → Int} {J : Nat → Nat → BitVec 64} {b : B3} {c : Int} (hh : 1 ≤ h) (H : ∀ h, 0 ≤ h → Tri G h 189 119 119 0 [some (vr 91), some (vi c)] [] (I, J, PP b) Q) : TriM G h 189 119 119 [vr 91, vi c] (I, J, PP b) Q := TriM_intro (h - 1) (by omega) (by decide) (Nat.le_of_ble_eq_true rfl) (Nat.le_refl _) (Nat.le_refl _) (H (h - 1) (by omega))
theorem sx189 {G : Ctx} {h : Nat} {I : Nat → Nat → Int} {J : Nat → Nat → BitVec 64} {b : B3} {K : Int → MS → Prop} {c : Int} (hh : 1 ≤ h) (g0 : 0 ≤ c ∧ c < 60) (k1 : K (I 92 (220 + 3 * c).toNat) (I, J, PP b)) : TriM G h 189 119 119 [vr 91, vi c] (I, J, PP b) (cI' K) := by
  refine x189_m hh (fun h hh => x189 hh ?_)
  simp (disch := omega) only [w32_id]
  exact ⟨by omega, cI_r k1⟩
set_option maxRecDepth 100000 in
theorem x190 {G : Ctx} {h : Nat} {Q : MP} {I : Nat → Nat → Int} {J : Nat → Nat → BitVec 64} {b : B3} {c : Int} (hh : 0 ≤ h) (H : (0 ≤ (w32 ((w32 (220 + (w32 (3 * c)))) + 1)) ∧ (w32 ((w32 (220 + (w32 (3 * c)))) + 1)) < (5120 : Int)) ∧ (Q (some (vi (I 92 ((w32 ((w32 (220 + (w32 (3 * c)))) + 1)).toNat)))) (I, J, PP b))) : Tri G h 190 119 119 0 [some (vr 91), some (vi c)] [] (I, J, PP b) Q := wp_at ck190 [] 400 H
theorem x190_m {G : Ctx} {h : Nat} {Q : MP} {I : Nat → Nat → Int} {J : Nat → Nat → BitVec 64} {b : B3} {c : Int} (hh : 1 ≤ h) (H : ∀ h, 0 ≤ h → Tri G h 190 119 119 0 [some (vr 91), some (vi c)] [] (I, J, PP b) Q) : TriM G h 190 119 119 [vr 91, vi c] (I, J, PP b) Q := TriM_intro (h - 1) (by omega) (by decide) (Nat.le_of_ble_eq_true rfl) (Nat.le_refl _) (Nat.le_refl _) (H (h - 1) (by omega))
theorem sx190 {G : Ctx} {h : Nat} {I : Nat → Nat → Int} {J : Nat → Nat → BitVec 64} {b : B3} {K : Int → MS → Prop} {c : Int} (hh : 1 ≤ h) (g0 : 0 ≤ c ∧ c < 60) (k1 : K (I 92 (220 + 3 * c + 1).toNat) (I, J, PP b)) : TriM G h 190 119 119 [vr 91, vi c] (I, J, PP b) (cI' K) := by
  refine x190_m hh (fun h hh => x190 hh ?_)
  simp (disch := omega) only [w32_id]
  exact ⟨by omega, cI_r k1⟩
def dist (x y : Int) : Int := if y < x then x - y else y - x
set_option maxRecDepth 100000 in
theorem x182 {G : Ctx} {h : Nat} {Q : MP} {I : Nat → Nat → Int} {J : Nat → Nat → BitVec 64} {b : B3} {x y : Int} (hh : 0 ≤ h) (H : ((x ≤ y) → (Q (some (vi (w32 (y - x)))) (I, J, PP b))) ∧ (¬ (x ≤ y) → (Q (some (vi (w32 (x - y)))) (I, J, PP b)))) : Tri G h 182 119 119 0 [some (vi x), some (vi y)] [] (I, J, PP b) Q := wp_at ck182 [] 400 H
theorem x182_m {G : Ctx} {h : Nat} {Q : MP} {I : Nat → Nat → Int} {J : Nat → Nat → BitVec 64} {b : B3} {x y : Int} (hh : 1 ≤ h) (H : ∀ h, 0 ≤ h → Tri G h 182 119 119 0 [some (vi x), some (vi y)] [] (I, J, PP b) Q) : TriM G h 182 119 119 [vi x, vi y] (I, J, PP b) Q := TriM_intro (h - 1) (by omega) (by decide) (Nat.le_of_ble_eq_true rfl) (Nat.le_refl _) (Nat.le_refl _) (H (h - 1) (by omega))
theorem sx182 {G : Ctx} {h : Nat} {I : Nat → Nat → Int} {J : Nat → Nat → BitVec 64} {b : B3} {K : Int → MS → Prop} {x y : Int} (hh : 1 ≤ h) (g0 : 0 ≤ x ∧ x < 1000000 ∧ 0 ≤ y ∧ y < 1000000) (k1 : K (dist x y) (I, J, PP b)) : TriM G h 182 119 119 [vi x, vi y] (I, J, PP b) (cI' K) := by
  refine x182_m hh (fun h hh => x182 hh ?_)
  simp (disch := omega) only [w32_id]
  unfold dist at k1
  refine ⟨fun q => ?_, fun q => ?_⟩
  · rw [if_neg (by omega)] at k1; exact cI_r k1
  · rw [if_pos (by omega)] at k1; exact cI_r k1
set_option maxRecDepth 100000 in
theorem x3 {G : Ctx} {h : Nat} {Q : MP} {I : Nat → Nat → Int} {J : Nat → Nat → BitVec 64} {b : B3} {x y : Int} (hh : 0 ≤ h) (H : ((y < x) → (Q (some (vi y)) (I, J, PP b))) ∧ (¬ (y < x) → (Q (some (vi x)) (I, J, PP b)))) : Tri G h 3 119 119 0 [some (vi x), some (vi y)] [] (I, J, PP b) Q := wp_at ck3 [] 400 H
theorem x3_m {G : Ctx} {h : Nat} {Q : MP} {I : Nat → Nat → Int} {J : Nat → Nat → BitVec 64} {b : B3} {x y : Int} (hh : 1 ≤ h) (H : ∀ h, 0 ≤ h → Tri G h 3 119 119 0 [some (vi x), some (vi y)] [] (I, J, PP b) Q) : TriM G h 3 119 119 [vi x, vi y] (I, J, PP b) Q := TriM_intro (h - 1) (by omega) (by decide) (Nat.le_of_ble_eq_true rfl) (Nat.le_refl _) (Nat.le_refl _) (H (h - 1) (by omega))
theorem sx3 {G : Ctx} {h : Nat} {I : Nat → Nat → Int} {J : Nat → Nat → BitVec 64} {b : B3} {K : Int → MS → Prop} {x y : Int} (hh : 1 ≤ h) (k1 : K (min x y) (I, J, PP b)) : TriM G h 3 119 119 [vi x, vi y] (I, J, PP b) (cI' K) := by
  refine x3_m hh (fun h hh => x3 hh ?_)
  refine ⟨fun q => ?_, fun q => ?_⟩
  · rw [Int.min_eq_right (by omega)] at k1; exact cI_r k1
  · rw [Int.min_eq_left (by omega)] at k1; exact cI_r k1
set_option maxRecDepth 100000 in
theorem x15 {G : Ctx} {h : Nat} {Q : MP} {I : Nat → Nat → Int} {J : Nat → Nat → BitVec 64} {b : B3} {x y : Int} (hh : 0 ≤ h) (H : ((x < y) → (Q (some (vi y)) (I, J, PP b))) ∧ (¬ (x < y) → (Q (some (vi x)) (I, J, PP b)))) : Tri G h 15 119 119 0 [some (vi x), some (vi y)] [] (I, J, PP b) Q := wp_at ck15 [] 400 H
theorem x15_m {G : Ctx} {h : Nat} {Q : MP} {I : Nat → Nat → Int} {J : Nat → Nat → BitVec 64} {b : B3} {x y : Int} (hh : 1 ≤ h) (H : ∀ h, 0 ≤ h → Tri G h 15 119 119 0 [some (vi x), some (vi y)] [] (I, J, PP b) Q) : TriM G h 15 119 119 [vi x, vi y] (I, J, PP b) Q := TriM_intro (h - 1) (by omega) (by decide) (Nat.le_of_ble_eq_true rfl) (Nat.le_refl _) (Nat.le_refl _) (H (h - 1) (by omega))
theorem sx15 {G : Ctx} {h : Nat} {I : Nat → Nat → Int} {J : Nat → Nat → BitVec 64} {b : B3} {K : Int → MS → Prop} {x y : Int} (hh : 1 ≤ h) (k1 : K (max x y) (I, J, PP b)) : TriM G h 15 119 119 [vi x, vi y] (I, J, PP b) (cI' K) := by
  refine x15_m hh (fun h hh => x15 hh ?_)
  refine ⟨fun q => ?_, fun q => ?_⟩
  · rw [Int.max_eq_right (by omega)] at k1; exact cI_r k1
  · rw [Int.max_eq_left (by omega)] at k1; exact cI_r k1
set_option maxRecDepth 100000 in
theorem x2 {G : Ctx} {h : Nat} {Q : MP} {I : Nat → Nat → Int} {J : Nat → Nat → BitVec 64} {b : B3} {x : Int} (hh : 0 ≤ h) (H : ((0 ≤ x) → (Q (some (vi x)) (I, J, PP b))) ∧ (¬ (0 ≤ x) → (Q (some (vi (w32 (-x)))) (I, J, PP b)))) : Tri G h 2 119 119 0 [some (vi x)] [] (I, J, PP b) Q := wp_at ck2 [] 400 H
theorem x2_m {G : Ctx} {h : Nat} {Q : MP} {I : Nat → Nat → Int} {J : Nat → Nat → BitVec 64} {b : B3} {x : Int} (hh : 1 ≤ h) (H : ∀ h, 0 ≤ h → Tri G h 2 119 119 0 [some (vi x)] [] (I, J, PP b) Q) : TriM G h 2 119 119 [vi x] (I, J, PP b) Q := TriM_intro (h - 1) (by omega) (by decide) (Nat.le_of_ble_eq_true rfl) (Nat.le_refl _) (Nat.le_refl _) (H (h - 1) (by omega))
theorem sx2 {G : Ctx} {h : Nat} {I : Nat → Nat → Int} {J : Nat → Nat → BitVec 64} {b : B3} {K : Int → MS → Prop} {x : Int} (hh : 1 ≤ h) (k1 : K (if x < 0 then w32 (-x) else x) (I, J, PP b)) : TriM G h 2 119 119 [vi x] (I, J, PP b) (cI' K) := by
  refine x2_m hh (fun h hh => x2 hh ?_)
  refine ⟨fun q => ?_, fun q => ?_⟩
  · rw [if_neg (by omega)] at k1; exact cI_r k1
  · rw [if_pos (by omega)] at k1; exact cI_r k1
set_option maxRecDepth 100000 in
theorem x29 {G : Ctx} {h : Nat} {Q : MP} {I : Nat → Nat → Int} {J : Nat → Nat → BitVec 64} {b : B3} {e f : Int} (hh : 1 ≤ h) (H : ((0 ≤ e ∧ e < (I 7 0)) → (((0 ≤ f ∧ f < (6 : Int)) → ((0 ≤ (w32 ((w32 (e * 6)) + f)) ∧ (w32 ((w32 (e * 6)) + f)) < (720 : Int)) ∧ (Q (some (vi (I 8 ((w32 ((w32 (e * 6)) + f)).toNat)))) (I, J, PP b)))) ∧ (¬ (0 ≤ f ∧ f < (6 : Int)) → (Q (some (vi (-1))) (I, J, PP b))))) ∧ (¬ (0 ≤ e ∧ e < (I 7 0)) → (Q (some (vi (-1))) (I, J, PP b)))) : Tri G h 29 119 119 0 [some (vr 7), some (vi e), some (vi f)] [] (I, J, PP b) Q := wp_at ck29 [] 400 (sx172 (by omega)  (fun q37 => And.intro (fun z => absurd z (show ¬ ((1 : Int) = (0 : Int)) by decide)) (fun _ => sx172 (by omega)  (fun q39 => And.intro (fun z => absurd z (show ¬ ((1 : Int) = (0 : Int)) by decide)) (fun _ => (H.1 q37).1 q39)) (fun q40 => And.intro (fun _ => (H.1 q37).2 q40) (fun z => absurd (show (0 : Int) = (0 : Int) by decide) z)))) (fun q38 => And.intro (fun _ => H.2 q38) (fun z => absurd (show (0 : Int) = (0 : Int) by decide) z)))
theorem x29_m {G : Ctx} {h : Nat} {Q : MP} {I : Nat → Nat → Int} {J : Nat → Nat → BitVec 64} {b : B3} {e f : Int} (hh : 2 ≤ h) (H : ∀ h, 1 ≤ h → Tri G h 29 119 119 0 [some (vr 7), some (vi e), some (vi f)] [] (I, J, PP b) Q) : TriM G h 29 119 119 [vr 7, vi e, vi f] (I, J, PP b) Q := TriM_intro (h - 1) (by omega) (by decide) (Nat.le_of_ble_eq_true rfl) (Nat.le_refl _) (Nat.le_refl _) (H (h - 1) (by omega))
theorem sx29 {G : Ctx} {h : Nat} {I : Nat → Nat → Int} {J : Nat → Nat → BitVec 64} {b : B3} {K : Int → MS → Prop} {e f : Int} (hh : 2 ≤ h) (g0 : 0 ≤ e ∧ e < I 7 0 ∧ I 7 0 ≤ 120 ∧ 0 ≤ f ∧ f < 6) (k1 : K (I 8 (e * 6 + f).toNat) (I, J, PP b)) : TriM G h 29 119 119 [vr 7, vi e, vi f] (I, J, PP b) (cI' K) := by
  refine x29_m hh (fun h hh => x29 hh ?_)
  simp (disch := omega) only [w32_id]
  repeat' (first | apply And.intro | intro _)
  all_goals first | exact cI_r k1 | omega
end
section
theorem u2n {α : Type} {f : Nat → Nat → α} {k j a c : Nat} {x : α} (h : a ≠ k) : u2 f k j x a c = f a c := by rw [u2_ne h]
theorem u2j {α : Type} {f : Nat → Nat → α} {k j c : Nat} {x : α} (h : c ≠ j) : u2 f k j x k c = f k c := by rw [u2_at, if_neg h]
theorem u2e {α : Type} {f : Nat → Nat → α} {k j : Nat} {x : α} : u2 f k j x k j = x := by rw [u2_at, if_pos rfl]
theorem u1n {α : Type} {f : Nat → Nat → α} {k a c : Nat} {g : Nat → α} (h : a ≠ k) : u1 f k g a c = f a c := by rw [u1_ne h]
theorem u1e {α : Type} {f : Nat → Nat → α} {k c : Nat} {g : Nat → α} : u1 f k g k c = g c := by rw [u1_at]
theorem u1_same {α : Type} {f : Nat → Nat → α} {k : Nat} : u1 f k (f k) = f := by
  funext a c
  by_cases h : a = k
  · rw [h, u1e]
  · rw [u1n h]
/-- a row filled up to a place -/
theorem fill_0 {α : Type} {f : Nat → Nat → α} {k : Nat} {x : α} : u1 f k (fun j => if j < 0 then x else f k j) = f := by
  have : (fun j => if j < 0 then x else f k j) = f k := by funext j; rw [if_neg (by omega)]
  rw [this, u1_same]
theorem fill_s {α : Type} {f : Nat → Nat → α} {k i : Nat} {x : α} : u2 (u1 f k (fun j => if j < i then x else f k j)) k i x = u1 f k (fun j => if j < i + 1 then x else f k j) := by
  funext a c
  by_cases h : a = k
  · subst h
    rw [u1e]
    by_cases hc : c = i
    · subst hc
      rw [u2e, if_pos (by omega)]
    · rw [u2j hc, u1e]
      by_cases h2 : c < i
      · rw [if_pos h2, if_pos (by omega)]
      · rw [if_neg h2, if_neg (by omega)]
  · rw [u2n h, u1n h, u1n h]
set_option maxRecDepth 100000 in
theorem x0_r73 {G : Ctx} {h : Nat} {Q : MP} {I : Nat → Nat → Int} {J : Nat → Nat → BitVec 64} {b : B3} {v : Int} (hh : 0 ≤ h) (H : Tri G h 0 119 119 5 [some (vr 73), some (vi v), some (vi 0), some (vi 120)] [] (I, J, PP b) Q) : Tri G h 0 119 119 0 [some (vr 73), some (vi v)] [] (I, J, PP b) Q := wp_at ck0 [(5, [true, true, true, true])] 400 H
set_option maxRecDepth 100000 in
theorem x0_r73_5 {G : Ctx} {h : Nat} {Q : MP} {I : Nat → Nat → Int} {J : Nat → Nat → BitVec 64} {b : B3} {l1 l2 l3 : Int} (hh : 0 ≤ h) (H : ((l3 ≤ l2) → (Q none (I, J, PP b))) ∧ (¬ (l3 ≤ l2) → ((0 ≤ l2 ∧ l2 < (120 : Int)) ∧ (Tri G h 0 119 119 5 [some (vr 73), some (vi l1), some (vi (w32 (l2 + 1))), some (vi l3)] [] (u2 I 73 l2.toNat l1, J, PP b) Q)))) : Tri G h 0 119 119 5 [some (vr 73), some (vi l1), some (vi l2), some (vi l3)] [] (I, J, PP b) Q := wp_at ck0 [(5, [true, true, true, true])] 400 H
theorem x0_r73_m {G : Ctx} {h : Nat} {Q : MP} {I : Nat → Nat → Int} {J : Nat → Nat → BitVec 64} {b : B3} {v : Int} (hh : 1 ≤ h) (H : ∀ h, 0 ≤ h → Tri G h 0 119 119 0 [some (vr 73), some (vi v)] [] (I, J, PP b) Q) : TriM G h 0 119 119 [vr 73, vi v] (I, J, PP b) Q := TriM_intro (h - 1) (by omega) (by decide) (Nat.le_of_ble_eq_true rfl) (Nat.le_refl _) (Nat.le_refl _) (H (h - 1) (by omega))
theorem x0_r73_l {G : Ctx} {h : Nat} {I : Nat → Nat → Int} {J : Nat → Nat → BitVec 64} {b : B3} {Q : MP} {v : Int} (H : Q none (u1 I 73 (fun j => if j < 120 then v else I 73 j), J, PP b)) : ∀ (m i : Nat), i + m = 120 → Tri G h 0 119 119 5 [some (vr 73), some (vi v), some (vi (i : Int)), some (vi 120)] [] (u1 I 73 (fun j => if j < i then v else I 73 j), J, PP b) Q := by
  intro m
  induction m with
  | zero =>
    intro i hi
    refine x0_r73_5 (Nat.zero_le _) ⟨fun q => ?_, fun q => by omega⟩
    rw [show i = 120 by omega]
    exact H
  | succ m ih =>
    intro i hi
    refine x0_r73_5 (Nat.zero_le _) ⟨fun q => by omega, fun q => ⟨⟨by omega, by omega⟩, ?_⟩⟩
    rw [w32_id (by omega) (by omega), show ((i : Int)).toNat = i by omega, fill_s]
    exact ih (i + 1) (by omega)
theorem sx0_r73 {G : Ctx} {h : Nat} {I : Nat → Nat → Int} {J : Nat → Nat → BitVec 64} {b : B3} {K : MS → Prop} {v : Int} (hh : 1 ≤ h) (k1 : K (u1 I 73 (fun j => if j < 120 then v else I 73 j), J, PP b)) : TriM G h 0 119 119 [vr 73, vi v] (I, J, PP b) (cV' K) := by
  refine x0_r73_m hh (fun h hh => x0_r73 hh ?_)
  have h1 := x0_r73_l (G := G) (h := h) (I := I) (J := J) (b := b) (Q := cV' K) (v := v) (cV_r k1) 120 0 (by omega)
  rw [fill_0] at h1
  exact h1
set_option maxRecDepth 100000 in
theorem x0_r80 {G : Ctx} {h : Nat} {Q : MP} {I : Nat → Nat → Int} {J : Nat → Nat → BitVec 64} {b : B3} {v : Int} (hh : 0 ≤ h) (H : Tri G h 0 119 119 5 [some (vr 80), some (vi v), some (vi 0), some (vi 120)] [] (I, J, PP b) Q) : Tri G h 0 119 119 0 [some (vr 80), some (vi v)] [] (I, J, PP b) Q := wp_at ck0 [(5, [true, true, true, true])] 400 H
set_option maxRecDepth 100000 in
theorem x0_r80_5 {G : Ctx} {h : Nat} {Q : MP} {I : Nat → Nat → Int} {J : Nat → Nat → BitVec 64} {b : B3} {l1 l2 l3 : Int} (hh : 0 ≤ h) (H : ((l3 ≤ l2) → (Q none (I, J, PP b))) ∧ (¬ (l3 ≤ l2) → ((0 ≤ l2 ∧ l2 < (120 : Int)) ∧ (Tri G h 0 119 119 5 [some (vr 80), some (vi l1), some (vi (w32 (l2 + 1))), some (vi l3)] [] (u2 I 80 l2.toNat l1, J, PP b) Q)))) : Tri G h 0 119 119 5 [some (vr 80), some (vi l1), some (vi l2), some (vi l3)] [] (I, J, PP b) Q := wp_at ck0 [(5, [true, true, true, true])] 400 H
theorem x0_r80_m {G : Ctx} {h : Nat} {Q : MP} {I : Nat → Nat → Int} {J : Nat → Nat → BitVec 64} {b : B3} {v : Int} (hh : 1 ≤ h) (H : ∀ h, 0 ≤ h → Tri G h 0 119 119 0 [some (vr 80), some (vi v)] [] (I, J, PP b) Q) : TriM G h 0 119 119 [vr 80, vi v] (I, J, PP b) Q := TriM_intro (h - 1) (by omega) (by decide) (Nat.le_of_ble_eq_true rfl) (Nat.le_refl _) (Nat.le_refl _) (H (h - 1) (by omega))
theorem x0_r80_l {G : Ctx} {h : Nat} {I : Nat → Nat → Int} {J : Nat → Nat → BitVec 64} {b : B3} {Q : MP} {v : Int} (H : Q none (u1 I 80 (fun j => if j < 120 then v else I 80 j), J, PP b)) : ∀ (m i : Nat), i + m = 120 → Tri G h 0 119 119 5 [some (vr 80), some (vi v), some (vi (i : Int)), some (vi 120)] [] (u1 I 80 (fun j => if j < i then v else I 80 j), J, PP b) Q := by
  intro m
  induction m with
  | zero =>
    intro i hi
    refine x0_r80_5 (Nat.zero_le _) ⟨fun q => ?_, fun q => by omega⟩
    rw [show i = 120 by omega]
    exact H
  | succ m ih =>
    intro i hi
    refine x0_r80_5 (Nat.zero_le _) ⟨fun q => by omega, fun q => ⟨⟨by omega, by omega⟩, ?_⟩⟩
    rw [w32_id (by omega) (by omega), show ((i : Int)).toNat = i by omega, fill_s]
    exact ih (i + 1) (by omega)
theorem sx0_r80 {G : Ctx} {h : Nat} {I : Nat → Nat → Int} {J : Nat → Nat → BitVec 64} {b : B3} {K : MS → Prop} {v : Int} (hh : 1 ≤ h) (k1 : K (u1 I 80 (fun j => if j < 120 then v else I 80 j), J, PP b)) : TriM G h 0 119 119 [vr 80, vi v] (I, J, PP b) (cV' K) := by
  refine x0_r80_m hh (fun h hh => x0_r80 hh ?_)
  have h1 := x0_r80_l (G := G) (h := h) (I := I) (J := J) (b := b) (Q := cV' K) (v := v) (cV_r k1) 120 0 (by omega)
  rw [fill_0] at h1
  exact h1
set_option maxRecDepth 100000 in
theorem x0_r81 {G : Ctx} {h : Nat} {Q : MP} {I : Nat → Nat → Int} {J : Nat → Nat → BitVec 64} {b : B3} {v : Int} (hh : 0 ≤ h) (H : Tri G h 0 119 119 5 [some (vr 81), some (vi v), some (vi 0), some (vi 120)] [] (I, J, PP b) Q) : Tri G h 0 119 119 0 [some (vr 81), some (vi v)] [] (I, J, PP b) Q := wp_at ck0 [(5, [true, true, true, true])] 400 H
set_option maxRecDepth 100000 in
theorem x0_r81_5 {G : Ctx} {h : Nat} {Q : MP} {I : Nat → Nat → Int} {J : Nat → Nat → BitVec 64} {b : B3} {l1 l2 l3 : Int} (hh : 0 ≤ h) (H : ((l3 ≤ l2) → (Q none (I, J, PP b))) ∧ (¬ (l3 ≤ l2) → ((0 ≤ l2 ∧ l2 < (120 : Int)) ∧ (Tri G h 0 119 119 5 [some (vr 81), some (vi l1), some (vi (w32 (l2 + 1))), some (vi l3)] [] (u2 I 81 l2.toNat l1, J, PP b) Q)))) : Tri G h 0 119 119 5 [some (vr 81), some (vi l1), some (vi l2), some (vi l3)] [] (I, J, PP b) Q := wp_at ck0 [(5, [true, true, true, true])] 400 H
theorem x0_r81_m {G : Ctx} {h : Nat} {Q : MP} {I : Nat → Nat → Int} {J : Nat → Nat → BitVec 64} {b : B3} {v : Int} (hh : 1 ≤ h) (H : ∀ h, 0 ≤ h → Tri G h 0 119 119 0 [some (vr 81), some (vi v)] [] (I, J, PP b) Q) : TriM G h 0 119 119 [vr 81, vi v] (I, J, PP b) Q := TriM_intro (h - 1) (by omega) (by decide) (Nat.le_of_ble_eq_true rfl) (Nat.le_refl _) (Nat.le_refl _) (H (h - 1) (by omega))
theorem x0_r81_l {G : Ctx} {h : Nat} {I : Nat → Nat → Int} {J : Nat → Nat → BitVec 64} {b : B3} {Q : MP} {v : Int} (H : Q none (u1 I 81 (fun j => if j < 120 then v else I 81 j), J, PP b)) : ∀ (m i : Nat), i + m = 120 → Tri G h 0 119 119 5 [some (vr 81), some (vi v), some (vi (i : Int)), some (vi 120)] [] (u1 I 81 (fun j => if j < i then v else I 81 j), J, PP b) Q := by
  intro m
  induction m with
  | zero =>
    intro i hi
    refine x0_r81_5 (Nat.zero_le _) ⟨fun q => ?_, fun q => by omega⟩
    rw [show i = 120 by omega]
    exact H
  | succ m ih =>
    intro i hi
    refine x0_r81_5 (Nat.zero_le _) ⟨fun q => by omega, fun q => ⟨⟨by omega, by omega⟩, ?_⟩⟩
    rw [w32_id (by omega) (by omega), show ((i : Int)).toNat = i by omega, fill_s]
    exact ih (i + 1) (by omega)
theorem sx0_r81 {G : Ctx} {h : Nat} {I : Nat → Nat → Int} {J : Nat → Nat → BitVec 64} {b : B3} {K : MS → Prop} {v : Int} (hh : 1 ≤ h) (k1 : K (u1 I 81 (fun j => if j < 120 then v else I 81 j), J, PP b)) : TriM G h 0 119 119 [vr 81, vi v] (I, J, PP b) (cV' K) := by
  refine x0_r81_m hh (fun h hh => x0_r81 hh ?_)
  have h1 := x0_r81_l (G := G) (h := h) (I := I) (J := J) (b := b) (Q := cV' K) (v := v) (cV_r k1) 120 0 (by omega)
  rw [fill_0] at h1
  exact h1
set_option maxRecDepth 100000 in
theorem x0_r83 {G : Ctx} {h : Nat} {Q : MP} {I : Nat → Nat → Int} {J : Nat → Nat → BitVec 64} {b : B3} {v : Int} (hh : 0 ≤ h) (H : Tri G h 0 119 119 5 [some (vr 83), some (vi v), some (vi 0), some (vi 10)] [] (I, J, PP b) Q) : Tri G h 0 119 119 0 [some (vr 83), some (vi v)] [] (I, J, PP b) Q := wp_at ck0 [(5, [true, true, true, true])] 400 H
set_option maxRecDepth 100000 in
theorem x0_r83_5 {G : Ctx} {h : Nat} {Q : MP} {I : Nat → Nat → Int} {J : Nat → Nat → BitVec 64} {b : B3} {l1 l2 l3 : Int} (hh : 0 ≤ h) (H : ((l3 ≤ l2) → (Q none (I, J, PP b))) ∧ (¬ (l3 ≤ l2) → ((0 ≤ l2 ∧ l2 < (10 : Int)) ∧ (Tri G h 0 119 119 5 [some (vr 83), some (vi l1), some (vi (w32 (l2 + 1))), some (vi l3)] [] (u2 I 83 l2.toNat l1, J, PP b) Q)))) : Tri G h 0 119 119 5 [some (vr 83), some (vi l1), some (vi l2), some (vi l3)] [] (I, J, PP b) Q := wp_at ck0 [(5, [true, true, true, true])] 400 H
theorem x0_r83_m {G : Ctx} {h : Nat} {Q : MP} {I : Nat → Nat → Int} {J : Nat → Nat → BitVec 64} {b : B3} {v : Int} (hh : 1 ≤ h) (H : ∀ h, 0 ≤ h → Tri G h 0 119 119 0 [some (vr 83), some (vi v)] [] (I, J, PP b) Q) : TriM G h 0 119 119 [vr 83, vi v] (I, J, PP b) Q := TriM_intro (h - 1) (by omega) (by decide) (Nat.le_of_ble_eq_true rfl) (Nat.le_refl _) (Nat.le_refl _) (H (h - 1) (by omega))
theorem x0_r83_l {G : Ctx} {h : Nat} {I : Nat → Nat → Int} {J : Nat → Nat → BitVec 64} {b : B3} {Q : MP} {v : Int} (H : Q none (u1 I 83 (fun j => if j < 10 then v else I 83 j), J, PP b)) : ∀ (m i : Nat), i + m = 10 → Tri G h 0 119 119 5 [some (vr 83), some (vi v), some (vi (i : Int)), some (vi 10)] [] (u1 I 83 (fun j => if j < i then v else I 83 j), J, PP b) Q := by
  intro m
  induction m with
  | zero =>
    intro i hi
    refine x0_r83_5 (Nat.zero_le _) ⟨fun q => ?_, fun q => by omega⟩
    rw [show i = 10 by omega]
    exact H
  | succ m ih =>
    intro i hi
    refine x0_r83_5 (Nat.zero_le _) ⟨fun q => by omega, fun q => ⟨⟨by omega, by omega⟩, ?_⟩⟩
    rw [w32_id (by omega) (by omega), show ((i : Int)).toNat = i by omega, fill_s]
    exact ih (i + 1) (by omega)
theorem sx0_r83 {G : Ctx} {h : Nat} {I : Nat → Nat → Int} {J : Nat → Nat → BitVec 64} {b : B3} {K : MS → Prop} {v : Int} (hh : 1 ≤ h) (k1 : K (u1 I 83 (fun j => if j < 10 then v else I 83 j), J, PP b)) : TriM G h 0 119 119 [vr 83, vi v] (I, J, PP b) (cV' K) := by
  refine x0_r83_m hh (fun h hh => x0_r83 hh ?_)
  have h1 := x0_r83_l (G := G) (h := h) (I := I) (J := J) (b := b) (Q := cV' K) (v := v) (cV_r k1) 10 0 (by omega)
  rw [fill_0] at h1
  exact h1
set_option maxRecDepth 100000 in
theorem x1_r70 {G : Ctx} {h : Nat} {Q : MP} {I : Nat → Nat → Int} {J : Nat → Nat → BitVec 64} {b : B3} {v : BitVec 64} (hh : 0 ≤ h) (H : Tri G h 1 119 119 6 [some (vr 70), some (vl v), none, some (vi 0), some (vi 224)] [] (I, J, PP b) Q) : Tri G h 1 119 119 0 [some (vr 70), some (vl v), none] [] (I, J, PP b) Q := wp_at ck1 [(6, [true, true, false, true, true])] 400 H
set_option maxRecDepth 100000 in
theorem x1_r70_6 {G : Ctx} {h : Nat} {Q : MP} {I : Nat → Nat → Int} {J : Nat → Nat → BitVec 64} {b : B3} {l3 l4 : Int} {l1 : BitVec 64} (hh : 0 ≤ h) (H : ((l4 ≤ l3) → (Q none (I, J, PP b))) ∧ (¬ (l4 ≤ l3) → ((0 ≤ l3 ∧ l3 < (224 : Int)) ∧ (Tri G h 1 119 119 6 [some (vr 70), some (vl l1), none, some (vi (w32 (l3 + 1))), some (vi l4)] [] (I, u2 J 70 l3.toNat l1, PP b) Q)))) : Tri G h 1 119 119 6 [some (vr 70), some (vl l1), none, some (vi l3), some (vi l4)] [] (I, J, PP b) Q := wp_at ck1 [(6, [true, true, false, true, true])] 400 H
theorem x1_r70_m {G : Ctx} {h : Nat} {Q : MP} {I : Nat → Nat → Int} {J : Nat → Nat → BitVec 64} {b : B3} {v : BitVec 64} (hh : 1 ≤ h) (H : ∀ h, 0 ≤ h → Tri G h 1 119 119 0 [some (vr 70), some (vl v), none] [] (I, J, PP b) Q) : TriM G h 1 119 119 [vr 70, vl v] (I, J, PP b) Q := TriM_intro (h - 1) (by omega) (by decide) (Nat.le_of_ble_eq_true rfl) (Nat.le_refl _) (Nat.le_refl _) (H (h - 1) (by omega))
theorem x1_r70_l {G : Ctx} {h : Nat} {I : Nat → Nat → Int} {J : Nat → Nat → BitVec 64} {b : B3} {Q : MP} {v : BitVec 64} (H : Q none (I, u1 J 70 (fun j => if j < 224 then v else J 70 j), PP b)) : ∀ (m i : Nat), i + m = 224 → Tri G h 1 119 119 6 [some (vr 70), some (vl v), none, some (vi (i : Int)), some (vi 224)] [] (I, u1 J 70 (fun j => if j < i then v else J 70 j), PP b) Q := by
  intro m
  induction m with
  | zero =>
    intro i hi
    refine x1_r70_6 (Nat.zero_le _) ⟨fun q => ?_, fun q => by omega⟩
    rw [show i = 224 by omega]
    exact H
  | succ m ih =>
    intro i hi
    refine x1_r70_6 (Nat.zero_le _) ⟨fun q => by omega, fun q => ⟨⟨by omega, by omega⟩, ?_⟩⟩
    rw [w32_id (by omega) (by omega), show ((i : Int)).toNat = i by omega, fill_s]
    exact ih (i + 1) (by omega)
theorem sx1_r70 {G : Ctx} {h : Nat} {I : Nat → Nat → Int} {J : Nat → Nat → BitVec 64} {b : B3} {K : MS → Prop} {v : BitVec 64} (hh : 1 ≤ h) (k1 : K (I, u1 J 70 (fun j => if j < 224 then v else J 70 j), PP b)) : TriM G h 1 119 119 [vr 70, vl v] (I, J, PP b) (cV' K) := by
  refine x1_r70_m hh (fun h hh => x1_r70 hh ?_)
  have h1 := x1_r70_l (G := G) (h := h) (I := I) (J := J) (b := b) (Q := cV' K) (v := v) (cV_r k1) 224 0 (by omega)
  rw [fill_0] at h1
  exact h1
set_option maxRecDepth 100000 in
theorem x1_r71 {G : Ctx} {h : Nat} {Q : MP} {I : Nat → Nat → Int} {J : Nat → Nat → BitVec 64} {b : B3} {v : BitVec 64} (hh : 0 ≤ h) (H : Tri G h 1 119 119 6 [some (vr 71), some (vl v), none, some (vi 0), some (vi 224)] [] (I, J, PP b) Q) : Tri G h 1 119 119 0 [some (vr 71), some (vl v), none] [] (I, J, PP b) Q := wp_at ck1 [(6, [true, true, false, true, true])] 400 H
set_option maxRecDepth 100000 in
theorem x1_r71_6 {G : Ctx} {h : Nat} {Q : MP} {I : Nat → Nat → Int} {J : Nat → Nat → BitVec 64} {b : B3} {l3 l4 : Int} {l1 : BitVec 64} (hh : 0 ≤ h) (H : ((l4 ≤ l3) → (Q none (I, J, PP b))) ∧ (¬ (l4 ≤ l3) → ((0 ≤ l3 ∧ l3 < (224 : Int)) ∧ (Tri G h 1 119 119 6 [some (vr 71), some (vl l1), none, some (vi (w32 (l3 + 1))), some (vi l4)] [] (I, u2 J 71 l3.toNat l1, PP b) Q)))) : Tri G h 1 119 119 6 [some (vr 71), some (vl l1), none, some (vi l3), some (vi l4)] [] (I, J, PP b) Q := wp_at ck1 [(6, [true, true, false, true, true])] 400 H
theorem x1_r71_m {G : Ctx} {h : Nat} {Q : MP} {I : Nat → Nat → Int} {J : Nat → Nat → BitVec 64} {b : B3} {v : BitVec 64} (hh : 1 ≤ h) (H : ∀ h, 0 ≤ h → Tri G h 1 119 119 0 [some (vr 71), some (vl v), none] [] (I, J, PP b) Q) : TriM G h 1 119 119 [vr 71, vl v] (I, J, PP b) Q := TriM_intro (h - 1) (by omega) (by decide) (Nat.le_of_ble_eq_true rfl) (Nat.le_refl _) (Nat.le_refl _) (H (h - 1) (by omega))
theorem x1_r71_l {G : Ctx} {h : Nat} {I : Nat → Nat → Int} {J : Nat → Nat → BitVec 64} {b : B3} {Q : MP} {v : BitVec 64} (H : Q none (I, u1 J 71 (fun j => if j < 224 then v else J 71 j), PP b)) : ∀ (m i : Nat), i + m = 224 → Tri G h 1 119 119 6 [some (vr 71), some (vl v), none, some (vi (i : Int)), some (vi 224)] [] (I, u1 J 71 (fun j => if j < i then v else J 71 j), PP b) Q := by
  intro m
  induction m with
  | zero =>
    intro i hi
    refine x1_r71_6 (Nat.zero_le _) ⟨fun q => ?_, fun q => by omega⟩
    rw [show i = 224 by omega]
    exact H
  | succ m ih =>
    intro i hi
    refine x1_r71_6 (Nat.zero_le _) ⟨fun q => by omega, fun q => ⟨⟨by omega, by omega⟩, ?_⟩⟩
    rw [w32_id (by omega) (by omega), show ((i : Int)).toNat = i by omega, fill_s]
    exact ih (i + 1) (by omega)
theorem sx1_r71 {G : Ctx} {h : Nat} {I : Nat → Nat → Int} {J : Nat → Nat → BitVec 64} {b : B3} {K : MS → Prop} {v : BitVec 64} (hh : 1 ≤ h) (k1 : K (I, u1 J 71 (fun j => if j < 224 then v else J 71 j), PP b)) : TriM G h 1 119 119 [vr 71, vl v] (I, J, PP b) (cV' K) := by
  refine x1_r71_m hh (fun h hh => x1_r71 hh ?_)
  have h1 := x1_r71_l (G := G) (h := h) (I := I) (J := J) (b := b) (Q := cV' K) (v := v) (cV_r k1) 224 0 (by omega)
  rw [fill_0] at h1
  exact h1
set_option maxRecDepth 100000 in
theorem x1_r79 {G : Ctx} {h : Nat} {Q : MP} {I : Nat → Nat → Int} {J : Nat → Nat → BitVec 64} {b : B3} {v : BitVec 64} (hh : 0 ≤ h) (H : Tri G h 1 119 119 6 [some (vr 79), some (vl v), none, some (vi 0), some (vi 240)] [] (I, J, PP b) Q) : Tri G h 1 119 119 0 [some (vr 79), some (vl v), none] [] (I, J, PP b) Q := wp_at ck1 [(6, [true, true, false, true, true])] 400 H
set_option maxRecDepth 100000 in
theorem x1_r79_6 {G : Ctx} {h : Nat} {Q : MP} {I : Nat → Nat → Int} {J : Nat → Nat → BitVec 64} {b : B3} {l3 l4 : Int} {l1 : BitVec 64} (hh : 0 ≤ h) (H : ((l4 ≤ l3) → (Q none (I, J, PP b))) ∧ (¬ (l4 ≤ l3) → ((0 ≤ l3 ∧ l3 < (240 : Int)) ∧ (Tri G h 1 119 119 6 [some (vr 79), some (vl l1), none, some (vi (w32 (l3 + 1))), some (vi l4)] [] (I, u2 J 79 l3.toNat l1, PP b) Q)))) : Tri G h 1 119 119 6 [some (vr 79), some (vl l1), none, some (vi l3), some (vi l4)] [] (I, J, PP b) Q := wp_at ck1 [(6, [true, true, false, true, true])] 400 H
theorem x1_r79_m {G : Ctx} {h : Nat} {Q : MP} {I : Nat → Nat → Int} {J : Nat → Nat → BitVec 64} {b : B3} {v : BitVec 64} (hh : 1 ≤ h) (H : ∀ h, 0 ≤ h → Tri G h 1 119 119 0 [some (vr 79), some (vl v), none] [] (I, J, PP b) Q) : TriM G h 1 119 119 [vr 79, vl v] (I, J, PP b) Q := TriM_intro (h - 1) (by omega) (by decide) (Nat.le_of_ble_eq_true rfl) (Nat.le_refl _) (Nat.le_refl _) (H (h - 1) (by omega))
theorem x1_r79_l {G : Ctx} {h : Nat} {I : Nat → Nat → Int} {J : Nat → Nat → BitVec 64} {b : B3} {Q : MP} {v : BitVec 64} (H : Q none (I, u1 J 79 (fun j => if j < 240 then v else J 79 j), PP b)) : ∀ (m i : Nat), i + m = 240 → Tri G h 1 119 119 6 [some (vr 79), some (vl v), none, some (vi (i : Int)), some (vi 240)] [] (I, u1 J 79 (fun j => if j < i then v else J 79 j), PP b) Q := by
  intro m
  induction m with
  | zero =>
    intro i hi
    refine x1_r79_6 (Nat.zero_le _) ⟨fun q => ?_, fun q => by omega⟩
    rw [show i = 240 by omega]
    exact H
  | succ m ih =>
    intro i hi
    refine x1_r79_6 (Nat.zero_le _) ⟨fun q => by omega, fun q => ⟨⟨by omega, by omega⟩, ?_⟩⟩
    rw [w32_id (by omega) (by omega), show ((i : Int)).toNat = i by omega, fill_s]
    exact ih (i + 1) (by omega)
theorem sx1_r79 {G : Ctx} {h : Nat} {I : Nat → Nat → Int} {J : Nat → Nat → BitVec 64} {b : B3} {K : MS → Prop} {v : BitVec 64} (hh : 1 ≤ h) (k1 : K (I, u1 J 79 (fun j => if j < 240 then v else J 79 j), PP b)) : TriM G h 1 119 119 [vr 79, vl v] (I, J, PP b) (cV' K) := by
  refine x1_r79_m hh (fun h hh => x1_r79 hh ?_)
  have h1 := x1_r79_l (G := G) (h := h) (I := I) (J := J) (b := b) (Q := cV' K) (v := v) (cV_r k1) 240 0 (by omega)
  rw [fill_0] at h1
  exact h1
set_option maxRecDepth 100000 in
theorem x1_r84 {G : Ctx} {h : Nat} {Q : MP} {I : Nat → Nat → Int} {J : Nat → Nat → BitVec 64} {b : B3} {v : BitVec 64} (hh : 0 ≤ h) (H : Tri G h 1 119 119 6 [some (vr 84), some (vl v), none, some (vi 0), some (vi 3616)] [] (I, J, PP b) Q) : Tri G h 1 119 119 0 [some (vr 84), some (vl v), none] [] (I, J, PP b) Q := wp_at ck1 [(6, [true, true, false, true, true])] 400 H
set_option maxRecDepth 100000 in
theorem x1_r84_6 {G : Ctx} {h : Nat} {Q : MP} {I : Nat → Nat → Int} {J : Nat → Nat → BitVec 64} {b : B3} {l3 l4 : Int} {l1 : BitVec 64} (hh : 0 ≤ h) (H : ((l4 ≤ l3) → (Q none (I, J, PP b))) ∧ (¬ (l4 ≤ l3) → ((0 ≤ l3 ∧ l3 < (3616 : Int)) ∧ (Tri G h 1 119 119 6 [some (vr 84), some (vl l1), none, some (vi (w32 (l3 + 1))), some (vi l4)] [] (I, u2 J 84 l3.toNat l1, PP b) Q)))) : Tri G h 1 119 119 6 [some (vr 84), some (vl l1), none, some (vi l3), some (vi l4)] [] (I, J, PP b) Q := wp_at ck1 [(6, [true, true, false, true, true])] 400 H
theorem x1_r84_m {G : Ctx} {h : Nat} {Q : MP} {I : Nat → Nat → Int} {J : Nat → Nat → BitVec 64} {b : B3} {v : BitVec 64} (hh : 1 ≤ h) (H : ∀ h, 0 ≤ h → Tri G h 1 119 119 0 [some (vr 84), some (vl v), none] [] (I, J, PP b) Q) : TriM G h 1 119 119 [vr 84, vl v] (I, J, PP b) Q := TriM_intro (h - 1) (by omega) (by decide) (Nat.le_of_ble_eq_true rfl) (Nat.le_refl _) (Nat.le_refl _) (H (h - 1) (by omega))
theorem x1_r84_l {G : Ctx} {h : Nat} {I : Nat → Nat → Int} {J : Nat → Nat → BitVec 64} {b : B3} {Q : MP} {v : BitVec 64} (H : Q none (I, u1 J 84 (fun j => if j < 3616 then v else J 84 j), PP b)) : ∀ (m i : Nat), i + m = 3616 → Tri G h 1 119 119 6 [some (vr 84), some (vl v), none, some (vi (i : Int)), some (vi 3616)] [] (I, u1 J 84 (fun j => if j < i then v else J 84 j), PP b) Q := by
  intro m
  induction m with
  | zero =>
    intro i hi
    refine x1_r84_6 (Nat.zero_le _) ⟨fun q => ?_, fun q => by omega⟩
    rw [show i = 3616 by omega]
    exact H
  | succ m ih =>
    intro i hi
    refine x1_r84_6 (Nat.zero_le _) ⟨fun q => by omega, fun q => ⟨⟨by omega, by omega⟩, ?_⟩⟩
    rw [w32_id (by omega) (by omega), show ((i : Int)).toNat = i by omega, fill_s]
    exact ih (i + 1) (by omega)
theorem sx1_r84 {G : Ctx} {h : Nat} {I : Nat → Nat → Int} {J : Nat → Nat → BitVec 64} {b : B3} {K : MS → Prop} {v : BitVec 64} (hh : 1 ≤ h) (k1 : K (I, u1 J 84 (fun j => if j < 3616 then v else J 84 j), PP b)) : TriM G h 1 119 119 [vr 84, vl v] (I, J, PP b) (cV' K) := by
  refine x1_r84_m hh (fun h hh => x1_r84 hh ?_)
  have h1 := x1_r84_l (G := G) (h := h) (I := I) (J := J) (b := b) (Q := cV' K) (v := v) (cV_r k1) 3616 0 (by omega)
  rw [fill_0] at h1
  exact h1
end
section
/-! WHAT TIES THE TWO SIDES: the class's cells (a world at o + 1 .. o + 29; o = 0 is now, o = 30 the kept one) and the reference's row w (92 now, 93 kept) -/
abbrev MI : Type := Nat → Nat → Int
abbrev MJ : Type := Nat → Nat → BitVec 64
def rTown (o w : Nat) (I : MI) : Prop :=
  (0 ≤ I (o + 2) 0 ∧ I (o + 2) 0 ≤ 60 ∧ I w 3 = I (o + 2) 0) ∧ (0 ≤ I (o + 2) 1 ∧ I (o + 2) 1 < 100 ∧ I w 1 = I (o + 2) 1) ∧ (0 ≤ I (o + 2) 2 ∧ I (o + 2) 2 < 100 ∧ I w 2 = I (o + 2) 2) ∧
  (∀ e : Int, 0 ≤ e → e < I (o + 2) 0 → (I w (220 + 3 * e).toNat = I (o + 3) e.toNat ∧ I w (220 + 3 * e + 1).toNat = I (o + 4) e.toNat ∧ I w (220 + 3 * e + 2).toNat = I (o + 5) e.toNat) ∧ (0 ≤ I (o + 3) e.toNat ∧ I (o + 3) e.toNat < 12) ∧ (0 ≤ I (o + 4) e.toNat ∧ I (o + 4) e.toNat < 1000) ∧ 0 ≤ I (o + 5) e.toNat ∧ I (o + 5) e.toNat < 10) ∧
  (∀ x y : Int, 0 ≤ x → x < 12 → 0 ≤ y → y < 12 → x ≠ y → I w (70 + 12 * x + y).toNat = I (o + 6) (x * 12 + y).toNat ∧ I (o + 6) (y * 12 + x).toNat = I (o + 6) (x * 12 + y).toNat ∧ 0 ≤ I (o + 6) (x * 12 + y).toNat ∧ I (o + 6) (x * 12 + y).toNat < 1000)
/-- an entry of the book: facts in range, when told, when void, its name -/
def rEnt (o w : Nat) (I : MI) (e : Int) : Prop :=
  (I w (450 + 17 * e).toNat = I (o + 8) (e * 6).toNat ∧ I w (450 + 17 * e + 1).toNat = I (o + 8) (e * 6 + 1).toNat ∧ I w (450 + 17 * e + 2).toNat = I (o + 8) (e * 6 + 2).toNat ∧ I w (450 + 17 * e + 3).toNat = I (o + 8) (e * 6 + 3).toNat ∧ I w (450 + 17 * e + 4).toNat = I (o + 8) (e * 6 + 4).toNat ∧ I w (450 + 17 * e + 5).toNat = I (o + 8) (e * 6 + 5).toNat) ∧
  ((0 ≤ I (o + 8) (e * 6).toNat ∧ I (o + 8) (e * 6).toNat < 2) ∧ (0 ≤ I (o + 8) (e * 6 + 1).toNat ∧ I (o + 8) (e * 6 + 1).toNat < 11) ∧ (0 ≤ I (o + 8) (e * 6 + 2).toNat ∧ I (o + 8) (e * 6 + 2).toNat < I (o + 2) 0) ∧ (0 ≤ I (o + 8) (e * 6 + 3).toNat ∧ I (o + 8) (e * 6 + 3).toNat < 100) ∧ (0 ≤ I (o + 8) (e * 6 + 4).toNat ∧ I (o + 8) (e * 6 + 4).toNat < 1440) ∧ (0 ≤ I (o + 8) (e * 6 + 5).toNat ∧ I (o + 8) (e * 6 + 5).toNat < 120)) ∧
  (I w (450 + 17 * e + 6).toNat = I (o + 9) e.toNat ∧ 1 ≤ I (o + 9) e.toNat ∧ I (o + 9) e.toNat ≤ I (o + 7) 1) ∧
  ((I w (450 + 17 * e + 7).toNat = 0 ∧ I (o + 10) e.toNat = -1) ∨ (I w (450 + 17 * e + 7).toNat = I (o + 10) e.toNat ∧ 1 ≤ I (o + 10) e.toNat ∧ I (o + 10) e.toNat ≤ I (o + 7) 1)) ∧
  (I w (450 + 17 * e + 8).toNat = I (o + 11) e.toNat ∧ 1 ≤ I (o + 11) e.toNat ∧ I (o + 11) e.toNat ≤ 8) ∧
  (∀ k : Int, 0 ≤ k → k < I (o + 11) e.toNat → I w (450 + 17 * e + 9 + k).toNat = I (o + 12) (e * 8 + k).toNat ∧ 0 ≤ I (o + 12) (e * 8 + k).toNat ∧ I (o + 12) (e * 8 + k).toNat < 26)
def rBook (o w : Nat) (I : MI) : Prop :=
  (0 ≤ I (o + 7) 0 ∧ I (o + 7) 0 ≤ 120 ∧ I w 4 = I (o + 7) 0) ∧ (0 ≤ I (o + 7) 1 ∧ I (o + 7) 1 ≤ 1000 ∧ I w 5 = I (o + 7) 1) ∧ (-1 ≤ I (o + 7) 2 ∧ I (o + 7) 2 ≤ I (o + 7) 1 ∧ I w 6 = I (o + 7) 2) ∧
  ∀ e : Int, 0 ≤ e → e < I (o + 7) 0 → rEnt o w I e
def rRound (o w : Nat) (I : MI) : Prop :=
  (0 ≤ I (o + 22) 0 ∧ I (o + 22) 0 ≤ 24 ∧ I w 7 = I (o + 22) 0) ∧
  ∀ i : Int, 0 ≤ i → i < I (o + 22) 0 → (I w (400 + 2 * i).toNat = I (o + 23) i.toNat ∧ 0 ≤ I (o + 23) i.toNat ∧ I (o + 23) i.toNat < I (o + 2) 0) ∧ I w (400 + 2 * i + 1).toNat = I (o + 24) i.toNat ∧ 0 ≤ I (o + 24) i.toNat ∧ I (o + 24) i.toNat < 1440
def rLast (o w : Nat) (I : MI) : Prop :=
  (1 ≤ I (o + 25) 0 ∧ I (o + 25) 0 ≤ 4 ∧ I w 8 = I (o + 25) 0) ∧ (1 ≤ I (o + 25) 1 ∧ I (o + 25) 1 ≤ 6 ∧ I w 9 = I (o + 25) 1) ∧
  (∀ i : Int, 0 ≤ i → i < 5 → I w (10 + i).toNat = I (o + 26) i.toNat ∧ -1 ≤ I (o + 26) i.toNat ∧ I (o + 26) i.toNat < 12) ∧
  (∀ i : Int, 0 ≤ i → i < 6 → I w (15 + i).toNat = I (o + 27) i.toNat ∧ 0 ≤ I (o + 27) i.toNat ∧ I (o + 27) i.toNat < 10) ∧
  (∀ i d : Int, 0 ≤ i → i < 5 → 0 ≤ d → d < 4 → I w (21 + 4 * i + d).toNat = I (o + 28) (i * 4 + d).toNat ∧ (I (o + 28) (i * 4 + d).toNat = 0 ∨ I (o + 28) (i * 4 + d).toNat = 1)) ∧
  (∀ i d : Int, 0 ≤ i → i < 6 → 0 ≤ d → d < 4 → I w (41 + 4 * i + d).toNat = I (o + 29) (i * 4 + d).toNat ∧ -1 ≤ I (o + 29) (i * 4 + d).toNat ∧ I (o + 29) (i * 4 + d).toNat < 5)
/-! texts: a line is how it begins and steps (kind, number), as the reference has them; the class's words of a step -/
abbrev Stp1 : Type := Int × Int
abbrev Lin : Type := Int × List Stp1
def enc (q : Stp1) : List Int :=
  if q.1 = 0 then [q.2] else if q.1 < 8 then [10000 + (q.1 - 1)] else if q.1 < 13 then [10000 + (q.1 - 8)] else if q.1 = 13 then [20043] else if q.1 = 14 then [20045] else if q.1 = 15 then [20042] else if q.1 = 16 then [q.2, 20047] else if q.1 = 17 then [20060] else if q.1 = 18 then [20061] else if q.1 = 19 then [20062] else if q.1 = 20 then [20005] else if q.1 = 21 then [20004] else [20003]
def encs (l : List Stp1) : List Int := l.flatMap enc
def encL (q : Lin) : List Int := encs q.2 ++ [30000 + (if q.1 = 2 then 1 else 0)]
def encP (p : List Lin) : List Int := p.flatMap encL
/-- the kinds on the stack: true a condition, false a number; none if it can't be -/
def tyS (q : Stp1) (s : List Bool) : Option (List Bool) :=
  if q.1 < 13 then some (false :: s) else if q.1 = 16 then (match s with
    | false :: r => some (false :: r)
    | _ => none) else if q.1 < 16 then (match s with
    | false :: false :: r => some (false :: r)
    | _ => none) else if q.1 < 20 then (match s with
    | false :: false :: r => some (true :: r)
    | _ => none) else if q.1 = 20 then (match s with
    | true :: r => some (true :: r)
    | _ => none) else (match s with
    | true :: true :: r => some (true :: r)
    | _ => none)
def tyR : List Stp1 → List Bool → Option (List Bool)
  | [], s => some s
  | q :: r, s => match tyS q s with
    | some s' => if s'.length < 31 then tyR r s' else none
    | none => none
/-- a step as a text of this kind (like or home) may have it -/
def okStp (home : Bool) (q : Stp1) : Prop := (q.1 = 0 ∧ 0 ≤ q.2 ∧ q.2 < 10000) ∨ (home = false ∧ 1 ≤ q.1 ∧ q.1 < 8) ∨ (home = true ∧ 8 ≤ q.1 ∧ q.1 < 13) ∨ (13 ≤ q.1 ∧ q.1 < 23 ∧ q.1 ≠ 16) ∨ (q.1 = 16 ∧ 1 ≤ q.2 ∧ q.2 < 10000)
def okLin (home : Bool) (q : Lin) : Prop := (∀ s ∈ q.2, okStp home s) ∧ tyR q.2 [] = some [true] ∧ (if home = true then q.1 = 1 ∨ q.1 = 2 else q.1 = 0)
def hasAt (f : Nat → Int) (off : Nat) (l : List Int) : Prop := ∀ i x, l[i]? = some x → f (off + i) = x
def stepsOf (p : List Lin) : List Stp1 := p.flatMap (fun q => q.2)
def flat2 (l : List Stp1) : List Int := l.flatMap (fun q => [q.1, q.2])
/-- the steps as the reference lays them: the number of a step that has none may be anything -/
def hasSt (f : Nat → Int) (off : Nat) (l : List Stp1) : Prop := ∀ i q, l[i]? = some q → f (off + 2 * i) = q.1 ∧ ((q.1 = 0 ∨ q.1 = 16) → f (off + 2 * i + 1) = q.2)
def rTxt (t w k : Nat) (I : MI) (home : Bool) (p : List Lin) : Prop :=
  (I t 0 = p.length ∧ p.length ≤ 16) ∧ (I t 2 = (encP p).length ∧ (encP p).length ≤ 400) ∧ hasAt (I (t + 1)) 0 (encP p) ∧ I w (2500 + k) = p.length ∧
  (∀ i q, p[i]? = some q → I w (2610 + 16 * k + i) = q.1 ∧ I w (2510 + 16 * k + i) = (stepsOf (p.take i)).length ∧ I w (2560 + 16 * k + i) = (stepsOf (p.take (i + 1))).length) ∧
  hasSt (I w) (2660 + 820 * k) (stepsOf p) ∧ (stepsOf p).length ≤ 400 ∧ ∀ q ∈ p, okLin home q
def rText (o w : Nat) (I : MI) : Prop := ∃ p0 p1 p2, rTxt (o + 13) w 0 I false p0 ∧ rTxt (o + 16) w 1 I false p1 ∧ rTxt (o + 19) w 2 I true p2
def RW (o w : Nat) (I : MI) : Prop := rTown o w I ∧ rBook o w I ∧ rRound o w I ∧ rLast o w I ∧ rText o w I ∧ I w 0 = I (o + 1) 0
/-! how the parts stay when other cells change -/
theorem rTown.fr {o w : Nat} {I I' : MI} (h : rTown o w I) (h2 : I' (o + 2) = I (o + 2)) (h3 : I' (o + 3) = I (o + 3)) (h4 : I' (o + 4) = I (o + 4)) (h5 : I' (o + 5) = I (o + 5)) (h6 : I' (o + 6) = I (o + 6)) (hw : ∀ j, (1 ≤ j ∧ j < 4) ∨ (70 ≤ j ∧ j < 214) ∨ (220 ≤ j ∧ j < 400) → I' w j = I w j) : rTown o w I' := by
  obtain ⟨a1, a2, a3, a4, a5⟩ := h
  unfold rTown
  rw [h2, h3, h4, h5, h6, hw 3 (by omega), hw 1 (by omega), hw 2 (by omega)]
  refine ⟨a1, a2, a3, fun e e1 e2 => ?_, fun x y x1 x2 y1 y2 n => ?_⟩
  · rw [hw _ (by omega), hw _ (by omega), hw _ (by omega)]
    exact a4 e e1 e2
  · rw [hw _ (by omega)]
    exact a5 x y x1 x2 y1 y2 n
theorem rEnt.fr {o w : Nat} {I I' : MI} {e : Int} (h : rEnt o w I e) (e1 : 0 ≤ e) (e2 : e < 120) (h2 : I (o + 2) 0 ≤ I' (o + 2) 0) (h7 : I (o + 7) 1 ≤ I' (o + 7) 1) (h8 : ∀ j, I' (o + 8) (e * 6 + j).toNat = I (o + 8) (e * 6 + j).toNat ∨ ¬ (0 ≤ j ∧ j < 6)) (h9 : I' (o + 9) e.toNat = I (o + 9) e.toNat) (h10 : I' (o + 10) e.toNat = I (o + 10) e.toNat) (h11 : I' (o + 11) e.toNat = I (o + 11) e.toNat) (h12 : ∀ j, I' (o + 12) (e * 8 + j).toNat = I (o + 12) (e * 8 + j).toNat ∨ ¬ (0 ≤ j ∧ j < 8)) (hw : ∀ j, 0 ≤ j ∧ j < 17 → I' w (450 + 17 * e + j).toNat = I w (450 + 17 * e + j).toNat) : rEnt o w I' e := by
  obtain ⟨a1, a2, a3, a4, a5, a6⟩ := h
  have k0 := (h8 0).resolve_right (by omega)
  have k1 := (h8 1).resolve_right (by omega)
  have k2 := (h8 2).resolve_right (by omega)
  have k3 := (h8 3).resolve_right (by omega)
  have k4 := (h8 4).resolve_right (by omega)
  have k5 := (h8 5).resolve_right (by omega)
  have w0 := hw 0 (by omega)
  rw [Int.add_zero] at k0 w0
  unfold rEnt
  rw [k0, k1, k2, k3, k4, k5, w0, hw 1 (by omega), hw 2 (by omega), hw 3 (by omega), hw 4 (by omega), hw 5 (by omega), hw 6 (by omega), hw 7 (by omega), hw 8 (by omega), h9, h10, h11]
  refine ⟨a1, ⟨a2.1, a2.2.1, ⟨a2.2.2.1.1, by omega⟩, a2.2.2.2⟩, ⟨a3.1, a3.2.1, by omega⟩, ?_, a5, fun k q1 q2 => ?_⟩
  · rcases a4 with a4 | a4
    · exact Or.inl a4
    · exact Or.inr ⟨a4.1, a4.2.1, by omega⟩
  · have := (h12 k).resolve_right (by omega)
    have hk := hw (9 + k) (by omega)
    rw [show 450 + 17 * e + (9 + k) = 450 + 17 * e + 9 + k by omega] at hk
    rw [this, hk]
    exact a6 k q1 q2
theorem rBook.fr {o w : Nat} {I I' : MI} (h : rBook o w I) (h2 : I (o + 2) 0 ≤ I' (o + 2) 0) (h7 : I' (o + 7) = I (o + 7)) (h8 : I' (o + 8) = I (o + 8)) (h9 : I' (o + 9) = I (o + 9)) (h10 : I' (o + 10) = I (o + 10)) (h11 : I' (o + 11) = I (o + 11)) (h12 : I' (o + 12) = I (o + 12)) (hw : ∀ j, (4 ≤ j ∧ j < 7) ∨ (450 ≤ j ∧ j < 2490) → I' w j = I w j) : rBook o w I' := by
  obtain ⟨a1, a2, a3, a4⟩ := h
  unfold rBook
  rw [h7, hw 4 (by omega), hw 5 (by omega), hw 6 (by omega)]
  refine ⟨a1, a2, a3, fun e e1 e2 => (a4 e e1 e2).fr e1 (by omega) h2 (by rw [h7]; exact Int.le_refl _) (fun j => Or.inl (by rw [h8])) (by rw [h9]) (by rw [h10]) (by rw [h11]) (fun j => Or.inl (by rw [h12])) (fun j hj => hw _ (by omega))⟩
theorem rRound.fr {o w : Nat} {I I' : MI} (h : rRound o w I) (h2 : I (o + 2) 0 ≤ I' (o + 2) 0) (h22 : I' (o + 22) = I (o + 22)) (h23 : I' (o + 23) = I (o + 23)) (h24 : I' (o + 24) = I (o + 24)) (hw : ∀ j, j = 7 ∨ (400 ≤ j ∧ j < 450) → I' w j = I w j) : rRound o w I' := by
  obtain ⟨a1, a2⟩ := h
  unfold rRound
  rw [h22, h23, h24, hw 7 (by omega)]
  refine ⟨a1, fun i i1 i2 => ?_⟩
  rw [hw _ (by omega), hw _ (by omega)]
  obtain ⟨b1, b2⟩ := a2 i i1 i2
  exact ⟨⟨b1.1, b1.2.1, by omega⟩, b2⟩
theorem rLast.fr {o w : Nat} {I I' : MI} (h : rLast o w I) (h25 : I' (o + 25) = I (o + 25)) (h26 : I' (o + 26) = I (o + 26)) (h27 : I' (o + 27) = I (o + 27)) (h28 : I' (o + 28) = I (o + 28)) (h29 : I' (o + 29) = I (o + 29)) (hw : ∀ j, 8 ≤ j ∧ j < 70 → I' w j = I w j) : rLast o w I' := by
  obtain ⟨a1, a2, a3, a4, a5, a6⟩ := h
  unfold rLast
  rw [h25, h26, h27, h28, h29, hw 8 (by omega), hw 9 (by omega)]
  refine ⟨a1, a2, fun i i1 i2 => ?_, fun i i1 i2 => ?_, fun i d i1 i2 d1 d2 => ?_, fun i d i1 i2 d1 d2 => ?_⟩
  · rw [hw _ (by omega)]; exact a3 i i1 i2
  · rw [hw _ (by omega)]; exact a4 i i1 i2
  · rw [hw _ (by omega)]; exact a5 i d i1 i2 d1 d2
  · rw [hw _ (by omega)]; exact a6 i d i1 i2 d1 d2
theorem rTxt.fr {t w k : Nat} {I I' : MI} {home : Bool} {p : List Lin} (h : rTxt t w k I home p) (ht : I' t = I t) (ht1 : I' (t + 1) = I (t + 1)) (hw : ∀ j, 2500 ≤ j → I' w j = I w j) : rTxt t w k I' home p := by
  obtain ⟨a1, a2, a3, a4, a5, a6, a7, a8⟩ := h
  unfold rTxt
  rw [ht, ht1, hw _ (by omega)]
  refine ⟨a1, a2, a3, a4, fun i q hq => ?_, fun i q hq => ?_, a7, a8⟩
  · rw [hw _ (by omega), hw _ (by omega), hw _ (by omega)]; exact a5 i q hq
  · rw [hw _ (by omega), hw _ (by omega)]; exact a6 i q hq
theorem rText.fr {o w : Nat} {I I' : MI} (h : rText o w I) (h1 : I' (o + 13) = I (o + 13)) (h2 : I' (o + 14) = I (o + 14)) (h3 : I' (o + 16) = I (o + 16)) (h4 : I' (o + 17) = I (o + 17)) (h5 : I' (o + 19) = I (o + 19)) (h6 : I' (o + 20) = I (o + 20)) (hw : ∀ j, 2500 ≤ j → I' w j = I w j) : rText o w I' := by
  obtain ⟨p0, p1, p2, a0, a1, a2⟩ := h
  exact ⟨p0, p1, p2, a0.fr h1 h2 hw, a1.fr h3 h4 hw, a2.fr h5 h6 hw⟩
end
section
/-! PURE WORDS for what both sides compute -/
def up1 {α : Type} (f : Nat → α) (k : Nat) (x : α) : Nat → α := fun j => if j = k then x else f j
/-! steps of a line over a stack -/
def binS (s y x : Int) : Int :=
  if s = 13 then w32 (y + x) else if s = 14 then w32 (y - x) else if s = 15 then w32 (y * x) else if s = 17 then (if y < x then 1 else 0) else if s = 18 then (if y = x then 1 else 0) else if s = 19 then (if x < y then 1 else 0) else if s = 21 then iAnd y x else iOr y x
def stpS (vals : Int → Int) (q : Stp1) (s : List Int) : List Int :=
  if q.1 = 0 then q.2 :: s else if q.1 < 13 then vals q.1 :: s else match s with
    | [] => []
    | x :: r => if q.1 = 16 then iDiv x q.2 :: r else if q.1 = 20 then w32 (1 - x) :: r else match r with
      | [] => []
      | y :: r2 => binS q.1 y x :: r2
def runS (vals : Int → Int) : List Stp1 → List Int → List Int
  | [], s => s
  | q :: r, s => runS vals r (stpS vals q s)
def soL (vals : Int → Int) (q : Lin) : Bool := decide (runS vals q.2 [] = [1])
def firstL (vals : Int → Int) (p : List Lin) : Option Lin := p.find? (soL vals)
/-! names: the fewest changes -/
def levN (prev : Nat → Int) (i : Nat) (c : Int) (y : Nat → Int) : Nat → Int
  | 0 => (i : Int) + 1
  | j + 1 => min (prev j + (if c = y j then 0 else 1)) (1 + min (prev (j + 1)) (levN prev i c y j))
def levR (x y : Nat → Int) : Nat → Nat → Int
  | 0 => fun j => (j : Int)
  | i + 1 => levN (levR x y i) i (x i) y
/-! the class's world now, read -/
def nHs (I : MI) : Int := I 2 0
def fact (I : MI) (e f : Int) : Int := I 8 (e * 6 + f).toNat
def nam (I : MI) (e : Int) (k : Nat) : Int := I 12 (e * 8 + k).toNat
def atT (I : MI) : Int := if I 7 2 = -1 then I 7 1 else I 7 2
def knw (I : MI) (e : Int) : Prop := I 9 e.toNat ≤ atT I ∧ (I 10 e.toNat = -1 ∨ atT I < I 10 e.toNat)
def knB (I : MI) (e : Nat) : Bool := decide (I 9 e ≤ atT I) && (decide (I 10 e = -1) || decide (atT I < I 10 e))
def wayF (I : MI) (x y : Int) : Int := if I 3 x.toNat = I 3 y.toNat then dist (I 4 x.toNat) (I 4 y.toNat) else I 4 x.toNat + I 4 y.toNat + I 6 (I 3 x.toNat * 12 + I 3 y.toNat).toNat
def minF (I : MI) (x y : Int) : Int := wayF I x y * I 2 1 / 100 + I 2 2
def likeV (I : MI) (a b : Int) (s : Int) : Int :=
  if s = 1 then levR (nam I a) (nam I b) (I 11 a.toNat).toNat (I 11 b.toNat).toNat else if s = 2 then (if nam I a 0 = nam I b 0 then 1 else 0) else if s = 3 then dist (fact I a 5) (fact I b 5) else if s = 4 then wayF I (fact I a 2) (fact I b 2) else if s = 5 then dist (fact I a 3) (fact I b 3) else if s = 6 then (if fact I a 0 = fact I b 0 ∧ fact I a 1 = fact I b 1 then 1 else 0) else (if fact I a 2 = fact I b 2 then 1 else 0)
def homeV (I : MI) (x d mn : Int) (s : Int) : Int :=
  if s = 8 then iDiv mn 60 else if s = 9 then d else if s = 10 then I 3 x.toNat else if s = 11 then I 4 x.toNat else I 5 x.toNat
/-- two entries are alike by a text's lines -/
def alikB (p : List Lin) (I : MI) (a b : Int) : Bool := (firstL (likeV I a b) p).isSome
def homeB (p : List Lin) (I : MI) (x d mn : Int) : Bool := match firstL (homeV I x d mn) p with
  | some q => decide (q.1 = 1)
  | none => true
/-! persons: classes gathered from the least entry on -/
def bIn (al : Nat → Nat → Bool) (kn : Nat → Bool) (p : Int) (q : Nat) : Nat → Nat → (Nat → Int) × List Nat → (Nat → Int) × List Nat
  | 0, _, s => s
  | m + 1, o, s => bIn al kn p q m (o + 1) (if s.1 o = -1 ∧ kn o = true ∧ al q o = true then (up1 s.1 o p, s.2 ++ [o]) else s)
def bQu (al : Nat → Nat → Bool) (kn : Nat → Bool) (told : Nat) (p : Int) : Nat → Nat → (Nat → Int) × List Nat → (Nat → Int) × List Nat
  | 0, _, s => s
  | f + 1, i, s => match s.2[i]? with
    | none => s
    | some q => bQu al kn told p f (i + 1) (bIn al kn p q told 0 s)
def bAll (al : Nat → Nat → Bool) (kn : Nat → Bool) (told : Nat) : Nat → Nat → (Nat → Int) × List Nat → (Nat → Int) × List Nat
  | 0, _, s => s
  | m + 1, e, s => bAll al kn told m (e + 1) (if s.1 e = -1 ∧ kn e = true then ((bQu al kn told s.2.length (told + 1) 0 (up1 s.1 e s.2.length, [e])).1, s.2 ++ [e]) else s)
def persF (al : Nat → Nat → Bool) (kn : Nat → Bool) (told : Nat) : (Nat → Int) × List Nat := bAll al kn told told 0 (fun _ => -1, [])
def alN (p : List Lin) (I : MI) (a b : Nat) : Bool := alikB p I a b
/-- the persons of the world now: each entry's person, each person's least entry -/
def prs (p0 : List Lin) (I : MI) : (Nat → Int) × List Nat := persF (alN p0 I) (knB I) (I 7 0).toNat
/-- how many entries of a kind below n -/
def cntE (f : Nat → Bool) : Nat → Int
  | 0 => 0
  | n + 1 => cntE f n + (if f n = true then 1 else 0)
/-- what a person is: 0 open, 1 secret, 2 both -/
def srt (I : MI) (cls : Nat → Int) (told : Nat) (p : Int) : Int :=
  (if 0 < cntE (fun e => decide (cls e = p) && decide (fact I e 0 = 0)) told then 1 else 0) + (if 0 < cntE (fun e => decide (cls e = p) && decide (fact I e 0 = 1)) told then 2 else 0) - 1
/-- does a person have an entry in a house -/
def inHs (I : MI) (cls : Nat → Int) (told : Nat) (p : Int) (x : Nat) : Bool := decide (0 < cntE (fun e => decide (cls e = p) && decide (fact I e 2 = x)) told)
/-! couples -/
def feas (E : Nat → Nat → Bool) (A : List Nat) : Prop := ∃ f : Nat → Nat, (∀ p ∈ A, E p (f p) = true) ∧ ∀ p ∈ A, ∀ q ∈ A, f p = f q → p = q
noncomputable def grd (E : Nat → Nat → Bool) : List Nat → List Nat → List Nat
  | [], A => A
  | p :: r, A => @ite _ (feas E (p :: A)) (Classical.propDecidable _) (grd E r (p :: A)) (grd E r A)
/-- may an open person and a secret one be one -/
def mayE (p1 : List Lin) (I : MI) (cls : Nat → Int) (told : Nat) (p q : Nat) : Bool := decide (∃ a, a < told ∧ cls a = p ∧ ∃ b, b < told ∧ cls b = q ∧ srt I cls told p = 0 ∧ srt I cls told q = 1 ∧ alN p1 I a b = true)
noncomputable def coup (p0 p1 : List Lin) (I : MI) : Int := (grd (mayE p1 I (prs p0 I).1 (I 7 0).toNat) ((List.range (prs p0 I).2.length).filter (fun p => decide (srt I (prs p0 I).1 (I 7 0).toNat p = 0))) []).length
/-! what the class remembers -/
def bitJ (J : MJ) (k : Nat) (i : Nat) : Bool := (J k (i / 64)).getLsbD (i % 64)
def pairI (k a b : Nat) : Nat := k * 7140 + a * (a - 1) / 2 + b
def likI (p0 p1 : List Lin) (I : MI) (J : MJ) : Prop := ∀ k a b : Nat, k < 2 → b < a → a < 120 → (bitJ J 70 (pairI k a b) = true → (a : Int) < I 7 0 ∧ bitJ J 71 (pairI k a b) = (if k = 0 then alN p0 I a b else alN p1 I a b)) ∧ (bitJ J 70 (pairI k a b) = false → bitJ J 71 (pairI k a b) = false)
def perI (p0 p1 : List Lin) (I : MI) (J : MJ) : Prop := (I 72 3 = 0 ∨ I 72 3 = 1) ∧ (I 72 3 = 0 →
  I 72 0 = (prs p0 I).2.length ∧ (∀ e : Nat, e < 120 → I 73 e = if (e : Int) < I 7 0 then (prs p0 I).1 e else -1) ∧
  (∀ p x : Nat, (prs p0 I).2[p]? = some x → I 75 p = x ∧ I 74 p = cntE (fun e => decide ((prs p0 I).1 e = p)) (I 7 0).toNat ∧ I 76 p = srt I (prs p0 I).1 (I 7 0).toNat p + 1 ∧ ∀ s : Nat, s < 64 → (J 77 p).getLsbD s = inHs I (prs p0 I).1 (I 7 0).toNat p s) ∧
  (I 72 10 = -1 ∨ I 72 10 = coup p0 p1 I))
/-! the tape, the faults, the table of choices -/
def rTape (I : MI) : Prop := (0 ≤ I 0 4 ∧ I 0 4 ≤ 400 ∧ I 91 11 = I 0 4) ∧ ∀ i : Int, 0 ≤ i → i < I 0 4 → 0 ≤ I 96 i.toNat ∧ I 96 i.toNat < 256 ∧ I 61 i.toNat = if I 96 i.toNat < 128 then I 96 i.toNat else I 96 i.toNat - 256
def binom : Nat → Nat → Nat
  | _, 0 => 1
  | 0, _ + 1 => 0
  | n + 1, k + 1 => binom n k + binom n (k + 1)
def choI (J : MJ) : Prop := J 109 0 = 1#64 → ∀ n k : Nat, n < 61 → k ≤ n → J 109 (61 * n + k) = BitVec.ofNat 64 (binom n k)
/-- ALL that holds between the calls; c: how many calls there were -/
def INV (c : Nat) (I : MI) (J : MJ) : Prop := ∃ p0 p1 p2, (rTown 0 92 I ∧ rBook 0 92 I ∧ rRound 0 92 I ∧ rLast 0 92 I ∧ I 92 0 = I 1 0) ∧ (rTxt 13 92 0 I false p0 ∧ rTxt 16 92 1 I false p1 ∧ rTxt 19 92 2 I true p2) ∧ likI p0 p1 I J ∧ perI p0 p1 I J ∧ rTape I ∧ (I 91 18 = I 0 5 ∧ I 91 20 = I 0 6) ∧ ((I 0 2 = 0 ∨ I 0 2 = 1) ∧ I 91 2 = I 0 2 ∧ (I 0 2 = 1 → RW 30 93 I)) ∧ choI J ∧ (I 7 1 ≤ c ∧ (I 0 2 = 1 → I 37 1 ≤ c) ∧ c ≤ 64)
end
section
set_option maxRecDepth 100000 in
theorem x30 {G : Ctx} {h : Nat} {Q : MP} {I : Nat → Nat → Int} {J : Nat → Nat → BitVec 64} {b : B3} {e : Int} (hh : 1 ≤ h) (H : ((0 ≤ e ∧ e < (I 7 0)) → ((0 ≤ e ∧ e < (120 : Int)) ∧ (Q (some (vi (I 11 e.toNat))) (I, J, PP b)))) ∧ (¬ (0 ≤ e ∧ e < (I 7 0)) → (Q (some (vi 0)) (I, J, PP b)))) : Tri G h 30 119 119 0 [some (vr 7), some (vi e)] [] (I, J, PP b) Q := wp_at ck30 [] 400 (sx172 (by omega)  (fun q41 => And.intro (fun z => absurd z (show ¬ ((1 : Int) = (0 : Int)) by decide)) (fun _ => H.1 q41)) (fun q42 => And.intro (fun _ => H.2 q42) (fun z => absurd (show (0 : Int) = (0 : Int) by decide) z)))
theorem x30_m {G : Ctx} {h : Nat} {Q : MP} {I : Nat → Nat → Int} {J : Nat → Nat → BitVec 64} {b : B3} {e : Int} (hh : 2 ≤ h) (H : ∀ h, 1 ≤ h → Tri G h 30 119 119 0 [some (vr 7), some (vi e)] [] (I, J, PP b) Q) : TriM G h 30 119 119 [vr 7, vi e] (I, J, PP b) Q := TriM_intro (h - 1) (by omega) (by decide) (Nat.le_of_ble_eq_true rfl) (Nat.le_refl _) (Nat.le_refl _) (H (h - 1) (by omega))
set_option maxRecDepth 100000 in
theorem x31 {G : Ctx} {h : Nat} {Q : MP} {I : Nat → Nat → Int} {J : Nat → Nat → BitVec 64} {b : B3} {e k : Int} (hh : 1 ≤ h) (H : ((0 ≤ e ∧ e < (I 7 0)) → (((0 ≤ k ∧ k < (8 : Int)) → ((0 ≤ (w32 ((w32 (e * 8)) + k)) ∧ (w32 ((w32 (e * 8)) + k)) < (960 : Int)) ∧ (Q (some (vi (I 12 ((w32 ((w32 (e * 8)) + k)).toNat)))) (I, J, PP b)))) ∧ (¬ (0 ≤ k ∧ k < (8 : Int)) → (Q (some (vi (-1))) (I, J, PP b))))) ∧ (¬ (0 ≤ e ∧ e < (I 7 0)) → (Q (some (vi (-1))) (I, J, PP b)))) : Tri G h 31 119 119 0 [some (vr 7), some (vi e), some (vi k)] [] (I, J, PP b) Q := wp_at ck31 [] 400 (sx172 (by omega)  (fun q43 => And.intro (fun z => absurd z (show ¬ ((1 : Int) = (0 : Int)) by decide)) (fun _ => sx172 (by omega)  (fun q45 => And.intro (fun z => absurd z (show ¬ ((1 : Int) = (0 : Int)) by decide)) (fun _ => (H.1 q43).1 q45)) (fun q46 => And.intro (fun _ => (H.1 q43).2 q46) (fun z => absurd (show (0 : Int) = (0 : Int) by decide) z)))) (fun q44 => And.intro (fun _ => H.2 q44) (fun z => absurd (show (0 : Int) = (0 : Int) by decide) z)))
theorem x31_m {G : Ctx} {h : Nat} {Q : MP} {I : Nat → Nat → Int} {J : Nat → Nat → BitVec 64} {b : B3} {e k : Int} (hh : 2 ≤ h) (H : ∀ h, 1 ≤ h → Tri G h 31 119 119 0 [some (vr 7), some (vi e), some (vi k)] [] (I, J, PP b) Q) : TriM G h 31 119 119 [vr 7, vi e, vi k] (I, J, PP b) Q := TriM_intro (h - 1) (by omega) (by decide) (Nat.le_of_ble_eq_true rfl) (Nat.le_refl _) (Nat.le_refl _) (H (h - 1) (by omega))
set_option maxRecDepth 100000 in
theorem x26 {G : Ctx} {h : Nat} {Q : MP} {I : Nat → Nat → Int} {J : Nat → Nat → BitVec 64} {b : B3} {e : Int} (hh : 1 ≤ h) (H : ((0 ≤ e ∧ e < (I 7 0)) → ((0 ≤ e ∧ e < (120 : Int)) ∧ ((((I 10 e.toNat) = (-1)) → (Q (some (vi 0)) (I, J, PP b))) ∧ (¬ ((I 10 e.toNat) = (-1)) → (Q (some (vi 1)) (I, J, PP b)))))) ∧ (¬ (0 ≤ e ∧ e < (I 7 0)) → (Q (some (vi 0)) (I, J, PP b)))) : Tri G h 26 119 119 0 [some (vr 7), some (vi e)] [] (I, J, PP b) Q := wp_at ck26 [] 400 (sx172 (by omega)  (fun q47 => And.intro (fun z => absurd z (show ¬ ((1 : Int) = (0 : Int)) by decide)) (fun _ => And.intro (H.1 q47).1 (And.intro (fun q49 => And.intro (show (0 : Int) = 0 ∨ (0 : Int) = 1 by decide) (((H.1 q47).2).1 q49)) (fun q50 => And.intro (show (1 : Int) = 0 ∨ (1 : Int) = 1 by decide) (((H.1 q47).2).2 q50))))) (fun q48 => And.intro (fun _ => And.intro (show (0 : Int) = 0 ∨ (0 : Int) = 1 by decide) (H.2 q48)) (fun z => absurd (show (0 : Int) = (0 : Int) by decide) z)))
theorem x26_m {G : Ctx} {h : Nat} {Q : MP} {I : Nat → Nat → Int} {J : Nat → Nat → BitVec 64} {b : B3} {e : Int} (hh : 2 ≤ h) (H : ∀ h, 1 ≤ h → Tri G h 26 119 119 0 [some (vr 7), some (vi e)] [] (I, J, PP b) Q) : TriM G h 26 119 119 [vr 7, vi e] (I, J, PP b) Q := TriM_intro (h - 1) (by omega) (by decide) (Nat.le_of_ble_eq_true rfl) (Nat.le_refl _) (Nat.le_refl _) (H (h - 1) (by omega))
set_option maxRecDepth 100000 in
theorem x27 {G : Ctx} {h : Nat} {Q : MP} {I : Nat → Nat → Int} {J : Nat → Nat → BitVec 64} {b : B3} {e : Int} (hh : 1 ≤ h) (H : ((¬ (I 7 2) = (-1)) → (((0 ≤ e ∧ e < (I 7 0)) → ((0 ≤ e ∧ e < (120 : Int)) ∧ ((((I 7 2) < (I 9 e.toNat)) → (Q (some (vi 0)) (I, J, PP b))) ∧ (¬ ((I 7 2) < (I 9 e.toNat)) → ((0 ≤ e ∧ e < (120 : Int)) ∧ ((((I 10 e.toNat) = (-1)) → (Q (some (vi 1)) (I, J, PP b))) ∧ (¬ ((I 10 e.toNat) = (-1)) → ((0 ≤ e ∧ e < (120 : Int)) ∧ ((((I 10 e.toNat) ≤ (I 7 2)) → (Q (some (vi 0)) (I, J, PP b))) ∧ (¬ ((I 10 e.toNat) ≤ (I 7 2)) → (Q (some (vi 1)) (I, J, PP b)))))))))))) ∧ (¬ (0 ≤ e ∧ e < (I 7 0)) → (Q (some (vi 0)) (I, J, PP b))))) ∧ (¬ (¬ (I 7 2) = (-1)) → (((0 ≤ e ∧ e < (I 7 0)) → ((0 ≤ e ∧ e < (120 : Int)) ∧ ((((I 7 1) < (I 9 e.toNat)) → (Q (some (vi 0)) (I, J, PP b))) ∧ (¬ ((I 7 1) < (I 9 e.toNat)) → ((0 ≤ e ∧ e < (120 : Int)) ∧ ((((I 10 e.toNat) = (-1)) → (Q (some (vi 1)) (I, J, PP b))) ∧ (¬ ((I 10 e.toNat) = (-1)) → ((0 ≤ e ∧ e < (120 : Int)) ∧ ((((I 10 e.toNat) ≤ (I 7 1)) → (Q (some (vi 0)) (I, J, PP b))) ∧ (¬ ((I 10 e.toNat) ≤ (I 7 1)) → (Q (some (vi 1)) (I, J, PP b)))))))))))) ∧ (¬ (0 ≤ e ∧ e < (I 7 0)) → (Q (some (vi 0)) (I, J, PP b)))))) : Tri G h 27 119 119 0 [some (vr 7), some (vi e)] [] (I, J, PP b) Q := wp_at ck27 [] 400 (And.intro (fun q51 => sx172 (by omega)  (fun q53 => And.intro (fun z => absurd z (show ¬ ((1 : Int) = (0 : Int)) by decide)) (fun _ => And.intro ((H.1 q51).1 q53).1 (And.intro (fun q55 => And.intro (show (0 : Int) = 0 ∨ (0 : Int) = 1 by decide) ((((H.1 q51).1 q53).2).1 q55)) (fun q56 => And.intro ((((H.1 q51).1 q53).2).2 q56).1 (And.intro (fun q57 => And.intro (show (1 : Int) = 0 ∨ (1 : Int) = 1 by decide) ((((((H.1 q51).1 q53).2).2 q56).2).1 q57)) (fun q58 => And.intro ((((((H.1 q51).1 q53).2).2 q56).2).2 q58).1 (And.intro (fun q59 => And.intro (show (0 : Int) = 0 ∨ (0 : Int) = 1 by decide) ((((((((H.1 q51).1 q53).2).2 q56).2).2 q58).2).1 q59)) (fun q60 => And.intro (show (1 : Int) = 0 ∨ (1 : Int) = 1 by decide) ((((((((H.1 q51).1 q53).2).2 q56).2).2 q58).2).2 q60))))))))) (fun q54 => And.intro (fun _ => And.intro (show (0 : Int) = 0 ∨ (0 : Int) = 1 by decide) ((H.1 q51).2 q54)) (fun z => absurd (show (0 : Int) = (0 : Int) by decide) z))) (fun q52 => sx172 (by omega)  (fun q61 => And.intro (fun z => absurd z (show ¬ ((1 : Int) = (0 : Int)) by decide)) (fun _ => And.intro ((H.2 q52).1 q61).1 (And.intro (fun q63 => And.intro (show (0 : Int) = 0 ∨ (0 : Int) = 1 by decide) ((((H.2 q52).1 q61).2).1 q63)) (fun q64 => And.intro ((((H.2 q52).1 q61).2).2 q64).1 (And.intro (fun q65 => And.intro (show (1 : Int) = 0 ∨ (1 : Int) = 1 by decide) ((((((H.2 q52).1 q61).2).2 q64).2).1 q65)) (fun q66 => And.intro ((((((H.2 q52).1 q61).2).2 q64).2).2 q66).1 (And.intro (fun q67 => And.intro (show (0 : Int) = 0 ∨ (0 : Int) = 1 by decide) ((((((((H.2 q52).1 q61).2).2 q64).2).2 q66).2).1 q67)) (fun q68 => And.intro (show (1 : Int) = 0 ∨ (1 : Int) = 1 by decide) ((((((((H.2 q52).1 q61).2).2 q64).2).2 q66).2).2 q68))))))))) (fun q62 => And.intro (fun _ => And.intro (show (0 : Int) = 0 ∨ (0 : Int) = 1 by decide) ((H.2 q52).2 q62)) (fun z => absurd (show (0 : Int) = (0 : Int) by decide) z))))
theorem x27_m {G : Ctx} {h : Nat} {Q : MP} {I : Nat → Nat → Int} {J : Nat → Nat → BitVec 64} {b : B3} {e : Int} (hh : 2 ≤ h) (H : ∀ h, 1 ≤ h → Tri G h 27 119 119 0 [some (vr 7), some (vi e)] [] (I, J, PP b) Q) : TriM G h 27 119 119 [vr 7, vi e] (I, J, PP b) Q := TriM_intro (h - 1) (by omega) (by decide) (Nat.le_of_ble_eq_true rfl) (Nat.le_refl _) (Nat.le_refl _) (H (h - 1) (by omega))
set_option maxRecDepth 100000 in
theorem x25 {G : Ctx} {h : Nat} {Q : MP} {I : Nat → Nat → Int} {J : Nat → Nat → BitVec 64} {b : B3} {e : Int} (hh : 1 ≤ h) (H : ((0 ≤ e ∧ e < (I 7 0)) → ((0 ≤ e ∧ e < (120 : Int)) ∧ (Q none (u2 (u2 I 7 1 (w32 ((I 7 1) + 1))) 10 e.toNat (w32 ((I 7 1) + 1)), J, PP b)))) ∧ (¬ (0 ≤ e ∧ e < (I 7 0)) → (Q none (I, J, PP b)))) : Tri G h 25 119 119 0 [some (vr 7), some (vi e)] [] (I, J, PP b) Q := wp_at ck25 [] 400 (sx172 (by omega)  (fun q69 => And.intro (fun z => absurd z (show ¬ ((1 : Int) = (0 : Int)) by decide)) (fun _ => H.1 q69)) (fun q70 => And.intro (fun _ => H.2 q70) (fun z => absurd (show (0 : Int) = (0 : Int) by decide) z)))
theorem x25_m {G : Ctx} {h : Nat} {Q : MP} {I : Nat → Nat → Int} {J : Nat → Nat → BitVec 64} {b : B3} {e : Int} (hh : 2 ≤ h) (H : ∀ h, 1 ≤ h → Tri G h 25 119 119 0 [some (vr 7), some (vi e)] [] (I, J, PP b) Q) : TriM G h 25 119 119 [vr 7, vi e] (I, J, PP b) Q := TriM_intro (h - 1) (by omega) (by decide) (Nat.le_of_ble_eq_true rfl) (Nat.le_refl _) (Nat.le_refl _) (H (h - 1) (by omega))
set_option maxRecDepth 100000 in
theorem x24 {G : Ctx} {h : Nat} {Q : MP} {I : Nat → Nat → Int} {J : Nat → Nat → BitVec 64} {b : B3} {a1 a2 a3 a4 a5 a6 : Int} (hh : 0 ≤ h) (H : (((I 7 0) < 120) → ((0 ≤ (w32 ((w32 ((I 7 0) * 6)) + 0)) ∧ (w32 ((w32 ((I 7 0) * 6)) + 0)) < (720 : Int)) ∧ ((0 ≤ (w32 ((w32 ((I 7 0) * 6)) + 1)) ∧ (w32 ((w32 ((I 7 0) * 6)) + 1)) < (720 : Int)) ∧ ((0 ≤ (w32 ((w32 ((I 7 0) * 6)) + 2)) ∧ (w32 ((w32 ((I 7 0) * 6)) + 2)) < (720 : Int)) ∧ ((0 ≤ (w32 ((w32 ((I 7 0) * 6)) + 3)) ∧ (w32 ((w32 ((I 7 0) * 6)) + 3)) < (720 : Int)) ∧ ((0 ≤ (w32 ((w32 ((I 7 0) * 6)) + 4)) ∧ (w32 ((w32 ((I 7 0) * 6)) + 4)) < (720 : Int)) ∧ ((0 ≤ (w32 ((w32 ((I 7 0) * 6)) + 5)) ∧ (w32 ((w32 ((I 7 0) * 6)) + 5)) < (720 : Int)) ∧ ((0 ≤ (I 7 0) ∧ (I 7 0) < (120 : Int)) ∧ ((0 ≤ (I 7 0) ∧ (I 7 0) < (120 : Int)) ∧ (Q (some (vi (w32 ((w32 ((I 7 0) + 1)) - 1)))) (u2 (u2 (u2 (u2 (u2 (u2 (u2 (u2 (u2 (u2 I 8 ((w32 ((w32 ((I 7 0) * 6)) + 0)).toNat) a1) 8 ((w32 ((w32 ((I 7 0) * 6)) + 1)).toNat) a2) 8 ((w32 ((w32 ((I 7 0) * 6)) + 2)).toNat) a3) 8 ((w32 ((w32 ((I 7 0) * 6)) + 3)).toNat) a4) 8 ((w32 ((w32 ((I 7 0) * 6)) + 4)).toNat) a5) 8 ((w32 ((w32 ((I 7 0) * 6)) + 5)).toNat) a6) 7 1 (w32 ((I 7 1) + 1))) 9 ((I 7 0).toNat) (w32 ((I 7 1) + 1))) 10 ((I 7 0).toNat) (-1)) 7 0 (w32 ((I 7 0) + 1)), J, PP b))))))))))) ∧ (¬ ((I 7 0) < 120) → (Q (some (vi (-1))) (I, J, PP b)))) : Tri G h 24 119 119 0 [some (vr 7), some (vi a1), some (vi a2), some (vi a3), some (vi a4), some (vi a5), some (vi a6)] [] (I, J, PP b) Q := wp_at ck24 [] 400 H
theorem x24_m {G : Ctx} {h : Nat} {Q : MP} {I : Nat → Nat → Int} {J : Nat → Nat → BitVec 64} {b : B3} {a1 a2 a3 a4 a5 a6 : Int} (hh : 1 ≤ h) (H : ∀ h, 0 ≤ h → Tri G h 24 119 119 0 [some (vr 7), some (vi a1), some (vi a2), some (vi a3), some (vi a4), some (vi a5), some (vi a6)] [] (I, J, PP b) Q) : TriM G h 24 119 119 [vr 7, vi a1, vi a2, vi a3, vi a4, vi a5, vi a6] (I, J, PP b) Q := TriM_intro (h - 1) (by omega) (by decide) (Nat.le_of_ble_eq_true rfl) (Nat.le_refl _) (Nat.le_refl _) (H (h - 1) (by omega))
set_option maxRecDepth 100000 in
theorem x121 {G : Ctx} {h : Nat} {Q : MP} {I : Nat → Nat → Int} {J : Nat → Nat → BitVec 64} {b : B3} {x : Int} (hh : 1 ≤ h) (H : ((0 ≤ x ∧ x < (I 2 0)) → ((0 ≤ x ∧ x < (60 : Int)) ∧ (Q (some (vi (I 3 x.toNat))) (I, J, PP b)))) ∧ (¬ (0 ≤ x ∧ x < (I 2 0)) → (Q (some (vi (-1))) (I, J, PP b)))) : Tri G h 121 119 119 0 [some (vr 2), some (vi x)] [] (I, J, PP b) Q := wp_at ck121 [] 400 (sx172 (by omega)  (fun q71 => And.intro (fun z => absurd z (show ¬ ((1 : Int) = (0 : Int)) by decide)) (fun _ => H.1 q71)) (fun q72 => And.intro (fun _ => H.2 q72) (fun z => absurd (show (0 : Int) = (0 : Int) by decide) z)))
theorem x121_m {G : Ctx} {h : Nat} {Q : MP} {I : Nat → Nat → Int} {J : Nat → Nat → BitVec 64} {b : B3} {x : Int} (hh : 2 ≤ h) (H : ∀ h, 1 ≤ h → Tri G h 121 119 119 0 [some (vr 2), some (vi x)] [] (I, J, PP b) Q) : TriM G h 121 119 119 [vr 2, vi x] (I, J, PP b) Q := TriM_intro (h - 1) (by omega) (by decide) (Nat.le_of_ble_eq_true rfl) (Nat.le_refl _) (Nat.le_refl _) (H (h - 1) (by omega))
set_option maxRecDepth 100000 in
theorem x122 {G : Ctx} {h : Nat} {Q : MP} {I : Nat → Nat → Int} {J : Nat → Nat → BitVec 64} {b : B3} {x : Int} (hh : 1 ≤ h) (H : ((0 ≤ x ∧ x < (I 2 0)) → ((0 ≤ x ∧ x < (60 : Int)) ∧ (Q (some (vi (I 4 x.toNat))) (I, J, PP b)))) ∧ (¬ (0 ≤ x ∧ x < (I 2 0)) → (Q (some (vi (-1))) (I, J, PP b)))) : Tri G h 122 119 119 0 [some (vr 2), some (vi x)] [] (I, J, PP b) Q := wp_at ck122 [] 400 (sx172 (by omega)  (fun q73 => And.intro (fun z => absurd z (show ¬ ((1 : Int) = (0 : Int)) by decide)) (fun _ => H.1 q73)) (fun q74 => And.intro (fun _ => H.2 q74) (fun z => absurd (show (0 : Int) = (0 : Int) by decide) z)))
theorem x122_m {G : Ctx} {h : Nat} {Q : MP} {I : Nat → Nat → Int} {J : Nat → Nat → BitVec 64} {b : B3} {x : Int} (hh : 2 ≤ h) (H : ∀ h, 1 ≤ h → Tri G h 122 119 119 0 [some (vr 2), some (vi x)] [] (I, J, PP b) Q) : TriM G h 122 119 119 [vr 2, vi x] (I, J, PP b) Q := TriM_intro (h - 1) (by omega) (by decide) (Nat.le_of_ble_eq_true rfl) (Nat.le_refl _) (Nat.le_refl _) (H (h - 1) (by omega))
set_option maxRecDepth 100000 in
theorem x123 {G : Ctx} {h : Nat} {Q : MP} {I : Nat → Nat → Int} {J : Nat → Nat → BitVec 64} {b : B3} {x : Int} (hh : 1 ≤ h) (H : ((0 ≤ x ∧ x < (I 2 0)) → ((0 ≤ x ∧ x < (60 : Int)) ∧ (Q (some (vi (I 5 x.toNat))) (I, J, PP b)))) ∧ (¬ (0 ≤ x ∧ x < (I 2 0)) → (Q (some (vi (-1))) (I, J, PP b)))) : Tri G h 123 119 119 0 [some (vr 2), some (vi x)] [] (I, J, PP b) Q := wp_at ck123 [] 400 (sx172 (by omega)  (fun q75 => And.intro (fun z => absurd z (show ¬ ((1 : Int) = (0 : Int)) by decide)) (fun _ => H.1 q75)) (fun q76 => And.intro (fun _ => H.2 q76) (fun z => absurd (show (0 : Int) = (0 : Int) by decide) z)))
theorem x123_m {G : Ctx} {h : Nat} {Q : MP} {I : Nat → Nat → Int} {J : Nat → Nat → BitVec 64} {b : B3} {x : Int} (hh : 2 ≤ h) (H : ∀ h, 1 ≤ h → Tri G h 123 119 119 0 [some (vr 2), some (vi x)] [] (I, J, PP b) Q) : TriM G h 123 119 119 [vr 2, vi x] (I, J, PP b) Q := TriM_intro (h - 1) (by omega) (by decide) (Nat.le_of_ble_eq_true rfl) (Nat.le_refl _) (Nat.le_refl _) (H (h - 1) (by omega))
set_option maxRecDepth 100000 in
theorem x120 {G : Ctx} {h : Nat} {Q : MP} {I : Nat → Nat → Int} {J : Nat → Nat → BitVec 64} {b : B3} {a1 a2 a3 : Int} (hh : 0 ≤ h) (H : (((I 2 0) < 60) → ((0 ≤ (I 2 0) ∧ (I 2 0) < (60 : Int)) ∧ ((0 ≤ (I 2 0) ∧ (I 2 0) < (60 : Int)) ∧ ((0 ≤ (I 2 0) ∧ (I 2 0) < (60 : Int)) ∧ (Q (some (vi (w32 ((w32 ((I 2 0) + 1)) - 1)))) (u2 (u2 (u2 (u2 I 3 ((I 2 0).toNat) a1) 4 ((I 2 0).toNat) a2) 5 ((I 2 0).toNat) a3) 2 0 (w32 ((I 2 0) + 1)), J, PP b)))))) ∧ (¬ ((I 2 0) < 60) → (Q (some (vi (-1))) (I, J, PP b)))) : Tri G h 120 119 119 0 [some (vr 2), some (vi a1), some (vi a2), some (vi a3)] [] (I, J, PP b) Q := wp_at ck120 [] 400 H
theorem x120_m {G : Ctx} {h : Nat} {Q : MP} {I : Nat → Nat → Int} {J : Nat → Nat → BitVec 64} {b : B3} {a1 a2 a3 : Int} (hh : 1 ≤ h) (H : ∀ h, 0 ≤ h → Tri G h 120 119 119 0 [some (vr 2), some (vi a1), some (vi a2), some (vi a3)] [] (I, J, PP b) Q) : TriM G h 120 119 119 [vr 2, vi a1, vi a2, vi a3] (I, J, PP b) Q := TriM_intro (h - 1) (by omega) (by decide) (Nat.le_of_ble_eq_true rfl) (Nat.le_refl _) (Nat.le_refl _) (H (h - 1) (by omega))
set_option maxRecDepth 100000 in
theorem x124 {G : Ctx} {h : Nat} {Q : MP} {I : Nat → Nat → Int} {J : Nat → Nat → BitVec 64} {b : B3} {v x y : Int} (hh : 1 ≤ h) (H : ((0 ≤ x ∧ x < (12 : Int)) → (((0 ≤ y ∧ y < (12 : Int)) → ((0 ≤ (w32 ((w32 (x * 12)) + y)) ∧ (w32 ((w32 (x * 12)) + y)) < (144 : Int)) ∧ ((0 ≤ (w32 ((w32 (y * 12)) + x)) ∧ (w32 ((w32 (y * 12)) + x)) < (144 : Int)) ∧ (Q none (u2 (u2 I 6 ((w32 ((w32 (x * 12)) + y)).toNat) v) 6 ((w32 ((w32 (y * 12)) + x)).toNat) v, J, PP b))))) ∧ (¬ (0 ≤ y ∧ y < (12 : Int)) → (Q none (I, J, PP b))))) ∧ (¬ (0 ≤ x ∧ x < (12 : Int)) → (Q none (I, J, PP b)))) : Tri G h 124 119 119 0 [some (vr 2), some (vi x), some (vi y), some (vi v)] [] (I, J, PP b) Q := wp_at ck124 [] 400 (sx172 (by omega)  (fun q77 => And.intro (fun z => absurd z (show ¬ ((1 : Int) = (0 : Int)) by decide)) (fun _ => sx172 (by omega)  (fun q79 => And.intro (fun z => absurd z (show ¬ ((1 : Int) = (0 : Int)) by decide)) (fun _ => (H.1 q77).1 q79)) (fun q80 => And.intro (fun _ => (H.1 q77).2 q80) (fun z => absurd (show (0 : Int) = (0 : Int) by decide) z)))) (fun q78 => And.intro (fun _ => H.2 q78) (fun z => absurd (show (0 : Int) = (0 : Int) by decide) z)))
theorem x124_m {G : Ctx} {h : Nat} {Q : MP} {I : Nat → Nat → Int} {J : Nat → Nat → BitVec 64} {b : B3} {x y v : Int} (hh : 2 ≤ h) (H : ∀ h, 1 ≤ h → Tri G h 124 119 119 0 [some (vr 2), some (vi x), some (vi y), some (vi v)] [] (I, J, PP b) Q) : TriM G h 124 119 119 [vr 2, vi x, vi y, vi v] (I, J, PP b) Q := TriM_intro (h - 1) (by omega) (by decide) (Nat.le_of_ble_eq_true rfl) (Nat.le_refl _) (Nat.le_refl _) (H (h - 1) (by omega))
set_option maxRecDepth 100000 in
theorem x125 {G : Ctx} {h : Nat} {Q : MP} {I : Nat → Nat → Int} {J : Nat → Nat → BitVec 64} {b : B3} {x y : Int} (hh : 1 ≤ h) (H : ((0 ≤ x ∧ x < (I 2 0)) → (((0 ≤ y ∧ y < (I 2 0)) → ((0 ≤ x ∧ x < (60 : Int)) ∧ ((0 ≤ y ∧ y < (60 : Int)) ∧ (((¬ (I 3 x.toNat) = (I 3 y.toNat)) → ((0 ≤ x ∧ x < (60 : Int)) ∧ ((0 ≤ y ∧ y < (60 : Int)) ∧ ((0 ≤ x ∧ x < (60 : Int)) ∧ ((0 ≤ y ∧ y < (60 : Int)) ∧ ((0 ≤ (w32 ((w32 ((I 3 x.toNat) * 12)) + (I 3 y.toNat))) ∧ (w32 ((w32 ((I 3 x.toNat) * 12)) + (I 3 y.toNat))) < (144 : Int)) ∧ (Q (some (vi (w32 ((w32 ((I 4 x.toNat) + (I 4 y.toNat))) + (I 6 ((w32 ((w32 ((I 3 x.toNat) * 12)) + (I 3 y.toNat))).toNat)))))) (I, J, PP b)))))))) ∧ (¬ (¬ (I 3 x.toNat) = (I 3 y.toNat)) → ((0 ≤ x ∧ x < (60 : Int)) ∧ ((0 ≤ y ∧ y < (60 : Int)) ∧ (Q (some (vi (if (w32 ((I 4 x.toNat) - (I 4 y.toNat))) < 0 then w32 (-(w32 ((I 4 x.toNat) - (I 4 y.toNat)))) else (w32 ((I 4 x.toNat) - (I 4 y.toNat)))))) (I, J, PP b))))))))) ∧ (¬ (0 ≤ y ∧ y < (I 2 0)) → (Q (some (vi (-1))) (I, J, PP b))))) ∧ (¬ (0 ≤ x ∧ x < (I 2 0)) → (Q (some (vi (-1))) (I, J, PP b)))) : Tri G h 125 119 119 0 [some (vr 2), some (vi x), some (vi y)] [] (I, J, PP b) Q := wp_at ck125 [] 400 (sx172 (by omega)  (fun q81 => And.intro (fun z => absurd z (show ¬ ((1 : Int) = (0 : Int)) by decide)) (fun _ => sx172 (by omega)  (fun q83 => And.intro (fun _ => And.intro ((H.1 q81).1 q83).1 (And.intro (((H.1 q81).1 q83).2).1 (And.intro (fun q85 => ((((H.1 q81).1 q83).2).2).1 q85) (fun q86 => And.intro (((((H.1 q81).1 q83).2).2).2 q86).1 (And.intro ((((((H.1 q81).1 q83).2).2).2 q86).2).1 (sx2 (by omega)  (((((((H.1 q81).1 q83).2).2).2 q86).2).2))))))) (fun z => absurd (show ¬ (1 : Int) = (0 : Int) by decide) z)) (fun q84 => And.intro (fun z => absurd z (show ¬ (¬ (0 : Int) = (0 : Int)) by decide)) (fun _ => (H.1 q81).2 q84)))) (fun q82 => And.intro (fun _ => H.2 q82) (fun z => absurd (show (0 : Int) = (0 : Int) by decide) z)))
theorem x125_m {G : Ctx} {h : Nat} {Q : MP} {I : Nat → Nat → Int} {J : Nat → Nat → BitVec 64} {b : B3} {x y : Int} (hh : 2 ≤ h) (H : ∀ h, 1 ≤ h → Tri G h 125 119 119 0 [some (vr 2), some (vi x), some (vi y)] [] (I, J, PP b) Q) : TriM G h 125 119 119 [vr 2, vi x, vi y] (I, J, PP b) Q := TriM_intro (h - 1) (by omega) (by decide) (Nat.le_of_ble_eq_true rfl) (Nat.le_refl _) (Nat.le_refl _) (H (h - 1) (by omega))
set_option maxRecDepth 100000 in
theorem x126 {G : Ctx} {h : Nat} {Q : MP} {I : Nat → Nat → Int} {J : Nat → Nat → BitVec 64} {b : B3} {x y : Int} (hh : 2 ≤ h) (H : ((0 ≤ x ∧ x < (I 2 0)) → (((0 ≤ y ∧ y < (I 2 0)) → ((0 ≤ x ∧ x < (60 : Int)) ∧ ((0 ≤ y ∧ y < (60 : Int)) ∧ (((¬ (I 3 x.toNat) = (I 3 y.toNat)) → ((0 ≤ x ∧ x < (60 : Int)) ∧ ((0 ≤ y ∧ y < (60 : Int)) ∧ ((0 ≤ x ∧ x < (60 : Int)) ∧ ((0 ≤ y ∧ y < (60 : Int)) ∧ ((0 ≤ (w32 ((w32 ((I 3 x.toNat) * 12)) + (I 3 y.toNat))) ∧ (w32 ((w32 ((I 3 x.toNat) * 12)) + (I 3 y.toNat))) < (144 : Int)) ∧ (Q (some (vi (w32 ((iDiv (w32 ((w32 ((w32 ((I 4 x.toNat) + (I 4 y.toNat))) + (I 6 ((w32 ((w32 ((I 3 x.toNat) * 12)) + (I 3 y.toNat))).toNat)))) * (I 2 1))) 100) + (I 2 2))))) (I, J, PP b)))))))) ∧ (¬ (¬ (I 3 x.toNat) = (I 3 y.toNat)) → ((0 ≤ x ∧ x < (60 : Int)) ∧ ((0 ≤ y ∧ y < (60 : Int)) ∧ (Q (some (vi (w32 ((iDiv (w32 ((if (w32 ((I 4 x.toNat) - (I 4 y.toNat))) < 0 then w32 (-(w32 ((I 4 x.toNat) - (I 4 y.toNat)))) else (w32 ((I 4 x.toNat) - (I 4 y.toNat)))) * (I 2 1))) 100) + (I 2 2))))) (I, J, PP b))))))))) ∧ (¬ (0 ≤ y ∧ y < (I 2 0)) → (Q (some (vi (w32 ((iDiv (w32 ((-1) * (I 2 1))) 100) + (I 2 2))))) (I, J, PP b))))) ∧ (¬ (0 ≤ x ∧ x < (I 2 0)) → (Q (some (vi (w32 ((iDiv (w32 ((-1) * (I 2 1))) 100) + (I 2 2))))) (I, J, PP b)))) : Tri G h 126 119 119 0 [some (vr 2), some (vi x), some (vi y)] [] (I, J, PP b) Q := wp_at ck126 [] 400 (x125_m (by omega) (fun h hh => x125 hh (And.intro (fun q87 => And.intro (fun q89 => And.intro ((H.1 q87).1 q89).1 (And.intro (((H.1 q87).1 q89).2).1 (And.intro (fun q91 => And.intro (((((H.1 q87).1 q89).2).2).1 q91).1 (And.intro ((((((H.1 q87).1 q89).2).2).1 q91).2).1 (And.intro (((((((H.1 q87).1 q89).2).2).1 q91).2).2).1 (And.intro ((((((((H.1 q87).1 q89).2).2).1 q91).2).2).2).1 (And.intro (((((((((H.1 q87).1 q89).2).2).1 q91).2).2).2).2).1 (cI_r (And.intro (show (100 : Int) ≠ 0 by decide) ((((((((((H.1 q87).1 q89).2).2).1 q91).2).2).2).2).2)))))))) (fun q92 => And.intro (((((H.1 q87).1 q89).2).2).2 q92).1 (And.intro ((((((H.1 q87).1 q89).2).2).2 q92).2).1 (cI_r (And.intro (show (100 : Int) ≠ 0 by decide) (((((((H.1 q87).1 q89).2).2).2 q92).2).2)))))))) (fun q90 => cI_r (And.intro (show (100 : Int) ≠ 0 by decide) ((H.1 q87).2 q90)))) (fun q88 => cI_r (And.intro (show (100 : Int) ≠ 0 by decide) (H.2 q88))))))
theorem x126_m {G : Ctx} {h : Nat} {Q : MP} {I : Nat → Nat → Int} {J : Nat → Nat → BitVec 64} {b : B3} {x y : Int} (hh : 3 ≤ h) (H : ∀ h, 2 ≤ h → Tri G h 126 119 119 0 [some (vr 2), some (vi x), some (vi y)] [] (I, J, PP b) Q) : TriM G h 126 119 119 [vr 2, vi x, vi y] (I, J, PP b) Q := TriM_intro (h - 1) (by omega) (by decide) (Nat.le_of_ble_eq_true rfl) (Nat.le_refl _) (Nat.le_refl _) (H (h - 1) (by omega))
set_option maxRecDepth 100000 in
theorem x49 {G : Ctx} {h : Nat} {Q : MP} {I : Nat → Nat → Int} {J : Nat → Nat → BitVec 64} {b : B3} {i v : Int} (hh : 1 ≤ h) (H : ((0 ≤ i ∧ i < (6 : Int)) → (((0 ≤ v ∧ v < (10 : Int)) → ((0 ≤ i ∧ i < (6 : Int)) ∧ (Q (some (vi 1)) (u2 I 27 i.toNat v, J, PP b)))) ∧ (¬ (0 ≤ v ∧ v < (10 : Int)) → (Q (some (vi 0)) (I, J, PP b))))) ∧ (¬ (0 ≤ i ∧ i < (6 : Int)) → (Q (some (vi 0)) (I, J, PP b)))) : Tri G h 49 119 119 0 [some (vr 25), some (vi i), some (vi v)] [] (I, J, PP b) Q := wp_at ck49 [] 400 (sx172 (by omega)  (fun q93 => And.intro (fun z => absurd z (show ¬ ((1 : Int) = (0 : Int)) by decide)) (fun _ => sx172 (by omega)  (fun q95 => And.intro (fun _ => And.intro ((H.1 q93).1 q95).1 (And.intro (show (1 : Int) = 0 ∨ (1 : Int) = 1 by decide) (((H.1 q93).1 q95).2))) (fun z => absurd (show ¬ (1 : Int) = (0 : Int) by decide) z)) (fun q96 => And.intro (fun z => absurd z (show ¬ (¬ (0 : Int) = (0 : Int)) by decide)) (fun _ => And.intro (show (0 : Int) = 0 ∨ (0 : Int) = 1 by decide) ((H.1 q93).2 q96))))) (fun q94 => And.intro (fun _ => And.intro (show (0 : Int) = 0 ∨ (0 : Int) = 1 by decide) (H.2 q94)) (fun z => absurd (show (0 : Int) = (0 : Int) by decide) z)))
theorem x49_m {G : Ctx} {h : Nat} {Q : MP} {I : Nat → Nat → Int} {J : Nat → Nat → BitVec 64} {b : B3} {i v : Int} (hh : 2 ≤ h) (H : ∀ h, 1 ≤ h → Tri G h 49 119 119 0 [some (vr 25), some (vi i), some (vi v)] [] (I, J, PP b) Q) : TriM G h 49 119 119 [vr 25, vi i, vi v] (I, J, PP b) Q := TriM_intro (h - 1) (by omega) (by decide) (Nat.le_of_ble_eq_true rfl) (Nat.le_refl _) (Nat.le_refl _) (H (h - 1) (by omega))
set_option maxRecDepth 100000 in
theorem x50 {G : Ctx} {h : Nat} {Q : MP} {I : Nat → Nat → Int} {J : Nat → Nat → BitVec 64} {b : B3} {v : Int} (hh : 0 ≤ h) (H : ((v < 1) → (Q (some (vi 0)) (I, J, PP b))) ∧ (¬ (v < 1) → (((v ≤ 4) → (Q (some (vi 1)) (u2 I 25 0 v, J, PP b))) ∧ (¬ (v ≤ 4) → (Q (some (vi 0)) (I, J, PP b)))))) : Tri G h 50 119 119 0 [some (vr 25), some (vi v)] [] (I, J, PP b) Q := wp_at ck50 [] 400 (And.intro (fun q97 => And.intro (show (0 : Int) = 0 ∨ (0 : Int) = 1 by decide) (H.1 q97)) (fun q98 => And.intro (fun q99 => And.intro (show (1 : Int) = 0 ∨ (1 : Int) = 1 by decide) ((H.2 q98).1 q99)) (fun q100 => And.intro (show (0 : Int) = 0 ∨ (0 : Int) = 1 by decide) ((H.2 q98).2 q100))))
theorem x50_m {G : Ctx} {h : Nat} {Q : MP} {I : Nat → Nat → Int} {J : Nat → Nat → BitVec 64} {b : B3} {v : Int} (hh : 1 ≤ h) (H : ∀ h, 0 ≤ h → Tri G h 50 119 119 0 [some (vr 25), some (vi v)] [] (I, J, PP b) Q) : TriM G h 50 119 119 [vr 25, vi v] (I, J, PP b) Q := TriM_intro (h - 1) (by omega) (by decide) (Nat.le_of_ble_eq_true rfl) (Nat.le_refl _) (Nat.le_refl _) (H (h - 1) (by omega))
set_option maxRecDepth 100000 in
theorem x51 {G : Ctx} {h : Nat} {Q : MP} {I : Nat → Nat → Int} {J : Nat → Nat → BitVec 64} {b : B3} {v : Int} (hh : 0 ≤ h) (H : ((v < 1) → (Q (some (vi 0)) (I, J, PP b))) ∧ (¬ (v < 1) → (((v ≤ 6) → (Q (some (vi 1)) (u2 I 25 1 v, J, PP b))) ∧ (¬ (v ≤ 6) → (Q (some (vi 0)) (I, J, PP b)))))) : Tri G h 51 119 119 0 [some (vr 25), some (vi v)] [] (I, J, PP b) Q := wp_at ck51 [] 400 (And.intro (fun q101 => And.intro (show (0 : Int) = 0 ∨ (0 : Int) = 1 by decide) (H.1 q101)) (fun q102 => And.intro (fun q103 => And.intro (show (1 : Int) = 0 ∨ (1 : Int) = 1 by decide) ((H.2 q102).1 q103)) (fun q104 => And.intro (show (0 : Int) = 0 ∨ (0 : Int) = 1 by decide) ((H.2 q102).2 q104))))
theorem x51_m {G : Ctx} {h : Nat} {Q : MP} {I : Nat → Nat → Int} {J : Nat → Nat → BitVec 64} {b : B3} {v : Int} (hh : 1 ≤ h) (H : ∀ h, 0 ≤ h → Tri G h 51 119 119 0 [some (vr 25), some (vi v)] [] (I, J, PP b) Q) : TriM G h 51 119 119 [vr 25, vi v] (I, J, PP b) Q := TriM_intro (h - 1) (by omega) (by decide) (Nat.le_of_ble_eq_true rfl) (Nat.le_refl _) (Nat.le_refl _) (H (h - 1) (by omega))
set_option maxRecDepth 100000 in
theorem x52 {G : Ctx} {h : Nat} {Q : MP} {I : Nat → Nat → Int} {J : Nat → Nat → BitVec 64} {b : B3} {d i v : Int} (hh : 1 ≤ h) (H : ((0 ≤ i ∧ i < (5 : Int)) → (((0 ≤ d ∧ d < (4 : Int)) → ((0 ≤ (w32 ((w32 (i * 4)) + d)) ∧ (w32 ((w32 (i * 4)) + d)) < (20 : Int)) ∧ ((v = 0 ∨ v = 1) ∧ (Q none (u2 I 28 ((w32 ((w32 (i * 4)) + d)).toNat) v, J, PP b))))) ∧ (¬ (0 ≤ d ∧ d < (4 : Int)) → (Q none (I, J, PP b))))) ∧ (¬ (0 ≤ i ∧ i < (5 : Int)) → (Q none (I, J, PP b)))) : Tri G h 52 119 119 0 [some (vr 25), some (vi i), some (vi d), some (vi v)] [] (I, J, PP b) Q := wp_at ck52 [] 400 (sx172 (by omega)  (fun q105 => And.intro (fun z => absurd z (show ¬ ((1 : Int) = (0 : Int)) by decide)) (fun _ => sx172 (by omega)  (fun q107 => And.intro (fun z => absurd z (show ¬ ((1 : Int) = (0 : Int)) by decide)) (fun _ => (H.1 q105).1 q107)) (fun q108 => And.intro (fun _ => (H.1 q105).2 q108) (fun z => absurd (show (0 : Int) = (0 : Int) by decide) z)))) (fun q106 => And.intro (fun _ => H.2 q106) (fun z => absurd (show (0 : Int) = (0 : Int) by decide) z)))
theorem x52_m {G : Ctx} {h : Nat} {Q : MP} {I : Nat → Nat → Int} {J : Nat → Nat → BitVec 64} {b : B3} {i d v : Int} (hh : 2 ≤ h) (H : ∀ h, 1 ≤ h → Tri G h 52 119 119 0 [some (vr 25), some (vi i), some (vi d), some (vi v)] [] (I, J, PP b) Q) : TriM G h 52 119 119 [vr 25, vi i, vi d, vi v] (I, J, PP b) Q := TriM_intro (h - 1) (by omega) (by decide) (Nat.le_of_ble_eq_true rfl) (Nat.le_refl _) (Nat.le_refl _) (H (h - 1) (by omega))
set_option maxRecDepth 100000 in
theorem x53 {G : Ctx} {h : Nat} {Q : MP} {I : Nat → Nat → Int} {J : Nat → Nat → BitVec 64} {b : B3} {d i : Int} (hh : 1 ≤ h) (H : ((0 ≤ i ∧ i < (5 : Int)) → (((0 ≤ d ∧ d < (4 : Int)) → ((0 ≤ (w32 ((w32 (i * 4)) + d)) ∧ (w32 ((w32 (i * 4)) + d)) < (20 : Int)) ∧ (((¬ (I 28 ((w32 ((w32 (i * 4)) + d)).toNat)) = 0) → (Q (some (vi 0)) (I, J, PP b))) ∧ (¬ (¬ (I 28 ((w32 ((w32 (i * 4)) + d)).toNat)) = 0) → (Q (some (vi 1)) (I, J, PP b)))))) ∧ (¬ (0 ≤ d ∧ d < (4 : Int)) → (Q (some (vi 0)) (I, J, PP b))))) ∧ (¬ (0 ≤ i ∧ i < (5 : Int)) → (Q (some (vi 0)) (I, J, PP b)))) : Tri G h 53 119 119 0 [some (vr 25), some (vi i), some (vi d)] [] (I, J, PP b) Q := wp_at ck53 [] 400 (sx172 (by omega)  (fun q109 => And.intro (fun z => absurd z (show ¬ ((1 : Int) = (0 : Int)) by decide)) (fun _ => sx172 (by omega)  (fun q111 => And.intro (fun z => absurd z (show ¬ ((1 : Int) = (0 : Int)) by decide)) (fun _ => And.intro ((H.1 q109).1 q111).1 (And.intro (fun q113 => And.intro (show (0 : Int) = 0 ∨ (0 : Int) = 1 by decide) ((((H.1 q109).1 q111).2).1 q113)) (fun q114 => And.intro (show (1 : Int) = 0 ∨ (1 : Int) = 1 by decide) ((((H.1 q109).1 q111).2).2 q114))))) (fun q112 => And.intro (fun _ => And.intro (show (0 : Int) = 0 ∨ (0 : Int) = 1 by decide) ((H.1 q109).2 q112)) (fun z => absurd (show (0 : Int) = (0 : Int) by decide) z)))) (fun q110 => And.intro (fun _ => And.intro (show (0 : Int) = 0 ∨ (0 : Int) = 1 by decide) (H.2 q110)) (fun z => absurd (show (0 : Int) = (0 : Int) by decide) z)))
theorem x53_m {G : Ctx} {h : Nat} {Q : MP} {I : Nat → Nat → Int} {J : Nat → Nat → BitVec 64} {b : B3} {i d : Int} (hh : 2 ≤ h) (H : ∀ h, 1 ≤ h → Tri G h 53 119 119 0 [some (vr 25), some (vi i), some (vi d)] [] (I, J, PP b) Q) : TriM G h 53 119 119 [vr 25, vi i, vi d] (I, J, PP b) Q := TriM_intro (h - 1) (by omega) (by decide) (Nat.le_of_ble_eq_true rfl) (Nat.le_refl _) (Nat.le_refl _) (H (h - 1) (by omega))
set_option maxRecDepth 100000 in
theorem x54 {G : Ctx} {h : Nat} {Q : MP} {I : Nat → Nat → Int} {J : Nat → Nat → BitVec 64} {b : B3} {d i v : Int} (hh : 1 ≤ h) (H : ((0 ≤ i ∧ i < (6 : Int)) → (((0 ≤ d ∧ d < (4 : Int)) → ((0 ≤ (w32 ((w32 (i * 4)) + d)) ∧ (w32 ((w32 (i * 4)) + d)) < (24 : Int)) ∧ (Q none (u2 I 29 ((w32 ((w32 (i * 4)) + d)).toNat) v, J, PP b)))) ∧ (¬ (0 ≤ d ∧ d < (4 : Int)) → (Q none (I, J, PP b))))) ∧ (¬ (0 ≤ i ∧ i < (6 : Int)) → (Q none (I, J, PP b)))) : Tri G h 54 119 119 0 [some (vr 25), some (vi i), some (vi d), some (vi v)] [] (I, J, PP b) Q := wp_at ck54 [] 400 (sx172 (by omega)  (fun q115 => And.intro (fun z => absurd z (show ¬ ((1 : Int) = (0 : Int)) by decide)) (fun _ => sx172 (by omega)  (fun q117 => And.intro (fun z => absurd z (show ¬ ((1 : Int) = (0 : Int)) by decide)) (fun _ => (H.1 q115).1 q117)) (fun q118 => And.intro (fun _ => (H.1 q115).2 q118) (fun z => absurd (show (0 : Int) = (0 : Int) by decide) z)))) (fun q116 => And.intro (fun _ => H.2 q116) (fun z => absurd (show (0 : Int) = (0 : Int) by decide) z)))
theorem x54_m {G : Ctx} {h : Nat} {Q : MP} {I : Nat → Nat → Int} {J : Nat → Nat → BitVec 64} {b : B3} {i d v : Int} (hh : 2 ≤ h) (H : ∀ h, 1 ≤ h → Tri G h 54 119 119 0 [some (vr 25), some (vi i), some (vi d), some (vi v)] [] (I, J, PP b) Q) : TriM G h 54 119 119 [vr 25, vi i, vi d, vi v] (I, J, PP b) Q := TriM_intro (h - 1) (by omega) (by decide) (Nat.le_of_ble_eq_true rfl) (Nat.le_refl _) (Nat.le_refl _) (H (h - 1) (by omega))
set_option maxRecDepth 100000 in
theorem x99 {G : Ctx} {h : Nat} {Q : MP} {I : Nat → Nat → Int} {J : Nat → Nat → BitVec 64} {b : B3} {i m x : Int} (hh : 1 ≤ h) (H : ((0 ≤ i ∧ i < (24 : Int)) → ((0 ≤ i ∧ i < (24 : Int)) ∧ ((0 ≤ i ∧ i < (24 : Int)) ∧ (Q (some (vi (w32 (i + 1)))) (u2 (u2 (u2 I 23 i.toNat x) 24 i.toNat m) 22 0 (w32 (i + 1)), J, PP b))))) ∧ (¬ (0 ≤ i ∧ i < (24 : Int)) → (Q (some (vi (I 22 0))) (I, J, PP b)))) : Tri G h 99 119 119 0 [some (vr 22), some (vi i), some (vi x), some (vi m)] [] (I, J, PP b) Q := wp_at ck99 [] 400 (sx172 (by omega)  (fun q119 => And.intro (fun z => absurd z (show ¬ ((1 : Int) = (0 : Int)) by decide)) (fun _ => H.1 q119)) (fun q120 => And.intro (fun _ => H.2 q120) (fun z => absurd (show (0 : Int) = (0 : Int) by decide) z)))
theorem x99_m {G : Ctx} {h : Nat} {Q : MP} {I : Nat → Nat → Int} {J : Nat → Nat → BitVec 64} {b : B3} {i x m : Int} (hh : 2 ≤ h) (H : ∀ h, 1 ≤ h → Tri G h 99 119 119 0 [some (vr 22), some (vi i), some (vi x), some (vi m)] [] (I, J, PP b) Q) : TriM G h 99 119 119 [vr 22, vi i, vi x, vi m] (I, J, PP b) Q := TriM_intro (h - 1) (by omega) (by decide) (Nat.le_of_ble_eq_true rfl) (Nat.le_refl _) (Nat.le_refl _) (H (h - 1) (by omega))
set_option maxRecDepth 100000 in
theorem x57 {G : Ctx} {h : Nat} {Q : MP} {I : Nat → Nat → Int} {J : Nat → Nat → BitVec 64} {b : B3} (hh : 1 ≤ h) (H : Q none (I, u1 (u1 J 70 (fun j => if j < 224 then (0#64) else J 70 j)) 71 (fun j => if j < 224 then (0#64) else J 71 j), PP b)) : Tri G h 57 119 119 0 [some (vr 67)] [] (I, J, PP b) Q := wp_at ck57 [] 400 (sx1_r70 (by omega)  (sx1_r71 (by omega)  H))
theorem x57_m {G : Ctx} {h : Nat} {Q : MP} {I : Nat → Nat → Int} {J : Nat → Nat → BitVec 64} {b : B3} (hh : 2 ≤ h) (H : ∀ h, 1 ≤ h → Tri G h 57 119 119 0 [some (vr 67)] [] (I, J, PP b) Q) : TriM G h 57 119 119 [vr 67] (I, J, PP b) Q := TriM_intro (h - 1) (by omega) (by decide) (Nat.le_of_ble_eq_true rfl) (Nat.le_refl _) (Nat.le_refl _) (H (h - 1) (by omega))
set_option maxRecDepth 100000 in
theorem x80 {G : Ctx} {h : Nat} {Q : MP} {I : Nat → Nat → Int} {J : Nat → Nat → BitVec 64} {b : B3} (hh : 0 ≤ h) (H : Q none (u2 I 72 3 1, J, PP b)) : Tri G h 80 119 119 0 [some (vr 72)] [] (I, J, PP b) Q := wp_at ck80 [] 400 (And.intro (show (1 : Int) = 0 ∨ (1 : Int) = 1 by decide) H)
theorem x80_m {G : Ctx} {h : Nat} {Q : MP} {I : Nat → Nat → Int} {J : Nat → Nat → BitVec 64} {b : B3} (hh : 1 ≤ h) (H : ∀ h, 0 ≤ h → Tri G h 80 119 119 0 [some (vr 72)] [] (I, J, PP b) Q) : TriM G h 80 119 119 [vr 72] (I, J, PP b) Q := TriM_intro (h - 1) (by omega) (by decide) (Nat.le_of_ble_eq_true rfl) (Nat.le_refl _) (Nat.le_refl _) (H (h - 1) (by omega))
set_option maxRecDepth 100000 in
theorem x84 {G : Ctx} {h : Nat} {Q : MP} {I : Nat → Nat → Int} {J : Nat → Nat → BitVec 64} {b : B3} {p : Int} (hh : 1 ≤ h) (H : ((0 ≤ p ∧ p < (120 : Int)) → ((0 ≤ p ∧ p < (120 : Int)) ∧ (Q (some (vi (I 73 p.toNat))) (I, J, PP b)))) ∧ (¬ (0 ≤ p ∧ p < (120 : Int)) → (Q (some (vi (-1))) (I, J, PP b)))) : Tri G h 84 119 119 0 [some (vr 72), some (vi p)] [] (I, J, PP b) Q := wp_at ck84 [] 400 (sx172 (by omega)  (fun q121 => And.intro (fun z => absurd z (show ¬ ((1 : Int) = (0 : Int)) by decide)) (fun _ => H.1 q121)) (fun q122 => And.intro (fun _ => H.2 q122) (fun z => absurd (show (0 : Int) = (0 : Int) by decide) z)))
theorem x84_m {G : Ctx} {h : Nat} {Q : MP} {I : Nat → Nat → Int} {J : Nat → Nat → BitVec 64} {b : B3} {p : Int} (hh : 2 ≤ h) (H : ∀ h, 1 ≤ h → Tri G h 84 119 119 0 [some (vr 72), some (vi p)] [] (I, J, PP b) Q) : TriM G h 84 119 119 [vr 72, vi p] (I, J, PP b) Q := TriM_intro (h - 1) (by omega) (by decide) (Nat.le_of_ble_eq_true rfl) (Nat.le_refl _) (Nat.le_refl _) (H (h - 1) (by omega))
set_option maxRecDepth 100000 in
theorem x85 {G : Ctx} {h : Nat} {Q : MP} {I : Nat → Nat → Int} {J : Nat → Nat → BitVec 64} {b : B3} {p : Int} (hh : 1 ≤ h) (H : ((0 ≤ p ∧ p < (I 72 0)) → ((0 ≤ p ∧ p < (120 : Int)) ∧ (Q (some (vi (I 74 p.toNat))) (I, J, PP b)))) ∧ (¬ (0 ≤ p ∧ p < (I 72 0)) → (Q (some (vi (-1))) (I, J, PP b)))) : Tri G h 85 119 119 0 [some (vr 72), some (vi p)] [] (I, J, PP b) Q := wp_at ck85 [] 400 (sx172 (by omega)  (fun q123 => And.intro (fun z => absurd z (show ¬ ((1 : Int) = (0 : Int)) by decide)) (fun _ => H.1 q123)) (fun q124 => And.intro (fun _ => H.2 q124) (fun z => absurd (show (0 : Int) = (0 : Int) by decide) z)))
theorem x85_m {G : Ctx} {h : Nat} {Q : MP} {I : Nat → Nat → Int} {J : Nat → Nat → BitVec 64} {b : B3} {p : Int} (hh : 2 ≤ h) (H : ∀ h, 1 ≤ h → Tri G h 85 119 119 0 [some (vr 72), some (vi p)] [] (I, J, PP b) Q) : TriM G h 85 119 119 [vr 72, vi p] (I, J, PP b) Q := TriM_intro (h - 1) (by omega) (by decide) (Nat.le_of_ble_eq_true rfl) (Nat.le_refl _) (Nat.le_refl _) (H (h - 1) (by omega))
set_option maxRecDepth 100000 in
theorem x86 {G : Ctx} {h : Nat} {Q : MP} {I : Nat → Nat → Int} {J : Nat → Nat → BitVec 64} {b : B3} {p : Int} (hh : 1 ≤ h) (H : ((0 ≤ p ∧ p < (I 72 0)) → ((0 ≤ p ∧ p < (120 : Int)) ∧ (Q (some (vi (I 75 p.toNat))) (I, J, PP b)))) ∧ (¬ (0 ≤ p ∧ p < (I 72 0)) → (Q (some (vi (-1))) (I, J, PP b)))) : Tri G h 86 119 119 0 [some (vr 72), some (vi p)] [] (I, J, PP b) Q := wp_at ck86 [] 400 (sx172 (by omega)  (fun q125 => And.intro (fun z => absurd z (show ¬ ((1 : Int) = (0 : Int)) by decide)) (fun _ => H.1 q125)) (fun q126 => And.intro (fun _ => H.2 q126) (fun z => absurd (show (0 : Int) = (0 : Int) by decide) z)))
theorem x86_m {G : Ctx} {h : Nat} {Q : MP} {I : Nat → Nat → Int} {J : Nat → Nat → BitVec 64} {b : B3} {p : Int} (hh : 2 ≤ h) (H : ∀ h, 1 ≤ h → Tri G h 86 119 119 0 [some (vr 72), some (vi p)] [] (I, J, PP b) Q) : TriM G h 86 119 119 [vr 72, vi p] (I, J, PP b) Q := TriM_intro (h - 1) (by omega) (by decide) (Nat.le_of_ble_eq_true rfl) (Nat.le_refl _) (Nat.le_refl _) (H (h - 1) (by omega))
set_option maxRecDepth 100000 in
theorem x87 {G : Ctx} {h : Nat} {Q : MP} {I : Nat → Nat → Int} {J : Nat → Nat → BitVec 64} {b : B3} {p : Int} (hh : 1 ≤ h) (H : ((0 ≤ p ∧ p < (I 72 0)) → ((0 ≤ p ∧ p < (120 : Int)) ∧ (Q (some (vi (w32 ((I 76 p.toNat) - 1)))) (I, J, PP b)))) ∧ (¬ (0 ≤ p ∧ p < (I 72 0)) → (Q (some (vi (-1))) (I, J, PP b)))) : Tri G h 87 119 119 0 [some (vr 72), some (vi p)] [] (I, J, PP b) Q := wp_at ck87 [] 400 (sx172 (by omega)  (fun q127 => And.intro (fun z => absurd z (show ¬ ((1 : Int) = (0 : Int)) by decide)) (fun _ => H.1 q127)) (fun q128 => And.intro (fun _ => H.2 q128) (fun z => absurd (show (0 : Int) = (0 : Int) by decide) z)))
theorem x87_m {G : Ctx} {h : Nat} {Q : MP} {I : Nat → Nat → Int} {J : Nat → Nat → BitVec 64} {b : B3} {p : Int} (hh : 2 ≤ h) (H : ∀ h, 1 ≤ h → Tri G h 87 119 119 0 [some (vr 72), some (vi p)] [] (I, J, PP b) Q) : TriM G h 87 119 119 [vr 72, vi p] (I, J, PP b) Q := TriM_intro (h - 1) (by omega) (by decide) (Nat.le_of_ble_eq_true rfl) (Nat.le_refl _) (Nat.le_refl _) (H (h - 1) (by omega))
set_option maxRecDepth 100000 in
theorem x74 {G : Ctx} {h : Nat} {Q : MP} {I : Nat → Nat → Int} {J : Nat → Nat → BitVec 64} {b : B3} (hh : 0 ≤ h) (H : (((I 62 9) < 0) → (Q (some (vi 21)) (I, J, PP b))) ∧ (¬ ((I 62 9) < 0) → (((401 ≤ (I 62 9)) → (Q (some (vi 21)) (I, J, PP b))) ∧ (¬ (401 ≤ (I 62 9)) → ((0 ≤ (I 62 9) ∧ (I 62 9) < (401 : Int)) ∧ (Q (some (vi (I 64 ((I 62 9).toNat)))) (I, J, PP b))))))) : Tri G h 74 119 119 0 [some (vr 62)] [] (I, J, PP b) Q := wp_at ck74 [] 400 H
theorem x74_m {G : Ctx} {h : Nat} {Q : MP} {I : Nat → Nat → Int} {J : Nat → Nat → BitVec 64} {b : B3} (hh : 1 ≤ h) (H : ∀ h, 0 ≤ h → Tri G h 74 119 119 0 [some (vr 62)] [] (I, J, PP b) Q) : TriM G h 74 119 119 [vr 62] (I, J, PP b) Q := TriM_intro (h - 1) (by omega) (by decide) (Nat.le_of_ble_eq_true rfl) (Nat.le_refl _) (Nat.le_refl _) (H (h - 1) (by omega))
set_option maxRecDepth 100000 in
theorem x75 {G : Ctx} {h : Nat} {Q : MP} {I : Nat → Nat → Int} {J : Nat → Nat → BitVec 64} {b : B3} (hh : 0 ≤ h) (H : (((I 62 9) < 0) → (Q (some (vi 0)) (I, J, PP b))) ∧ (¬ ((I 62 9) < 0) → (((401 ≤ (I 62 9)) → (Q (some (vi 0)) (I, J, PP b))) ∧ (¬ (401 ≤ (I 62 9)) → ((0 ≤ (I 62 9) ∧ (I 62 9) < (401 : Int)) ∧ (Q (some (vi (I 66 ((I 62 9).toNat)))) (I, J, PP b))))))) : Tri G h 75 119 119 0 [some (vr 62)] [] (I, J, PP b) Q := wp_at ck75 [] 400 H
theorem x75_m {G : Ctx} {h : Nat} {Q : MP} {I : Nat → Nat → Int} {J : Nat → Nat → BitVec 64} {b : B3} (hh : 1 ≤ h) (H : ∀ h, 0 ≤ h → Tri G h 75 119 119 0 [some (vr 62)] [] (I, J, PP b) Q) : TriM G h 75 119 119 [vr 62] (I, J, PP b) Q := TriM_intro (h - 1) (by omega) (by decide) (Nat.le_of_ble_eq_true rfl) (Nat.le_refl _) (Nat.le_refl _) (H (h - 1) (by omega))
set_option maxRecDepth 100000 in
theorem x77 {G : Ctx} {h : Nat} {Q : MP} {I : Nat → Nat → Int} {J : Nat → Nat → BitVec 64} {b : B3} {k : Int} (hh : 0 ≤ h) (H : ((¬ (I 62 0) = 0) → (Q none (I, J, PP b))) ∧ (¬ (¬ (I 62 0) = 0) → ((((I 62 9) < 0) → (Q none (u2 (u2 I 62 0 k) 62 1 (-1), J, PP b))) ∧ (¬ ((I 62 9) < 0) → (((401 ≤ (I 62 9)) → (Q none (u2 (u2 I 62 0 k) 62 1 (-1), J, PP b))) ∧ (¬ (401 ≤ (I 62 9)) → ((0 ≤ (I 62 9) ∧ (I 62 9) < (401 : Int)) ∧ (Q none (u2 (u2 I 62 0 k) 62 1 (I 65 ((I 62 9).toNat)), J, PP b))))))))) : Tri G h 77 119 119 0 [some (vr 62), some (vi k)] [] (I, J, PP b) Q := wp_at ck77 [] 400 H
theorem x77_m {G : Ctx} {h : Nat} {Q : MP} {I : Nat → Nat → Int} {J : Nat → Nat → BitVec 64} {b : B3} {k : Int} (hh : 1 ≤ h) (H : ∀ h, 0 ≤ h → Tri G h 77 119 119 0 [some (vr 62), some (vi k)] [] (I, J, PP b) Q) : TriM G h 77 119 119 [vr 62, vi k] (I, J, PP b) Q := TriM_intro (h - 1) (by omega) (by decide) (Nat.le_of_ble_eq_true rfl) (Nat.le_refl _) (Nat.le_refl _) (H (h - 1) (by omega))
set_option maxRecDepth 100000 in
theorem x78 {G : Ctx} {h : Nat} {Q : MP} {I : Nat → Nat → Int} {J : Nat → Nat → BitVec 64} {b : B3} {v : Int} (hh : 0 ≤ h) (H : ((¬ (I 62 0) = 0) → (Q none (I, J, PP b))) ∧ (¬ (¬ (I 62 0) = 0) → (((400 ≤ (I 62 3)) → (Q none (I, J, PP b))) ∧ (¬ (400 ≤ (I 62 3)) → ((0 ≤ (I 62 3) ∧ (I 62 3) < (400 : Int)) ∧ (Q none (u2 (u2 I 63 ((I 62 3).toNat) v) 62 3 (w32 ((I 62 3) + 1)), J, PP b))))))) : Tri G h 78 119 119 0 [some (vr 62), some (vi v)] [] (I, J, PP b) Q := wp_at ck78 [] 400 H
theorem x78_m {G : Ctx} {h : Nat} {Q : MP} {I : Nat → Nat → Int} {J : Nat → Nat → BitVec 64} {b : B3} {v : Int} (hh : 1 ≤ h) (H : ∀ h, 0 ≤ h → Tri G h 78 119 119 0 [some (vr 62), some (vi v)] [] (I, J, PP b) Q) : TriM G h 78 119 119 [vr 62, vi v] (I, J, PP b) Q := TriM_intro (h - 1) (by omega) (by decide) (Nat.le_of_ble_eq_true rfl) (Nat.le_refl _) (Nat.le_refl _) (H (h - 1) (by omega))
set_option maxRecDepth 100000 in
theorem x76 {G : Ctx} {h : Nat} {Q : MP} {I : Nat → Nat → Int} {J : Nat → Nat → BitVec 64} {b : B3} {k : Int} (hh : 1 ≤ h) (H : (((I 62 0) = 0) → ((((I 62 9) < 0) → (((¬ 21 = k) → (((¬ (I 62 0) = 0) → (Q none (I, J, PP b))) ∧ (¬ (¬ (I 62 0) = 0) → ((((I 62 9) < 0) → (Q none (u2 (u2 I 62 0 1) 62 1 (-1), J, PP b))) ∧ (¬ ((I 62 9) < 0) → (((401 ≤ (I 62 9)) → (Q none (u2 (u2 I 62 0 1) 62 1 (-1), J, PP b))) ∧ (¬ (401 ≤ (I 62 9)) → ((0 ≤ (I 62 9) ∧ (I 62 9) < (401 : Int)) ∧ (Q none (u2 (u2 I 62 0 1) 62 1 (I 65 ((I 62 9).toNat)), J, PP b)))))))))) ∧ (¬ (¬ 21 = k) → (Q none (u2 I 62 9 (w32 ((I 62 9) + 1)), J, PP b))))) ∧ (¬ ((I 62 9) < 0) → (((401 ≤ (I 62 9)) → (((¬ 21 = k) → (((¬ (I 62 0) = 0) → (Q none (I, J, PP b))) ∧ (¬ (¬ (I 62 0) = 0) → ((((I 62 9) < 0) → (Q none (u2 (u2 I 62 0 1) 62 1 (-1), J, PP b))) ∧ (¬ ((I 62 9) < 0) → (((401 ≤ (I 62 9)) → (Q none (u2 (u2 I 62 0 1) 62 1 (-1), J, PP b))) ∧ (¬ (401 ≤ (I 62 9)) → ((0 ≤ (I 62 9) ∧ (I 62 9) < (401 : Int)) ∧ (Q none (u2 (u2 I 62 0 1) 62 1 (I 65 ((I 62 9).toNat)), J, PP b)))))))))) ∧ (¬ (¬ 21 = k) → (Q none (u2 I 62 9 (w32 ((I 62 9) + 1)), J, PP b))))) ∧ (¬ (401 ≤ (I 62 9)) → ((0 ≤ (I 62 9) ∧ (I 62 9) < (401 : Int)) ∧ (((¬ (I 64 ((I 62 9).toNat)) = k) → (((¬ (I 62 0) = 0) → (Q none (I, J, PP b))) ∧ (¬ (¬ (I 62 0) = 0) → ((((I 62 9) < 0) → (Q none (u2 (u2 I 62 0 1) 62 1 (-1), J, PP b))) ∧ (¬ ((I 62 9) < 0) → (((401 ≤ (I 62 9)) → (Q none (u2 (u2 I 62 0 1) 62 1 (-1), J, PP b))) ∧ (¬ (401 ≤ (I 62 9)) → ((0 ≤ (I 62 9) ∧ (I 62 9) < (401 : Int)) ∧ (Q none (u2 (u2 I 62 0 1) 62 1 (I 65 ((I 62 9).toNat)), J, PP b)))))))))) ∧ (¬ (¬ (I 64 ((I 62 9).toNat)) = k) → (Q none (u2 I 62 9 (w32 ((I 62 9) + 1)), J, PP b)))))))))) ∧ (¬ ((I 62 0) = 0) → (Q none (I, J, PP b)))) : Tri G h 76 119 119 0 [some (vr 62), some (vi k)] [] (I, J, PP b) Q := wp_at ck76 [] 400 (And.intro (fun q129 => x74_m (by omega) (fun h hh => x74 hh (And.intro (fun q131 => cI_r (And.intro (fun q133 => x77_m (by omega) (fun h hh => x77 hh (And.intro (fun q135 => cV_r ((((H.1 q129).1 q131).1 q133).1 q135)) (fun q136 => And.intro (fun q137 => cV_r (((((H.1 q129).1 q131).1 q133).2 q136).1 q137)) (fun q138 => And.intro (fun q139 => cV_r ((((((H.1 q129).1 q131).1 q133).2 q136).2 q138).1 q139)) (fun q140 => And.intro ((((((H.1 q129).1 q131).1 q133).2 q136).2 q138).2 q140).1 (cV_r (((((((H.1 q129).1 q131).1 q133).2 q136).2 q138).2 q140).2)))))))) (fun q134 => ((H.1 q129).1 q131).2 q134))) (fun q132 => And.intro (fun q141 => cI_r (And.intro (fun q143 => x77_m (by omega) (fun h hh => x77 hh (And.intro (fun q145 => cV_r (((((H.1 q129).2 q132).1 q141).1 q143).1 q145)) (fun q146 => And.intro (fun q147 => cV_r ((((((H.1 q129).2 q132).1 q141).1 q143).2 q146).1 q147)) (fun q148 => And.intro (fun q149 => cV_r (((((((H.1 q129).2 q132).1 q141).1 q143).2 q146).2 q148).1 q149)) (fun q150 => And.intro (((((((H.1 q129).2 q132).1 q141).1 q143).2 q146).2 q148).2 q150).1 (cV_r ((((((((H.1 q129).2 q132).1 q141).1 q143).2 q146).2 q148).2 q150).2)))))))) (fun q144 => (((H.1 q129).2 q132).1 q141).2 q144))) (fun q142 => And.intro (((H.1 q129).2 q132).2 q142).1 (cI_r (And.intro (fun q151 => x77_m (by omega) (fun h hh => x77 hh (And.intro (fun q153 => cV_r ((((((H.1 q129).2 q132).2 q142).2).1 q151).1 q153)) (fun q154 => And.intro (fun q155 => cV_r (((((((H.1 q129).2 q132).2 q142).2).1 q151).2 q154).1 q155)) (fun q156 => And.intro (fun q157 => cV_r ((((((((H.1 q129).2 q132).2 q142).2).1 q151).2 q154).2 q156).1 q157)) (fun q158 => And.intro ((((((((H.1 q129).2 q132).2 q142).2).1 q151).2 q154).2 q156).2 q158).1 (cV_r (((((((((H.1 q129).2 q132).2 q142).2).1 q151).2 q154).2 q156).2 q158).2)))))))) (fun q152 => ((((H.1 q129).2 q132).2 q142).2).2 q152)))))))) (fun q130 => H.2 q130))
theorem x76_m {G : Ctx} {h : Nat} {Q : MP} {I : Nat → Nat → Int} {J : Nat → Nat → BitVec 64} {b : B3} {k : Int} (hh : 2 ≤ h) (H : ∀ h, 1 ≤ h → Tri G h 76 119 119 0 [some (vr 62), some (vi k)] [] (I, J, PP b) Q) : TriM G h 76 119 119 [vr 62, vi k] (I, J, PP b) Q := TriM_intro (h - 1) (by omega) (by decide) (Nat.le_of_ble_eq_true rfl) (Nat.le_refl _) (Nat.le_refl _) (H (h - 1) (by omega))
set_option maxRecDepth 100000 in
theorem x131 {G : Ctx} {h : Nat} {Q : MP} {I : Nat → Nat → Int} {J : Nat → Nat → BitVec 64} {b : B3} {m : Int} (hh : 0 ≤ h) (H : ((m ≤ 0) → (Q (some (vi 0)) (u2 I 1 0 (w32 ((w32 (1664525 * (I 1 0))) + 1013904223)), J, PP b))) ∧ (¬ (m ≤ 0) → (m ≠ 0 ∧ (Q (some (vi (iRem (iUsh (w32 ((w32 (1664525 * (I 1 0))) + 1013904223)) 8) m))) (u2 I 1 0 (w32 ((w32 (1664525 * (I 1 0))) + 1013904223)), J, PP b))))) : Tri G h 131 119 119 0 [some (vr 1), some (vi m)] [] (I, J, PP b) Q := wp_at ck131 [] 400 H
theorem x131_m {G : Ctx} {h : Nat} {Q : MP} {I : Nat → Nat → Int} {J : Nat → Nat → BitVec 64} {b : B3} {m : Int} (hh : 1 ≤ h) (H : ∀ h, 0 ≤ h → Tri G h 131 119 119 0 [some (vr 1), some (vi m)] [] (I, J, PP b) Q) : TriM G h 131 119 119 [vr 1, vi m] (I, J, PP b) Q := TriM_intro (h - 1) (by omega) (by decide) (Nat.le_of_ble_eq_true rfl) (Nat.le_refl _) (Nat.le_refl _) (H (h - 1) (by omega))
set_option maxRecDepth 100000 in
theorem x194 {G : Ctx} {h : Nat} {Q : MP} {I : Nat → Nat → Int} {J : Nat → Nat → BitVec 64} {b : B3} {x y : Int} (hh : 1 ≤ h) (H : (0 ≤ x ∧ x < 60) ∧ ((0 ≤ y ∧ y < 60) ∧ (((¬ (I 92 ((220 + 3 * x).toNat)) = (I 92 ((220 + 3 * y).toNat))) → ((0 ≤ x ∧ x < 60) ∧ ((0 ≤ y ∧ y < 60) ∧ ((0 ≤ x ∧ x < 60) ∧ ((0 ≤ y ∧ y < 60) ∧ ((0 ≤ (w32 ((w32 (70 + (w32 (12 * (I 92 ((220 + 3 * x).toNat)))))) + (I 92 ((220 + 3 * y).toNat)))) ∧ (w32 ((w32 (70 + (w32 (12 * (I 92 ((220 + 3 * x).toNat)))))) + (I 92 ((220 + 3 * y).toNat)))) < (5120 : Int)) ∧ (Q (some (vi (w32 ((w32 ((I 92 ((220 + 3 * x + 1).toNat)) + (I 92 ((220 + 3 * y + 1).toNat)))) + (I 92 ((w32 ((w32 (70 + (w32 (12 * (I 92 ((220 + 3 * x).toNat)))))) + (I 92 ((220 + 3 * y).toNat)))).toNat)))))) (I, J, PP b)))))))) ∧ (¬ (¬ (I 92 ((220 + 3 * x).toNat)) = (I 92 ((220 + 3 * y).toNat))) → ((0 ≤ x ∧ x < 60) ∧ ((0 ≤ y ∧ y < 60) ∧ ((0 ≤ (I 92 ((220 + 3 * x + 1).toNat)) ∧ (I 92 ((220 + 3 * x + 1).toNat)) < 1000000 ∧ 0 ≤ (I 92 ((220 + 3 * y + 1).toNat)) ∧ (I 92 ((220 + 3 * y + 1).toNat)) < 1000000) ∧ (Q (some (vi (dist (I 92 ((220 + 3 * x + 1).toNat)) (I 92 ((220 + 3 * y + 1).toNat))))) (I, J, PP b))))))))) : Tri G h 194 119 119 0 [some (vr 91), some (vi x), some (vi y)] [] (I, J, PP b) Q := wp_at ck194 [] 400 (sx189 (by omega) H.1 (sx189 (by omega) H.2.1 (And.intro (fun q159 => sx190 (by omega) (H.2.2.1 q159).1 (sx190 (by omega) ((H.2.2.1 q159).2).1 (sx189 (by omega) (((H.2.2.1 q159).2).2).1 (sx189 (by omega) ((((H.2.2.1 q159).2).2).2).1 (((((H.2.2.1 q159).2).2).2).2))))) (fun q160 => sx190 (by omega) (H.2.2.2 q160).1 (sx190 (by omega) ((H.2.2.2 q160).2).1 (sx182 (by omega) (((H.2.2.2 q160).2).2).1 ((((H.2.2.2 q160).2).2).2)))))))
theorem x194_m {G : Ctx} {h : Nat} {Q : MP} {I : Nat → Nat → Int} {J : Nat → Nat → BitVec 64} {b : B3} {x y : Int} (hh : 2 ≤ h) (H : ∀ h, 1 ≤ h → Tri G h 194 119 119 0 [some (vr 91), some (vi x), some (vi y)] [] (I, J, PP b) Q) : TriM G h 194 119 119 [vr 91, vi x, vi y] (I, J, PP b) Q := TriM_intro (h - 1) (by omega) (by decide) (Nat.le_of_ble_eq_true rfl) (Nat.le_refl _) (Nat.le_refl _) (H (h - 1) (by omega))
set_option maxRecDepth 100000 in
theorem x195 {G : Ctx} {h : Nat} {Q : MP} {I : Nat → Nat → Int} {J : Nat → Nat → BitVec 64} {b : B3} {x y : Int} (hh : 2 ≤ h) (H : (0 ≤ x ∧ x < 60) ∧ ((0 ≤ y ∧ y < 60) ∧ (((¬ (I 92 ((220 + 3 * x).toNat)) = (I 92 ((220 + 3 * y).toNat))) → ((0 ≤ x ∧ x < 60) ∧ ((0 ≤ y ∧ y < 60) ∧ ((0 ≤ x ∧ x < 60) ∧ ((0 ≤ y ∧ y < 60) ∧ ((0 ≤ (w32 ((w32 (70 + (w32 (12 * (I 92 ((220 + 3 * x).toNat)))))) + (I 92 ((220 + 3 * y).toNat)))) ∧ (w32 ((w32 (70 + (w32 (12 * (I 92 ((220 + 3 * x).toNat)))))) + (I 92 ((220 + 3 * y).toNat)))) < (5120 : Int)) ∧ (Q (some (vi (w32 ((iDiv (w32 ((w32 ((w32 ((I 92 ((220 + 3 * x + 1).toNat)) + (I 92 ((220 + 3 * y + 1).toNat)))) + (I 92 ((w32 ((w32 (70 + (w32 (12 * (I 92 ((220 + 3 * x).toNat)))))) + (I 92 ((220 + 3 * y).toNat)))).toNat)))) * (I 92 1))) 100) + (I 92 2))))) (I, J, PP b)))))))) ∧ (¬ (¬ (I 92 ((220 + 3 * x).toNat)) = (I 92 ((220 + 3 * y).toNat))) → ((0 ≤ x ∧ x < 60) ∧ ((0 ≤ y ∧ y < 60) ∧ ((0 ≤ (I 92 ((220 + 3 * x + 1).toNat)) ∧ (I 92 ((220 + 3 * x + 1).toNat)) < 1000000 ∧ 0 ≤ (I 92 ((220 + 3 * y + 1).toNat)) ∧ (I 92 ((220 + 3 * y + 1).toNat)) < 1000000) ∧ (Q (some (vi (w32 ((iDiv (w32 ((dist (I 92 ((220 + 3 * x + 1).toNat)) (I 92 ((220 + 3 * y + 1).toNat))) * (I 92 1))) 100) + (I 92 2))))) (I, J, PP b))))))))) : Tri G h 195 119 119 0 [some (vr 91), some (vi x), some (vi y)] [] (I, J, PP b) Q := wp_at ck195 [] 400 (x194_m (by omega) (fun h hh => x194 hh (And.intro H.1 (And.intro H.2.1 (And.intro (fun q161 => And.intro (H.2.2.1 q161).1 (And.intro ((H.2.2.1 q161).2).1 (And.intro (((H.2.2.1 q161).2).2).1 (And.intro ((((H.2.2.1 q161).2).2).2).1 (And.intro (((((H.2.2.1 q161).2).2).2).2).1 (cI_r (And.intro (show (0 : Int) ≤ 1 ∧ (1 : Int) < ((5120 : Nat) : Int) by decide) (And.intro (show (100 : Int) ≠ 0 by decide) (And.intro (show (0 : Int) ≤ 2 ∧ (2 : Int) < ((5120 : Nat) : Int) by decide) ((((((H.2.2.1 q161).2).2).2).2).2)))))))))) (fun q162 => And.intro (H.2.2.2 q162).1 (And.intro ((H.2.2.2 q162).2).1 (And.intro (((H.2.2.2 q162).2).2).1 (cI_r (And.intro (show (0 : Int) ≤ 1 ∧ (1 : Int) < ((5120 : Nat) : Int) by decide) (And.intro (show (100 : Int) ≠ 0 by decide) (And.intro (show (0 : Int) ≤ 2 ∧ (2 : Int) < ((5120 : Nat) : Int) by decide) ((((H.2.2.2 q162).2).2).2)))))))))))))
theorem x195_m {G : Ctx} {h : Nat} {Q : MP} {I : Nat → Nat → Int} {J : Nat → Nat → BitVec 64} {b : B3} {x y : Int} (hh : 3 ≤ h) (H : ∀ h, 2 ≤ h → Tri G h 195 119 119 0 [some (vr 91), some (vi x), some (vi y)] [] (I, J, PP b) Q) : TriM G h 195 119 119 [vr 91, vi x, vi y] (I, J, PP b) Q := TriM_intro (h - 1) (by omega) (by decide) (Nat.le_of_ble_eq_true rfl) (Nat.le_refl _) (Nat.le_refl _) (H (h - 1) (by omega))
set_option maxRecDepth 100000 in
theorem x225 {G : Ctx} {h : Nat} {Q : MP} {I : Nat → Nat → Int} {J : Nat → Nat → BitVec 64} {b : B3} {e : Int} (hh : 1 ≤ h) (H : ((¬ (I 92 6) = (-1)) → ((0 ≤ e ∧ e < 120 ∧ 0 ≤ (6 : Int) ∧ (6 : Int) < 17) ∧ ((((I 92 6) < (I 92 ((450 + 17 * e + (6 : Int)).toNat))) → (Q (some (vi 0)) (I, J, PP b))) ∧ (¬ ((I 92 6) < (I 92 ((450 + 17 * e + (6 : Int)).toNat))) → ((0 ≤ e ∧ e < 120 ∧ 0 ≤ (7 : Int) ∧ (7 : Int) < 17) ∧ ((((I 92 ((450 + 17 * e + (7 : Int)).toNat)) = 0) → (Q (some (vi 1)) (I, J, PP b))) ∧ (¬ ((I 92 ((450 + 17 * e + (7 : Int)).toNat)) = 0) → ((0 ≤ e ∧ e < 120 ∧ 0 ≤ (7 : Int) ∧ (7 : Int) < 17) ∧ ((((I 92 ((450 + 17 * e + (7 : Int)).toNat)) ≤ (I 92 6)) → (Q (some (vi 0)) (I, J, PP b))) ∧ (¬ ((I 92 ((450 + 17 * e + (7 : Int)).toNat)) ≤ (I 92 6)) → (Q (some (vi 1)) (I, J, PP b)))))))))))) ∧ (¬ (¬ (I 92 6) = (-1)) → ((0 ≤ e ∧ e < 120 ∧ 0 ≤ (6 : Int) ∧ (6 : Int) < 17) ∧ ((((I 92 5) < (I 92 ((450 + 17 * e + (6 : Int)).toNat))) → (Q (some (vi 0)) (I, J, PP b))) ∧ (¬ ((I 92 5) < (I 92 ((450 + 17 * e + (6 : Int)).toNat))) → ((0 ≤ e ∧ e < 120 ∧ 0 ≤ (7 : Int) ∧ (7 : Int) < 17) ∧ ((((I 92 ((450 + 17 * e + (7 : Int)).toNat)) = 0) → (Q (some (vi 1)) (I, J, PP b))) ∧ (¬ ((I 92 ((450 + 17 * e + (7 : Int)).toNat)) = 0) → ((0 ≤ e ∧ e < 120 ∧ 0 ≤ (7 : Int) ∧ (7 : Int) < 17) ∧ ((((I 92 ((450 + 17 * e + (7 : Int)).toNat)) ≤ (I 92 5)) → (Q (some (vi 0)) (I, J, PP b))) ∧ (¬ ((I 92 ((450 + 17 * e + (7 : Int)).toNat)) ≤ (I 92 5)) → (Q (some (vi 1)) (I, J, PP b))))))))))))) : Tri G h 225 119 119 0 [some (vr 91), some (vi e)] [] (I, J, PP b) Q := wp_at ck225 [] 400 (And.intro (show (0 : Int) ≤ 6 ∧ (6 : Int) < ((5120 : Nat) : Int) by decide) (And.intro (fun q163 => And.intro (show (0 : Int) ≤ 6 ∧ (6 : Int) < ((5120 : Nat) : Int) by decide) (sx188 (by omega) (H.1 q163).1 (And.intro (fun q165 => And.intro (show (0 : Int) = 0 ∨ (0 : Int) = 1 by decide) (((H.1 q163).2).1 q165)) (fun q166 => sx188 (by omega) (((H.1 q163).2).2 q166).1 (And.intro (fun q167 => And.intro (show (1 : Int) = 0 ∨ (1 : Int) = 1 by decide) (((((H.1 q163).2).2 q166).2).1 q167)) (fun q168 => sx188 (by omega) (((((H.1 q163).2).2 q166).2).2 q168).1 (And.intro (fun q169 => And.intro (show (0 : Int) = 0 ∨ (0 : Int) = 1 by decide) (((((((H.1 q163).2).2 q166).2).2 q168).2).1 q169)) (fun q170 => And.intro (show (1 : Int) = 0 ∨ (1 : Int) = 1 by decide) (((((((H.1 q163).2).2 q166).2).2 q168).2).2 q170))))))))) (fun q164 => And.intro (show (0 : Int) ≤ 5 ∧ (5 : Int) < ((5120 : Nat) : Int) by decide) (sx188 (by omega) (H.2 q164).1 (And.intro (fun q171 => And.intro (show (0 : Int) = 0 ∨ (0 : Int) = 1 by decide) (((H.2 q164).2).1 q171)) (fun q172 => sx188 (by omega) (((H.2 q164).2).2 q172).1 (And.intro (fun q173 => And.intro (show (1 : Int) = 0 ∨ (1 : Int) = 1 by decide) (((((H.2 q164).2).2 q172).2).1 q173)) (fun q174 => sx188 (by omega) (((((H.2 q164).2).2 q172).2).2 q174).1 (And.intro (fun q175 => And.intro (show (0 : Int) = 0 ∨ (0 : Int) = 1 by decide) (((((((H.2 q164).2).2 q172).2).2 q174).2).1 q175)) (fun q176 => And.intro (show (1 : Int) = 0 ∨ (1 : Int) = 1 by decide) (((((((H.2 q164).2).2 q172).2).2 q174).2).2 q176)))))))))))
theorem x225_m {G : Ctx} {h : Nat} {Q : MP} {I : Nat → Nat → Int} {J : Nat → Nat → BitVec 64} {b : B3} {e : Int} (hh : 2 ≤ h) (H : ∀ h, 1 ≤ h → Tri G h 225 119 119 0 [some (vr 91), some (vi e)] [] (I, J, PP b) Q) : TriM G h 225 119 119 [vr 91, vi e] (I, J, PP b) Q := TriM_intro (h - 1) (by omega) (by decide) (Nat.le_of_ble_eq_true rfl) (Nat.le_refl _) (Nat.le_refl _) (H (h - 1) (by omega))
set_option maxRecDepth 100000 in
theorem x199 {G : Ctx} {h : Nat} {Q : MP} {I : Nat → Nat → Int} {J : Nat → Nat → BitVec 64} {b : B3} {k : Int} (hh : 0 ≤ h) (H : (((I 91 11) ≤ k) → (Q (some (vi (-1))) (I, J, PP b))) ∧ (¬ ((I 91 11) ≤ k) → ((0 ≤ k ∧ k < (400 : Int)) ∧ (Q (some (vi (I 96 k.toNat))) (I, J, PP b))))) : Tri G h 199 119 119 0 [some (vr 91), some (vi k)] [] (I, J, PP b) Q := wp_at ck199 [] 400 H
theorem x199_m {G : Ctx} {h : Nat} {Q : MP} {I : Nat → Nat → Int} {J : Nat → Nat → BitVec 64} {b : B3} {k : Int} (hh : 1 ≤ h) (H : ∀ h, 0 ≤ h → Tri G h 199 119 119 0 [some (vr 91), some (vi k)] [] (I, J, PP b) Q) : TriM G h 199 119 119 [vr 91, vi k] (I, J, PP b) Q := TriM_intro (h - 1) (by omega) (by decide) (Nat.le_of_ble_eq_true rfl) (Nat.le_refl _) (Nat.le_refl _) (H (h - 1) (by omega))
set_option maxRecDepth 100000 in
theorem x207 {G : Ctx} {h : Nat} {Q : MP} {I : Nat → Nat → Int} {J : Nat → Nat → BitVec 64} {b : B3} {k : Int} (hh : 0 ≤ h) (H : Q (some (vi 0)) (u2 (u2 I 91 16 k) 91 17 (I 91 14), J, PP b)) : Tri G h 207 119 119 0 [some (vr 91), some (vi k)] [] (I, J, PP b) Q := wp_at ck207 [] 400 (And.intro (show (0 : Int) = 0 ∨ (0 : Int) = 1 by decide) H)
theorem x207_m {G : Ctx} {h : Nat} {Q : MP} {I : Nat → Nat → Int} {J : Nat → Nat → BitVec 64} {b : B3} {k : Int} (hh : 1 ≤ h) (H : ∀ h, 0 ≤ h → Tri G h 207 119 119 0 [some (vr 91), some (vi k)] [] (I, J, PP b) Q) : TriM G h 207 119 119 [vr 91, vi k] (I, J, PP b) Q := TriM_intro (h - 1) (by omega) (by decide) (Nat.le_of_ble_eq_true rfl) (Nat.le_refl _) (Nat.le_refl _) (H (h - 1) (by omega))
set_option maxRecDepth 100000 in
theorem x209 {G : Ctx} {h : Nat} {Q : MP} {I : Nat → Nat → Int} {J : Nat → Nat → BitVec 64} {b : B3} {k v : Int} (hh : 0 ≤ h) (H : (0 ≤ (w32 (2 * (I 91 10))) ∧ (w32 (2 * (I 91 10))) < (820 : Int)) ∧ ((0 ≤ (w32 ((w32 (2 * (I 91 10))) + 1)) ∧ (w32 ((w32 (2 * (I 91 10))) + 1)) < (820 : Int)) ∧ (Q none (u2 (u2 (u2 I 95 ((w32 (2 * (I 91 10))).toNat) k) 95 ((w32 ((w32 (2 * (I 91 10))) + 1)).toNat) v) 91 10 (w32 ((I 91 10) + 1)), J, PP b)))) : Tri G h 209 119 119 0 [some (vr 91), some (vi k), some (vi v)] [] (I, J, PP b) Q := wp_at ck209 [] 400 H
theorem x209_m {G : Ctx} {h : Nat} {Q : MP} {I : Nat → Nat → Int} {J : Nat → Nat → BitVec 64} {b : B3} {k v : Int} (hh : 1 ≤ h) (H : ∀ h, 0 ≤ h → Tri G h 209 119 119 0 [some (vr 91), some (vi k), some (vi v)] [] (I, J, PP b) Q) : TriM G h 209 119 119 [vr 91, vi k, vi v] (I, J, PP b) Q := TriM_intro (h - 1) (by omega) (by decide) (Nat.le_of_ble_eq_true rfl) (Nat.le_refl _) (Nat.le_refl _) (H (h - 1) (by omega))
set_option maxRecDepth 100000 in
theorem x261 {G : Ctx} {h : Nat} {Q : MP} {I : Nat → Nat → Int} {J : Nat → Nat → BitVec 64} {b : B3} {d i : Int} (hh : 0 ≤ h) (H : (0 ≤ (w32 (10 + i)) ∧ (w32 (10 + i)) < (5120 : Int)) ∧ ((((I 92 ((w32 (10 + i)).toNat)) = (-1)) → (Q (some (vi 0)) (I, J, PP b))) ∧ (¬ ((I 92 ((w32 (10 + i)).toNat)) = (-1)) → ((0 ≤ (w32 ((w32 (21 + (w32 (4 * i)))) + d)) ∧ (w32 ((w32 (21 + (w32 (4 * i)))) + d)) < (5120 : Int)) ∧ (((¬ (I 92 ((w32 ((w32 (21 + (w32 (4 * i)))) + d)).toNat)) = 0) → (Q (some (vi 0)) (I, J, PP b))) ∧ (¬ (¬ (I 92 ((w32 ((w32 (21 + (w32 (4 * i)))) + d)).toNat)) = 0) → (Q (some (vi 1)) (I, J, PP b)))))))) : Tri G h 261 119 119 0 [some (vr 91), some (vi i), some (vi d)] [] (I, J, PP b) Q := wp_at ck261 [] 400 (And.intro H.1 (And.intro (fun q177 => And.intro (show (0 : Int) = 0 ∨ (0 : Int) = 1 by decide) (H.2.1 q177)) (fun q178 => And.intro (H.2.2 q178).1 (And.intro (fun q179 => And.intro (show (0 : Int) = 0 ∨ (0 : Int) = 1 by decide) (((H.2.2 q178).2).1 q179)) (fun q180 => And.intro (show (1 : Int) = 0 ∨ (1 : Int) = 1 by decide) (((H.2.2 q178).2).2 q180))))))
theorem x261_m {G : Ctx} {h : Nat} {Q : MP} {I : Nat → Nat → Int} {J : Nat → Nat → BitVec 64} {b : B3} {i d : Int} (hh : 1 ≤ h) (H : ∀ h, 0 ≤ h → Tri G h 261 119 119 0 [some (vr 91), some (vi i), some (vi d)] [] (I, J, PP b) Q) : TriM G h 261 119 119 [vr 91, vi i, vi d] (I, J, PP b) Q := TriM_intro (h - 1) (by omega) (by decide) (Nat.le_of_ble_eq_true rfl) (Nat.le_refl _) (Nat.le_refl _) (H (h - 1) (by omega))
set_option maxRecDepth 100000 in
theorem x241 {G : Ctx} {h : Nat} {Q : MP} {I : Nat → Nat → Int} {J : Nat → Nat → BitVec 64} {b : B3} {k n : Int} (hh : 1 ≤ h) (H : (((0 : Int) ≤ k ∧ k ≤ n) → ((0 ≤ (w32 ((w32 (61 * n)) + k)) ∧ (w32 ((w32 (61 * n)) + k)) < (3721 : Int)) ∧ (Q (some (vl (J 109 ((w32 ((w32 (61 * n)) + k)).toNat)))) (I, J, PP b)))) ∧ (¬ ((0 : Int) ≤ k ∧ k ≤ n) → (Q (some (vl (0#64))) (I, J, PP b)))) : Tri G h 241 119 119 0 [some (vr 91), some (vi n), some (vi k)] [] (I, J, PP b) Q := wp_at ck241 [] 400 (sx181 (by omega)  (fun q181 => And.intro (fun z => absurd z (show ¬ ((1 : Int) = (0 : Int)) by decide)) (fun _ => H.1 q181)) (fun q182 => And.intro (fun _ => H.2 q182) (fun z => absurd (show (0 : Int) = (0 : Int) by decide) z)))
theorem x241_m {G : Ctx} {h : Nat} {Q : MP} {I : Nat → Nat → Int} {J : Nat → Nat → BitVec 64} {b : B3} {n k : Int} (hh : 2 ≤ h) (H : ∀ h, 1 ≤ h → Tri G h 241 119 119 0 [some (vr 91), some (vi n), some (vi k)] [] (I, J, PP b) Q) : TriM G h 241 119 119 [vr 91, vi n, vi k] (I, J, PP b) Q := TriM_intro (h - 1) (by omega) (by decide) (Nat.le_of_ble_eq_true rfl) (Nat.le_refl _) (Nat.le_refl _) (H (h - 1) (by omega))
set_option maxRecDepth 100000 in
theorem x184 {G : Ctx} {h : Nat} {Q : MP} {I : Nat → Nat → Int} {J : Nat → Nat → BitVec 64} {b : B3} {m : Int} (hh : 0 ≤ h) (H : m ≠ 0 ∧ (Q (some (vi (iRem (iUsh (w32 ((w32 (1664525 * (I 92 0))) + 1013904223)) 8) m))) (u2 I 92 0 (w32 ((w32 (1664525 * (I 92 0))) + 1013904223)), J, PP b))) : Tri G h 184 119 119 0 [some (vr 91), some (vi m)] [] (I, J, PP b) Q := wp_at ck184 [] 400 (And.intro (show (0 : Int) ≤ 0 ∧ (0 : Int) < ((5120 : Nat) : Int) by decide) (And.intro (show (0 : Int) ≤ 0 ∧ (0 : Int) < ((5120 : Nat) : Int) by decide) (And.intro (show (0 : Int) ≤ 0 ∧ (0 : Int) < ((5120 : Nat) : Int) by decide) H)))
theorem x184_m {G : Ctx} {h : Nat} {Q : MP} {I : Nat → Nat → Int} {J : Nat → Nat → BitVec 64} {b : B3} {m : Int} (hh : 1 ≤ h) (H : ∀ h, 0 ≤ h → Tri G h 184 119 119 0 [some (vr 91), some (vi m)] [] (I, J, PP b) Q) : TriM G h 184 119 119 [vr 91, vi m] (I, J, PP b) Q := TriM_intro (h - 1) (by omega) (by decide) (Nat.le_of_ble_eq_true rfl) (Nat.le_refl _) (Nat.le_refl _) (H (h - 1) (by omega))
end
section
/-! how INV's parts stay when other cells change -/
theorem likeV_c {I I' : MI} (h3 : I' 3 = I 3) (h4 : I' 4 = I 4) (h6 : I' 6 = I 6) (h8 : I' 8 = I 8) (h11 : I' 11 = I 11) (h12 : I' 12 = I 12) : likeV I' = likeV I := by
  funext a b s
  unfold likeV nam fact wayF
  rw [h3, h4, h6, h8, h11, h12]
theorem alN_c {I I' : MI} (p : List Lin) (h3 : I' 3 = I 3) (h4 : I' 4 = I 4) (h6 : I' 6 = I 6) (h8 : I' 8 = I 8) (h11 : I' 11 = I 11) (h12 : I' 12 = I 12) : alN p I' = alN p I := by
  funext a b
  unfold alN alikB
  rw [likeV_c h3 h4 h6 h8 h11 h12]
theorem knB_c {I I' : MI} (h7 : I' 7 = I 7) (h9 : I' 9 = I 9) (h10 : I' 10 = I 10) : knB I' = knB I := by
  funext e
  unfold knB atT
  rw [h7, h9, h10]
theorem srt_c {I I' : MI} (h8 : I' 8 = I 8) : srt I' = srt I := by
  funext cls told p
  unfold srt fact
  rw [h8]
theorem inHs_c {I I' : MI} (h8 : I' 8 = I 8) : inHs I' = inHs I := by
  funext cls told p x
  unfold inHs fact
  rw [h8]
theorem prs_c {I I' : MI} (p : List Lin) (h3 : I' 3 = I 3) (h4 : I' 4 = I 4) (h6 : I' 6 = I 6) (h7 : I' 7 = I 7) (h8 : I' 8 = I 8) (h9 : I' 9 = I 9) (h10 : I' 10 = I 10) (h11 : I' 11 = I 11) (h12 : I' 12 = I 12) : prs p I' = prs p I := by
  unfold prs
  rw [alN_c p h3 h4 h6 h8 h11 h12, knB_c h7 h9 h10, h7]
theorem mayE_c {I I' : MI} (p : List Lin) (h3 : I' 3 = I 3) (h4 : I' 4 = I 4) (h6 : I' 6 = I 6) (h8 : I' 8 = I 8) (h11 : I' 11 = I 11) (h12 : I' 12 = I 12) : mayE p I' = mayE p I := by
  funext cls told x y
  unfold mayE
  rw [srt_c h8, alN_c p h3 h4 h6 h8 h11 h12]
theorem coup_c {I I' : MI} (p0 p1 : List Lin) (h3 : I' 3 = I 3) (h4 : I' 4 = I 4) (h6 : I' 6 = I 6) (h7 : I' 7 = I 7) (h8 : I' 8 = I 8) (h9 : I' 9 = I 9) (h10 : I' 10 = I 10) (h11 : I' 11 = I 11) (h12 : I' 12 = I 12) : coup p0 p1 I' = coup p0 p1 I := by
  unfold coup
  rw [prs_c p0 h3 h4 h6 h7 h8 h9 h10 h11 h12, mayE_c p1 h3 h4 h6 h8 h11 h12, srt_c h8, h7]
theorem likI.fr {p0 p1 : List Lin} {I I' : MI} {J J' : MJ} (h : likI p0 p1 I J) (h3 : I' 3 = I 3) (h4 : I' 4 = I 4) (h6 : I' 6 = I 6) (h7 : I' 7 0 = I 7 0) (h8 : I' 8 = I 8) (h11 : I' 11 = I 11) (h12 : I' 12 = I 12) (j70 : J' 70 = J 70) (j71 : J' 71 = J 71) : likI p0 p1 I' J' := by
  intro k a b k2 ba a1
  have := h k a b k2 ba a1
  unfold bitJ at this ⊢
  rw [j70, j71, h7, alN_c p0 h3 h4 h6 h8 h11 h12, alN_c p1 h3 h4 h6 h8 h11 h12]
  exact this
theorem perI.fr {p0 p1 : List Lin} {I I' : MI} {J J' : MJ} (h : perI p0 p1 I J) (h3 : I' 3 = I 3) (h4 : I' 4 = I 4) (h6 : I' 6 = I 6) (h7 : I' 7 = I 7) (h8 : I' 8 = I 8) (h9 : I' 9 = I 9) (h10 : I' 10 = I 10) (h11 : I' 11 = I 11) (h12 : I' 12 = I 12) (h72 : I' 72 = I 72) (h73 : I' 73 = I 73) (h74 : I' 74 = I 74) (h75 : I' 75 = I 75) (h76 : I' 76 = I 76) (j77 : J' 77 = J 77) : perI p0 p1 I' J' := by
  unfold perI
  rw [prs_c p0 h3 h4 h6 h7 h8 h9 h10 h11 h12, coup_c p0 p1 h3 h4 h6 h7 h8 h9 h10 h11 h12, srt_c h8, inHs_c h8, h7, h72, h73, h74, h75, h76, j77]
  exact h
/-- forgotten -/
theorem perI.st {p0 p1 : List Lin} {I : MI} {J : MJ} (h : I 72 3 = 1) : perI p0 p1 I J := ⟨Or.inr h, fun q => by omega⟩
theorem likI.st {p0 p1 : List Lin} {I : MI} {J : MJ} (h70 : ∀ j, j < 224 → J 70 j = 0#64) (h71 : ∀ j, j < 224 → J 71 j = 0#64) : likI p0 p1 I J := by
  intro k a b k2 ba a1
  have hp : pairI k a b / 64 < 224 := by
    unfold pairI
    have h1 : a * (a - 1) ≤ 119 * 118 := Nat.mul_le_mul (by omega) (by omega)
    have h2 : a * (a - 1) / 2 ≤ 119 * 118 / 2 := Nat.div_le_div_right h1
    omega
  unfold bitJ
  rw [h70 _ hp, h71 _ hp]
  refine ⟨fun q => ?_, fun q => ?_⟩
  · simp at q
  · simp
theorem RW.fr {I I' : MI} (h : RW 30 93 I) (hk : ∀ k, 31 ≤ k ∧ k < 60 → I' k = I k) (hw : I' 93 = I 93) : RW 30 93 I' := by
  obtain ⟨h1, h2, h3, h4, h5, h6⟩ := h
  refine ⟨h1.fr (hk 32 (by omega)) (hk 33 (by omega)) (hk 34 (by omega)) (hk 35 (by omega)) (hk 36 (by omega)) (fun j _ => by rw [hw]), ?_, ?_, ?_, ?_, ?_⟩
  · exact h2.fr (by rw [hk 32 (by omega)]; exact Int.le_refl _) (hk 37 (by omega)) (hk 38 (by omega)) (hk 39 (by omega)) (hk 40 (by omega)) (hk 41 (by omega)) (hk 42 (by omega)) (fun j _ => by rw [hw])
  · exact h3.fr (by rw [hk 32 (by omega)]; exact Int.le_refl _) (hk 52 (by omega)) (hk 53 (by omega)) (hk 54 (by omega)) (fun j _ => by rw [hw])
  · exact h4.fr (hk 55 (by omega)) (hk 56 (by omega)) (hk 57 (by omega)) (hk 58 (by omega)) (hk 59 (by omega)) (fun j _ => by rw [hw])
  · exact h5.fr (hk 43 (by omega)) (hk 44 (by omega)) (hk 46 (by omega)) (hk 47 (by omega)) (hk 49 (by omega)) (hk 50 (by omega)) (fun j _ => by rw [hw])
  · rw [hw, hk 31 (by omega)]
    exact h6
theorem rTape.fr {I I' : MI} (h : rTape I) (h0 : I' 0 4 = I 0 4) (h91 : I' 91 11 = I 91 11) (h96 : I' 96 = I 96) (h61 : I' 61 = I 61) : rTape I' := by
  unfold rTape
  rw [h0, h91, h96, h61]
  exact h
/-- INV where only cells change that nothing rests on -/
theorem INV.fr {c : Nat} {I I' : MI} {J J' : MJ} (h : INV c I J) (hk : ∀ k, k ∉ [15, 18, 21, 30, 62, 63, 64, 65, 66, 68, 69, 78, 79, 80, 81, 83, 84, 85, 86, 87, 88, 89, 90, 94, 95, 97, 98, 99, 100, 101, 102, 103, 104, 105, 106, 107, 108, 110, 111, 112, 113, 114, 115, 116, 117, 118] → k ≠ 91 → I' k = I k) (h91 : ∀ j ∈ [2, 11, 18, 20], I' 91 j = I 91 j) (hj : ∀ k ∈ [70, 71, 77, 109], J' k = J k) : INV c I' J' := by
  obtain ⟨p0, p1, p2, ⟨a1, a2, a3, a4, a5⟩, ⟨t0, t1, t2⟩, hl, hp, htp, hf, ⟨k1, k2, k3⟩, hc, hcc⟩ := h
  have g : ∀ k, k ∉ [15, 18, 21, 30, 62, 63, 64, 65, 66, 68, 69, 78, 79, 80, 81, 83, 84, 85, 86, 87, 88, 89, 90, 94, 95, 97, 98, 99, 100, 101, 102, 103, 104, 105, 106, 107, 108, 110, 111, 112, 113, 114, 115, 116, 117, 118] ∧ k ≠ 91 → I' k = I k := fun k q => hk k q.1 q.2
  have e0 := g 0 (by decide)
  have e1 := g 1 (by decide)
  have e2 := g 2 (by decide)
  have e3 := g 3 (by decide)
  have e4 := g 4 (by decide)
  have e5 := g 5 (by decide)
  have e6 := g 6 (by decide)
  have e7 := g 7 (by decide)
  have e8 := g 8 (by decide)
  have e9 := g 9 (by decide)
  have e10 := g 10 (by decide)
  have e11 := g 11 (by decide)
  have e12 := g 12 (by decide)
  have e92 := g 92 (by decide)
  refine ⟨p0, p1, p2, ⟨a1.fr e2 e3 e4 e5 e6 (fun j _ => by rw [e92]), a2.fr (by rw [e2]; exact Int.le_refl _) e7 e8 e9 e10 e11 e12 (fun j _ => by rw [e92]), a3.fr (by rw [e2]; exact Int.le_refl _) (g 22 (by decide)) (g 23 (by decide)) (g 24 (by decide)) (fun j _ => by rw [e92]), a4.fr (g 25 (by decide)) (g 26 (by decide)) (g 27 (by decide)) (g 28 (by decide)) (g 29 (by decide)) (fun j _ => by rw [e92]), by rw [e92, e1]; exact a5⟩, ⟨t0.fr (g 13 (by decide)) (g 14 (by decide)) (fun j _ => by rw [e92]), t1.fr (g 16 (by decide)) (g 17 (by decide)) (fun j _ => by rw [e92]), t2.fr (g 19 (by decide)) (g 20 (by decide)) (fun j _ => by rw [e92])⟩, hl.fr e3 e4 e6 (by rw [e7]) e8 e11 e12 (hj 70 (by decide)) (hj 71 (by decide)), hp.fr e3 e4 e6 e7 e8 e9 e10 e11 e12 (g 72 (by decide)) (g 73 (by decide)) (g 74 (by decide)) (g 75 (by decide)) (g 76 (by decide)) (hj 77 (by decide)), htp.fr (by rw [e0]) (h91 11 (by decide)) (g 96 (by decide)) (g 61 (by decide)), ?_, ⟨by rw [e0]; exact k1, by rw [e0, h91 2 (by decide)]; exact k2, fun q => ?_⟩, ?_, ?_⟩
  · rw [h91 18 (by decide), h91 20 (by decide), e0]; exact hf
  · refine (k3 (by rw [← e0]; exact q)).fr (fun k hk2 => g k ?_) (g 93 (by decide))
    have : ∀ k, k < 60 → 31 ≤ k → k ∉ [15, 18, 21, 30, 62, 63, 64, 65, 66, 68, 69, 78, 79, 80, 81, 83, 84, 85, 86, 87, 88, 89, 90, 94, 95, 97, 98, 99, 100, 101, 102, 103, 104, 105, 106, 107, 108, 110, 111, 112, 113, 114, 115, 116, 117, 118] ∧ k ≠ 91 := by decide
    exact this k hk2.2 hk2.1
  · unfold choI; rw [hj 109 (by decide)]; exact hc
  · rw [e7, e0, g 37 (by decide)]; exact hcc
theorem INV.suc {c : Nat} {I : MI} {J : MJ} (h : INV c I J) (hc : c < 64) : INV (c + 1) I J := by
  obtain ⟨p0, p1, p2, a, t, hl, hp, htp, hf, k, hh, h1, h2, h3⟩ := h
  exact ⟨p0, p1, p2, a, t, hl, hp, htp, hf, k, hh, by omega, fun q => by have := h2 q; omega, by omega⟩
end
section
set_option maxRecDepth 100000 in
theorem x137 {G : Ctx} {h : Nat} {Q : MP} {I : Nat → Nat → Int} {J : Nat → Nat → BitVec 64} {b : B3} {v : Int} (hh : 0 ≤ h) (H : Q (some (vi (I 1 0))) (u2 I 1 0 v, J, PP b)) : Tri G h 137 119 119 0 [some (vr 0), some (vi v)] [] (I, J, PP b) Q := wp_at ck137 [] 400 H
theorem x137_m {G : Ctx} {h : Nat} {Q : MP} {I : Nat → Nat → Int} {J : Nat → Nat → BitVec 64} {b : B3} {v : Int} (hh : 1 ≤ h) (H : ∀ h, 0 ≤ h → Tri G h 137 119 119 0 [some (vr 0), some (vi v)] [] (I, J, PP b) Q) : TriM G h 137 119 119 [vr 0, vi v] (I, J, PP b) Q := TriM_intro (h - 1) (by omega) (by decide) (Nat.le_of_ble_eq_true rfl) (Nat.le_refl _) (Nat.le_refl _) (H (h - 1) (by omega))
set_option maxRecDepth 100000 in
theorem x183 {G : Ctx} {h : Nat} {Q : MP} {I : Nat → Nat → Int} {J : Nat → Nat → BitVec 64} {b : B3} {v : Int} (hh : 0 ≤ h) (H : Q (some (vi (I 92 0))) (u2 I 92 0 v, J, PP b)) : Tri G h 183 119 119 0 [some (vr 91), some (vi v)] [] (I, J, PP b) Q := wp_at ck183 [] 400 (And.intro (show (0 : Int) ≤ 0 ∧ (0 : Int) < ((5120 : Nat) : Int) by decide) (And.intro (show (0 : Int) ≤ 0 ∧ (0 : Int) < ((5120 : Nat) : Int) by decide) H))
theorem x183_m {G : Ctx} {h : Nat} {Q : MP} {I : Nat → Nat → Int} {J : Nat → Nat → BitVec 64} {b : B3} {v : Int} (hh : 1 ≤ h) (H : ∀ h, 0 ≤ h → Tri G h 183 119 119 0 [some (vr 91), some (vi v)] [] (I, J, PP b) Q) : TriM G h 183 119 119 [vr 91, vi v] (I, J, PP b) Q := TriM_intro (h - 1) (by omega) (by decide) (Nat.le_of_ble_eq_true rfl) (Nat.le_refl _) (Nat.le_refl _) (H (h - 1) (by omega))
set_option maxRecDepth 100000 in
theorem x138 {G : Ctx} {h : Nat} {Q : MP} {I : Nat → Nat → Int} {J : Nat → Nat → BitVec 64} {b : B3} {x y z : Int} (hh : 1 ≤ h) (H : ((0 ≤ x ∧ x < (12 : Int)) → (((0 ≤ y ∧ y < (1000 : Int)) → (((0 ≤ z ∧ z < (10 : Int)) → ((((I 2 0) < 60) → ((0 ≤ (I 2 0) ∧ (I 2 0) < (60 : Int)) ∧ ((0 ≤ (I 2 0) ∧ (I 2 0) < (60 : Int)) ∧ ((0 ≤ (I 2 0) ∧ (I 2 0) < (60 : Int)) ∧ (Q (some (vi (w32 ((w32 ((I 2 0) + 1)) - 1)))) (u2 (u2 (u2 (u2 I 3 ((I 2 0).toNat) x) 4 ((I 2 0).toNat) y) 5 ((I 2 0).toNat) z) 2 0 (w32 ((I 2 0) + 1)), J, PP b)))))) ∧ (¬ ((I 2 0) < 60) → (Q (some (vi (-1))) (I, J, PP b))))) ∧ (¬ (0 ≤ z ∧ z < (10 : Int)) → (Q (some (vi (-1))) (I, J, PP b))))) ∧ (¬ (0 ≤ y ∧ y < (1000 : Int)) → (Q (some (vi (-1))) (I, J, PP b))))) ∧ (¬ (0 ≤ x ∧ x < (12 : Int)) → (Q (some (vi (-1))) (I, J, PP b)))) : Tri G h 138 119 119 0 [some (vr 0), some (vi x), some (vi y), some (vi z)] [] (I, J, PP b) Q := wp_at ck138 [] 400 (sx172 (by omega)  (fun q183 => And.intro (fun z => absurd z (show ¬ ((1 : Int) = (0 : Int)) by decide)) (fun _ => sx172 (by omega)  (fun q185 => And.intro (fun z => absurd z (show ¬ ((1 : Int) = (0 : Int)) by decide)) (fun _ => sx172 (by omega)  (fun q187 => And.intro (fun _ => x120_m (by omega) (fun h hh => x120 hh (And.intro (fun q189 => And.intro ((((H.1 q183).1 q185).1 q187).1 q189).1 (And.intro (((((H.1 q183).1 q185).1 q187).1 q189).2).1 (And.intro ((((((H.1 q183).1 q185).1 q187).1 q189).2).2).1 (cI_r (((((((H.1 q183).1 q185).1 q187).1 q189).2).2).2))))) (fun q190 => cI_r ((((H.1 q183).1 q185).1 q187).2 q190))))) (fun z => absurd (show ¬ (1 : Int) = (0 : Int) by decide) z)) (fun q188 => And.intro (fun z => absurd z (show ¬ (¬ (0 : Int) = (0 : Int)) by decide)) (fun _ => ((H.1 q183).1 q185).2 q188)))) (fun q186 => And.intro (fun _ => (H.1 q183).2 q186) (fun z => absurd (show (0 : Int) = (0 : Int) by decide) z)))) (fun q184 => And.intro (fun _ => H.2 q184) (fun z => absurd (show (0 : Int) = (0 : Int) by decide) z)))
theorem x138_m {G : Ctx} {h : Nat} {Q : MP} {I : Nat → Nat → Int} {J : Nat → Nat → BitVec 64} {b : B3} {x y z : Int} (hh : 2 ≤ h) (H : ∀ h, 1 ≤ h → Tri G h 138 119 119 0 [some (vr 0), some (vi x), some (vi y), some (vi z)] [] (I, J, PP b) Q) : TriM G h 138 119 119 [vr 0, vi x, vi y, vi z] (I, J, PP b) Q := TriM_intro (h - 1) (by omega) (by decide) (Nat.le_of_ble_eq_true rfl) (Nat.le_refl _) (Nat.le_refl _) (H (h - 1) (by omega))
set_option maxRecDepth 100000 in
theorem x191 {G : Ctx} {h : Nat} {Q : MP} {I : Nat → Nat → Int} {J : Nat → Nat → BitVec 64} {b : B3} {x y z : Int} (hh : 2 ≤ h) (H : ((0 ≤ x ∧ x < 12) → ((((0 : Int) ≤ y ∧ y ≤ (999 : Int)) → ((((0 : Int) ≤ z ∧ z ≤ (9 : Int)) → (((¬ (I 92 3) = 60) → ((0 ≤ (w32 (220 + (w32 (3 * (I 92 3))))) ∧ (w32 (220 + (w32 (3 * (I 92 3))))) < (5120 : Int)) ∧ ((0 ≤ (w32 ((w32 (220 + (w32 (3 * (I 92 3))))) + 1)) ∧ (w32 ((w32 (220 + (w32 (3 * (I 92 3))))) + 1)) < (5120 : Int)) ∧ ((0 ≤ (w32 ((w32 (220 + (w32 (3 * (I 92 3))))) + 2)) ∧ (w32 ((w32 (220 + (w32 (3 * (I 92 3))))) + 2)) < (5120 : Int)) ∧ (Q (some (vi (w32 ((w32 (((u2 (u2 (u2 I 92 ((w32 (220 + (w32 (3 * (I 92 3))))).toNat) x) 92 ((w32 ((w32 (220 + (w32 (3 * (I 92 3))))) + 1)).toNat) y) 92 ((w32 ((w32 (220 + (w32 (3 * (I 92 3))))) + 2)).toNat) z) 92 3) + 1)) - 1)))) (u2 (u2 (u2 (u2 I 92 ((w32 (220 + (w32 (3 * (I 92 3))))).toNat) x) 92 ((w32 ((w32 (220 + (w32 (3 * (I 92 3))))) + 1)).toNat) y) 92 ((w32 ((w32 (220 + (w32 (3 * (I 92 3))))) + 2)).toNat) z) 92 3 (w32 (((u2 (u2 (u2 I 92 ((w32 (220 + (w32 (3 * (I 92 3))))).toNat) x) 92 ((w32 ((w32 (220 + (w32 (3 * (I 92 3))))) + 1)).toNat) y) 92 ((w32 ((w32 (220 + (w32 (3 * (I 92 3))))) + 2)).toNat) z) 92 3) + 1)), J, PP b)))))) ∧ (¬ (¬ (I 92 3) = 60) → (Q (some (vi (-1))) (I, J, PP b))))) ∧ (¬ ((0 : Int) ≤ z ∧ z ≤ (9 : Int)) → (Q (some (vi (-1))) (I, J, PP b))))) ∧ (¬ ((0 : Int) ≤ y ∧ y ≤ (999 : Int)) → (Q (some (vi (-1))) (I, J, PP b))))) ∧ (¬ (0 ≤ x ∧ x < 12) → (Q (some (vi (-1))) (I, J, PP b)))) : Tri G h 191 119 119 0 [some (vr 91), some (vi x), some (vi y), some (vi z)] [] (I, J, PP b) Q := wp_at ck191 [] 400 (sx186 (by omega)  (fun q191 => And.intro (fun z => absurd z (show ¬ ((1 : Int) = (0 : Int)) by decide)) (fun _ => sx181 (by omega)  (fun q193 => And.intro (fun z => absurd z (show ¬ ((1 : Int) = (0 : Int)) by decide)) (fun _ => sx181 (by omega)  (fun q195 => And.intro (fun z => absurd z (show ¬ ((1 : Int) = (0 : Int)) by decide)) (fun _ => And.intro (show (0 : Int) ≤ 3 ∧ (3 : Int) < ((5120 : Nat) : Int) by decide) (And.intro (fun q197 => And.intro (show (0 : Int) ≤ 3 ∧ (3 : Int) < ((5120 : Nat) : Int) by decide) (And.intro ((((H.1 q191).1 q193).1 q195).1 q197).1 (And.intro (((((H.1 q191).1 q193).1 q195).1 q197).2).1 (And.intro ((((((H.1 q191).1 q193).1 q195).1 q197).2).2).1 (And.intro (show (0 : Int) ≤ 3 ∧ (3 : Int) < ((5120 : Nat) : Int) by decide) (And.intro (show (0 : Int) ≤ 3 ∧ (3 : Int) < ((5120 : Nat) : Int) by decide) (And.intro (show (0 : Int) ≤ 3 ∧ (3 : Int) < ((5120 : Nat) : Int) by decide) (((((((H.1 q191).1 q193).1 q195).1 q197).2).2).2)))))))) (fun q198 => (((H.1 q191).1 q193).1 q195).2 q198)))) (fun q196 => And.intro (fun _ => ((H.1 q191).1 q193).2 q196) (fun z => absurd (show (0 : Int) = (0 : Int) by decide) z)))) (fun q194 => And.intro (fun _ => (H.1 q191).2 q194) (fun z => absurd (show (0 : Int) = (0 : Int) by decide) z)))) (fun q192 => And.intro (fun _ => H.2 q192) (fun z => absurd (show (0 : Int) = (0 : Int) by decide) z)))
theorem x191_m {G : Ctx} {h : Nat} {Q : MP} {I : Nat → Nat → Int} {J : Nat → Nat → BitVec 64} {b : B3} {x y z : Int} (hh : 3 ≤ h) (H : ∀ h, 2 ≤ h → Tri G h 191 119 119 0 [some (vr 91), some (vi x), some (vi y), some (vi z)] [] (I, J, PP b) Q) : TriM G h 191 119 119 [vr 91, vi x, vi y, vi z] (I, J, PP b) Q := TriM_intro (h - 1) (by omega) (by decide) (Nat.le_of_ble_eq_true rfl) (Nat.le_refl _) (Nat.le_refl _) (H (h - 1) (by omega))
set_option maxRecDepth 100000 in
theorem x139 {G : Ctx} {h : Nat} {Q : MP} {I : Nat → Nat → Int} {J : Nat → Nat → BitVec 64} {b : B3} {x y z : Int} (hh : 2 ≤ h) (H : ((0 ≤ x ∧ x < (12 : Int)) → (((0 ≤ y ∧ y < (12 : Int)) → (((x = y) → (Q (some (vi 0)) (I, J, PP b))) ∧ (¬ (x = y) → (((0 ≤ z ∧ z < (1000 : Int)) → (((0 ≤ x ∧ x < (12 : Int)) → (((0 ≤ y ∧ y < (12 : Int)) → ((0 ≤ (w32 ((w32 (x * 12)) + y)) ∧ (w32 ((w32 (x * 12)) + y)) < (144 : Int)) ∧ ((0 ≤ (w32 ((w32 (y * 12)) + x)) ∧ (w32 ((w32 (y * 12)) + x)) < (144 : Int)) ∧ (Q (some (vi 1)) (u2 (u2 (u2 I 6 ((w32 ((w32 (x * 12)) + y)).toNat) z) 6 ((w32 ((w32 (y * 12)) + x)).toNat) z) 72 3 1, u1 (u1 J 70 (fun j => if j < 224 then (0#64) else J 70 j)) 71 (fun j => if j < 224 then (0#64) else J 71 j), PP b))))) ∧ (¬ (0 ≤ y ∧ y < (12 : Int)) → (Q (some (vi 1)) (u2 I 72 3 1, u1 (u1 J 70 (fun j => if j < 224 then (0#64) else J 70 j)) 71 (fun j => if j < 224 then (0#64) else J 71 j), PP b))))) ∧ (¬ (0 ≤ x ∧ x < (12 : Int)) → (Q (some (vi 1)) (u2 I 72 3 1, u1 (u1 J 70 (fun j => if j < 224 then (0#64) else J 70 j)) 71 (fun j => if j < 224 then (0#64) else J 71 j), PP b))))) ∧ (¬ (0 ≤ z ∧ z < (1000 : Int)) → (Q (some (vi 0)) (I, J, PP b))))))) ∧ (¬ (0 ≤ y ∧ y < (12 : Int)) → (Q (some (vi 0)) (I, J, PP b))))) ∧ (¬ (0 ≤ x ∧ x < (12 : Int)) → (Q (some (vi 0)) (I, J, PP b)))) : Tri G h 139 119 119 0 [some (vr 0), some (vi x), some (vi y), some (vi z)] [] (I, J, PP b) Q := wp_at ck139 [] 400 (sx172 (by omega)  (fun q199 => And.intro (fun z => absurd z (show ¬ ((1 : Int) = (0 : Int)) by decide)) (fun _ => sx172 (by omega)  (fun q201 => And.intro (fun z => absurd z (show ¬ ((1 : Int) = (0 : Int)) by decide)) (fun _ => And.intro (fun q203 => And.intro (show (0 : Int) = 0 ∨ (0 : Int) = 1 by decide) (((H.1 q199).1 q201).1 q203)) (fun q204 => sx172 (by omega)  (fun q205 => And.intro (fun _ => x124_m (by omega) (fun h hh => x124 hh (And.intro (fun q207 => And.intro (fun q209 => And.intro ((((((H.1 q199).1 q201).2 q204).1 q205).1 q207).1 q209).1 (And.intro (((((((H.1 q199).1 q201).2 q204).1 q205).1 q207).1 q209).2).1 (cV_r (x57_m (by omega) (fun h hh => x57 hh (cV_r (x80_m (by omega) (fun h hh => x80 hh (cV_r (And.intro (show (1 : Int) = 0 ∨ (1 : Int) = 1 by decide) ((((((((H.1 q199).1 q201).2 q204).1 q205).1 q207).1 q209).2).2))))))))))) (fun q210 => cV_r (x57_m (by omega) (fun h hh => x57 hh (cV_r (x80_m (by omega) (fun h hh => x80 hh (cV_r (And.intro (show (1 : Int) = 0 ∨ (1 : Int) = 1 by decide) ((((((H.1 q199).1 q201).2 q204).1 q205).1 q207).2 q210)))))))))) (fun q208 => cV_r (x57_m (by omega) (fun h hh => x57 hh (cV_r (x80_m (by omega) (fun h hh => x80 hh (cV_r (And.intro (show (1 : Int) = 0 ∨ (1 : Int) = 1 by decide) (((((H.1 q199).1 q201).2 q204).1 q205).2 q208)))))))))))) (fun z => absurd (show ¬ (1 : Int) = (0 : Int) by decide) z)) (fun q206 => And.intro (fun z => absurd z (show ¬ (¬ (0 : Int) = (0 : Int)) by decide)) (fun _ => And.intro (show (0 : Int) = 0 ∨ (0 : Int) = 1 by decide) ((((H.1 q199).1 q201).2 q204).2 q206)))))) (fun q202 => And.intro (fun _ => And.intro (show (0 : Int) = 0 ∨ (0 : Int) = 1 by decide) ((H.1 q199).2 q202)) (fun z => absurd (show (0 : Int) = (0 : Int) by decide) z)))) (fun q200 => And.intro (fun _ => And.intro (show (0 : Int) = 0 ∨ (0 : Int) = 1 by decide) (H.2 q200)) (fun z => absurd (show (0 : Int) = (0 : Int) by decide) z)))
theorem x139_m {G : Ctx} {h : Nat} {Q : MP} {I : Nat → Nat → Int} {J : Nat → Nat → BitVec 64} {b : B3} {x y z : Int} (hh : 3 ≤ h) (H : ∀ h, 2 ≤ h → Tri G h 139 119 119 0 [some (vr 0), some (vi x), some (vi y), some (vi z)] [] (I, J, PP b) Q) : TriM G h 139 119 119 [vr 0, vi x, vi y, vi z] (I, J, PP b) Q := TriM_intro (h - 1) (by omega) (by decide) (Nat.le_of_ble_eq_true rfl) (Nat.le_refl _) (Nat.le_refl _) (H (h - 1) (by omega))
set_option maxRecDepth 100000 in
theorem x192 {G : Ctx} {h : Nat} {Q : MP} {I : Nat → Nat → Int} {J : Nat → Nat → BitVec 64} {b : B3} {x y z : Int} (hh : 2 ≤ h) (H : ((0 ≤ x ∧ x < 12) → (((0 ≤ y ∧ y < 12) → (((x = y) → (Q (some (vi 0)) (I, J, PP b))) ∧ (¬ (x = y) → ((((0 : Int) ≤ z ∧ z ≤ (999 : Int)) → ((0 ≤ (w32 ((w32 (70 + (w32 (12 * x)))) + y)) ∧ (w32 ((w32 (70 + (w32 (12 * x)))) + y)) < (5120 : Int)) ∧ ((0 ≤ (w32 ((w32 (70 + (w32 (12 * y)))) + x)) ∧ (w32 ((w32 (70 + (w32 (12 * y)))) + x)) < (5120 : Int)) ∧ (Q (some (vi 1)) (u2 (u2 I 92 ((w32 ((w32 (70 + (w32 (12 * x)))) + y)).toNat) z) 92 ((w32 ((w32 (70 + (w32 (12 * y)))) + x)).toNat) z, J, PP b))))) ∧ (¬ ((0 : Int) ≤ z ∧ z ≤ (999 : Int)) → (Q (some (vi 0)) (I, J, PP b))))))) ∧ (¬ (0 ≤ y ∧ y < 12) → (Q (some (vi 0)) (I, J, PP b))))) ∧ (¬ (0 ≤ x ∧ x < 12) → (Q (some (vi 0)) (I, J, PP b)))) : Tri G h 192 119 119 0 [some (vr 91), some (vi x), some (vi y), some (vi z)] [] (I, J, PP b) Q := wp_at ck192 [] 400 (sx186 (by omega)  (fun q211 => And.intro (fun z => absurd z (show ¬ ((1 : Int) = (0 : Int)) by decide)) (fun _ => sx186 (by omega)  (fun q213 => And.intro (fun z => absurd z (show ¬ ((1 : Int) = (0 : Int)) by decide)) (fun _ => And.intro (fun q215 => And.intro (show (0 : Int) = 0 ∨ (0 : Int) = 1 by decide) (((H.1 q211).1 q213).1 q215)) (fun q216 => sx181 (by omega)  (fun q217 => And.intro (fun _ => And.intro ((((H.1 q211).1 q213).2 q216).1 q217).1 (And.intro (((((H.1 q211).1 q213).2 q216).1 q217).2).1 (And.intro (show (1 : Int) = 0 ∨ (1 : Int) = 1 by decide) ((((((H.1 q211).1 q213).2 q216).1 q217).2).2)))) (fun z => absurd (show ¬ (1 : Int) = (0 : Int) by decide) z)) (fun q218 => And.intro (fun z => absurd z (show ¬ (¬ (0 : Int) = (0 : Int)) by decide)) (fun _ => And.intro (show (0 : Int) = 0 ∨ (0 : Int) = 1 by decide) ((((H.1 q211).1 q213).2 q216).2 q218)))))) (fun q214 => And.intro (fun _ => And.intro (show (0 : Int) = 0 ∨ (0 : Int) = 1 by decide) ((H.1 q211).2 q214)) (fun z => absurd (show (0 : Int) = (0 : Int) by decide) z)))) (fun q212 => And.intro (fun _ => And.intro (show (0 : Int) = 0 ∨ (0 : Int) = 1 by decide) (H.2 q212)) (fun z => absurd (show (0 : Int) = (0 : Int) by decide) z)))
theorem x192_m {G : Ctx} {h : Nat} {Q : MP} {I : Nat → Nat → Int} {J : Nat → Nat → BitVec 64} {b : B3} {x y z : Int} (hh : 3 ≤ h) (H : ∀ h, 2 ≤ h → Tri G h 192 119 119 0 [some (vr 91), some (vi x), some (vi y), some (vi z)] [] (I, J, PP b) Q) : TriM G h 192 119 119 [vr 91, vi x, vi y, vi z] (I, J, PP b) Q := TriM_intro (h - 1) (by omega) (by decide) (Nat.le_of_ble_eq_true rfl) (Nat.le_refl _) (Nat.le_refl _) (H (h - 1) (by omega))
set_option maxRecDepth 100000 in
theorem x140 {G : Ctx} {h : Nat} {Q : MP} {I : Nat → Nat → Int} {J : Nat → Nat → BitVec 64} {b : B3} {x y : Int} (hh : 1 ≤ h) (H : ((0 ≤ y ∧ y < (100 : Int)) → (((0 ≤ x ∧ x < (2 : Int)) → (((¬ x = 0) → (Q (some (vi 1)) (u2 I 2 2 y, J, PP b))) ∧ (¬ (¬ x = 0) → (Q (some (vi 1)) (u2 I 2 1 y, J, PP b))))) ∧ (¬ (0 ≤ x ∧ x < (2 : Int)) → (Q (some (vi 0)) (I, J, PP b))))) ∧ (¬ (0 ≤ y ∧ y < (100 : Int)) → (Q (some (vi 0)) (I, J, PP b)))) : Tri G h 140 119 119 0 [some (vr 0), some (vi x), some (vi y)] [] (I, J, PP b) Q := wp_at ck140 [] 400 (sx172 (by omega)  (fun q219 => And.intro (fun z => absurd z (show ¬ ((1 : Int) = (0 : Int)) by decide)) (fun _ => sx172 (by omega)  (fun q221 => And.intro (fun _ => And.intro (fun q223 => And.intro (show (1 : Int) = 0 ∨ (1 : Int) = 1 by decide) (((H.1 q219).1 q221).1 q223)) (fun q224 => And.intro (show (1 : Int) = 0 ∨ (1 : Int) = 1 by decide) (((H.1 q219).1 q221).2 q224))) (fun z => absurd (show ¬ (1 : Int) = (0 : Int) by decide) z)) (fun q222 => And.intro (fun z => absurd z (show ¬ (¬ (0 : Int) = (0 : Int)) by decide)) (fun _ => And.intro (show (0 : Int) = 0 ∨ (0 : Int) = 1 by decide) ((H.1 q219).2 q222))))) (fun q220 => And.intro (fun _ => And.intro (show (0 : Int) = 0 ∨ (0 : Int) = 1 by decide) (H.2 q220)) (fun z => absurd (show (0 : Int) = (0 : Int) by decide) z)))
theorem x140_m {G : Ctx} {h : Nat} {Q : MP} {I : Nat → Nat → Int} {J : Nat → Nat → BitVec 64} {b : B3} {x y : Int} (hh : 2 ≤ h) (H : ∀ h, 1 ≤ h → Tri G h 140 119 119 0 [some (vr 0), some (vi x), some (vi y)] [] (I, J, PP b) Q) : TriM G h 140 119 119 [vr 0, vi x, vi y] (I, J, PP b) Q := TriM_intro (h - 1) (by omega) (by decide) (Nat.le_of_ble_eq_true rfl) (Nat.le_refl _) (Nat.le_refl _) (H (h - 1) (by omega))
set_option maxRecDepth 100000 in
theorem x193 {G : Ctx} {h : Nat} {Q : MP} {I : Nat → Nat → Int} {J : Nat → Nat → BitVec 64} {b : B3} {x y : Int} (hh : 1 ≤ h) (H : (((0 : Int) ≤ x ∧ x ≤ (1 : Int)) → ((((0 : Int) ≤ y ∧ y ≤ (99 : Int)) → ((0 ≤ (w32 (1 + x)) ∧ (w32 (1 + x)) < (5120 : Int)) ∧ (Q (some (vi 1)) (u2 I 92 ((w32 (1 + x)).toNat) y, J, PP b)))) ∧ (¬ ((0 : Int) ≤ y ∧ y ≤ (99 : Int)) → (Q (some (vi 0)) (I, J, PP b))))) ∧ (¬ ((0 : Int) ≤ x ∧ x ≤ (1 : Int)) → (Q (some (vi 0)) (I, J, PP b)))) : Tri G h 193 119 119 0 [some (vr 91), some (vi x), some (vi y)] [] (I, J, PP b) Q := wp_at ck193 [] 400 (sx181 (by omega)  (fun q225 => And.intro (fun z => absurd z (show ¬ ((1 : Int) = (0 : Int)) by decide)) (fun _ => sx181 (by omega)  (fun q227 => And.intro (fun _ => And.intro ((H.1 q225).1 q227).1 (And.intro (show (1 : Int) = 0 ∨ (1 : Int) = 1 by decide) (((H.1 q225).1 q227).2))) (fun z => absurd (show ¬ (1 : Int) = (0 : Int) by decide) z)) (fun q228 => And.intro (fun z => absurd z (show ¬ (¬ (0 : Int) = (0 : Int)) by decide)) (fun _ => And.intro (show (0 : Int) = 0 ∨ (0 : Int) = 1 by decide) ((H.1 q225).2 q228))))) (fun q226 => And.intro (fun _ => And.intro (show (0 : Int) = 0 ∨ (0 : Int) = 1 by decide) (H.2 q226)) (fun z => absurd (show (0 : Int) = (0 : Int) by decide) z)))
theorem x193_m {G : Ctx} {h : Nat} {Q : MP} {I : Nat → Nat → Int} {J : Nat → Nat → BitVec 64} {b : B3} {x y : Int} (hh : 2 ≤ h) (H : ∀ h, 1 ≤ h → Tri G h 193 119 119 0 [some (vr 91), some (vi x), some (vi y)] [] (I, J, PP b) Q) : TriM G h 193 119 119 [vr 91, vi x, vi y] (I, J, PP b) Q := TriM_intro (h - 1) (by omega) (by decide) (Nat.le_of_ble_eq_true rfl) (Nat.le_refl _) (Nat.le_refl _) (H (h - 1) (by omega))
set_option maxRecDepth 100000 in
theorem x141 {G : Ctx} {h : Nat} {Q : MP} {I : Nat → Nat → Int} {J : Nat → Nat → BitVec 64} {b : B3} {x y z : Int} (hh : 3 ≤ h) (H : ((0 ≤ x ∧ x < (I 2 0)) → (((0 ≤ y ∧ y < (I 2 0)) → (((z = 0 → (((0 ≤ x ∧ x < (I 2 0)) → (((0 ≤ y ∧ y < (I 2 0)) → ((0 ≤ x ∧ x < (60 : Int)) ∧ ((0 ≤ y ∧ y < (60 : Int)) ∧ (((¬ (I 3 x.toNat) = (I 3 y.toNat)) → ((0 ≤ x ∧ x < (60 : Int)) ∧ ((0 ≤ y ∧ y < (60 : Int)) ∧ ((0 ≤ x ∧ x < (60 : Int)) ∧ ((0 ≤ y ∧ y < (60 : Int)) ∧ ((0 ≤ (w32 ((w32 ((I 3 x.toNat) * 12)) + (I 3 y.toNat))) ∧ (w32 ((w32 ((I 3 x.toNat) * 12)) + (I 3 y.toNat))) < (144 : Int)) ∧ (Q (some (vi (w32 ((w32 ((I 4 x.toNat) + (I 4 y.toNat))) + (I 6 ((w32 ((w32 ((I 3 x.toNat) * 12)) + (I 3 y.toNat))).toNat)))))) (I, J, PP b)))))))) ∧ (¬ (¬ (I 3 x.toNat) = (I 3 y.toNat)) → ((0 ≤ x ∧ x < (60 : Int)) ∧ ((0 ≤ y ∧ y < (60 : Int)) ∧ (Q (some (vi (if (w32 ((I 4 x.toNat) - (I 4 y.toNat))) < 0 then w32 (-(w32 ((I 4 x.toNat) - (I 4 y.toNat)))) else (w32 ((I 4 x.toNat) - (I 4 y.toNat)))))) (I, J, PP b))))))))) ∧ (¬ (0 ≤ y ∧ y < (I 2 0)) → (Q (some (vi (-1))) (I, J, PP b))))) ∧ (¬ (0 ≤ x ∧ x < (I 2 0)) → (Q (some (vi (-1))) (I, J, PP b))))) ∧ (z = 1 → (((0 ≤ x ∧ x < (I 2 0)) → (((0 ≤ y ∧ y < (I 2 0)) → ((0 ≤ x ∧ x < (60 : Int)) ∧ ((0 ≤ y ∧ y < (60 : Int)) ∧ (((¬ (I 3 x.toNat) = (I 3 y.toNat)) → ((0 ≤ x ∧ x < (60 : Int)) ∧ ((0 ≤ y ∧ y < (60 : Int)) ∧ ((0 ≤ x ∧ x < (60 : Int)) ∧ ((0 ≤ y ∧ y < (60 : Int)) ∧ ((0 ≤ (w32 ((w32 ((I 3 x.toNat) * 12)) + (I 3 y.toNat))) ∧ (w32 ((w32 ((I 3 x.toNat) * 12)) + (I 3 y.toNat))) < (144 : Int)) ∧ (Q (some (vi (w32 ((iDiv (w32 ((w32 ((w32 ((I 4 x.toNat) + (I 4 y.toNat))) + (I 6 ((w32 ((w32 ((I 3 x.toNat) * 12)) + (I 3 y.toNat))).toNat)))) * (I 2 1))) 100) + (I 2 2))))) (I, J, PP b)))))))) ∧ (¬ (¬ (I 3 x.toNat) = (I 3 y.toNat)) → ((0 ≤ x ∧ x < (60 : Int)) ∧ ((0 ≤ y ∧ y < (60 : Int)) ∧ (Q (some (vi (w32 ((iDiv (w32 ((if (w32 ((I 4 x.toNat) - (I 4 y.toNat))) < 0 then w32 (-(w32 ((I 4 x.toNat) - (I 4 y.toNat)))) else (w32 ((I 4 x.toNat) - (I 4 y.toNat)))) * (I 2 1))) 100) + (I 2 2))))) (I, J, PP b))))))))) ∧ (¬ (0 ≤ y ∧ y < (I 2 0)) → (Q (some (vi (w32 ((iDiv (w32 ((-1) * (I 2 1))) 100) + (I 2 2))))) (I, J, PP b))))) ∧ (¬ (0 ≤ x ∧ x < (I 2 0)) → (Q (some (vi (w32 ((iDiv (w32 ((-1) * (I 2 1))) 100) + (I 2 2))))) (I, J, PP b))))) ∧ True) ∧ (¬ z = 0 → ¬ z = 1 → (Q (some (vi (-1))) (I, J, PP b))))) ∧ (¬ (0 ≤ y ∧ y < (I 2 0)) → (Q (some (vi (-1))) (I, J, PP b))))) ∧ (¬ (0 ≤ x ∧ x < (I 2 0)) → (Q (some (vi (-1))) (I, J, PP b)))) : Tri G h 141 119 119 0 [some (vr 0), some (vi x), some (vi y), some (vi z)] [] (I, J, PP b) Q := wp_at ck141 [] 400 (sx172 (by omega)  (fun q229 => And.intro (fun z => absurd z (show ¬ ((1 : Int) = (0 : Int)) by decide)) (fun _ => sx172 (by omega)  (fun q231 => And.intro (fun _ => And.intro (And.intro (fun q233 => x125_m (by omega) (fun h hh => x125 hh (And.intro (fun q234 => And.intro (fun q236 => And.intro ((((((H.1 q229).1 q231).1).1 q233).1 q234).1 q236).1 (And.intro (((((((H.1 q229).1 q231).1).1 q233).1 q234).1 q236).2).1 (And.intro (fun q238 => And.intro (((((((((H.1 q229).1 q231).1).1 q233).1 q234).1 q236).2).2).1 q238).1 (And.intro ((((((((((H.1 q229).1 q231).1).1 q233).1 q234).1 q236).2).2).1 q238).2).1 (And.intro (((((((((((H.1 q229).1 q231).1).1 q233).1 q234).1 q236).2).2).1 q238).2).2).1 (And.intro ((((((((((((H.1 q229).1 q231).1).1 q233).1 q234).1 q236).2).2).1 q238).2).2).2).1 (And.intro (((((((((((((H.1 q229).1 q231).1).1 q233).1 q234).1 q236).2).2).1 q238).2).2).2).2).1 (cI_r ((((((((((((((H.1 q229).1 q231).1).1 q233).1 q234).1 q236).2).2).1 q238).2).2).2).2).2))))))) (fun q239 => And.intro (((((((((H.1 q229).1 q231).1).1 q233).1 q234).1 q236).2).2).2 q239).1 (And.intro ((((((((((H.1 q229).1 q231).1).1 q233).1 q234).1 q236).2).2).2 q239).2).1 (cI_r (((((((((((H.1 q229).1 q231).1).1 q233).1 q234).1 q236).2).2).2 q239).2).2))))))) (fun q237 => cI_r ((((((H.1 q229).1 q231).1).1 q233).1 q234).2 q237))) (fun q235 => cI_r (((((H.1 q229).1 q231).1).1 q233).2 q235))))) (And.intro (fun q240 => x126_m (by omega) (fun h hh => x126 hh (And.intro (fun q241 => And.intro (fun q243 => And.intro (((((((H.1 q229).1 q231).1).2).1 q240).1 q241).1 q243).1 (And.intro ((((((((H.1 q229).1 q231).1).2).1 q240).1 q241).1 q243).2).1 (And.intro (fun q245 => And.intro ((((((((((H.1 q229).1 q231).1).2).1 q240).1 q241).1 q243).2).2).1 q245).1 (And.intro (((((((((((H.1 q229).1 q231).1).2).1 q240).1 q241).1 q243).2).2).1 q245).2).1 (And.intro ((((((((((((H.1 q229).1 q231).1).2).1 q240).1 q241).1 q243).2).2).1 q245).2).2).1 (And.intro (((((((((((((H.1 q229).1 q231).1).2).1 q240).1 q241).1 q243).2).2).1 q245).2).2).2).1 (And.intro ((((((((((((((H.1 q229).1 q231).1).2).1 q240).1 q241).1 q243).2).2).1 q245).2).2).2).2).1 (cI_r (((((((((((((((H.1 q229).1 q231).1).2).1 q240).1 q241).1 q243).2).2).1 q245).2).2).2).2).2))))))) (fun q246 => And.intro ((((((((((H.1 q229).1 q231).1).2).1 q240).1 q241).1 q243).2).2).2 q246).1 (And.intro (((((((((((H.1 q229).1 q231).1).2).1 q240).1 q241).1 q243).2).2).2 q246).2).1 (cI_r ((((((((((((H.1 q229).1 q231).1).2).1 q240).1 q241).1 q243).2).2).2 q246).2).2))))))) (fun q244 => cI_r (((((((H.1 q229).1 q231).1).2).1 q240).1 q241).2 q244))) (fun q242 => cI_r ((((((H.1 q229).1 q231).1).2).1 q240).2 q242))))) trivial)) (fun q247 q248 => ((H.1 q229).1 q231).2 q247 q248)) (fun z => absurd (show ¬ (1 : Int) = (0 : Int) by decide) z)) (fun q232 => And.intro (fun z => absurd z (show ¬ (¬ (0 : Int) = (0 : Int)) by decide)) (fun _ => (H.1 q229).2 q232)))) (fun q230 => And.intro (fun _ => H.2 q230) (fun z => absurd (show (0 : Int) = (0 : Int) by decide) z)))
theorem x141_m {G : Ctx} {h : Nat} {Q : MP} {I : Nat → Nat → Int} {J : Nat → Nat → BitVec 64} {b : B3} {x y z : Int} (hh : 4 ≤ h) (H : ∀ h, 3 ≤ h → Tri G h 141 119 119 0 [some (vr 0), some (vi x), some (vi y), some (vi z)] [] (I, J, PP b) Q) : TriM G h 141 119 119 [vr 0, vi x, vi y, vi z] (I, J, PP b) Q := TriM_intro (h - 1) (by omega) (by decide) (Nat.le_of_ble_eq_true rfl) (Nat.le_refl _) (Nat.le_refl _) (H (h - 1) (by omega))
set_option maxRecDepth 100000 in
theorem x196 {G : Ctx} {h : Nat} {Q : MP} {I : Nat → Nat → Int} {J : Nat → Nat → BitVec 64} {b : B3} {x y z : Int} (hh : 3 ≤ h) (H : (0 ≤ (I 92 3) ∧ (I 92 3) < 1000) ∧ (((0 ≤ x ∧ x < (I 92 3)) → ((0 ≤ (I 92 3) ∧ (I 92 3) < 1000) ∧ (((0 ≤ y ∧ y < (I 92 3)) → ((((0 : Int) ≤ z ∧ z ≤ (1 : Int)) → (((¬ z = 0) → ((0 ≤ x ∧ x < 60) ∧ ((0 ≤ y ∧ y < 60) ∧ (((¬ (I 92 ((220 + 3 * x).toNat)) = (I 92 ((220 + 3 * y).toNat))) → ((0 ≤ x ∧ x < 60) ∧ ((0 ≤ y ∧ y < 60) ∧ ((0 ≤ x ∧ x < 60) ∧ ((0 ≤ y ∧ y < 60) ∧ ((0 ≤ (w32 ((w32 (70 + (w32 (12 * (I 92 ((220 + 3 * x).toNat)))))) + (I 92 ((220 + 3 * y).toNat)))) ∧ (w32 ((w32 (70 + (w32 (12 * (I 92 ((220 + 3 * x).toNat)))))) + (I 92 ((220 + 3 * y).toNat)))) < (5120 : Int)) ∧ (Q (some (vi (w32 ((iDiv (w32 ((w32 ((w32 ((I 92 ((220 + 3 * x + 1).toNat)) + (I 92 ((220 + 3 * y + 1).toNat)))) + (I 92 ((w32 ((w32 (70 + (w32 (12 * (I 92 ((220 + 3 * x).toNat)))))) + (I 92 ((220 + 3 * y).toNat)))).toNat)))) * (I 92 1))) 100) + (I 92 2))))) (I, J, PP b)))))))) ∧ (¬ (¬ (I 92 ((220 + 3 * x).toNat)) = (I 92 ((220 + 3 * y).toNat))) → ((0 ≤ x ∧ x < 60) ∧ ((0 ≤ y ∧ y < 60) ∧ ((0 ≤ (I 92 ((220 + 3 * x + 1).toNat)) ∧ (I 92 ((220 + 3 * x + 1).toNat)) < 1000000 ∧ 0 ≤ (I 92 ((220 + 3 * y + 1).toNat)) ∧ (I 92 ((220 + 3 * y + 1).toNat)) < 1000000) ∧ (Q (some (vi (w32 ((iDiv (w32 ((dist (I 92 ((220 + 3 * x + 1).toNat)) (I 92 ((220 + 3 * y + 1).toNat))) * (I 92 1))) 100) + (I 92 2))))) (I, J, PP b)))))))))) ∧ (¬ (¬ z = 0) → ((0 ≤ x ∧ x < 60) ∧ ((0 ≤ y ∧ y < 60) ∧ (((¬ (I 92 ((220 + 3 * x).toNat)) = (I 92 ((220 + 3 * y).toNat))) → ((0 ≤ x ∧ x < 60) ∧ ((0 ≤ y ∧ y < 60) ∧ ((0 ≤ x ∧ x < 60) ∧ ((0 ≤ y ∧ y < 60) ∧ ((0 ≤ (w32 ((w32 (70 + (w32 (12 * (I 92 ((220 + 3 * x).toNat)))))) + (I 92 ((220 + 3 * y).toNat)))) ∧ (w32 ((w32 (70 + (w32 (12 * (I 92 ((220 + 3 * x).toNat)))))) + (I 92 ((220 + 3 * y).toNat)))) < (5120 : Int)) ∧ (Q (some (vi (w32 ((w32 ((I 92 ((220 + 3 * x + 1).toNat)) + (I 92 ((220 + 3 * y + 1).toNat)))) + (I 92 ((w32 ((w32 (70 + (w32 (12 * (I 92 ((220 + 3 * x).toNat)))))) + (I 92 ((220 + 3 * y).toNat)))).toNat)))))) (I, J, PP b)))))))) ∧ (¬ (¬ (I 92 ((220 + 3 * x).toNat)) = (I 92 ((220 + 3 * y).toNat))) → ((0 ≤ x ∧ x < 60) ∧ ((0 ≤ y ∧ y < 60) ∧ ((0 ≤ (I 92 ((220 + 3 * x + 1).toNat)) ∧ (I 92 ((220 + 3 * x + 1).toNat)) < 1000000 ∧ 0 ≤ (I 92 ((220 + 3 * y + 1).toNat)) ∧ (I 92 ((220 + 3 * y + 1).toNat)) < 1000000) ∧ (Q (some (vi (dist (I 92 ((220 + 3 * x + 1).toNat)) (I 92 ((220 + 3 * y + 1).toNat))))) (I, J, PP b)))))))))))) ∧ (¬ ((0 : Int) ≤ z ∧ z ≤ (1 : Int)) → (Q (some (vi (-1))) (I, J, PP b))))) ∧ (¬ (0 ≤ y ∧ y < (I 92 3)) → (Q (some (vi (-1))) (I, J, PP b)))))) ∧ (¬ (0 ≤ x ∧ x < (I 92 3)) → (Q (some (vi (-1))) (I, J, PP b))))) : Tri G h 196 119 119 0 [some (vr 91), some (vi x), some (vi y), some (vi z)] [] (I, J, PP b) Q := wp_at ck196 [] 400 (sx185 (by omega) H.1 (fun q249 => And.intro (fun z => absurd z (show ¬ ((1 : Int) = (0 : Int)) by decide)) (fun _ => sx185 (by omega) (H.2.1 q249).1 (fun q251 => And.intro (fun z => absurd z (show ¬ ((1 : Int) = (0 : Int)) by decide)) (fun _ => sx181 (by omega)  (fun q253 => And.intro (fun _ => And.intro (fun q255 => x195_m (by omega) (fun h hh => x195 hh (And.intro (((((H.2.1 q249).2).1 q251).1 q253).1 q255).1 (And.intro ((((((H.2.1 q249).2).1 q251).1 q253).1 q255).2).1 (And.intro (fun q257 => And.intro ((((((((H.2.1 q249).2).1 q251).1 q253).1 q255).2).2).1 q257).1 (And.intro (((((((((H.2.1 q249).2).1 q251).1 q253).1 q255).2).2).1 q257).2).1 (And.intro ((((((((((H.2.1 q249).2).1 q251).1 q253).1 q255).2).2).1 q257).2).2).1 (And.intro (((((((((((H.2.1 q249).2).1 q251).1 q253).1 q255).2).2).1 q257).2).2).2).1 (And.intro ((((((((((((H.2.1 q249).2).1 q251).1 q253).1 q255).2).2).1 q257).2).2).2).2).1 (cI_r (((((((((((((H.2.1 q249).2).1 q251).1 q253).1 q255).2).2).1 q257).2).2).2).2).2))))))) (fun q258 => And.intro ((((((((H.2.1 q249).2).1 q251).1 q253).1 q255).2).2).2 q258).1 (And.intro (((((((((H.2.1 q249).2).1 q251).1 q253).1 q255).2).2).2 q258).2).1 (And.intro ((((((((((H.2.1 q249).2).1 q251).1 q253).1 q255).2).2).2 q258).2).2).1 (cI_r (((((((((((H.2.1 q249).2).1 q251).1 q253).1 q255).2).2).2 q258).2).2).2)))))))))) (fun q256 => x194_m (by omega) (fun h hh => x194 hh (And.intro (((((H.2.1 q249).2).1 q251).1 q253).2 q256).1 (And.intro ((((((H.2.1 q249).2).1 q251).1 q253).2 q256).2).1 (And.intro (fun q259 => And.intro ((((((((H.2.1 q249).2).1 q251).1 q253).2 q256).2).2).1 q259).1 (And.intro (((((((((H.2.1 q249).2).1 q251).1 q253).2 q256).2).2).1 q259).2).1 (And.intro ((((((((((H.2.1 q249).2).1 q251).1 q253).2 q256).2).2).1 q259).2).2).1 (And.intro (((((((((((H.2.1 q249).2).1 q251).1 q253).2 q256).2).2).1 q259).2).2).2).1 (And.intro ((((((((((((H.2.1 q249).2).1 q251).1 q253).2 q256).2).2).1 q259).2).2).2).2).1 (cI_r (((((((((((((H.2.1 q249).2).1 q251).1 q253).2 q256).2).2).1 q259).2).2).2).2).2))))))) (fun q260 => And.intro ((((((((H.2.1 q249).2).1 q251).1 q253).2 q256).2).2).2 q260).1 (And.intro (((((((((H.2.1 q249).2).1 q251).1 q253).2 q256).2).2).2 q260).2).1 (And.intro ((((((((((H.2.1 q249).2).1 q251).1 q253).2 q256).2).2).2 q260).2).2).1 (cI_r (((((((((((H.2.1 q249).2).1 q251).1 q253).2 q256).2).2).2 q260).2).2).2))))))))))) (fun z => absurd (show ¬ (1 : Int) = (0 : Int) by decide) z)) (fun q254 => And.intro (fun z => absurd z (show ¬ (¬ (0 : Int) = (0 : Int)) by decide)) (fun _ => (((H.2.1 q249).2).1 q251).2 q254)))) (fun q252 => And.intro (fun _ => ((H.2.1 q249).2).2 q252) (fun z => absurd (show (0 : Int) = (0 : Int) by decide) z)))) (fun q250 => And.intro (fun _ => H.2.2 q250) (fun z => absurd (show (0 : Int) = (0 : Int) by decide) z)))
theorem x196_m {G : Ctx} {h : Nat} {Q : MP} {I : Nat → Nat → Int} {J : Nat → Nat → BitVec 64} {b : B3} {x y z : Int} (hh : 4 ≤ h) (H : ∀ h, 3 ≤ h → Tri G h 196 119 119 0 [some (vr 91), some (vi x), some (vi y), some (vi z)] [] (I, J, PP b) Q) : TriM G h 196 119 119 [vr 91, vi x, vi y, vi z] (I, J, PP b) Q := TriM_intro (h - 1) (by omega) (by decide) (Nat.le_of_ble_eq_true rfl) (Nat.le_refl _) (Nat.le_refl _) (H (h - 1) (by omega))
set_option maxRecDepth 100000 in
theorem x144 {G : Ctx} {h : Nat} {Q : MP} {I : Nat → Nat → Int} {J : Nat → Nat → BitVec 64} {b : B3} {x : Int} (hh : 0 ≤ h) (H : ((x < 0) → (Q (some (vi 0)) (I, J, PP b))) ∧ (¬ (x < 0) → (((x ≤ (I 0 4)) → (Q (some (vi 1)) (u2 I 0 4 x, J, PP b))) ∧ (¬ (x ≤ (I 0 4)) → (Q (some (vi 0)) (I, J, PP b)))))) : Tri G h 144 119 119 0 [some (vr 0), some (vi x)] [] (I, J, PP b) Q := wp_at ck144 [] 400 (And.intro (fun q261 => And.intro (show (0 : Int) = 0 ∨ (0 : Int) = 1 by decide) (H.1 q261)) (fun q262 => And.intro (fun q263 => And.intro (show (1 : Int) = 0 ∨ (1 : Int) = 1 by decide) ((H.2 q262).1 q263)) (fun q264 => And.intro (show (0 : Int) = 0 ∨ (0 : Int) = 1 by decide) ((H.2 q262).2 q264))))
theorem x144_m {G : Ctx} {h : Nat} {Q : MP} {I : Nat → Nat → Int} {J : Nat → Nat → BitVec 64} {b : B3} {x : Int} (hh : 1 ≤ h) (H : ∀ h, 0 ≤ h → Tri G h 144 119 119 0 [some (vr 0), some (vi x)] [] (I, J, PP b) Q) : TriM G h 144 119 119 [vr 0, vi x] (I, J, PP b) Q := TriM_intro (h - 1) (by omega) (by decide) (Nat.le_of_ble_eq_true rfl) (Nat.le_refl _) (Nat.le_refl _) (H (h - 1) (by omega))
set_option maxRecDepth 100000 in
theorem x198 {G : Ctx} {h : Nat} {Q : MP} {I : Nat → Nat → Int} {J : Nat → Nat → BitVec 64} {b : B3} {x : Int} (hh : 1 ≤ h) (H : (((0 : Int) ≤ x ∧ x ≤ (I 91 11)) → (Q (some (vi 1)) (u2 I 91 11 x, J, PP b))) ∧ (¬ ((0 : Int) ≤ x ∧ x ≤ (I 91 11)) → (Q (some (vi 0)) (I, J, PP b)))) : Tri G h 198 119 119 0 [some (vr 91), some (vi x)] [] (I, J, PP b) Q := wp_at ck198 [] 400 (sx181 (by omega)  (fun q265 => And.intro (fun _ => And.intro (show (1 : Int) = 0 ∨ (1 : Int) = 1 by decide) (H.1 q265)) (fun z => absurd (show ¬ (1 : Int) = (0 : Int) by decide) z)) (fun q266 => And.intro (fun z => absurd z (show ¬ (¬ (0 : Int) = (0 : Int)) by decide)) (fun _ => And.intro (show (0 : Int) = 0 ∨ (0 : Int) = 1 by decide) (H.2 q266))))
theorem x198_m {G : Ctx} {h : Nat} {Q : MP} {I : Nat → Nat → Int} {J : Nat → Nat → BitVec 64} {b : B3} {x : Int} (hh : 2 ≤ h) (H : ∀ h, 1 ≤ h → Tri G h 198 119 119 0 [some (vr 91), some (vi x)] [] (I, J, PP b) Q) : TriM G h 198 119 119 [vr 91, vi x] (I, J, PP b) Q := TriM_intro (h - 1) (by omega) (by decide) (Nat.le_of_ble_eq_true rfl) (Nat.le_refl _) (Nat.le_refl _) (H (h - 1) (by omega))
set_option maxRecDepth 100000 in
theorem x146 {G : Ctx} {h : Nat} {Q : MP} {I : Nat → Nat → Int} {J : Nat → Nat → BitVec 64} {b : B3} {x : Int} (hh : 0 ≤ h) (H : ((x = 0 → (Q (some (vi (I 0 5))) (I, J, PP b))) ∧ (x = 1 → (Q (some (vi (I 0 6))) (I, J, PP b))) ∧ True) ∧ (¬ x = 0 → ¬ x = 1 → (Q (some (vi (-1))) (I, J, PP b)))) : Tri G h 146 119 119 0 [some (vr 0), some (vi x)] [] (I, J, PP b) Q := wp_at ck146 [] 400 H
theorem x146_m {G : Ctx} {h : Nat} {Q : MP} {I : Nat → Nat → Int} {J : Nat → Nat → BitVec 64} {b : B3} {x : Int} (hh : 1 ≤ h) (H : ∀ h, 0 ≤ h → Tri G h 146 119 119 0 [some (vr 0), some (vi x)] [] (I, J, PP b) Q) : TriM G h 146 119 119 [vr 0, vi x] (I, J, PP b) Q := TriM_intro (h - 1) (by omega) (by decide) (Nat.le_of_ble_eq_true rfl) (Nat.le_refl _) (Nat.le_refl _) (H (h - 1) (by omega))
set_option maxRecDepth 100000 in
theorem x219 {G : Ctx} {h : Nat} {Q : MP} {I : Nat → Nat → Int} {J : Nat → Nat → BitVec 64} {b : B3} {x : Int} (hh : 0 ≤ h) (H : ((¬ x = 0) → (((¬ x = 1) → (Q (some (vi (-1))) (I, J, PP b))) ∧ (¬ (¬ x = 1) → (Q (some (vi (I 91 20))) (I, J, PP b))))) ∧ (¬ (¬ x = 0) → (Q (some (vi (I 91 18))) (I, J, PP b)))) : Tri G h 219 119 119 0 [some (vr 91), some (vi x)] [] (I, J, PP b) Q := wp_at ck219 [] 400 H
theorem x219_m {G : Ctx} {h : Nat} {Q : MP} {I : Nat → Nat → Int} {J : Nat → Nat → BitVec 64} {b : B3} {x : Int} (hh : 1 ≤ h) (H : ∀ h, 0 ≤ h → Tri G h 219 119 119 0 [some (vr 91), some (vi x)] [] (I, J, PP b) Q) : TriM G h 219 119 119 [vr 91, vi x] (I, J, PP b) Q := TriM_intro (h - 1) (by omega) (by decide) (Nat.le_of_ble_eq_true rfl) (Nat.le_refl _) (Nat.le_refl _) (H (h - 1) (by omega))
set_option maxRecDepth 100000 in
theorem x149 {G : Ctx} {h : Nat} {Q : MP} {I : Nat → Nat → Int} {J : Nat → Nat → BitVec 64} {b : B3} {x : Int} (hh : 2 ≤ h) (H : ((0 ≤ x ∧ x < (I 7 0)) → (((0 ≤ x ∧ x < (I 7 0)) → ((0 ≤ x ∧ x < (120 : Int)) ∧ ((((I 10 x.toNat) = (-1)) → (((0 ≤ x ∧ x < (I 7 0)) → ((0 ≤ x ∧ x < (120 : Int)) ∧ (Q (some (vi 1)) (u2 (u2 (u2 I 7 1 (w32 ((I 7 1) + 1))) 10 x.toNat (w32 ((I 7 1) + 1))) 72 3 1, J, PP b)))) ∧ (¬ (0 ≤ x ∧ x < (I 7 0)) → (Q (some (vi 1)) (u2 I 72 3 1, J, PP b))))) ∧ (¬ ((I 10 x.toNat) = (-1)) → (Q (some (vi 0)) (I, J, PP b)))))) ∧ (¬ (0 ≤ x ∧ x < (I 7 0)) → (((0 ≤ x ∧ x < (I 7 0)) → ((0 ≤ x ∧ x < (120 : Int)) ∧ (Q (some (vi 1)) (u2 (u2 (u2 I 7 1 (w32 ((I 7 1) + 1))) 10 x.toNat (w32 ((I 7 1) + 1))) 72 3 1, J, PP b)))) ∧ (¬ (0 ≤ x ∧ x < (I 7 0)) → (Q (some (vi 1)) (u2 I 72 3 1, J, PP b))))))) ∧ (¬ (0 ≤ x ∧ x < (I 7 0)) → (Q (some (vi 0)) (I, J, PP b)))) : Tri G h 149 119 119 0 [some (vr 0), some (vi x)] [] (I, J, PP b) Q := wp_at ck149 [] 400 (sx172 (by omega)  (fun q267 => And.intro (fun z => absurd z (show ¬ ((1 : Int) = (0 : Int)) by decide)) (fun _ => x26_m (by omega) (fun h hh => x26 hh (And.intro (fun q269 => And.intro ((H.1 q267).1 q269).1 (And.intro (fun q271 => cI_r (And.intro (fun _ => x25_m (by omega) (fun h hh => x25 hh (And.intro (fun q273 => And.intro (((((H.1 q267).1 q269).2).1 q271).1 q273).1 (cV_r (x80_m (by omega) (fun h hh => x80 hh (cV_r (And.intro (show (1 : Int) = 0 ∨ (1 : Int) = 1 by decide) ((((((H.1 q267).1 q269).2).1 q271).1 q273).2))))))) (fun q274 => cV_r (x80_m (by omega) (fun h hh => x80 hh (cV_r (And.intro (show (1 : Int) = 0 ∨ (1 : Int) = 1 by decide) (((((H.1 q267).1 q269).2).1 q271).2 q274))))))))) (fun z => absurd (show (0 : Int) = (0 : Int) by decide) z))) (fun q272 => cI_r (And.intro (fun z => absurd z (show ¬ ((1 : Int) = (0 : Int)) by decide)) (fun _ => And.intro (show (0 : Int) = 0 ∨ (0 : Int) = 1 by decide) ((((H.1 q267).1 q269).2).2 q272)))))) (fun q270 => cI_r (And.intro (fun _ => x25_m (by omega) (fun h hh => x25 hh (And.intro (fun q275 => And.intro (((H.1 q267).2 q270).1 q275).1 (cV_r (x80_m (by omega) (fun h hh => x80 hh (cV_r (And.intro (show (1 : Int) = 0 ∨ (1 : Int) = 1 by decide) ((((H.1 q267).2 q270).1 q275).2))))))) (fun q276 => cV_r (x80_m (by omega) (fun h hh => x80 hh (cV_r (And.intro (show (1 : Int) = 0 ∨ (1 : Int) = 1 by decide) (((H.1 q267).2 q270).2 q276))))))))) (fun z => absurd (show (0 : Int) = (0 : Int) by decide) z))))))) (fun q268 => And.intro (fun _ => And.intro (show (0 : Int) = 0 ∨ (0 : Int) = 1 by decide) (H.2 q268)) (fun z => absurd (show (0 : Int) = (0 : Int) by decide) z)))
theorem x149_m {G : Ctx} {h : Nat} {Q : MP} {I : Nat → Nat → Int} {J : Nat → Nat → BitVec 64} {b : B3} {x : Int} (hh : 3 ≤ h) (H : ∀ h, 2 ≤ h → Tri G h 149 119 119 0 [some (vr 0), some (vi x)] [] (I, J, PP b) Q) : TriM G h 149 119 119 [vr 0, vi x] (I, J, PP b) Q := TriM_intro (h - 1) (by omega) (by decide) (Nat.le_of_ble_eq_true rfl) (Nat.le_refl _) (Nat.le_refl _) (H (h - 1) (by omega))
set_option maxRecDepth 100000 in
theorem x223 {G : Ctx} {h : Nat} {Q : MP} {I : Nat → Nat → Int} {J : Nat → Nat → BitVec 64} {b : B3} {x : Int} (hh : 2 ≤ h) (H : (0 ≤ (I 92 4) ∧ (I 92 4) < 1000) ∧ (((0 ≤ x ∧ x < (I 92 4)) → ((0 ≤ x ∧ x < 120 ∧ 0 ≤ (7 : Int) ∧ (7 : Int) < 17) ∧ ((((I 92 ((450 + 17 * x + (7 : Int)).toNat)) ≤ 0) → ((0 ≤ (w32 ((w32 (450 + (w32 (17 * x)))) + 7)) ∧ (w32 ((w32 (450 + (w32 (17 * x)))) + 7)) < (5120 : Int)) ∧ (Q (some (vi 1)) (u2 (u2 I 92 5 (w32 ((I 92 5) + 1))) 92 ((w32 ((w32 (450 + (w32 (17 * x)))) + 7)).toNat) (w32 ((I 92 5) + 1)), J, PP b)))) ∧ (¬ ((I 92 ((450 + 17 * x + (7 : Int)).toNat)) ≤ 0) → (Q (some (vi 0)) (I, J, PP b)))))) ∧ (¬ (0 ≤ x ∧ x < (I 92 4)) → (Q (some (vi 0)) (I, J, PP b))))) : Tri G h 223 119 119 0 [some (vr 91), some (vi x)] [] (I, J, PP b) Q := wp_at ck223 [] 400 (sx187 (by omega) H.1 (fun q277 => And.intro (fun z => absurd z (show ¬ ((1 : Int) = (0 : Int)) by decide)) (fun _ => sx188 (by omega) (H.2.1 q277).1 (And.intro (fun q279 => And.intro (show (0 : Int) ≤ 5 ∧ (5 : Int) < ((5120 : Nat) : Int) by decide) (And.intro (show (0 : Int) ≤ 5 ∧ (5 : Int) < ((5120 : Nat) : Int) by decide) (And.intro (show (0 : Int) ≤ 5 ∧ (5 : Int) < ((5120 : Nat) : Int) by decide) (And.intro (((H.2.1 q277).2).1 q279).1 (And.intro (show (1 : Int) = 0 ∨ (1 : Int) = 1 by decide) ((((H.2.1 q277).2).1 q279).2)))))) (fun q280 => And.intro (show (0 : Int) = 0 ∨ (0 : Int) = 1 by decide) (((H.2.1 q277).2).2 q280))))) (fun q278 => And.intro (fun _ => And.intro (show (0 : Int) = 0 ∨ (0 : Int) = 1 by decide) (H.2.2 q278)) (fun z => absurd (show (0 : Int) = (0 : Int) by decide) z)))
theorem x223_m {G : Ctx} {h : Nat} {Q : MP} {I : Nat → Nat → Int} {J : Nat → Nat → BitVec 64} {b : B3} {x : Int} (hh : 3 ≤ h) (H : ∀ h, 2 ≤ h → Tri G h 223 119 119 0 [some (vr 91), some (vi x)] [] (I, J, PP b) Q) : TriM G h 223 119 119 [vr 91, vi x] (I, J, PP b) Q := TriM_intro (h - 1) (by omega) (by decide) (Nat.le_of_ble_eq_true rfl) (Nat.le_refl _) (Nat.le_refl _) (H (h - 1) (by omega))
set_option maxRecDepth 100000 in
theorem x150 {G : Ctx} {h : Nat} {Q : MP} {I : Nat → Nat → Int} {J : Nat → Nat → BitVec 64} {b : B3} {x : Int} (hh : 1 ≤ h) (H : ((x < (-1)) → (Q (some (vi 0)) (I, J, PP b))) ∧ (¬ (x < (-1)) → (((x ≤ (I 7 1)) → (Q (some (vi 1)) (u2 (u2 I 7 2 x) 72 3 1, J, PP b))) ∧ (¬ (x ≤ (I 7 1)) → (Q (some (vi 0)) (I, J, PP b)))))) : Tri G h 150 119 119 0 [some (vr 0), some (vi x)] [] (I, J, PP b) Q := wp_at ck150 [] 400 (And.intro (fun q281 => And.intro (show (0 : Int) = 0 ∨ (0 : Int) = 1 by decide) (H.1 q281)) (fun q282 => And.intro (fun q283 => x80_m (by omega) (fun h hh => x80 hh (cV_r (And.intro (show (1 : Int) = 0 ∨ (1 : Int) = 1 by decide) ((H.2 q282).1 q283))))) (fun q284 => And.intro (show (0 : Int) = 0 ∨ (0 : Int) = 1 by decide) ((H.2 q282).2 q284))))
theorem x150_m {G : Ctx} {h : Nat} {Q : MP} {I : Nat → Nat → Int} {J : Nat → Nat → BitVec 64} {b : B3} {x : Int} (hh : 2 ≤ h) (H : ∀ h, 1 ≤ h → Tri G h 150 119 119 0 [some (vr 0), some (vi x)] [] (I, J, PP b) Q) : TriM G h 150 119 119 [vr 0, vi x] (I, J, PP b) Q := TriM_intro (h - 1) (by omega) (by decide) (Nat.le_of_ble_eq_true rfl) (Nat.le_refl _) (Nat.le_refl _) (H (h - 1) (by omega))
set_option maxRecDepth 100000 in
theorem x224 {G : Ctx} {h : Nat} {Q : MP} {I : Nat → Nat → Int} {J : Nat → Nat → BitVec 64} {b : B3} {x : Int} (hh : 1 ≤ h) (H : ((((-1) : Int) ≤ x ∧ x ≤ (I 92 5)) → (Q (some (vi 1)) (u2 I 92 6 x, J, PP b))) ∧ (¬ (((-1) : Int) ≤ x ∧ x ≤ (I 92 5)) → (Q (some (vi 0)) (I, J, PP b)))) : Tri G h 224 119 119 0 [some (vr 91), some (vi x)] [] (I, J, PP b) Q := wp_at ck224 [] 400 (And.intro (show (0 : Int) ≤ 5 ∧ (5 : Int) < ((5120 : Nat) : Int) by decide) (sx181 (by omega)  (fun q285 => And.intro (fun _ => And.intro (show (0 : Int) ≤ 6 ∧ (6 : Int) < ((5120 : Nat) : Int) by decide) (And.intro (show (1 : Int) = 0 ∨ (1 : Int) = 1 by decide) (H.1 q285))) (fun z => absurd (show ¬ (1 : Int) = (0 : Int) by decide) z)) (fun q286 => And.intro (fun z => absurd z (show ¬ (¬ (0 : Int) = (0 : Int)) by decide)) (fun _ => And.intro (show (0 : Int) = 0 ∨ (0 : Int) = 1 by decide) (H.2 q286)))))
theorem x224_m {G : Ctx} {h : Nat} {Q : MP} {I : Nat → Nat → Int} {J : Nat → Nat → BitVec 64} {b : B3} {x : Int} (hh : 2 ≤ h) (H : ∀ h, 1 ≤ h → Tri G h 224 119 119 0 [some (vr 91), some (vi x)] [] (I, J, PP b) Q) : TriM G h 224 119 119 [vr 91, vi x] (I, J, PP b) Q := TriM_intro (h - 1) (by omega) (by decide) (Nat.le_of_ble_eq_true rfl) (Nat.le_refl _) (Nat.le_refl _) (H (h - 1) (by omega))
set_option maxRecDepth 100000 in
theorem x161 {G : Ctx} {h : Nat} {Q : MP} {I : Nat → Nat → Int} {J : Nat → Nat → BitVec 64} {b : B3} {x y z : Int} (hh : 2 ≤ h) (H : ((x < 0) → (Q (some (vi (-1))) (I, J, PP b))) ∧ (¬ (x < 0) → ((((I 22 0) < x) → (Q (some (vi (-1))) (I, J, PP b))) ∧ (¬ ((I 22 0) < x) → (((24 ≤ x) → (Q (some (vi (-1))) (I, J, PP b))) ∧ (¬ (24 ≤ x) → (((0 ≤ y ∧ y < (I 2 0)) → (((0 ≤ z ∧ z < (1440 : Int)) → (((0 ≤ x ∧ x < (24 : Int)) → ((0 ≤ x ∧ x < (24 : Int)) ∧ ((0 ≤ x ∧ x < (24 : Int)) ∧ (Q (some (vi (w32 (x + 1)))) (u2 (u2 (u2 I 23 x.toNat y) 24 x.toNat z) 22 0 (w32 (x + 1)), J, PP b))))) ∧ (¬ (0 ≤ x ∧ x < (24 : Int)) → (Q (some (vi (I 22 0))) (I, J, PP b))))) ∧ (¬ (0 ≤ z ∧ z < (1440 : Int)) → (Q (some (vi (-1))) (I, J, PP b))))) ∧ (¬ (0 ≤ y ∧ y < (I 2 0)) → (Q (some (vi (-1))) (I, J, PP b)))))))))) : Tri G h 161 119 119 0 [some (vr 0), some (vi x), some (vi y), some (vi z)] [] (I, J, PP b) Q := wp_at ck161 [] 400 (And.intro (fun q287 => And.intro (fun _ => H.1 q287) (fun z => absurd (show (0 : Int) = (0 : Int) by decide) z)) (fun q288 => And.intro (fun q289 => And.intro (fun _ => (H.2 q288).1 q289) (fun z => absurd (show (0 : Int) = (0 : Int) by decide) z)) (fun q290 => And.intro (fun q291 => And.intro (fun _ => ((H.2 q288).2 q290).1 q291) (fun z => absurd (show (0 : Int) = (0 : Int) by decide) z)) (fun q292 => And.intro (fun z => absurd z (show ¬ ((1 : Int) = (0 : Int)) by decide)) (fun _ => sx172 (by omega)  (fun q293 => And.intro (fun z => absurd z (show ¬ ((1 : Int) = (0 : Int)) by decide)) (fun _ => sx172 (by omega)  (fun q295 => And.intro (fun _ => x99_m (by omega) (fun h hh => x99 hh (And.intro (fun q297 => And.intro ((((((H.2 q288).2 q290).2 q292).1 q293).1 q295).1 q297).1 (And.intro (((((((H.2 q288).2 q290).2 q292).1 q293).1 q295).1 q297).2).1 (cI_r ((((((((H.2 q288).2 q290).2 q292).1 q293).1 q295).1 q297).2).2)))) (fun q298 => cI_r ((((((H.2 q288).2 q290).2 q292).1 q293).1 q295).2 q298))))) (fun z => absurd (show ¬ (1 : Int) = (0 : Int) by decide) z)) (fun q296 => And.intro (fun z => absurd z (show ¬ (¬ (0 : Int) = (0 : Int)) by decide)) (fun _ => ((((H.2 q288).2 q290).2 q292).1 q293).2 q296)))) (fun q294 => And.intro (fun _ => (((H.2 q288).2 q290).2 q292).2 q294) (fun z => absurd (show (0 : Int) = (0 : Int) by decide) z)))))))
theorem x161_m {G : Ctx} {h : Nat} {Q : MP} {I : Nat → Nat → Int} {J : Nat → Nat → BitVec 64} {b : B3} {x y z : Int} (hh : 3 ≤ h) (H : ∀ h, 2 ≤ h → Tri G h 161 119 119 0 [some (vr 0), some (vi x), some (vi y), some (vi z)] [] (I, J, PP b) Q) : TriM G h 161 119 119 [vr 0, vi x, vi y, vi z] (I, J, PP b) Q := TriM_intro (h - 1) (by omega) (by decide) (Nat.le_of_ble_eq_true rfl) (Nat.le_refl _) (Nat.le_refl _) (H (h - 1) (by omega))
set_option maxRecDepth 100000 in
theorem x253 {G : Ctx} {h : Nat} {Q : MP} {I : Nat → Nat → Int} {J : Nat → Nat → BitVec 64} {b : B3} {x y z : Int} (hh : 2 ≤ h) (H : (((0 : Int) ≤ x ∧ x ≤ (I 92 7)) → (((x = 24) → (Q (some (vi (-1))) (I, J, PP b))) ∧ (¬ (x = 24) → ((0 ≤ (I 92 3) ∧ (I 92 3) < 1000) ∧ (((0 ≤ y ∧ y < (I 92 3)) → ((((0 : Int) ≤ z ∧ z ≤ (1439 : Int)) → ((0 ≤ (w32 (400 + (w32 (2 * x)))) ∧ (w32 (400 + (w32 (2 * x)))) < (5120 : Int)) ∧ ((0 ≤ (w32 ((w32 (400 + (w32 (2 * x)))) + 1)) ∧ (w32 ((w32 (400 + (w32 (2 * x)))) + 1)) < (5120 : Int)) ∧ (Q (some (vi (w32 (x + 1)))) (u2 (u2 (u2 I 92 ((w32 (400 + (w32 (2 * x)))).toNat) y) 92 ((w32 ((w32 (400 + (w32 (2 * x)))) + 1)).toNat) z) 92 7 (w32 (x + 1)), J, PP b))))) ∧ (¬ ((0 : Int) ≤ z ∧ z ≤ (1439 : Int)) → (Q (some (vi (-1))) (I, J, PP b))))) ∧ (¬ (0 ≤ y ∧ y < (I 92 3)) → (Q (some (vi (-1))) (I, J, PP b)))))))) ∧ (¬ ((0 : Int) ≤ x ∧ x ≤ (I 92 7)) → (Q (some (vi (-1))) (I, J, PP b)))) : Tri G h 253 119 119 0 [some (vr 91), some (vi x), some (vi y), some (vi z)] [] (I, J, PP b) Q := wp_at ck253 [] 400 (And.intro (show (0 : Int) ≤ 7 ∧ (7 : Int) < ((5120 : Nat) : Int) by decide) (sx181 (by omega)  (fun q299 => And.intro (fun z => absurd z (show ¬ ((1 : Int) = (0 : Int)) by decide)) (fun _ => And.intro (fun q301 => (H.1 q299).1 q301) (fun q302 => sx185 (by omega) ((H.1 q299).2 q302).1 (fun q303 => And.intro (fun z => absurd z (show ¬ ((1 : Int) = (0 : Int)) by decide)) (fun _ => sx181 (by omega)  (fun q305 => And.intro (fun _ => And.intro (((((H.1 q299).2 q302).2).1 q303).1 q305).1 (And.intro ((((((H.1 q299).2 q302).2).1 q303).1 q305).2).1 (And.intro (show (0 : Int) ≤ 7 ∧ (7 : Int) < ((5120 : Nat) : Int) by decide) (And.intro (show (0 : Int) ≤ 7 ∧ (7 : Int) < ((5120 : Nat) : Int) by decide) (((((((H.1 q299).2 q302).2).1 q303).1 q305).2).2))))) (fun z => absurd (show ¬ (1 : Int) = (0 : Int) by decide) z)) (fun q306 => And.intro (fun z => absurd z (show ¬ (¬ (0 : Int) = (0 : Int)) by decide)) (fun _ => ((((H.1 q299).2 q302).2).1 q303).2 q306)))) (fun q304 => And.intro (fun _ => (((H.1 q299).2 q302).2).2 q304) (fun z => absurd (show (0 : Int) = (0 : Int) by decide) z))))) (fun q300 => And.intro (fun _ => H.2 q300) (fun z => absurd (show (0 : Int) = (0 : Int) by decide) z))))
theorem x253_m {G : Ctx} {h : Nat} {Q : MP} {I : Nat → Nat → Int} {J : Nat → Nat → BitVec 64} {b : B3} {x y z : Int} (hh : 3 ≤ h) (H : ∀ h, 2 ≤ h → Tri G h 253 119 119 0 [some (vr 91), some (vi x), some (vi y), some (vi z)] [] (I, J, PP b) Q) : TriM G h 253 119 119 [vr 91, vi x, vi y, vi z] (I, J, PP b) Q := TriM_intro (h - 1) (by omega) (by decide) (Nat.le_of_ble_eq_true rfl) (Nat.le_refl _) (Nat.le_refl _) (H (h - 1) (by omega))
set_option maxRecDepth 100000 in
theorem x164 {G : Ctx} {h : Nat} {Q : MP} {I : Nat → Nat → Int} {J : Nat → Nat → BitVec 64} {b : B3} {x y z : Int} (hh : 2 ≤ h) (H : ((0 ≤ x ∧ x < (5 : Int)) → (((0 ≤ y ∧ y < (4 : Int)) → (((0 ≤ x ∧ x < (5 : Int)) → (((0 ≤ y ∧ y < (4 : Int)) → ((0 ≤ (w32 ((w32 (x * 4)) + y)) ∧ (w32 ((w32 (x * 4)) + y)) < (20 : Int)) ∧ ((z = 0 ∨ z = 1) ∧ (Q (some (vi 1)) (u2 I 28 ((w32 ((w32 (x * 4)) + y)).toNat) z, J, PP b))))) ∧ (¬ (0 ≤ y ∧ y < (4 : Int)) → (Q (some (vi 1)) (I, J, PP b))))) ∧ (¬ (0 ≤ x ∧ x < (5 : Int)) → (Q (some (vi 1)) (I, J, PP b))))) ∧ (¬ (0 ≤ y ∧ y < (4 : Int)) → (Q (some (vi 0)) (I, J, PP b))))) ∧ (¬ (0 ≤ x ∧ x < (5 : Int)) → (Q (some (vi 0)) (I, J, PP b)))) : Tri G h 164 119 119 0 [some (vr 0), some (vi x), some (vi y), some (vi z)] [] (I, J, PP b) Q := wp_at ck164 [] 400 (sx172 (by omega)  (fun q307 => And.intro (fun z => absurd z (show ¬ ((1 : Int) = (0 : Int)) by decide)) (fun _ => sx172 (by omega)  (fun q309 => And.intro (fun _ => x52_m (by omega) (fun h hh => x52 hh (And.intro (fun q311 => And.intro (fun q313 => And.intro ((((H.1 q307).1 q309).1 q311).1 q313).1 (And.intro (((((H.1 q307).1 q309).1 q311).1 q313).2).1 (cV_r (And.intro (show (1 : Int) = 0 ∨ (1 : Int) = 1 by decide) ((((((H.1 q307).1 q309).1 q311).1 q313).2).2))))) (fun q314 => cV_r (And.intro (show (1 : Int) = 0 ∨ (1 : Int) = 1 by decide) ((((H.1 q307).1 q309).1 q311).2 q314)))) (fun q312 => cV_r (And.intro (show (1 : Int) = 0 ∨ (1 : Int) = 1 by decide) (((H.1 q307).1 q309).2 q312)))))) (fun z => absurd (show ¬ (1 : Int) = (0 : Int) by decide) z)) (fun q310 => And.intro (fun z => absurd z (show ¬ (¬ (0 : Int) = (0 : Int)) by decide)) (fun _ => And.intro (show (0 : Int) = 0 ∨ (0 : Int) = 1 by decide) ((H.1 q307).2 q310))))) (fun q308 => And.intro (fun _ => And.intro (show (0 : Int) = 0 ∨ (0 : Int) = 1 by decide) (H.2 q308)) (fun z => absurd (show (0 : Int) = (0 : Int) by decide) z)))
theorem x164_m {G : Ctx} {h : Nat} {Q : MP} {I : Nat → Nat → Int} {J : Nat → Nat → BitVec 64} {b : B3} {x y z : Int} (hh : 3 ≤ h) (H : ∀ h, 2 ≤ h → Tri G h 164 119 119 0 [some (vr 0), some (vi x), some (vi y), some (vi z)] [] (I, J, PP b) Q) : TriM G h 164 119 119 [vr 0, vi x, vi y, vi z] (I, J, PP b) Q := TriM_intro (h - 1) (by omega) (by decide) (Nat.le_of_ble_eq_true rfl) (Nat.le_refl _) (Nat.le_refl _) (H (h - 1) (by omega))
set_option maxRecDepth 100000 in
theorem x258 {G : Ctx} {h : Nat} {Q : MP} {I : Nat → Nat → Int} {J : Nat → Nat → BitVec 64} {b : B3} {x y z : Int} (hh : 1 ≤ h) (H : (((0 : Int) ≤ x ∧ x ≤ (4 : Int)) → ((((0 : Int) ≤ y ∧ y ≤ (3 : Int)) → (((z = 0) → ((0 ≤ (w32 ((w32 (21 + (w32 (4 * x)))) + y)) ∧ (w32 ((w32 (21 + (w32 (4 * x)))) + y)) < (5120 : Int)) ∧ (Q (some (vi 1)) (u2 I 92 ((w32 ((w32 (21 + (w32 (4 * x)))) + y)).toNat) 0, J, PP b)))) ∧ (¬ (z = 0) → ((0 ≤ (w32 ((w32 (21 + (w32 (4 * x)))) + y)) ∧ (w32 ((w32 (21 + (w32 (4 * x)))) + y)) < (5120 : Int)) ∧ (Q (some (vi 1)) (u2 I 92 ((w32 ((w32 (21 + (w32 (4 * x)))) + y)).toNat) 1, J, PP b)))))) ∧ (¬ ((0 : Int) ≤ y ∧ y ≤ (3 : Int)) → (Q (some (vi 0)) (I, J, PP b))))) ∧ (¬ ((0 : Int) ≤ x ∧ x ≤ (4 : Int)) → (Q (some (vi 0)) (I, J, PP b)))) : Tri G h 258 119 119 0 [some (vr 91), some (vi x), some (vi y), some (vi z)] [] (I, J, PP b) Q := wp_at ck258 [] 400 (sx181 (by omega)  (fun q315 => And.intro (fun z => absurd z (show ¬ ((1 : Int) = (0 : Int)) by decide)) (fun _ => sx181 (by omega)  (fun q317 => And.intro (fun _ => And.intro (fun q319 => And.intro (((H.1 q315).1 q317).1 q319).1 (And.intro (show (1 : Int) = 0 ∨ (1 : Int) = 1 by decide) ((((H.1 q315).1 q317).1 q319).2))) (fun q320 => And.intro (((H.1 q315).1 q317).2 q320).1 (And.intro (show (1 : Int) = 0 ∨ (1 : Int) = 1 by decide) ((((H.1 q315).1 q317).2 q320).2)))) (fun z => absurd (show ¬ (1 : Int) = (0 : Int) by decide) z)) (fun q318 => And.intro (fun z => absurd z (show ¬ (¬ (0 : Int) = (0 : Int)) by decide)) (fun _ => And.intro (show (0 : Int) = 0 ∨ (0 : Int) = 1 by decide) ((H.1 q315).2 q318))))) (fun q316 => And.intro (fun _ => And.intro (show (0 : Int) = 0 ∨ (0 : Int) = 1 by decide) (H.2 q316)) (fun z => absurd (show (0 : Int) = (0 : Int) by decide) z)))
theorem x258_m {G : Ctx} {h : Nat} {Q : MP} {I : Nat → Nat → Int} {J : Nat → Nat → BitVec 64} {b : B3} {x y z : Int} (hh : 2 ≤ h) (H : ∀ h, 1 ≤ h → Tri G h 258 119 119 0 [some (vr 91), some (vi x), some (vi y), some (vi z)] [] (I, J, PP b) Q) : TriM G h 258 119 119 [vr 91, vi x, vi y, vi z] (I, J, PP b) Q := TriM_intro (h - 1) (by omega) (by decide) (Nat.le_of_ble_eq_true rfl) (Nat.le_refl _) (Nat.le_refl _) (H (h - 1) (by omega))
set_option maxRecDepth 100000 in
theorem x165 {G : Ctx} {h : Nat} {Q : MP} {I : Nat → Nat → Int} {J : Nat → Nat → BitVec 64} {b : B3} {x y z : Int} (hh : 2 ≤ h) (H : ((z = (-1)) → (((0 ≤ x ∧ x < (6 : Int)) → (((0 ≤ y ∧ y < (4 : Int)) → (((0 ≤ x ∧ x < (6 : Int)) → (((0 ≤ y ∧ y < (4 : Int)) → ((0 ≤ (w32 ((w32 (x * 4)) + y)) ∧ (w32 ((w32 (x * 4)) + y)) < (24 : Int)) ∧ (Q (some (vi 1)) (u2 I 29 ((w32 ((w32 (x * 4)) + y)).toNat) z, J, PP b)))) ∧ (¬ (0 ≤ y ∧ y < (4 : Int)) → (Q (some (vi 1)) (I, J, PP b))))) ∧ (¬ (0 ≤ x ∧ x < (6 : Int)) → (Q (some (vi 1)) (I, J, PP b))))) ∧ (¬ (0 ≤ y ∧ y < (4 : Int)) → (Q (some (vi 0)) (I, J, PP b))))) ∧ (¬ (0 ≤ x ∧ x < (6 : Int)) → (Q (some (vi 0)) (I, J, PP b))))) ∧ (¬ (z = (-1)) → (((0 ≤ z ∧ z < (5 : Int)) → (((0 ≤ x ∧ x < (6 : Int)) → (((0 ≤ y ∧ y < (4 : Int)) → (((0 ≤ x ∧ x < (6 : Int)) → (((0 ≤ y ∧ y < (4 : Int)) → ((0 ≤ (w32 ((w32 (x * 4)) + y)) ∧ (w32 ((w32 (x * 4)) + y)) < (24 : Int)) ∧ (Q (some (vi 1)) (u2 I 29 ((w32 ((w32 (x * 4)) + y)).toNat) z, J, PP b)))) ∧ (¬ (0 ≤ y ∧ y < (4 : Int)) → (Q (some (vi 1)) (I, J, PP b))))) ∧ (¬ (0 ≤ x ∧ x < (6 : Int)) → (Q (some (vi 1)) (I, J, PP b))))) ∧ (¬ (0 ≤ y ∧ y < (4 : Int)) → (Q (some (vi 0)) (I, J, PP b))))) ∧ (¬ (0 ≤ x ∧ x < (6 : Int)) → (Q (some (vi 0)) (I, J, PP b))))) ∧ (¬ (0 ≤ z ∧ z < (5 : Int)) → (((0 ≤ x ∧ x < (6 : Int)) → (((0 ≤ y ∧ y < (4 : Int)) → (Q (some (vi 0)) (I, J, PP b))) ∧ (¬ (0 ≤ y ∧ y < (4 : Int)) → (Q (some (vi 0)) (I, J, PP b))))) ∧ (¬ (0 ≤ x ∧ x < (6 : Int)) → (Q (some (vi 0)) (I, J, PP b)))))))) : Tri G h 165 119 119 0 [some (vr 0), some (vi x), some (vi y), some (vi z)] [] (I, J, PP b) Q := wp_at ck165 [] 400 (And.intro (fun q321 => sx172 (by omega)  (fun q323 => And.intro (fun z => absurd z (show ¬ ((1 : Int) = (0 : Int)) by decide)) (fun _ => sx172 (by omega)  (fun q325 => And.intro (fun z => absurd z (show ¬ ((1 : Int) = (0 : Int)) by decide)) (fun _ => And.intro (fun _ => x54_m (by omega) (fun h hh => x54 hh (And.intro (fun q327 => And.intro (fun q329 => And.intro (((((H.1 q321).1 q323).1 q325).1 q327).1 q329).1 (cV_r (And.intro (show (1 : Int) = 0 ∨ (1 : Int) = 1 by decide) ((((((H.1 q321).1 q323).1 q325).1 q327).1 q329).2)))) (fun q330 => cV_r (And.intro (show (1 : Int) = 0 ∨ (1 : Int) = 1 by decide) (((((H.1 q321).1 q323).1 q325).1 q327).2 q330)))) (fun q328 => cV_r (And.intro (show (1 : Int) = 0 ∨ (1 : Int) = 1 by decide) ((((H.1 q321).1 q323).1 q325).2 q328)))))) (fun z => absurd (show ¬ (1 : Int) = (0 : Int) by decide) z))) (fun q326 => And.intro (fun _ => And.intro (show (0 : Int) = 0 ∨ (0 : Int) = 1 by decide) (((H.1 q321).1 q323).2 q326)) (fun z => absurd (show (0 : Int) = (0 : Int) by decide) z)))) (fun q324 => And.intro (fun _ => And.intro (show (0 : Int) = 0 ∨ (0 : Int) = 1 by decide) ((H.1 q321).2 q324)) (fun z => absurd (show (0 : Int) = (0 : Int) by decide) z))) (fun q322 => sx172 (by omega)  (fun q331 => And.intro (fun z => absurd z (show ¬ ((1 : Int) = (0 : Int)) by decide)) (fun _ => sx172 (by omega)  (fun q333 => And.intro (fun z => absurd z (show ¬ ((1 : Int) = (0 : Int)) by decide)) (fun _ => sx172 (by omega)  (fun q335 => And.intro (fun z => absurd z (show ¬ ((1 : Int) = (0 : Int)) by decide)) (fun _ => And.intro (fun _ => x54_m (by omega) (fun h hh => x54 hh (And.intro (fun q337 => And.intro (fun q339 => And.intro ((((((H.2 q322).1 q331).1 q333).1 q335).1 q337).1 q339).1 (cV_r (And.intro (show (1 : Int) = 0 ∨ (1 : Int) = 1 by decide) (((((((H.2 q322).1 q331).1 q333).1 q335).1 q337).1 q339).2)))) (fun q340 => cV_r (And.intro (show (1 : Int) = 0 ∨ (1 : Int) = 1 by decide) ((((((H.2 q322).1 q331).1 q333).1 q335).1 q337).2 q340)))) (fun q338 => cV_r (And.intro (show (1 : Int) = 0 ∨ (1 : Int) = 1 by decide) (((((H.2 q322).1 q331).1 q333).1 q335).2 q338)))))) (fun z => absurd (show ¬ (1 : Int) = (0 : Int) by decide) z))) (fun q336 => And.intro (fun _ => And.intro (show (0 : Int) = 0 ∨ (0 : Int) = 1 by decide) ((((H.2 q322).1 q331).1 q333).2 q336)) (fun z => absurd (show (0 : Int) = (0 : Int) by decide) z)))) (fun q334 => And.intro (fun _ => And.intro (show (0 : Int) = 0 ∨ (0 : Int) = 1 by decide) (((H.2 q322).1 q331).2 q334)) (fun z => absurd (show (0 : Int) = (0 : Int) by decide) z)))) (fun q332 => And.intro (fun _ => sx172 (by omega)  (fun q341 => And.intro (fun z => absurd z (show ¬ ((1 : Int) = (0 : Int)) by decide)) (fun _ => sx172 (by omega)  (fun q343 => And.intro (fun z => absurd z (show ¬ ((1 : Int) = (0 : Int)) by decide)) (fun _ => And.intro (fun z => absurd z (show ¬ (¬ (0 : Int) = (0 : Int)) by decide)) (fun _ => And.intro (show (0 : Int) = 0 ∨ (0 : Int) = 1 by decide) ((((H.2 q322).2 q332).1 q341).1 q343)))) (fun q344 => And.intro (fun _ => And.intro (show (0 : Int) = 0 ∨ (0 : Int) = 1 by decide) ((((H.2 q322).2 q332).1 q341).2 q344)) (fun z => absurd (show (0 : Int) = (0 : Int) by decide) z)))) (fun q342 => And.intro (fun _ => And.intro (show (0 : Int) = 0 ∨ (0 : Int) = 1 by decide) (((H.2 q322).2 q332).2 q342)) (fun z => absurd (show (0 : Int) = (0 : Int) by decide) z))) (fun z => absurd (show (0 : Int) = (0 : Int) by decide) z))))
theorem x165_m {G : Ctx} {h : Nat} {Q : MP} {I : Nat → Nat → Int} {J : Nat → Nat → BitVec 64} {b : B3} {x y z : Int} (hh : 3 ≤ h) (H : ∀ h, 2 ≤ h → Tri G h 165 119 119 0 [some (vr 0), some (vi x), some (vi y), some (vi z)] [] (I, J, PP b) Q) : TriM G h 165 119 119 [vr 0, vi x, vi y, vi z] (I, J, PP b) Q := TriM_intro (h - 1) (by omega) (by decide) (Nat.le_of_ble_eq_true rfl) (Nat.le_refl _) (Nat.le_refl _) (H (h - 1) (by omega))
set_option maxRecDepth 100000 in
theorem x259 {G : Ctx} {h : Nat} {Q : MP} {I : Nat → Nat → Int} {J : Nat → Nat → BitVec 64} {b : B3} {x y z : Int} (hh : 1 ≤ h) (H : (((0 : Int) ≤ x ∧ x ≤ (5 : Int)) → ((((0 : Int) ≤ y ∧ y ≤ (3 : Int)) → (((((-1) : Int) ≤ z ∧ z ≤ (4 : Int)) → ((0 ≤ (w32 ((w32 (41 + (w32 (4 * x)))) + y)) ∧ (w32 ((w32 (41 + (w32 (4 * x)))) + y)) < (5120 : Int)) ∧ (Q (some (vi 1)) (u2 I 92 ((w32 ((w32 (41 + (w32 (4 * x)))) + y)).toNat) z, J, PP b)))) ∧ (¬ (((-1) : Int) ≤ z ∧ z ≤ (4 : Int)) → (Q (some (vi 0)) (I, J, PP b))))) ∧ (¬ ((0 : Int) ≤ y ∧ y ≤ (3 : Int)) → (Q (some (vi 0)) (I, J, PP b))))) ∧ (¬ ((0 : Int) ≤ x ∧ x ≤ (5 : Int)) → (Q (some (vi 0)) (I, J, PP b)))) : Tri G h 259 119 119 0 [some (vr 91), some (vi x), some (vi y), some (vi z)] [] (I, J, PP b) Q := wp_at ck259 [] 400 (sx181 (by omega)  (fun q345 => And.intro (fun z => absurd z (show ¬ ((1 : Int) = (0 : Int)) by decide)) (fun _ => sx181 (by omega)  (fun q347 => And.intro (fun z => absurd z (show ¬ ((1 : Int) = (0 : Int)) by decide)) (fun _ => sx181 (by omega)  (fun q349 => And.intro (fun _ => And.intro (((H.1 q345).1 q347).1 q349).1 (And.intro (show (1 : Int) = 0 ∨ (1 : Int) = 1 by decide) ((((H.1 q345).1 q347).1 q349).2))) (fun z => absurd (show ¬ (1 : Int) = (0 : Int) by decide) z)) (fun q350 => And.intro (fun z => absurd z (show ¬ (¬ (0 : Int) = (0 : Int)) by decide)) (fun _ => And.intro (show (0 : Int) = 0 ∨ (0 : Int) = 1 by decide) (((H.1 q345).1 q347).2 q350))))) (fun q348 => And.intro (fun _ => And.intro (show (0 : Int) = 0 ∨ (0 : Int) = 1 by decide) ((H.1 q345).2 q348)) (fun z => absurd (show (0 : Int) = (0 : Int) by decide) z)))) (fun q346 => And.intro (fun _ => And.intro (show (0 : Int) = 0 ∨ (0 : Int) = 1 by decide) (H.2 q346)) (fun z => absurd (show (0 : Int) = (0 : Int) by decide) z)))
theorem x259_m {G : Ctx} {h : Nat} {Q : MP} {I : Nat → Nat → Int} {J : Nat → Nat → BitVec 64} {b : B3} {x y z : Int} (hh : 2 ≤ h) (H : ∀ h, 1 ≤ h → Tri G h 259 119 119 0 [some (vr 91), some (vi x), some (vi y), some (vi z)] [] (I, J, PP b) Q) : TriM G h 259 119 119 [vr 91, vi x, vi y, vi z] (I, J, PP b) Q := TriM_intro (h - 1) (by omega) (by decide) (Nat.le_of_ble_eq_true rfl) (Nat.le_refl _) (Nat.le_refl _) (H (h - 1) (by omega))
end
section
/-! PUBLIC CALLS, first: a pair of calls, one on each side, gives one answer and keeps INV -/
def PairI (G : Ctx) (h c d : Nat) (av : List MV) (n : Nat) (I : MI) (J : MJ) (b : B3) : Prop := TriM G h c 119 119 (vr 0 :: av) (I, J, PP b) (cIN fun x I1 J1 b1 => TriM G h d 119 119 (vr 91 :: av) (I1, J1, PP b1) (cIN fun y I2 J2 _ => x = y ∧ INV n I2 J2))
def PairJ (G : Ctx) (h c d : Nat) (av : List MV) (n : Nat) (I : MI) (J : MJ) (b : B3) : Prop := TriM G h c 119 119 (vr 0 :: av) (I, J, PP b) (cJN fun x I1 J1 b1 => TriM G h d 119 119 (vr 91 :: av) (I1, J1, PP b1) (cJN fun y I2 J2 _ => x = y ∧ INV n I2 J2))
section PUBA
variable {G : Ctx} {h n : Nat} {I : MI} {J : MJ} {b : B3} {x y z v : Int}
theorem pub_state (hI : INV n I J) (hn : n < 64) (hh : 40 ≤ h) : PairI G h 137 183 [vi v] (n + 1) I J b := by
  refine x137_m (by omega) (fun h2 _ => x137 (Nat.zero_le _) (cIN_r fun _ => ?_))
  refine x183_m (by omega) (fun h2 _ => x183 (Nat.zero_le _) (cIN_r fun _ => ⟨?_, ?_⟩))
  · obtain ⟨p0, p1, p2, ⟨a1, a2, a3, a4, a5⟩, -⟩ := hI
    rw [u2n (by decide)]
    exact a5.symm
  · obtain ⟨p0, p1, p2, ⟨a1, a2, a3, a4, a5⟩, ⟨t0, t1, t2⟩, hl, hp, htp, hf, ⟨k1, k2, k3⟩, hc, hcc⟩ := hI.suc hn
    refine ⟨p0, p1, p2, ⟨a1.fr ?_ ?_ ?_ ?_ ?_ ?_, a2.fr ?_ ?_ ?_ ?_ ?_ ?_ ?_ ?_, a3.fr ?_ ?_ ?_ ?_ ?_, a4.fr ?_ ?_ ?_ ?_ ?_ ?_, ?_⟩, ⟨t0.fr ?_ ?_ ?_, t1.fr ?_ ?_ ?_, t2.fr ?_ ?_ ?_⟩, hl.fr ?_ ?_ ?_ ?_ ?_ ?_ ?_ ?_ ?_, hp.fr ?_ ?_ ?_ ?_ ?_ ?_ ?_ ?_ ?_ ?_ ?_ ?_ ?_ ?_ ?_, htp.fr ?_ ?_ ?_ ?_, ?_, ⟨?_, ?_, fun q => (k3 ?_).fr ?_ ?_⟩, hc, ?_⟩
    all_goals first
      | (simp (disch := decide) only [u2_ne]; done)
      | (intro j hj; simp (disch := omega) only [u2n, u2j]; done)
      | (simp (disch := omega) only [u2n, u2j, u2e]; first | done | omega | assumption | exact Int.le_refl _)
      | (intro k hk; rw [u2_ne (by omega), u2_ne (by omega)])
      | (simp (disch := omega) only [u2n, u2j, u2e] at q; exact q)
      | rfl
-- more
theorem pub_fault (hI : INV n I J) (hn : n < 64) (hh : 40 ≤ h) : PairI G h 146 219 [vi x] (n + 1) I J b := by
  have hI2 := hI.suc hn
  have key : ∀ w : Int, w = (if x = 0 then I 0 5 else if x = 1 then I 0 6 else -1) → cIN (fun x_1 I1 J1 b1 => TriM G h 219 119 119 [vr 91, vi x] (I1, J1, PP b1) (cIN fun y I2 J2 _ => x_1 = y ∧ INV (n + 1) I2 J2)) (some (vi w)) (I, J, PP b) := by
    intro w hw
    refine cIN_r fun _ => x219_m (by omega) (fun h2 _ => x219 (Nat.zero_le _) ?_)
    have hf : I 91 18 = I 0 5 ∧ I 91 20 = I 0 6 := by
      obtain ⟨p0, p1, p2, -, -, -, -, -, hf, -⟩ := hI
      exact hf
    refine ⟨fun q => ⟨fun q2 => cIN_r fun _ => ⟨?_, hI2⟩, fun q2 => cIN_r fun _ => ⟨?_, hI2⟩⟩, fun q => cIN_r fun _ => ⟨?_, hI2⟩⟩
    · rw [hw, if_neg q, if_neg q2]
    · rw [hw, if_neg q, if_pos (by omega), hf.2]
    · rw [hw, if_pos (by omega), hf.1]
  refine x146_m (by omega) (fun h2 _ => x146 (Nat.zero_le _) ⟨⟨fun q => key _ ?_, fun q => key _ ?_, trivial⟩, fun q q2 => key _ ?_⟩)
  · rw [if_pos q]
  · rw [if_neg (by omega), if_pos q]
  · rw [if_neg q, if_neg q2]
theorem pub_end (hI : INV n I J) (hn : n < 64) (hh : 40 ≤ h) : PairI G h 144 198 [vi x] (n + 1) I J b := by
  have htp0 : (0 ≤ I 0 4 ∧ I 0 4 ≤ 400 ∧ I 91 11 = I 0 4) := by
    obtain ⟨p0, p1, p2, -, -, -, -, htp, -⟩ := hI
    exact htp.1
  have no : ¬ (0 ≤ x ∧ x ≤ I 0 4) → cIN (fun x_1 I1 J1 b1 => TriM G h 198 119 119 [vr 91, vi x] (I1, J1, PP b1) (cIN fun y I2 J2 _ => x_1 = y ∧ INV (n + 1) I2 J2)) (some (vi 0)) (I, J, PP b) := by
    intro hx
    refine cIN_r fun _ => x198_m (by omega) (fun h2 _ => x198 (by omega) ⟨fun q => absurd q (by omega), fun q => cIN_r fun _ => ⟨rfl, hI.suc hn⟩⟩)
  refine x144_m (by omega) (fun h2 _ => x144 (Nat.zero_le _) ⟨fun q => no (by omega), fun q => ⟨fun q2 => ?_, fun q2 => no (by omega)⟩⟩)
  refine cIN_r fun _ => x198_m (by omega) (fun h2 _ => x198 (by omega) ?_)
  simp (disch := omega) only [u2n]
  refine ⟨fun q3 => cIN_r fun _ => ⟨rfl, ?_⟩, fun q3 => absurd (show (0 : Int) ≤ x ∧ x ≤ I 91 11 by omega) q3⟩
  obtain ⟨p0, p1, p2, ⟨a1, a2, a3, a4, a5⟩, ⟨t0, t1, t2⟩, hl, hp, htp, hf, ⟨k1, k2, k3⟩, hc, hcc⟩ := hI.suc hn
  have ht : rTape (u2 (u2 I 0 4 x) 91 11 x) := by
    unfold rTape at htp ⊢
    simp (disch := omega) only [u2n, u2j, u2e, and_true]
    refine ⟨by omega, fun i i1 i2 => htp.2 i i1 (by omega)⟩
  refine ⟨p0, p1, p2, ⟨a1.fr ?_ ?_ ?_ ?_ ?_ ?_, a2.fr ?_ ?_ ?_ ?_ ?_ ?_ ?_ ?_, a3.fr ?_ ?_ ?_ ?_ ?_, a4.fr ?_ ?_ ?_ ?_ ?_ ?_, ?_⟩, ⟨t0.fr ?_ ?_ ?_, t1.fr ?_ ?_ ?_, t2.fr ?_ ?_ ?_⟩, hl.fr ?_ ?_ ?_ ?_ ?_ ?_ ?_ ?_ ?_, hp.fr ?_ ?_ ?_ ?_ ?_ ?_ ?_ ?_ ?_ ?_ ?_ ?_ ?_ ?_ ?_, ht, ?_, ⟨?_, ?_, fun q => (k3 ?_).fr ?_ ?_⟩, hc, ?_⟩
  all_goals first
    | (simp (disch := decide) only [u2_ne, u1_ne]; done)
    | (intro j hj; simp (disch := omega) only [u2n, u2j, u1n]; done)
    | (simp (disch := omega) only [u2n, u2j, u2e, u1n]; first | done | omega | assumption | exact Int.le_refl _)
    | (intro k hk; simp (disch := omega) only [u2_ne, u1_ne]; done)
    | (simp (disch := omega) only [u2n, u2j, u2e] at q; exact q)
    | rfl
theorem pub_set (hI : INV n I J) (hn : n < 64) (hh : 40 ≤ h) : PairI G h 140 193 [vi x, vi y] (n + 1) I J b := by
  have no : ¬ ((0 ≤ x ∧ x < 2) ∧ 0 ≤ y ∧ y < 100) → cIN (fun x_1 I1 J1 b1 => TriM G h 193 119 119 [vr 91, vi x, vi y] (I1, J1, PP b1) (cIN fun y I2 J2 _ => x_1 = y ∧ INV (n + 1) I2 J2)) (some (vi 0)) (I, J, PP b) := by
    intro hx
    refine cIN_r fun _ => x193_m (by omega) (fun h2 _ => x193 (by omega) ⟨fun q => ⟨fun q2 => absurd (show (0 ≤ x ∧ x < 2) ∧ 0 ≤ y ∧ y < 100 by omega) hx, fun q2 => cIN_r fun _ => ⟨rfl, hI.suc hn⟩⟩, fun q => cIN_r fun _ => ⟨rfl, hI.suc hn⟩⟩)
  refine x140_m (by omega) (fun h2 _ => x140 (by omega) ⟨fun q => ⟨fun q2 => ⟨fun q3 => ?_, fun q3 => ?_⟩, fun q2 => no (by omega)⟩, fun q => no (by omega)⟩)
  · obtain rfl : x = 1 := by omega
    refine cIN_r fun _ => x193_m (by omega) (fun h2 _ => x193 (by omega) ⟨fun _ => ⟨fun _ => ⟨by decide, cIN_r fun _ => ⟨rfl, ?_⟩⟩, fun z => absurd (show (0 : Int) ≤ y ∧ y ≤ 99 by omega) z⟩, fun z => absurd (show (0 : Int) ≤ 1 ∧ (1 : Int) ≤ 1 by omega) z⟩)
    rw [show (w32 (1 + 1)).toNat = 2 from rfl]
    obtain ⟨p0, p1, p2, ⟨a1, a2, a3, a4, a5⟩, ⟨t0, t1, t2⟩, hl, hp, htp, hf, ⟨k1, k2, k3⟩, hc, hcc⟩ := hI.suc hn
    have ht : rTown 0 92 (u2 (u2 I 2 2 y) 92 2 y) := by
      unfold rTown at a1 ⊢
      simp (disch := omega) only [Nat.reduceAdd, u2n, u2j, u2e, and_true] at a1 ⊢
      refine ⟨a1.1, a1.2.1, by omega, fun e e1 e2 => ?_, fun x y x1 x2 y1 y2 m => ?_⟩
      · simp (disch := omega) only [u2n, u2j, u2e]; exact a1.2.2.2.1 e e1 e2
      · simp (disch := omega) only [u2n, u2j, u2e]; exact a1.2.2.2.2 x y x1 x2 y1 y2 m
    refine ⟨p0, p1, p2, ⟨ht, a2.fr ?_ ?_ ?_ ?_ ?_ ?_ ?_ ?_, a3.fr ?_ ?_ ?_ ?_ ?_, a4.fr ?_ ?_ ?_ ?_ ?_ ?_, ?_⟩, ⟨t0.fr ?_ ?_ ?_, t1.fr ?_ ?_ ?_, t2.fr ?_ ?_ ?_⟩, hl.fr ?_ ?_ ?_ ?_ ?_ ?_ ?_ ?_ ?_, hp.fr ?_ ?_ ?_ ?_ ?_ ?_ ?_ ?_ ?_ ?_ ?_ ?_ ?_ ?_ ?_, htp.fr ?_ ?_ ?_ ?_, ?_, ⟨?_, ?_, fun q => (k3 ?_).fr ?_ ?_⟩, hc, ?_⟩
    all_goals first
      | (simp (disch := decide) only [u2_ne, u1_ne]; done)
      | (intro j hj; simp (disch := omega) only [u2n, u2j, u1n]; done)
      | (simp (disch := omega) only [u2n, u2j, u2e, u1n]; first | done | omega | assumption | exact Int.le_refl _)
      | (intro k hk; simp (disch := omega) only [u2_ne, u1_ne]; done)
      | (simp (disch := omega) only [u2n, u2j, u2e] at q; exact q)
      | rfl
  · obtain rfl : x = 0 := by omega
    refine cIN_r fun _ => x193_m (by omega) (fun h2 _ => x193 (by omega) ⟨fun _ => ⟨fun _ => ⟨by decide, cIN_r fun _ => ⟨rfl, ?_⟩⟩, fun z => absurd (show (0 : Int) ≤ y ∧ y ≤ 99 by omega) z⟩, fun z => absurd (show (0 : Int) ≤ 0 ∧ (0 : Int) ≤ 1 by omega) z⟩)
    rw [show (w32 (1 + 0)).toNat = 1 from rfl]
    obtain ⟨p0, p1, p2, ⟨a1, a2, a3, a4, a5⟩, ⟨t0, t1, t2⟩, hl, hp, htp, hf, ⟨k1, k2, k3⟩, hc, hcc⟩ := hI.suc hn
    have ht : rTown 0 92 (u2 (u2 I 2 1 y) 92 1 y) := by
      unfold rTown at a1 ⊢
      simp (disch := omega) only [Nat.reduceAdd, u2n, u2j, u2e, and_true] at a1 ⊢
      refine ⟨a1.1, by omega, a1.2.2.1, fun e e1 e2 => ?_, fun x y x1 x2 y1 y2 m => ?_⟩
      · simp (disch := omega) only [u2n, u2j, u2e]; exact a1.2.2.2.1 e e1 e2
      · simp (disch := omega) only [u2n, u2j, u2e]; exact a1.2.2.2.2 x y x1 x2 y1 y2 m
    refine ⟨p0, p1, p2, ⟨ht, a2.fr ?_ ?_ ?_ ?_ ?_ ?_ ?_ ?_, a3.fr ?_ ?_ ?_ ?_ ?_, a4.fr ?_ ?_ ?_ ?_ ?_ ?_, ?_⟩, ⟨t0.fr ?_ ?_ ?_, t1.fr ?_ ?_ ?_, t2.fr ?_ ?_ ?_⟩, hl.fr ?_ ?_ ?_ ?_ ?_ ?_ ?_ ?_ ?_, hp.fr ?_ ?_ ?_ ?_ ?_ ?_ ?_ ?_ ?_ ?_ ?_ ?_ ?_ ?_ ?_, htp.fr ?_ ?_ ?_ ?_, ?_, ⟨?_, ?_, fun q => (k3 ?_).fr ?_ ?_⟩, hc, ?_⟩
    all_goals first
      | (simp (disch := decide) only [u2_ne, u1_ne]; done)
      | (intro j hj; simp (disch := omega) only [u2n, u2j, u1n]; done)
      | (simp (disch := omega) only [u2n, u2j, u2e, u1n]; first | done | omega | assumption | exact Int.le_refl _)
      | (intro k hk; simp (disch := omega) only [u2_ne, u1_ne]; done)
      | (simp (disch := omega) only [u2n, u2j, u2e] at q; exact q)
      | rfl
theorem pub_view (hI : INV n I J) (hn : n < 64) (hh : 40 ≤ h) : PairI G h 150 224 [vi x] (n + 1) I J b := by
  have hb0 : I 92 5 = I 7 1 := by
    obtain ⟨p0, p1, p2, ⟨a1, a2, a3, a4, a5⟩, -⟩ := hI
    exact a2.2.1.2.2
  have no : ¬ (-1 ≤ x ∧ x ≤ I 7 1) → cIN (fun x_1 I1 J1 b1 => TriM G h 224 119 119 [vr 91, vi x] (I1, J1, PP b1) (cIN fun y I2 J2 _ => x_1 = y ∧ INV (n + 1) I2 J2)) (some (vi 0)) (I, J, PP b) := by
    intro hx
    refine cIN_r fun _ => x224_m (by omega) (fun h2 _ => x224 (by omega) ⟨fun q => absurd q (by omega), fun q => cIN_r fun _ => ⟨rfl, hI.suc hn⟩⟩)
  refine x150_m (by omega) (fun h2 _ => x150 (by omega) ⟨fun q => no (by omega), fun q => ⟨fun q2 => ?_, fun q2 => no (by omega)⟩⟩)
  refine cIN_r fun _ => x224_m (by omega) (fun h2 _ => x224 (by omega) ?_)
  simp (disch := omega) only [u2n]
  refine ⟨fun q3 => cIN_r fun _ => ⟨rfl, ?_⟩, fun q3 => absurd (show (-1 : Int) ≤ x ∧ x ≤ I 92 5 by omega) q3⟩
  obtain ⟨p0, p1, p2, ⟨a1, a2, a3, a4, a5⟩, ⟨t0, t1, t2⟩, hl, hp, htp, hf, ⟨k1, k2, k3⟩, hc, hcc⟩ := hI.suc hn
  have ht : rBook 0 92 (u2 (u2 (u2 I 7 2 x) 72 3 1) 92 6 x) := by
    obtain ⟨b1, b2, b3, b4⟩ := a2
    refine ⟨?_, ?_, ?_, fun e e1 e2 => (b4 e e1 ?_).fr e1 ?_ ?_ ?_ (fun j => Or.inl ?_) ?_ ?_ ?_ (fun j => Or.inl ?_) (fun j hj => ?_)⟩
    all_goals simp (disch := omega) only [Nat.reduceAdd, u2n, u2j, u2e, and_true] at *
    all_goals first | assumption | omega | exact Int.le_refl _
  refine ⟨p0, p1, p2, ⟨a1.fr ?_ ?_ ?_ ?_ ?_ ?_, ht, a3.fr ?_ ?_ ?_ ?_ ?_, a4.fr ?_ ?_ ?_ ?_ ?_ ?_, ?_⟩, ⟨t0.fr ?_ ?_ ?_, t1.fr ?_ ?_ ?_, t2.fr ?_ ?_ ?_⟩, hl.fr ?_ ?_ ?_ ?_ ?_ ?_ ?_ ?_ ?_, perI.st (by simp (disch := omega) only [u2n, u2j, u2e]), htp.fr ?_ ?_ ?_ ?_, ?_, ⟨?_, ?_, fun q => (k3 ?_).fr ?_ ?_⟩, hc, ?_⟩
  all_goals first
    | (simp (disch := decide) only [u2_ne, u1_ne]; done)
    | (intro j hj; simp (disch := omega) only [u2n, u2j, u1n]; done)
    | (simp (disch := omega) only [u2n, u2j, u2e, u1n]; first | done | omega | assumption | exact Int.le_refl _)
    | (intro k hk; simp (disch := omega) only [u2_ne, u1_ne]; done)
    | (simp (disch := omega) only [u2n, u2j, u2e] at q; exact q)
    | rfl
end PUBA
end
section
section PUBB
variable {G : Ctx} {h n : Nat} {I : MI} {J : MJ} {b : B3} {x y z v : Int}
theorem pub_voids (hI : INV n I J) (hn : n < 64) (hh : 40 ≤ h) : PairI G h 149 223 [vi x] (n + 1) I J b := by
  have hB : rBook 0 92 I := by
    obtain ⟨p0, p1, p2, ⟨a1, a2, a3, a4, a5⟩, -⟩ := hI
    exact a2
  have hcn : I 7 1 ≤ n := by
    obtain ⟨p0, p1, p2, -, -, -, -, -, -, -, -, hcc⟩ := hI
    exact hcc.1
  obtain ⟨b1, b2, b3, b4⟩ := hB
  simp only [Nat.reduceAdd] at b1 b2 b3 b4
  have no : ¬ ((0 ≤ x ∧ x < I 7 0) ∧ I 10 x.toNat = -1) → ∀ w : Int, w = 0 → cIN (fun x_1 I1 J1 b1 => TriM G h 223 119 119 [vr 91, vi x] (I1, J1, PP b1) (cIN fun y I2 J2 _ => x_1 = y ∧ INV (n + 1) I2 J2)) (some (vi w)) (I, J, PP b) := by
    intro hx w hw
    subst hw
    refine cIN_r fun _ => x223_m (by omega) (fun h2 _ => x223 (by omega) ?_)
    refine ⟨by omega, fun q => ⟨by omega, fun q2 => ?_, fun q2 => cIN_r fun _ => ⟨rfl, hI.suc hn⟩⟩, fun q => cIN_r fun _ => ⟨rfl, hI.suc hn⟩⟩
    have e4 := (b4 x (by omega) (by omega)).2.2.2.1
    simp only [Nat.reduceAdd] at e4
    exact absurd (show (0 ≤ x ∧ x < I 7 0) ∧ I 10 x.toNat = -1 by omega) hx
  have yes : (0 ≤ x ∧ x < I 7 0) ∧ I 10 x.toNat = -1 → cIN (fun x_1 I1 J1 b1 => TriM G h 223 119 119 [vr 91, vi x] (I1, J1, PP b1) (cIN fun y I2 J2 _ => x_1 = y ∧ INV (n + 1) I2 J2)) (some (vi 1)) (u2 (u2 (u2 I 7 1 (w32 (I 7 1 + 1))) 10 x.toNat (w32 (I 7 1 + 1))) 72 3 1, J, PP b) := by
    intro hx
    have e4 := (b4 x (by omega) (by omega)).2.2.2.1
    simp only [Nat.reduceAdd] at e4
    refine cIN_r fun _ => x223_m (by omega) (fun h2 _ => x223 (by omega) ?_)
    simp (disch := omega) only [u2n, w32_id]
    refine ⟨by omega, fun q => ⟨by omega, fun q2 => ⟨by omega, cIN_r fun _ => ⟨rfl, ?_⟩⟩, fun q2 => absurd (show I 92 (450 + 17 * x + 7).toNat ≤ 0 by omega) q2⟩, fun q => absurd (show 0 ≤ x ∧ x < I 92 4 by omega) q⟩
    obtain ⟨p0, p1, p2, ⟨a1, a2, a3, a4, a5⟩, ⟨t0, t1, t2⟩, hl, hp, htp, hf, ⟨k1, k2, k3⟩, hc, hcc⟩ := hI.suc hn
    have ht : rBook 0 92 (u2 (u2 (u2 (u2 (u2 I 7 1 (I 7 1 + 1)) 10 x.toNat (I 7 1 + 1)) 72 3 1) 92 5 (I 92 5 + 1)) 92 (450 + 17 * x + 7).toNat (I 92 5 + 1)) := by
      refine ⟨?_, ?_, ?_, fun e e1 e2 => ?_⟩
      · simp (disch := omega) only [Nat.reduceAdd, u2n, u2j, u2e, and_true, true_and]; omega
      · simp (disch := omega) only [Nat.reduceAdd, u2n, u2j, u2e, and_true, true_and]; omega
      · simp (disch := omega) only [Nat.reduceAdd, u2n, u2j, u2e, and_true, true_and]; omega
      · simp (disch := omega) only [Nat.reduceAdd, u2n, u2j, u2e, and_true, true_and] at e2
        by_cases he : e = x
        · subst he
          obtain ⟨c1, c2, c3, c4, c5, c6⟩ := b4 e e1 e2
          unfold rEnt
          simp only [Nat.reduceAdd] at c1 c2 c3 c5 c6
          simp (disch := omega) only [Nat.reduceAdd, u2n, u2j, u2e, and_true, true_and]
          refine ⟨c1, c2, ⟨c3.1, c3.2.1, by omega⟩, Or.inr ⟨by omega, by omega, by omega⟩, c5, fun k q1 q2 => ?_⟩
          simp (disch := omega) only [Nat.reduceAdd, u2n, u2j, u2e, and_true, true_and]
          exact c6 k q1 q2
        · refine (b4 e e1 e2).fr e1 (by omega) ?_ ?_ (fun j => Or.inl ?_) ?_ ?_ ?_ (fun j => Or.inl ?_) (fun j hj => ?_)
          all_goals simp (disch := omega) only [Nat.reduceAdd, u2n, u2j, u2e, and_true, true_and]
          all_goals first | done | omega | exact Int.le_refl _
    refine ⟨p0, p1, p2, ⟨a1.fr ?_ ?_ ?_ ?_ ?_ ?_, ht, a3.fr ?_ ?_ ?_ ?_ ?_, a4.fr ?_ ?_ ?_ ?_ ?_ ?_, ?_⟩, ⟨t0.fr ?_ ?_ ?_, t1.fr ?_ ?_ ?_, t2.fr ?_ ?_ ?_⟩, hl.fr ?_ ?_ ?_ ?_ ?_ ?_ ?_ ?_ ?_, perI.st (by simp (disch := omega) only [u2n, u2j, u2e]), htp.fr ?_ ?_ ?_ ?_, ?_, ⟨?_, ?_, fun q => (k3 ?_).fr ?_ ?_⟩, hc, ⟨by simp (disch := omega) only [u2n, u2j, u2e]; omega, by simp (disch := omega) only [u2n, u2j, u2e]; exact hcc.2.1, hcc.2.2⟩⟩
    all_goals first
      | (simp (disch := decide) only [u2_ne, u1_ne]; done)
      | (intro j hj; simp (disch := omega) only [u2n, u2j, u1n]; done)
      | (simp (disch := omega) only [u2n, u2j, u2e, u1n]; first | done | omega | assumption | exact Int.le_refl _)
      | (intro k hk; simp (disch := omega) only [u2_ne, u1_ne]; done)
      | (simp (disch := omega) only [u2n, u2j, u2e] at q; exact q)
      | rfl
  refine x149_m (by omega) (fun h2 _ => x149 (by omega) ?_)
  refine ⟨fun q => ⟨fun q2 => ⟨by omega, fun q3 => ⟨fun q4 => ⟨by omega, yes ⟨q, q3⟩⟩, fun q4 => absurd q q4⟩, fun q3 => no (by omega) _ rfl⟩, fun q2 => absurd q q2⟩, fun q => no (by omega) _ rfl⟩
theorem pub_step (hI : INV n I J) (hn : n < 64) (hh : 40 ≤ h) : PairI G h 161 253 [vi x, vi y, vi z] (n + 1) I J b := by
  obtain ⟨hT, hR⟩ : rTown 0 92 I ∧ rRound 0 92 I := by
    obtain ⟨p0, p1, p2, ⟨a1, a2, a3, a4, a5⟩, -⟩ := hI
    exact ⟨a1, a3⟩
  have d1 := hT.1
  obtain ⟨b1, b2⟩ := hR
  simp only [Nat.reduceAdd] at d1 b1 b2
  have no : ¬ ((0 ≤ x ∧ x ≤ I 22 0 ∧ x < 24) ∧ (0 ≤ y ∧ y < I 2 0) ∧ 0 ≤ z ∧ z < 1440) → ∀ w : Int, w = -1 → cIN (fun x_1 I1 J1 b1 => TriM G h 253 119 119 [vr 91, vi x, vi y, vi z] (I1, J1, PP b1) (cIN fun y I2 J2 _ => x_1 = y ∧ INV (n + 1) I2 J2)) (some (vi w)) (I, J, PP b) := by
    intro hx w hw
    subst hw
    refine cIN_r fun _ => x253_m (by omega) (fun h2 _ => x253 (by omega) ?_)
    refine ⟨fun q => ⟨fun q2 => cIN_r fun _ => ⟨rfl, hI.suc hn⟩, fun q2 => ⟨by omega, fun q3 => ⟨fun q4 => absurd (show (0 ≤ x ∧ x ≤ I 22 0 ∧ x < 24) ∧ (0 ≤ y ∧ y < I 2 0) ∧ 0 ≤ z ∧ z < 1440 by omega) hx, fun q4 => cIN_r fun _ => ⟨rfl, hI.suc hn⟩⟩, fun q3 => cIN_r fun _ => ⟨rfl, hI.suc hn⟩⟩⟩, fun q => cIN_r fun _ => ⟨rfl, hI.suc hn⟩⟩
  refine x161_m (by omega) (fun h2 _ => x161 (by omega) ?_)
  refine ⟨fun q => no (by omega) _ rfl, fun q => ⟨fun q2 => no (by omega) _ rfl, fun q2 => ⟨fun q3 => no (by omega) _ rfl, fun q3 => ⟨fun q4 => ⟨fun q5 => ⟨fun q6 => ⟨q6, q6, ?_⟩, fun q6 => absurd (show 0 ≤ x ∧ x < 24 by omega) q6⟩, fun q5 => no (by omega) _ rfl⟩, fun q4 => no (by omega) _ rfl⟩⟩⟩⟩
  simp (disch := omega) only [w32_id]
  refine cIN_r fun _ => x253_m (by omega) (fun h2 _ => x253 (by omega) ?_)
  simp (disch := omega) only [u2n, w32_id]
  refine ⟨fun p1 => ⟨fun p2 => by omega, fun p2 => ⟨by omega, fun p3 => ⟨fun p4 => ⟨by omega, by omega, cIN_r fun _ => ⟨rfl, ?_⟩⟩, fun p4 => by omega⟩, fun p3 => by omega⟩⟩, fun p1 => by omega⟩
  obtain ⟨p0, p1, p2, ⟨a1, a2, a3, a4, a5⟩, ⟨t0, t1, t2⟩, hl, hp, htp, hf, ⟨k1, k2, k3⟩, hc, hcc⟩ := hI.suc hn
  have ht : rRound 0 92 (u2 (u2 (u2 (u2 (u2 (u2 I 23 x.toNat y) 24 x.toNat z) 22 0 (x + 1)) 92 (400 + 2 * x).toNat y) 92 (400 + 2 * x + 1).toNat z) 92 7 (x + 1)) := by
    refine ⟨?_, fun i i1 i2 => ?_⟩
    · simp (disch := omega) only [Nat.reduceAdd, u2n, u2j, u2e, and_true, true_and]; omega
    · simp (disch := omega) only [Nat.reduceAdd, u2n, u2j, u2e, and_true, true_and] at i2 ⊢
      by_cases he : i = x
      · subst he
        simp (disch := omega) only [Nat.reduceAdd, u2n, u2j, u2e, and_true, true_and]
        omega
      · simp (disch := omega) only [Nat.reduceAdd, u2n, u2j, u2e, and_true, true_and]
        exact b2 i i1 (by omega)
  refine ⟨p0, p1, p2, ⟨a1.fr ?_ ?_ ?_ ?_ ?_ ?_, a2.fr ?_ ?_ ?_ ?_ ?_ ?_ ?_ ?_, ht, a4.fr ?_ ?_ ?_ ?_ ?_ ?_, ?_⟩, ⟨t0.fr ?_ ?_ ?_, t1.fr ?_ ?_ ?_, t2.fr ?_ ?_ ?_⟩, hl.fr ?_ ?_ ?_ ?_ ?_ ?_ ?_ ?_ ?_, hp.fr ?_ ?_ ?_ ?_ ?_ ?_ ?_ ?_ ?_ ?_ ?_ ?_ ?_ ?_ ?_, htp.fr ?_ ?_ ?_ ?_, ?_, ⟨?_, ?_, fun q => (k3 ?_).fr ?_ ?_⟩, hc, ?_⟩
  all_goals first
    | (simp (disch := decide) only [u2_ne, u1_ne]; done)
    | (intro j hj; simp (disch := omega) only [u2n, u2j, u1n]; done)
    | (simp (disch := omega) only [u2n, u2j, u2e, u1n]; first | done | omega | assumption | exact Int.le_refl _)
    | (intro k hk; simp (disch := omega) only [u2_ne, u1_ne]; done)
    | (simp (disch := omega) only [u2n, u2j, u2e] at q; exact q)
    | rfl
theorem pub_closed (hI : INV n I J) (hn : n < 64) (hh : 40 ≤ h) (hz : z = 0 ∨ z = 1) : PairI G h 164 258 [vi x, vi y, vi z] (n + 1) I J b := by
  have no : ¬ ((0 ≤ x ∧ x < 5) ∧ 0 ≤ y ∧ y < 4) → ∀ w : Int, w = 0 → cIN (fun x_1 I1 J1 b1 => TriM G h 258 119 119 [vr 91, vi x, vi y, vi z] (I1, J1, PP b1) (cIN fun y I2 J2 _ => x_1 = y ∧ INV (n + 1) I2 J2)) (some (vi w)) (I, J, PP b) := by
    intro hx w hw
    subst hw
    refine cIN_r fun _ => x258_m (by omega) (fun h2 _ => x258 (by omega) ?_)
    refine ⟨fun q => ⟨fun q2 => absurd (show (0 ≤ x ∧ x < 5) ∧ 0 ≤ y ∧ y < 4 by omega) hx, fun q2 => cIN_r fun _ => ⟨rfl, hI.suc hn⟩⟩, fun q => cIN_r fun _ => ⟨rfl, hI.suc hn⟩⟩
  refine x164_m (by omega) (fun h2 _ => x164 (by omega) ?_)
  refine ⟨fun q => ⟨fun q2 => ⟨fun _ => ⟨fun _ => ?_, fun q3 => absurd q2 q3⟩, fun q3 => absurd q q3⟩, fun q2 => no (by omega) _ rfl⟩, fun q => no (by omega) _ rfl⟩
  simp (disch := omega) only [w32_id]
  refine ⟨by omega, hz, cIN_r fun _ => x258_m (by omega) (fun h2 _ => x258 (by omega) ?_)⟩
  simp (disch := omega) only [w32_id]
  have fin : INV (n + 1) (u2 (u2 I 28 (x * 4 + y).toNat z) 92 (21 + 4 * x + y).toNat z) J := by
    obtain ⟨p0, p1, p2, ⟨a1, a2, a3, a4, a5⟩, ⟨t0, t1, t2⟩, hl, hp, htp, hf, ⟨k1, k2, k3⟩, hc, hcc⟩ := hI.suc hn
    have ht : rLast 0 92 (u2 (u2 I 28 (x * 4 + y).toNat z) 92 (21 + 4 * x + y).toNat z) := by
      unfold rLast at a4 ⊢
      simp (disch := omega) only [Nat.reduceAdd, u2n, u2j, u2e, and_true, true_and] at a4 ⊢
      refine ⟨a4.1, a4.2.1, fun i i1 i2 => ?_, fun i i1 i2 => ?_, fun i d i1 i2 d1 d2 => ?_, fun i d i1 i2 d1 d2 => ?_⟩
      · simp (disch := omega) only [Nat.reduceAdd, u2n, u2j, u2e, and_true, true_and]; exact a4.2.2.1 i i1 i2
      · simp (disch := omega) only [Nat.reduceAdd, u2n, u2j, u2e, and_true, true_and]; exact a4.2.2.2.1 i i1 i2
      · by_cases he : i = x ∧ d = y
        · obtain ⟨rfl, rfl⟩ := he
          simp (disch := omega) only [Nat.reduceAdd, u2n, u2j, u2e, and_true, true_and]
          omega
        · simp (disch := omega) only [Nat.reduceAdd, u2n, u2j, u2e, and_true, true_and]; exact a4.2.2.2.2.1 i d i1 i2 d1 d2
      · simp (disch := omega) only [Nat.reduceAdd, u2n, u2j, u2e, and_true, true_and]; exact a4.2.2.2.2.2 i d i1 i2 d1 d2
    refine ⟨p0, p1, p2, ⟨a1.fr ?_ ?_ ?_ ?_ ?_ ?_, a2.fr ?_ ?_ ?_ ?_ ?_ ?_ ?_ ?_, a3.fr ?_ ?_ ?_ ?_ ?_, ht, ?_⟩, ⟨t0.fr ?_ ?_ ?_, t1.fr ?_ ?_ ?_, t2.fr ?_ ?_ ?_⟩, hl.fr ?_ ?_ ?_ ?_ ?_ ?_ ?_ ?_ ?_, hp.fr ?_ ?_ ?_ ?_ ?_ ?_ ?_ ?_ ?_ ?_ ?_ ?_ ?_ ?_ ?_, htp.fr ?_ ?_ ?_ ?_, ?_, ⟨?_, ?_, fun q => (k3 ?_).fr ?_ ?_⟩, hc, ?_⟩
    all_goals first
      | (simp (disch := decide) only [u2_ne, u1_ne]; done)
      | (intro j hj; simp (disch := omega) only [u2n, u2j, u1n]; done)
      | (simp (disch := omega) only [u2n, u2j, u2e, u1n]; first | done | omega | assumption | exact Int.le_refl _)
      | (intro k hk; simp (disch := omega) only [u2_ne, u1_ne]; done)
      | (simp (disch := omega) only [u2n, u2j, u2e] at q; exact q)
      | rfl
  refine ⟨fun p1 => ⟨fun p2 => ⟨fun p3 => ⟨by omega, cIN_r fun _ => ⟨rfl, ?_⟩⟩, fun p3 => ⟨by omega, cIN_r fun _ => ⟨rfl, ?_⟩⟩⟩, fun p2 => by omega⟩, fun p1 => by omega⟩
  · rw [p3] at fin ⊢; exact fin
  · rw [show z = 1 by omega] at fin ⊢; exact fin
theorem pub_plan (hI : INV n I J) (hn : n < 64) (hh : 40 ≤ h) : PairI G h 165 259 [vi x, vi y, vi z] (n + 1) I J b := by
  have no : ¬ ((0 ≤ x ∧ x < 6) ∧ (0 ≤ y ∧ y < 4) ∧ -1 ≤ z ∧ z < 5) → ∀ w : Int, w = 0 → cIN (fun x_1 I1 J1 b1 => TriM G h 259 119 119 [vr 91, vi x, vi y, vi z] (I1, J1, PP b1) (cIN fun y I2 J2 _ => x_1 = y ∧ INV (n + 1) I2 J2)) (some (vi w)) (I, J, PP b) := by
    intro hx w hw
    subst hw
    refine cIN_r fun _ => x259_m (by omega) (fun h2 _ => x259 (by omega) ?_)
    refine ⟨fun q => ⟨fun q2 => ⟨fun q3 => absurd (show (0 ≤ x ∧ x < 6) ∧ (0 ≤ y ∧ y < 4) ∧ -1 ≤ z ∧ z < 5 by omega) hx, fun q3 => cIN_r fun _ => ⟨rfl, hI.suc hn⟩⟩, fun q2 => cIN_r fun _ => ⟨rfl, hI.suc hn⟩⟩, fun q => cIN_r fun _ => ⟨rfl, hI.suc hn⟩⟩
  have yes : (0 ≤ x ∧ x < 6) ∧ (0 ≤ y ∧ y < 4) ∧ -1 ≤ z ∧ z < 5 → cIN (fun x_1 I1 J1 b1 => TriM G h 259 119 119 [vr 91, vi x, vi y, vi z] (I1, J1, PP b1) (cIN fun y I2 J2 _ => x_1 = y ∧ INV (n + 1) I2 J2)) (some (vi 1)) (u2 I 29 (w32 (w32 (x * 4) + y)).toNat z, J, PP b) := by
    intro hx
    simp (disch := omega) only [w32_id]
    refine cIN_r fun _ => x259_m (by omega) (fun h2 _ => x259 (by omega) ?_)
    simp (disch := omega) only [w32_id]
    refine ⟨fun p1 => ⟨fun p2 => ⟨fun p3 => ⟨by omega, cIN_r fun _ => ⟨rfl, ?_⟩⟩, fun p3 => by omega⟩, fun p2 => by omega⟩, fun p1 => by omega⟩
    obtain ⟨p0, p1, p2, ⟨a1, a2, a3, a4, a5⟩, ⟨t0, t1, t2⟩, hl, hp, htp, hf, ⟨k1, k2, k3⟩, hc, hcc⟩ := hI.suc hn
    have ht : rLast 0 92 (u2 (u2 I 29 (x * 4 + y).toNat z) 92 (41 + 4 * x + y).toNat z) := by
      unfold rLast at a4 ⊢
      simp (disch := omega) only [Nat.reduceAdd, u2n, u2j, u2e, and_true, true_and] at a4 ⊢
      refine ⟨a4.1, a4.2.1, fun i i1 i2 => ?_, fun i i1 i2 => ?_, fun i d i1 i2 d1 d2 => ?_, fun i d i1 i2 d1 d2 => ?_⟩
      · simp (disch := omega) only [Nat.reduceAdd, u2n, u2j, u2e, and_true, true_and]; exact a4.2.2.1 i i1 i2
      · simp (disch := omega) only [Nat.reduceAdd, u2n, u2j, u2e, and_true, true_and]; exact a4.2.2.2.1 i i1 i2
      · simp (disch := omega) only [Nat.reduceAdd, u2n, u2j, u2e, and_true, true_and]; exact a4.2.2.2.2.1 i d i1 i2 d1 d2
      · by_cases he : i = x ∧ d = y
        · obtain ⟨rfl, rfl⟩ := he
          simp (disch := omega) only [Nat.reduceAdd, u2n, u2j, u2e, and_true, true_and]
          omega
        · simp (disch := omega) only [Nat.reduceAdd, u2n, u2j, u2e, and_true, true_and]; exact a4.2.2.2.2.2 i d i1 i2 d1 d2
    refine ⟨p0, p1, p2, ⟨a1.fr ?_ ?_ ?_ ?_ ?_ ?_, a2.fr ?_ ?_ ?_ ?_ ?_ ?_ ?_ ?_, a3.fr ?_ ?_ ?_ ?_ ?_, ht, ?_⟩, ⟨t0.fr ?_ ?_ ?_, t1.fr ?_ ?_ ?_, t2.fr ?_ ?_ ?_⟩, hl.fr ?_ ?_ ?_ ?_ ?_ ?_ ?_ ?_ ?_, hp.fr ?_ ?_ ?_ ?_ ?_ ?_ ?_ ?_ ?_ ?_ ?_ ?_ ?_ ?_ ?_, htp.fr ?_ ?_ ?_ ?_, ?_, ⟨?_, ?_, fun q => (k3 ?_).fr ?_ ?_⟩, hc, ?_⟩
    all_goals first
      | (simp (disch := decide) only [u2_ne, u1_ne]; done)
      | (intro j hj; simp (disch := omega) only [u2n, u2j, u1n]; done)
      | (simp (disch := omega) only [u2n, u2j, u2e, u1n]; first | done | omega | assumption | exact Int.le_refl _)
      | (intro k hk; simp (disch := omega) only [u2_ne, u1_ne]; done)
      | (simp (disch := omega) only [u2n, u2j, u2e] at q; exact q)
      | rfl
  refine x165_m (by omega) (fun h2 _ => x165 (by omega) ?_)
  repeat' (first | apply And.intro | intro _)
  all_goals first
    | exact no (by omega) _ rfl
    | exact yes (by omega)
    | (simp (disch := omega) only [w32_id]; omega)
    | omega
end PUBB
end
section
/-! ways: one number on both sides -/
theorem iDiv_pos {a d : Int} (ha : 0 ≤ a) (h2 : a < 2147483648) (hd : 0 < d) (hd2 : d < 2147483648) : iDiv a d = a / d := by
  unfold iDiv
  rw [Int32.toInt_div, toI (by unfold inR; omega), toI (by unfold inR; omega), Int.tdiv_eq_ediv_of_nonneg ha]
  have h3 : 0 ≤ a / d := Int.ediv_nonneg ha (by omega)
  have h4 : a / d ≤ a := Int.ediv_le_self d ha
  exact Int.bmod_eq_of_le (by omega) (by omega)
theorem dist_comm (x y : Int) : dist x y = dist y x := by
  unfold dist
  split <;> split <;> omega
theorem way_in {I : MI} {x y : Int} (hT : rTown 0 92 I) (hx : 0 ≤ x ∧ x < I 2 0) (hy : 0 ≤ y ∧ y < I 2 0) : 0 ≤ wayF I x y ∧ wayF I x y ≤ 3000 := by
  obtain ⟨t1, t2, t3, t4, t5⟩ := hT
  simp only [Nat.reduceAdd] at t1 t2 t3 t4 t5
  have a1 := t4 x (by omega) (by omega)
  have a2 := t4 y (by omega) (by omega)
  unfold wayF dist
  split
  · split <;> omega
  · next hne =>
    have a3 := t5 (I 3 x.toNat) (I 3 y.toNat) (by omega) (by omega) (by omega) (by omega) hne
    omega
theorem way_sym {I : MI} {x y : Int} (hT : rTown 0 92 I) (hx : 0 ≤ x ∧ x < I 2 0) (hy : 0 ≤ y ∧ y < I 2 0) : wayF I x y = wayF I y x := by
  obtain ⟨t1, t2, t3, t4, t5⟩ := hT
  simp only [Nat.reduceAdd] at t1 t2 t3 t4 t5
  have a1 := t4 x (by omega) (by omega)
  have a2 := t4 y (by omega) (by omega)
  unfold wayF
  by_cases he : I 3 x.toNat = I 3 y.toNat
  · rw [if_pos he, if_pos he.symm, dist_comm]
  · rw [if_neg he, if_neg (fun q => he q.symm)]
    have a3 := t5 (I 3 x.toNat) (I 3 y.toNat) (by omega) (by omega) (by omega) (by omega) he
    omega
section TOWN
variable {G : Ctx} {h n : Nat} {I : MI} {J : MJ} {b : B3} {x y z v : Int} {K : Int → MS → Prop}
theorem sx125 (hh : 2 ≤ h) (g : rTown 0 92 I ∧ (0 ≤ x ∧ x < I 2 0) ∧ 0 ≤ y ∧ y < I 2 0) (k : K (wayF I x y) (I, J, PP b)) : TriM G h 125 119 119 [vr 2, vi x, vi y] (I, J, PP b) (cI' K) := by
  obtain ⟨t1, t2, t3, t4, t5⟩ := g.1
  simp only [Nat.reduceAdd] at t1 t2 t3 t4 t5
  have a1 := t4 x (by omega) (by omega)
  have a2 := t4 y (by omega) (by omega)
  unfold wayF dist at k
  refine x125_m hh (fun h hh => x125 hh ?_)
  refine ⟨fun _ => ⟨fun _ => ⟨by omega, by omega, fun q => ?_, fun q => ?_⟩, fun q => absurd g.2.2 q⟩, fun q => absurd g.2.1 q⟩
  · have a3 := t5 (I 3 x.toNat) (I 3 y.toNat) (by omega) (by omega) (by omega) (by omega) q
    rw [if_neg q] at k
    simp (disch := omega) only [w32_id]
    exact ⟨by omega, by omega, by omega, by omega, by omega, cI_r k⟩
  · rw [if_pos (by omega)] at k
    refine ⟨by omega, by omega, cI_r ?_⟩
    rw [w32_id (by omega) (by omega)]
    by_cases hl : I 4 y.toNat < I 4 x.toNat
    · rw [if_pos hl] at k
      rw [if_neg (by omega)]
      exact k
    · rw [if_neg hl] at k
      by_cases h0 : I 4 x.toNat - I 4 y.toNat < 0
      · rw [if_pos h0, w32_id (by omega) (by omega), show -(I 4 x.toNat - I 4 y.toNat) = I 4 y.toNat - I 4 x.toNat by omega]
        exact k
      · rw [if_neg h0, show I 4 x.toNat - I 4 y.toNat = I 4 y.toNat - I 4 x.toNat by omega]
        exact k
theorem sx194 (hh : 2 ≤ h) (g : rTown 0 92 I ∧ (0 ≤ x ∧ x < I 2 0) ∧ 0 ≤ y ∧ y < I 2 0) (k : K (wayF I x y) (I, J, PP b)) : TriM G h 194 119 119 [vr 91, vi x, vi y] (I, J, PP b) (cI' K) := by
  obtain ⟨t1, t2, t3, t4, t5⟩ := g.1
  simp only [Nat.reduceAdd] at t1 t2 t3 t4 t5
  have a1 := t4 x (by omega) (by omega)
  have a2 := t4 y (by omega) (by omega)
  unfold wayF at k
  refine x194_m hh (fun h hh => x194 hh ?_)
  rw [a1.1.1, a1.1.2.1, a2.1.1, a2.1.2.1]
  refine ⟨by omega, by omega, fun q => ?_, fun q => ?_⟩
  · have a3 := t5 (I 3 x.toNat) (I 3 y.toNat) (by omega) (by omega) (by omega) (by omega) q
    rw [if_neg q] at k
    simp (disch := omega) only [w32_id]
    rw [← a3.1] at k
    exact ⟨by omega, by omega, by omega, by omega, by omega, cI_r k⟩
  · rw [if_pos (by omega)] at k
    exact ⟨by omega, by omega, by omega, cI_r k⟩
theorem min_in (hT : rTown 0 92 I) (hx : 0 ≤ x ∧ x < I 2 0) (hy : 0 ≤ y ∧ y < I 2 0) : w32 (iDiv (w32 (wayF I x y * I 2 1)) 100 + I 2 2) = minF I x y ∧ 0 ≤ minF I x y ∧ minF I x y ≤ 4000 := by
  have hw := way_in hT hx hy
  obtain ⟨t1, t2, t3, t4, t5⟩ := hT
  simp only [Nat.reduceAdd] at t1 t2 t3 t4 t5
  have hm : 0 ≤ wayF I x y * I 2 1 := Int.mul_nonneg hw.1 t2.1
  have hm2 : wayF I x y * I 2 1 ≤ 3000 * 99 := Int.mul_le_mul hw.2 (by omega) t2.1 (by omega)
  unfold minF
  rw [show w32 (wayF I x y * I 2 1) = wayF I x y * I 2 1 from w32_id (by omega) (by omega), iDiv_pos hm (by omega) (by omega) (by omega), w32_id (by omega) (by omega)]
  refine ⟨rfl, by omega, by omega⟩
end TOWN
end
section
set_option maxRecDepth 100000 in
theorem y126 {G : Ctx} {h : Nat} {Q : MP} {I : Nat → Nat → Int} {J : Nat → Nat → BitVec 64} {b : B3} {x y : Int} (hh : 2 ≤ h) (H : (rTown 0 92 I ∧ (0 ≤ x ∧ x < I 2 0) ∧ 0 ≤ y ∧ y < I 2 0) ∧ (Q (some (vi (w32 ((iDiv (w32 ((wayF I x y) * (I 2 1))) 100) + (I 2 2))))) (I, J, PP b))) : Tri G h 126 119 119 0 [some (vr 2), some (vi x), some (vi y)] [] (I, J, PP b) Q := wp_at ck126 [] 400 (sx125 (by omega) H.1 (And.intro (show (100 : Int) ≠ 0 by decide) H.2))
theorem y126_m {G : Ctx} {h : Nat} {Q : MP} {I : Nat → Nat → Int} {J : Nat → Nat → BitVec 64} {b : B3} {x y : Int} (hh : 3 ≤ h) (H : ∀ h, 2 ≤ h → Tri G h 126 119 119 0 [some (vr 2), some (vi x), some (vi y)] [] (I, J, PP b) Q) : TriM G h 126 119 119 [vr 2, vi x, vi y] (I, J, PP b) Q := TriM_intro (h - 1) (by omega) (by decide) (Nat.le_of_ble_eq_true rfl) (Nat.le_refl _) (Nat.le_refl _) (H (h - 1) (by omega))
theorem sx126 {G : Ctx} {h : Nat} {I : MI} {J : MJ} {b : B3} {x y : Int} {K : Int → MS → Prop} (hh : 3 ≤ h) (g : rTown 0 92 I ∧ (0 ≤ x ∧ x < I 2 0) ∧ 0 ≤ y ∧ y < I 2 0) (k : K (minF I x y) (I, J, PP b)) : TriM G h 126 119 119 [vr 2, vi x, vi y] (I, J, PP b) (cI' K) := by
  refine y126_m hh (fun h hh => y126 hh ⟨g, cI_r ?_⟩)
  have e := (min_in g.1 g.2.1 g.2.2).1
  have e1 := g.1.2.1.2.2
  have e2 := g.1.2.2.1.2.2
  simp only [Nat.reduceAdd] at e1 e2
  first | (rw [e]; exact k) | (rw [e1, e2, e]; exact k)
set_option maxRecDepth 100000 in
theorem y195 {G : Ctx} {h : Nat} {Q : MP} {I : Nat → Nat → Int} {J : Nat → Nat → BitVec 64} {b : B3} {x y : Int} (hh : 2 ≤ h) (H : (rTown 0 92 I ∧ (0 ≤ x ∧ x < I 2 0) ∧ 0 ≤ y ∧ y < I 2 0) ∧ (Q (some (vi (w32 ((iDiv (w32 ((wayF I x y) * (I 92 1))) 100) + (I 92 2))))) (I, J, PP b))) : Tri G h 195 119 119 0 [some (vr 91), some (vi x), some (vi y)] [] (I, J, PP b) Q := wp_at ck195 [] 400 (sx194 (by omega) H.1 (And.intro (show (0 : Int) ≤ 1 ∧ (1 : Int) < ((5120 : Nat) : Int) by decide) (And.intro (show (100 : Int) ≠ 0 by decide) (And.intro (show (0 : Int) ≤ 2 ∧ (2 : Int) < ((5120 : Nat) : Int) by decide) H.2))))
theorem y195_m {G : Ctx} {h : Nat} {Q : MP} {I : Nat → Nat → Int} {J : Nat → Nat → BitVec 64} {b : B3} {x y : Int} (hh : 3 ≤ h) (H : ∀ h, 2 ≤ h → Tri G h 195 119 119 0 [some (vr 91), some (vi x), some (vi y)] [] (I, J, PP b) Q) : TriM G h 195 119 119 [vr 91, vi x, vi y] (I, J, PP b) Q := TriM_intro (h - 1) (by omega) (by decide) (Nat.le_of_ble_eq_true rfl) (Nat.le_refl _) (Nat.le_refl _) (H (h - 1) (by omega))
theorem sx195 {G : Ctx} {h : Nat} {I : MI} {J : MJ} {b : B3} {x y : Int} {K : Int → MS → Prop} (hh : 3 ≤ h) (g : rTown 0 92 I ∧ (0 ≤ x ∧ x < I 2 0) ∧ 0 ≤ y ∧ y < I 2 0) (k : K (minF I x y) (I, J, PP b)) : TriM G h 195 119 119 [vr 91, vi x, vi y] (I, J, PP b) (cI' K) := by
  refine y195_m hh (fun h hh => y195 hh ⟨g, cI_r ?_⟩)
  have e := (min_in g.1 g.2.1 g.2.2).1
  have e1 := g.1.2.1.2.2
  have e2 := g.1.2.2.1.2.2
  simp only [Nat.reduceAdd] at e1 e2
  first | (rw [e]; exact k) | (rw [e1, e2, e]; exact k)
set_option maxRecDepth 100000 in
theorem y141 {G : Ctx} {h : Nat} {Q : MP} {I : Nat → Nat → Int} {J : Nat → Nat → BitVec 64} {b : B3} {x y z : Int} (hh : 3 ≤ h) (H : ((0 ≤ x ∧ x < (I 2 0)) → (((0 ≤ y ∧ y < (I 2 0)) → (((z = 0 → ((rTown 0 92 I ∧ (0 ≤ x ∧ x < I 2 0) ∧ 0 ≤ y ∧ y < I 2 0) ∧ (Q (some (vi (wayF I x y))) (I, J, PP b)))) ∧ (z = 1 → ((rTown 0 92 I ∧ (0 ≤ x ∧ x < I 2 0) ∧ 0 ≤ y ∧ y < I 2 0) ∧ (Q (some (vi (minF I x y))) (I, J, PP b)))) ∧ True) ∧ (¬ z = 0 → ¬ z = 1 → (Q (some (vi (-1))) (I, J, PP b))))) ∧ (¬ (0 ≤ y ∧ y < (I 2 0)) → (Q (some (vi (-1))) (I, J, PP b))))) ∧ (¬ (0 ≤ x ∧ x < (I 2 0)) → (Q (some (vi (-1))) (I, J, PP b)))) : Tri G h 141 119 119 0 [some (vr 0), some (vi x), some (vi y), some (vi z)] [] (I, J, PP b) Q := wp_at ck141 [] 400 (sx172 (by omega)  (fun q351 => And.intro (fun z => absurd z (show ¬ ((1 : Int) = (0 : Int)) by decide)) (fun _ => sx172 (by omega)  (fun q353 => And.intro (fun _ => And.intro (And.intro (fun q355 => sx125 (by omega) ((((H.1 q351).1 q353).1).1 q355).1 (((((H.1 q351).1 q353).1).1 q355).2)) (And.intro (fun q356 => sx126 (by omega) (((((H.1 q351).1 q353).1).2).1 q356).1 ((((((H.1 q351).1 q353).1).2).1 q356).2)) trivial)) (fun q357 q358 => ((H.1 q351).1 q353).2 q357 q358)) (fun z => absurd (show ¬ (1 : Int) = (0 : Int) by decide) z)) (fun q354 => And.intro (fun z => absurd z (show ¬ (¬ (0 : Int) = (0 : Int)) by decide)) (fun _ => (H.1 q351).2 q354)))) (fun q352 => And.intro (fun _ => H.2 q352) (fun z => absurd (show (0 : Int) = (0 : Int) by decide) z)))
theorem y141_m {G : Ctx} {h : Nat} {Q : MP} {I : Nat → Nat → Int} {J : Nat → Nat → BitVec 64} {b : B3} {x y z : Int} (hh : 4 ≤ h) (H : ∀ h, 3 ≤ h → Tri G h 141 119 119 0 [some (vr 0), some (vi x), some (vi y), some (vi z)] [] (I, J, PP b) Q) : TriM G h 141 119 119 [vr 0, vi x, vi y, vi z] (I, J, PP b) Q := TriM_intro (h - 1) (by omega) (by decide) (Nat.le_of_ble_eq_true rfl) (Nat.le_refl _) (Nat.le_refl _) (H (h - 1) (by omega))
set_option maxRecDepth 100000 in
theorem y196 {G : Ctx} {h : Nat} {Q : MP} {I : Nat → Nat → Int} {J : Nat → Nat → BitVec 64} {b : B3} {x y z : Int} (hh : 3 ≤ h) (H : (0 ≤ (I 92 3) ∧ (I 92 3) < 1000) ∧ (((0 ≤ x ∧ x < (I 92 3)) → ((0 ≤ (I 92 3) ∧ (I 92 3) < 1000) ∧ (((0 ≤ y ∧ y < (I 92 3)) → ((((0 : Int) ≤ z ∧ z ≤ (1 : Int)) → (((¬ z = 0) → ((rTown 0 92 I ∧ (0 ≤ x ∧ x < I 2 0) ∧ 0 ≤ y ∧ y < I 2 0) ∧ (Q (some (vi (minF I x y))) (I, J, PP b)))) ∧ (¬ (¬ z = 0) → ((rTown 0 92 I ∧ (0 ≤ x ∧ x < I 2 0) ∧ 0 ≤ y ∧ y < I 2 0) ∧ (Q (some (vi (wayF I x y))) (I, J, PP b)))))) ∧ (¬ ((0 : Int) ≤ z ∧ z ≤ (1 : Int)) → (Q (some (vi (-1))) (I, J, PP b))))) ∧ (¬ (0 ≤ y ∧ y < (I 92 3)) → (Q (some (vi (-1))) (I, J, PP b)))))) ∧ (¬ (0 ≤ x ∧ x < (I 92 3)) → (Q (some (vi (-1))) (I, J, PP b))))) : Tri G h 196 119 119 0 [some (vr 91), some (vi x), some (vi y), some (vi z)] [] (I, J, PP b) Q := wp_at ck196 [] 400 (sx185 (by omega) H.1 (fun q359 => And.intro (fun z => absurd z (show ¬ ((1 : Int) = (0 : Int)) by decide)) (fun _ => sx185 (by omega) (H.2.1 q359).1 (fun q361 => And.intro (fun z => absurd z (show ¬ ((1 : Int) = (0 : Int)) by decide)) (fun _ => sx181 (by omega)  (fun q363 => And.intro (fun _ => And.intro (fun q365 => sx195 (by omega) (((((H.2.1 q359).2).1 q361).1 q363).1 q365).1 ((((((H.2.1 q359).2).1 q361).1 q363).1 q365).2)) (fun q366 => sx194 (by omega) (((((H.2.1 q359).2).1 q361).1 q363).2 q366).1 ((((((H.2.1 q359).2).1 q361).1 q363).2 q366).2))) (fun z => absurd (show ¬ (1 : Int) = (0 : Int) by decide) z)) (fun q364 => And.intro (fun z => absurd z (show ¬ (¬ (0 : Int) = (0 : Int)) by decide)) (fun _ => (((H.2.1 q359).2).1 q361).2 q364)))) (fun q362 => And.intro (fun _ => ((H.2.1 q359).2).2 q362) (fun z => absurd (show (0 : Int) = (0 : Int) by decide) z)))) (fun q360 => And.intro (fun _ => H.2.2 q360) (fun z => absurd (show (0 : Int) = (0 : Int) by decide) z)))
theorem y196_m {G : Ctx} {h : Nat} {Q : MP} {I : Nat → Nat → Int} {J : Nat → Nat → BitVec 64} {b : B3} {x y z : Int} (hh : 4 ≤ h) (H : ∀ h, 3 ≤ h → Tri G h 196 119 119 0 [some (vr 91), some (vi x), some (vi y), some (vi z)] [] (I, J, PP b) Q) : TriM G h 196 119 119 [vr 91, vi x, vi y, vi z] (I, J, PP b) Q := TriM_intro (h - 1) (by omega) (by decide) (Nat.le_of_ble_eq_true rfl) (Nat.le_refl _) (Nat.le_refl _) (H (h - 1) (by omega))
section PUBC
variable {G : Ctx} {h n : Nat} {I : MI} {J : MJ} {b : B3} {x y z v : Int}
theorem pub_way (hI : INV n I J) (hn : n < 64) (hh : 40 ≤ h) : PairI G h 141 196 [vi x, vi y, vi z] (n + 1) I J b := by
  have hI2 := hI.suc hn
  have hT : rTown 0 92 I := by
    obtain ⟨p0, p1, p2, ⟨a1, a2, a3, a4, a5⟩, -⟩ := hI
    exact a1
  have d1 := hT.1
  simp only [Nat.reduceAdd] at d1
  have key : ∀ w : Int, ((0 ≤ x ∧ x < I 2 0) ∧ (0 ≤ y ∧ y < I 2 0) ∧ z = 0 ∧ w = wayF I x y ∨ (0 ≤ x ∧ x < I 2 0) ∧ (0 ≤ y ∧ y < I 2 0) ∧ z = 1 ∧ w = minF I x y ∨ ¬ ((0 ≤ x ∧ x < I 2 0) ∧ (0 ≤ y ∧ y < I 2 0) ∧ 0 ≤ z ∧ z ≤ 1) ∧ w = -1) → cIN (fun x_1 I1 J1 b1 => TriM G h 196 119 119 [vr 91, vi x, vi y, vi z] (I1, J1, PP b1) (cIN fun y I2 J2 _ => x_1 = y ∧ INV (n + 1) I2 J2)) (some (vi w)) (I, J, PP b) := by
    intro w hw
    refine cIN_r fun _ => y196_m (by omega) (fun h2 _ => y196 (by omega) ?_)
    refine ⟨by omega, fun q1 => ⟨by omega, fun q2 => ⟨fun q3 => ⟨fun q4 => ⟨⟨hT, by omega, by omega⟩, cIN_r fun _ => ⟨?_, hI2⟩⟩, fun q4 => ⟨⟨hT, by omega, by omega⟩, cIN_r fun _ => ⟨?_, hI2⟩⟩⟩, fun q3 => cIN_r fun _ => ⟨?_, hI2⟩⟩, fun q2 => cIN_r fun _ => ⟨?_, hI2⟩⟩, fun q1 => cIN_r fun _ => ⟨?_, hI2⟩⟩
    all_goals omega
  refine y141_m (by omega) (fun h2 _ => y141 (by omega) ?_)
  exact ⟨fun q1 => ⟨fun q2 => ⟨⟨fun q3 => ⟨⟨hT, q1, q2⟩, key _ (by omega)⟩, fun q3 => ⟨⟨hT, q1, q2⟩, key _ (by omega)⟩, trivial⟩, fun q3 q4 => key _ (by omega)⟩, fun q2 => key _ (by omega)⟩, fun q1 => key _ (by omega)⟩
theorem pub_gap (hI : INV n I J) (hn : n < 64) (hh : 40 ≤ h) : PairI G h 139 192 [vi x, vi y, vi z] (n + 1) I J b := by
  have hI2 := hI.suc hn
  have no : ¬ ((0 ≤ x ∧ x < 12) ∧ (0 ≤ y ∧ y < 12) ∧ ¬ x = y ∧ 0 ≤ z ∧ z < 1000) → cIN (fun x_1 I1 J1 b1 => TriM G h 192 119 119 [vr 91, vi x, vi y, vi z] (I1, J1, PP b1) (cIN fun y I2 J2 _ => x_1 = y ∧ INV (n + 1) I2 J2)) (some (vi 0)) (I, J, PP b) := by
    intro hx
    refine cIN_r fun _ => x192_m (by omega) (fun h2 _ => x192 (by omega) ?_)
    exact ⟨fun q1 => ⟨fun q2 => ⟨fun q3 => cIN_r fun _ => ⟨rfl, hI2⟩, fun q3 => ⟨fun q4 => absurd ⟨q1, q2, q3, by omega⟩ hx, fun q4 => cIN_r fun _ => ⟨rfl, hI2⟩⟩⟩, fun q2 => cIN_r fun _ => ⟨rfl, hI2⟩⟩, fun q1 => cIN_r fun _ => ⟨rfl, hI2⟩⟩
  have yes : ((0 ≤ x ∧ x < 12) ∧ (0 ≤ y ∧ y < 12) ∧ ¬ x = y ∧ 0 ≤ z ∧ z < 1000) → cIN (fun x_1 I1 J1 b1 => TriM G h 192 119 119 [vr 91, vi x, vi y, vi z] (I1, J1, PP b1) (cIN fun y I2 J2 _ => x_1 = y ∧ INV (n + 1) I2 J2)) (some (vi 1)) (u2 (u2 (u2 I 6 (x * 12 + y).toNat z) 6 (y * 12 + x).toNat z) 72 3 1, u1 (u1 J 70 (fun j => if j < 224 then (0#64) else J 70 j)) 71 (fun j => if j < 224 then (0#64) else J 71 j), PP b) := by
    intro ⟨c1, c2, c3, c4⟩
    refine cIN_r fun _ => x192_m (by omega) (fun h2 _ => x192 (by omega) ?_)
    simp (disch := omega) only [w32_id]
    refine ⟨fun q1 => ⟨fun q2 => ⟨fun q3 => absurd q3 c3, fun q3 => ⟨fun q4 => ⟨by omega, by omega, cIN_r fun _ => ⟨rfl, ?_⟩⟩, fun q4 => absurd (show 0 ≤ z ∧ z ≤ 999 by omega) q4⟩⟩, fun q2 => absurd c2 q2⟩, fun q1 => absurd c1 q1⟩
    obtain ⟨p0, p1, p2, ⟨a1, a2, a3, a4, a5⟩, ⟨t0, t1, t2⟩, hl, hp, htp, hf, ⟨k1, k2, k3⟩, hc, hcc⟩ := hI.suc hn
    have ht : rTown 0 92 (u2 (u2 (u2 (u2 (u2 I 6 (x * 12 + y).toNat z) 6 (y * 12 + x).toNat z) 72 3 1) 92 (70 + 12 * x + y).toNat z) 92 (70 + 12 * y + x).toNat z) := by
      obtain ⟨d1, d2, d3, d4, d5⟩ := a1
      simp only [Nat.reduceAdd] at d1 d2 d3 d4 d5
      refine ⟨?_, ?_, ?_, fun e e1 e2 => ?_, fun i j i1 i2 j1 j2 hij => ?_⟩
      · simp (disch := omega) only [Nat.reduceAdd, u2n, u2j, u2e, and_true, true_and]; omega
      · simp (disch := omega) only [Nat.reduceAdd, u2n, u2j, u2e, and_true, true_and]; omega
      · simp (disch := omega) only [Nat.reduceAdd, u2n, u2j, u2e, and_true, true_and]; omega
      · simp (disch := omega) only [Nat.reduceAdd, u2n, u2j, u2e, and_true, true_and] at e2
        simp (disch := omega) only [Nat.reduceAdd, u2n, u2j, u2e, and_true, true_and]
        exact d4 e e1 e2
      · by_cases h1 : i = x ∧ j = y
        · obtain ⟨h1, h2⟩ := h1
          subst h1 h2
          simp (disch := omega) only [Nat.reduceAdd, u2n, u2j, u2e, and_true, true_and]
          omega
        · by_cases h2 : i = y ∧ j = x
          · obtain ⟨h1, h2⟩ := h2
            subst h1 h2
            simp (disch := omega) only [Nat.reduceAdd, u2n, u2j, u2e, and_true, true_and]
            omega
          · simp (disch := omega) only [Nat.reduceAdd, u2n, u2j, u2e, and_true, true_and]
            exact d5 i j i1 i2 j1 j2 hij
    refine ⟨p0, p1, p2, ⟨ht, a2.fr ?_ ?_ ?_ ?_ ?_ ?_ ?_ ?_, a3.fr ?_ ?_ ?_ ?_ ?_, a4.fr ?_ ?_ ?_ ?_ ?_ ?_, ?_⟩, ⟨t0.fr ?_ ?_ ?_, t1.fr ?_ ?_ ?_, t2.fr ?_ ?_ ?_⟩, likI.st (fun j hj => by simp (disch := omega) only [u1n, u1e]; rw [if_pos hj]) (fun j hj => by simp (disch := omega) only [u1n, u1e]; rw [if_pos hj]), perI.st (by simp (disch := omega) only [u2n, u2j, u2e]), htp.fr ?_ ?_ ?_ ?_, ?_, ⟨?_, ?_, fun q => (k3 ?_).fr ?_ ?_⟩, hc, ?_⟩
    all_goals first
      | (simp (disch := decide) only [u2_ne, u1_ne]; done)
      | (intro j hj; simp (disch := omega) only [u2n, u2j, u1n]; done)
      | (simp (disch := omega) only [u2n, u2j, u2e, u1n]; first | done | omega | assumption | exact Int.le_refl _)
      | (intro k hk; simp (disch := omega) only [u2_ne, u1_ne]; done)
      | (simp (disch := omega) only [u2n, u2j, u2e] at q; exact q)
      | rfl
  refine x139_m (by omega) (fun h2 _ => x139 (by omega) ?_)
  refine ⟨fun q1 => ⟨fun q2 => ⟨fun q3 => no (by omega), fun q3 => ⟨fun q4 => ⟨fun _ => ⟨fun _ => ?_, fun q => absurd q2 q⟩, fun q => absurd q1 q⟩, fun q4 => no (by omega)⟩⟩, fun q2 => no (by omega)⟩, fun q1 => no (by omega)⟩
  simp (disch := omega) only [w32_id]
  exact ⟨by omega, by omega, yes ⟨q1, q2, q3, q4⟩⟩
end PUBC
end
section
/-! the same with new houses: what is told speaks of old ones -/
def tam (I I' : MI) : Prop := ∀ e : Nat, (e : Int) < I 7 0 → I' 3 (fact I e 2).toNat = I 3 (fact I e 2).toNat ∧ I' 4 (fact I e 2).toNat = I 4 (fact I e 2).toNat
theorem alN_t {I I' : MI} {a b : Nat} (p : List Lin) (ht : tam I I') (h6 : I' 6 = I 6) (h8 : I' 8 = I 8) (h11 : I' 11 = I 11) (h12 : I' 12 = I 12) (ha : (a : Int) < I 7 0) (hb : (b : Int) < I 7 0) : alN p I' a b = alN p I a b := by
  have e : likeV I' a b = likeV I a b := by
    funext s
    have ea := ht a ha
    have eb := ht b hb
    unfold fact at ea eb
    unfold likeV nam fact wayF
    rw [h6, h8, h11, h12, ea.1, ea.2, eb.1, eb.2]
  unfold alN alikB
  rw [e]
section PERS
variable {al al' : Nat → Nat → Bool} {kn : Nat → Bool} {told : Nat}
theorem bIn_t (h : ∀ a b, a < told → b < told → al' a b = al a b) {p : Int} {q : Nat} (hq : q < told) : ∀ (m o : Nat) (s : (Nat → Int) × List Nat), m + o ≤ told → bIn al' kn p q m o s = bIn al kn p q m o s
  | 0, _, _, _ => rfl
  | m + 1, o, s, hm => by
    simp only [bIn]
    rw [h q o hq (by omega)]
    exact bIn_t h hq m (o + 1) _ (by omega)
theorem bIn_lt {p : Int} {q : Nat} : ∀ (m o : Nat) (s : (Nat → Int) × List Nat), m + o ≤ told → (∀ e ∈ s.2, e < told) → ∀ e ∈ (bIn al kn p q m o s).2, e < told
  | 0, _, _, _, hs => hs
  | m + 1, o, s, hm, hs => by
    simp only [bIn]
    refine bIn_lt m (o + 1) _ (by omega) ?_
    split
    · intro e he
      rcases List.mem_append.1 he with h1 | h1
      · exact hs e h1
      · have h2 := List.mem_singleton.1 h1
        omega
    · exact hs
theorem bQu_t (h : ∀ a b, a < told → b < told → al' a b = al a b) {p : Int} : ∀ (f i : Nat) (s : (Nat → Int) × List Nat), (∀ e ∈ s.2, e < told) → bQu al' kn told p f i s = bQu al kn told p f i s
  | 0, _, _, _ => rfl
  | f + 1, i, s, hs => by
    simp only [bQu]
    cases hq : s.2[i]? with
    | none => rfl
    | some q =>
      have hq2 := hs q (List.mem_of_getElem? hq)
      simp only []
      rw [bIn_t h hq2 told 0 s (by omega)]
      exact bQu_t h f (i + 1) _ (bIn_lt told 0 s (by omega) hs)
theorem bAll_t (h : ∀ a b, a < told → b < told → al' a b = al a b) : ∀ (m e : Nat) (s : (Nat → Int) × List Nat), m + e ≤ told → bAll al' kn told m e s = bAll al kn told m e s
  | 0, _, _, _ => rfl
  | m + 1, e, s, hm => by
    simp only [bAll]
    rw [bQu_t h (told + 1) 0 (up1 s.1 e s.2.length, [e]) (fun x hx => by have h2 := List.mem_singleton.1 hx; omega)]
    exact bAll_t h m (e + 1) _ (by omega)
theorem persF_t (h : ∀ a b, a < told → b < told → al' a b = al a b) : persF al' kn told = persF al kn told := bAll_t h told 0 _ (by omega)
end PERS
theorem prs_t {I I' : MI} (p : List Lin) (ht : tam I I') (h6 : I' 6 = I 6) (h7 : I' 7 = I 7) (h8 : I' 8 = I 8) (h9 : I' 9 = I 9) (h10 : I' 10 = I 10) (h11 : I' 11 = I 11) (h12 : I' 12 = I 12) : prs p I' = prs p I := by
  unfold prs
  rw [knB_c h7 h9 h10, h7]
  exact persF_t fun a b ha hb => alN_t p ht h6 h8 h11 h12 (by omega) (by omega)
theorem mayE_t {I I' : MI} (p : List Lin) (ht : tam I I') (h6 : I' 6 = I 6) (h8 : I' 8 = I 8) (h11 : I' 11 = I 11) (h12 : I' 12 = I 12) (cls : Nat → Int) : mayE p I' cls (I 7 0).toNat = mayE p I cls (I 7 0).toNat := by
  funext x y
  unfold mayE
  rw [srt_c h8]
  refine decide_eq_decide.2 ⟨fun ⟨a, a1, a2, c, c1, c2, c3, c4, c5⟩ => ⟨a, a1, a2, c, c1, c2, c3, c4, ?_⟩, fun ⟨a, a1, a2, c, c1, c2, c3, c4, c5⟩ => ⟨a, a1, a2, c, c1, c2, c3, c4, ?_⟩⟩
  · rw [← alN_t p ht h6 h8 h11 h12 (by omega) (by omega)]
    exact c5
  · rw [alN_t p ht h6 h8 h11 h12 (by omega) (by omega)]
    exact c5
theorem coup_t {I I' : MI} (p0 p1 : List Lin) (ht : tam I I') (h6 : I' 6 = I 6) (h7 : I' 7 = I 7) (h8 : I' 8 = I 8) (h9 : I' 9 = I 9) (h10 : I' 10 = I 10) (h11 : I' 11 = I 11) (h12 : I' 12 = I 12) : coup p0 p1 I' = coup p0 p1 I := by
  unfold coup
  rw [prs_t p0 ht h6 h7 h8 h9 h10 h11 h12, h7, mayE_t p1 ht h6 h8 h11 h12, srt_c h8]
theorem likI.tm {p0 p1 : List Lin} {I I' : MI} {J J' : MJ} (h : likI p0 p1 I J) (ht : tam I I') (h6 : I' 6 = I 6) (h7 : I' 7 0 = I 7 0) (h8 : I' 8 = I 8) (h11 : I' 11 = I 11) (h12 : I' 12 = I 12) (j70 : J' 70 = J 70) (j71 : J' 71 = J 71) : likI p0 p1 I' J' := by
  intro k a b k2 ba a1
  have hh := h k a b k2 ba a1
  unfold bitJ at hh ⊢
  rw [j70, j71, h7]
  refine ⟨fun q => ?_, hh.2⟩
  have g := hh.1 q
  rw [alN_t p0 ht h6 h8 h11 h12 g.1 (by omega), alN_t p1 ht h6 h8 h11 h12 g.1 (by omega)]
  exact g
theorem perI.tm {p0 p1 : List Lin} {I I' : MI} {J J' : MJ} (h : perI p0 p1 I J) (ht : tam I I') (h6 : I' 6 = I 6) (h7 : I' 7 = I 7) (h8 : I' 8 = I 8) (h9 : I' 9 = I 9) (h10 : I' 10 = I 10) (h11 : I' 11 = I 11) (h12 : I' 12 = I 12) (h72 : I' 72 = I 72) (h73 : I' 73 = I 73) (h74 : I' 74 = I 74) (h75 : I' 75 = I 75) (h76 : I' 76 = I 76) (j77 : J' 77 = J 77) : perI p0 p1 I' J' := by
  unfold perI
  rw [prs_t p0 ht h6 h7 h8 h9 h10 h11 h12, coup_t p0 p1 ht h6 h7 h8 h9 h10 h11 h12, srt_c h8, inHs_c h8, h7, h72, h73, h74, h75, h76, j77]
  exact h
section PUBD
variable {G : Ctx} {h n : Nat} {I : MI} {J : MJ} {b : B3} {x y z v : Int}
theorem pub_house (hI : INV n I J) (hn : n < 64) (hh : 40 ≤ h) : PairI G h 138 191 [vi x, vi y, vi z] (n + 1) I J b := by
  have hI2 := hI.suc hn
  have hT : rTown 0 92 I := by
    obtain ⟨p0, p1, p2, ⟨a1, a2, a3, a4, a5⟩, -⟩ := hI
    exact a1
  obtain ⟨d1, d2, d3, d4, d5⟩ := hT
  simp only [Nat.reduceAdd] at d1 d2 d3 d4 d5
  have e3 := d1.2.2
  have no : ¬ ((0 ≤ x ∧ x < 12) ∧ (0 ≤ y ∧ y < 1000) ∧ (0 ≤ z ∧ z < 10) ∧ I 2 0 < 60) → cIN (fun x_1 I1 J1 b1 => TriM G h 191 119 119 [vr 91, vi x, vi y, vi z] (I1, J1, PP b1) (cIN fun y I2 J2 _ => x_1 = y ∧ INV (n + 1) I2 J2)) (some (vi (-1))) (I, J, PP b) := by
    intro hx
    refine cIN_r fun _ => x191_m (by omega) (fun h2 _ => x191 (by omega) ?_)
    exact ⟨fun q1 => ⟨fun q2 => ⟨fun q3 => ⟨fun q4 => absurd (show (0 ≤ x ∧ x < 12) ∧ (0 ≤ y ∧ y < 1000) ∧ (0 ≤ z ∧ z < 10) ∧ I 2 0 < 60 by omega) hx, fun q4 => cIN_r fun _ => ⟨rfl, hI2⟩⟩, fun q3 => cIN_r fun _ => ⟨rfl, hI2⟩⟩, fun q2 => cIN_r fun _ => ⟨rfl, hI2⟩⟩, fun q1 => cIN_r fun _ => ⟨rfl, hI2⟩⟩
  have yes : ((0 ≤ x ∧ x < 12) ∧ (0 ≤ y ∧ y < 1000) ∧ (0 ≤ z ∧ z < 10) ∧ I 2 0 < 60) → cIN (fun x_1 I1 J1 b1 => TriM G h 191 119 119 [vr 91, vi x, vi y, vi z] (I1, J1, PP b1) (cIN fun y I2 J2 _ => x_1 = y ∧ INV (n + 1) I2 J2)) (some (vi (I 2 0))) ((u2 (u2 (u2 (u2 I 3 (I 2 0).toNat x) 4 (I 2 0).toNat y) 5 (I 2 0).toNat z) 2 0 (I 2 0 + 1)), J, PP b) := by
    intro ⟨c1, c2, c3, c4⟩
    refine cIN_r fun _ => x191_m (by omega) (fun h2 _ => x191 (by omega) ?_)
    simp (disch := omega) only [u2n, u2j, u2e, w32_id, e3]
    refine ⟨fun q1 => ⟨fun q2 => ⟨fun q3 => ⟨fun q4 => ⟨by omega, by omega, by omega, cIN_r fun _ => ⟨by omega, ?_⟩⟩, fun q4 => absurd (show ¬ I 2 0 = 60 by omega) q4⟩, fun q3 => absurd (show 0 ≤ z ∧ z ≤ 9 by omega) q3⟩, fun q2 => absurd (show 0 ≤ y ∧ y ≤ 999 by omega) q2⟩, fun q1 => absurd c1 q1⟩
    obtain ⟨p0, p1, p2, ⟨a1, a2, a3, a4, a5⟩, ⟨t0, t1, t2⟩, hl, hp, htp, hf, ⟨k1, k2, k3⟩, hc, hcc⟩ := hI.suc hn
    have ht : rTown 0 92 (u2 (u2 (u2 (u2 (u2 (u2 (u2 (u2 I 3 (I 2 0).toNat x) 4 (I 2 0).toNat y) 5 (I 2 0).toNat z) 2 0 (I 2 0 + 1)) 92 (220 + 3 * I 2 0).toNat x) 92 (220 + 3 * I 2 0 + 1).toNat y) 92 (220 + 3 * I 2 0 + 2).toNat z) 92 3 (I 2 0 + 1)) := by
      refine ⟨?_, ?_, ?_, fun e e1 e2 => ?_, fun i j i1 i2 j1 j2 hij => ?_⟩
      · simp (disch := omega) only [Nat.reduceAdd, u2n, u2j, u2e, and_true, true_and]; omega
      · simp (disch := omega) only [Nat.reduceAdd, u2n, u2j, u2e, and_true, true_and]; omega
      · simp (disch := omega) only [Nat.reduceAdd, u2n, u2j, u2e, and_true, true_and]; omega
      · simp (disch := omega) only [Nat.reduceAdd, u2n, u2j, u2e, and_true, true_and] at e2
        by_cases he : e = I 2 0
        · subst he
          simp (disch := omega) only [Nat.reduceAdd, u2n, u2j, u2e, and_true, true_and]
          omega
        · simp (disch := omega) only [Nat.reduceAdd, u2n, u2j, u2e, and_true, true_and]
          exact d4 e e1 (by omega)
      · simp (disch := omega) only [Nat.reduceAdd, u2n, u2j, u2e, and_true, true_and]
        exact d5 i j i1 i2 j1 j2 hij
    have hm : tam I (u2 (u2 (u2 (u2 (u2 (u2 (u2 (u2 I 3 (I 2 0).toNat x) 4 (I 2 0).toNat y) 5 (I 2 0).toNat z) 2 0 (I 2 0 + 1)) 92 (220 + 3 * I 2 0).toNat x) 92 (220 + 3 * I 2 0 + 1).toNat y) 92 (220 + 3 * I 2 0 + 2).toNat z) 92 3 (I 2 0 + 1)) := by
      intro e he
      have f := (a2.2.2.2 e (by omega) he).2.1.2.2.1
      simp only [Nat.reduceAdd] at f
      unfold fact
      simp (disch := omega) only [Nat.reduceAdd, u2n, u2j, u2e, and_true, true_and]
    refine ⟨p0, p1, p2, ⟨ht, a2.fr (by simp (disch := omega) only [Nat.reduceAdd, u2n, u2j, u2e]; omega) ?_ ?_ ?_ ?_ ?_ ?_ ?_, a3.fr (by simp (disch := omega) only [Nat.reduceAdd, u2n, u2j, u2e]; omega) ?_ ?_ ?_ ?_, a4.fr ?_ ?_ ?_ ?_ ?_ ?_, ?_⟩, ⟨t0.fr ?_ ?_ ?_, t1.fr ?_ ?_ ?_, t2.fr ?_ ?_ ?_⟩, hl.tm hm ?_ ?_ ?_ ?_ ?_ ?_ ?_, hp.tm hm ?_ ?_ ?_ ?_ ?_ ?_ ?_ ?_ ?_ ?_ ?_ ?_ ?_, htp.fr ?_ ?_ ?_ ?_, ?_, ⟨?_, ?_, fun q => (k3 ?_).fr ?_ ?_⟩, hc, ?_⟩
    all_goals first
      | (simp (disch := decide) only [u2_ne, u1_ne]; done)
      | (intro j hj; simp (disch := omega) only [u2n, u2j, u1n]; done)
      | (simp (disch := omega) only [u2n, u2j, u2e, u1n]; first | done | omega | assumption | exact Int.le_refl _)
      | (intro k hk; simp (disch := omega) only [u2_ne, u1_ne]; done)
      | (simp (disch := omega) only [u2n, u2j, u2e] at q; exact q)
      | rfl
  refine x138_m (by omega) (fun h2 _ => x138 (by omega) ?_)
  refine ⟨fun q1 => ⟨fun q2 => ⟨fun q3 => ⟨fun q4 => ⟨by omega, by omega, by omega, ?_⟩, fun q4 => no (by omega)⟩, fun q3 => no (by omega)⟩, fun q2 => no (by omega)⟩, fun q1 => no (by omega)⟩
  simp (disch := omega) only [w32_id]
  rw [show I 2 0 + 1 - 1 = I 2 0 by omega]
  exact yes ⟨q1, q2, q3, q4⟩
end PUBD
end
section
set_option maxRecDepth 100000 in
theorem x48 {G : Ctx} {h : Nat} {Q : MP} {I : Nat → Nat → Int} {J : Nat → Nat → BitVec 64} {b : B3} {x y : Int} (hh : 1 ≤ h) (H : ((0 ≤ x ∧ x < (5 : Int)) → (((y = (-1)) → (Tri G h 48 119 119 26 [some (vr 25), some (vi x), some (vi y), some (vi 0)] [] (I, J, PP b) Q)) ∧ (¬ (y = (-1)) → (((0 ≤ y ∧ y < (12 : Int)) → (Tri G h 48 119 119 26 [some (vr 25), some (vi x), some (vi y), some (vi 0)] [] (I, J, PP b) Q)) ∧ (¬ (0 ≤ y ∧ y < (12 : Int)) → (Q (some (vi 0)) (I, J, PP b))))))) ∧ (¬ (0 ≤ x ∧ x < (5 : Int)) → (Q (some (vi 0)) (I, J, PP b)))) : Tri G h 48 119 119 0 [some (vr 25), some (vi x), some (vi y)] [] (I, J, PP b) Q := wp_at ck48 [(26, [true, true, true, true])] 400 (sx172 (by omega)  (fun q367 => And.intro (fun z => absurd z (show ¬ ((1 : Int) = (0 : Int)) by decide)) (fun _ => And.intro (fun q369 => (H.1 q367).1 q369) (fun q370 => sx172 (by omega)  (fun q371 => And.intro (fun _ => ((H.1 q367).2 q370).1 q371) (fun z => absurd (show ¬ (1 : Int) = (0 : Int) by decide) z)) (fun q372 => And.intro (fun z => absurd z (show ¬ (¬ (0 : Int) = (0 : Int)) by decide)) (fun _ => And.intro (show (0 : Int) = 0 ∨ (0 : Int) = 1 by decide) (((H.1 q367).2 q370).2 q372)))))) (fun q368 => And.intro (fun _ => And.intro (show (0 : Int) = 0 ∨ (0 : Int) = 1 by decide) (H.2 q368)) (fun z => absurd (show (0 : Int) = (0 : Int) by decide) z)))
set_option maxRecDepth 100000 in
theorem x48_26 {G : Ctx} {h : Nat} {Q : MP} {I : Nat → Nat → Int} {J : Nat → Nat → BitVec 64} {b : B3} {l1 l2 l3 : Int} (hh : 0 ≤ h) (H : ((5 ≤ l3) → ((0 ≤ l1 ∧ l1 < (5 : Int)) ∧ (Q (some (vi 1)) (u2 I 26 l1.toNat l2, J, PP b)))) ∧ (¬ (5 ≤ l3) → (((l3 = l1) → (Tri G h 48 119 119 26 [some (vr 25), some (vi l1), some (vi l2), some (vi (w32 (l3 + 1)))] [] (I, J, PP b) Q)) ∧ (¬ (l3 = l1) → (((l2 = (-1)) → (Tri G h 48 119 119 26 [some (vr 25), some (vi l1), some (vi l2), some (vi (w32 (l3 + 1)))] [] (I, J, PP b) Q)) ∧ (¬ (l2 = (-1)) → ((0 ≤ l3 ∧ l3 < (5 : Int)) ∧ (((¬ (I 26 l3.toNat) = l2) → (Tri G h 48 119 119 26 [some (vr 25), some (vi l1), some (vi l2), some (vi (w32 (l3 + 1)))] [] (I, J, PP b) Q)) ∧ (¬ (¬ (I 26 l3.toNat) = l2) → (Q (some (vi 0)) (I, J, PP b))))))))))) : Tri G h 48 119 119 26 [some (vr 25), some (vi l1), some (vi l2), some (vi l3)] [] (I, J, PP b) Q := wp_at ck48 [(26, [true, true, true, true])] 400 (And.intro (fun q373 => And.intro (H.1 q373).1 (And.intro (show (1 : Int) = 0 ∨ (1 : Int) = 1 by decide) ((H.1 q373).2))) (fun q374 => And.intro (fun q375 => (H.2 q374).1 q375) (fun q376 => And.intro (fun q377 => ((H.2 q374).2 q376).1 q377) (fun q378 => And.intro (((H.2 q374).2 q376).2 q378).1 (And.intro (fun q379 => ((((H.2 q374).2 q376).2 q378).2).1 q379) (fun q380 => And.intro (show (0 : Int) = 0 ∨ (0 : Int) = 1 by decide) (((((H.2 q374).2 q376).2 q378).2).2 q380)))))))
theorem x48_m {G : Ctx} {h : Nat} {Q : MP} {I : Nat → Nat → Int} {J : Nat → Nat → BitVec 64} {b : B3} {x y : Int} (hh : 2 ≤ h) (H : ∀ h, 1 ≤ h → Tri G h 48 119 119 0 [some (vr 25), some (vi x), some (vi y)] [] (I, J, PP b) Q) : TriM G h 48 119 119 [vr 25, vi x, vi y] (I, J, PP b) Q := TriM_intro (h - 1) (by omega) (by decide) (Nat.le_of_ble_eq_true rfl) (Nat.le_refl _) (Nat.le_refl _) (H (h - 1) (by omega))
set_option maxRecDepth 100000 in
theorem x163 {G : Ctx} {h : Nat} {Q : MP} {I : Nat → Nat → Int} {J : Nat → Nat → BitVec 64} {b : B3} {x y z : Int} (hh : 2 ≤ h) (H : ((x = 0 → (TriM G h 48 119 119 [vr 25, vi y, vi z] (I, J, PP b) (cIN fun r1 I1 J1 b1 => ((r1 = 0 ∨ r1 = 1) ∧ Q (some (vi r1)) (I1, J1, PP b1))))) ∧ (x = 1 → (((0 ≤ y ∧ y < (6 : Int)) → (((0 ≤ z ∧ z < (10 : Int)) → ((0 ≤ y ∧ y < (6 : Int)) ∧ (Q (some (vi 1)) (u2 I 27 y.toNat z, J, PP b)))) ∧ (¬ (0 ≤ z ∧ z < (10 : Int)) → (Q (some (vi 0)) (I, J, PP b))))) ∧ (¬ (0 ≤ y ∧ y < (6 : Int)) → (Q (some (vi 0)) (I, J, PP b))))) ∧ (x = 2 → (((z < 1) → (Q (some (vi 0)) (I, J, PP b))) ∧ (¬ (z < 1) → (((z ≤ 4) → (Q (some (vi 1)) (u2 I 25 0 z, J, PP b))) ∧ (¬ (z ≤ 4) → (Q (some (vi 0)) (I, J, PP b))))))) ∧ (x = 3 → (((z < 1) → (Q (some (vi 0)) (I, J, PP b))) ∧ (¬ (z < 1) → (((z ≤ 6) → (Q (some (vi 1)) (u2 I 25 1 z, J, PP b))) ∧ (¬ (z ≤ 6) → (Q (some (vi 0)) (I, J, PP b))))))) ∧ True) ∧ ((x < 0 ∨ 3 < x) → (Q (some (vi 0)) (I, J, PP b)))) : Tri G h 163 119 119 0 [some (vr 0), some (vi x), some (vi y), some (vi z)] [] (I, J, PP b) Q := wp_at ck163 [] 400 (And.intro (And.intro (fun q381 => cIN_go (H.1.1 q381) (fun r1 I1 J1 b1 q382 => q382)) (And.intro (fun q383 => x49_m (by omega) (fun h hh => x49 hh (And.intro (fun q384 => And.intro (fun q386 => And.intro (((H.1.2.1 q383).1 q384).1 q386).1 (cI_r (And.intro (show (1 : Int) = 0 ∨ (1 : Int) = 1 by decide) ((((H.1.2.1 q383).1 q384).1 q386).2)))) (fun q387 => cI_r (And.intro (show (0 : Int) = 0 ∨ (0 : Int) = 1 by decide) (((H.1.2.1 q383).1 q384).2 q387)))) (fun q385 => cI_r (And.intro (show (0 : Int) = 0 ∨ (0 : Int) = 1 by decide) ((H.1.2.1 q383).2 q385)))))) (And.intro (fun q388 => x50_m (by omega) (fun h hh => x50 hh (And.intro (fun q389 => cI_r (And.intro (show (0 : Int) = 0 ∨ (0 : Int) = 1 by decide) ((H.1.2.2.1 q388).1 q389))) (fun q390 => And.intro (fun q391 => cI_r (And.intro (show (1 : Int) = 0 ∨ (1 : Int) = 1 by decide) (((H.1.2.2.1 q388).2 q390).1 q391))) (fun q392 => cI_r (And.intro (show (0 : Int) = 0 ∨ (0 : Int) = 1 by decide) (((H.1.2.2.1 q388).2 q390).2 q392))))))) (And.intro (fun q393 => x51_m (by omega) (fun h hh => x51 hh (And.intro (fun q394 => cI_r (And.intro (show (0 : Int) = 0 ∨ (0 : Int) = 1 by decide) ((H.1.2.2.2.1 q393).1 q394))) (fun q395 => And.intro (fun q396 => cI_r (And.intro (show (1 : Int) = 0 ∨ (1 : Int) = 1 by decide) (((H.1.2.2.2.1 q393).2 q395).1 q396))) (fun q397 => cI_r (And.intro (show (0 : Int) = 0 ∨ (0 : Int) = 1 by decide) (((H.1.2.2.2.1 q393).2 q395).2 q397))))))) trivial)))) (fun q398 => And.intro (show (0 : Int) = 0 ∨ (0 : Int) = 1 by decide) (H.2 q398)))
theorem x163_m {G : Ctx} {h : Nat} {Q : MP} {I : Nat → Nat → Int} {J : Nat → Nat → BitVec 64} {b : B3} {x y z : Int} (hh : 3 ≤ h) (H : ∀ h, 2 ≤ h → Tri G h 163 119 119 0 [some (vr 0), some (vi x), some (vi y), some (vi z)] [] (I, J, PP b) Q) : TriM G h 163 119 119 [vr 0, vi x, vi y, vi z] (I, J, PP b) Q := TriM_intro (h - 1) (by omega) (by decide) (Nat.le_of_ble_eq_true rfl) (Nat.le_refl _) (Nat.le_refl _) (H (h - 1) (by omega))
set_option maxRecDepth 100000 in
theorem x257 {G : Ctx} {h : Nat} {Q : MP} {I : Nat → Nat → Int} {J : Nat → Nat → BitVec 64} {b : B3} {x y z : Int} (hh : 2 ≤ h) (H : ((x = 0 → ((((0 : Int) ≤ y ∧ y ≤ (4 : Int)) → (((z = (-1)) → (Tri G h 257 119 119 58 [some (vr 91), none, some (vi y), some (vi z), some (vi 0)] [] (I, J, PP b) Q)) ∧ (¬ (z = (-1)) → (((0 ≤ z ∧ z < 12) → (Tri G h 257 119 119 58 [some (vr 91), none, some (vi y), some (vi z), some (vi 0)] [] (I, J, PP b) Q)) ∧ (¬ (0 ≤ z ∧ z < 12) → (Q (some (vi 0)) (I, J, PP b))))))) ∧ (¬ ((0 : Int) ≤ y ∧ y ≤ (4 : Int)) → (Q (some (vi 0)) (I, J, PP b))))) ∧ (x = 1 → ((((0 : Int) ≤ y ∧ y ≤ (5 : Int)) → ((((0 : Int) ≤ z ∧ z ≤ (9 : Int)) → ((0 ≤ (w32 (15 + y)) ∧ (w32 (15 + y)) < (5120 : Int)) ∧ (Q (some (vi 1)) (u2 I 92 ((w32 (15 + y)).toNat) z, J, PP b)))) ∧ (¬ ((0 : Int) ≤ z ∧ z ≤ (9 : Int)) → (Q (some (vi 0)) (I, J, PP b))))) ∧ (¬ ((0 : Int) ≤ y ∧ y ≤ (5 : Int)) → (Q (some (vi 0)) (I, J, PP b))))) ∧ (x = 2 → ((((1 : Int) ≤ z ∧ z ≤ (4 : Int)) → (Q (some (vi 1)) (u2 I 92 8 z, J, PP b))) ∧ (¬ ((1 : Int) ≤ z ∧ z ≤ (4 : Int)) → (Q (some (vi 0)) (I, J, PP b))))) ∧ (x = 3 → ((((1 : Int) ≤ z ∧ z ≤ (6 : Int)) → (Q (some (vi 1)) (u2 I 92 9 z, J, PP b))) ∧ (¬ ((1 : Int) ≤ z ∧ z ≤ (6 : Int)) → (Q (some (vi 0)) (I, J, PP b))))) ∧ True) ∧ ((x < 0 ∨ 3 < x) → (Q (some (vi 0)) (I, J, PP b)))) : Tri G h 257 119 119 0 [some (vr 91), some (vi x), some (vi y), some (vi z)] [] (I, J, PP b) Q := wp_at ck257 [(58, [true, false, true, true, true])] 400 (And.intro (And.intro (fun q399 => sx181 (by omega)  (fun q400 => And.intro (fun z => absurd z (show ¬ ((1 : Int) = (0 : Int)) by decide)) (fun _ => And.intro (fun q402 => ((H.1.1 q399).1 q400).1 q402) (fun q403 => sx186 (by omega)  (fun q404 => And.intro (fun _ => (((H.1.1 q399).1 q400).2 q403).1 q404) (fun z => absurd (show ¬ (1 : Int) = (0 : Int) by decide) z)) (fun q405 => And.intro (fun z => absurd z (show ¬ (¬ (0 : Int) = (0 : Int)) by decide)) (fun _ => And.intro (show (0 : Int) = 0 ∨ (0 : Int) = 1 by decide) ((((H.1.1 q399).1 q400).2 q403).2 q405)))))) (fun q401 => And.intro (fun _ => And.intro (show (0 : Int) = 0 ∨ (0 : Int) = 1 by decide) ((H.1.1 q399).2 q401)) (fun z => absurd (show (0 : Int) = (0 : Int) by decide) z))) (And.intro (fun q406 => sx181 (by omega)  (fun q407 => And.intro (fun z => absurd z (show ¬ ((1 : Int) = (0 : Int)) by decide)) (fun _ => sx181 (by omega)  (fun q409 => And.intro (fun _ => And.intro (((H.1.2.1 q406).1 q407).1 q409).1 (And.intro (show (1 : Int) = 0 ∨ (1 : Int) = 1 by decide) ((((H.1.2.1 q406).1 q407).1 q409).2))) (fun z => absurd (show ¬ (1 : Int) = (0 : Int) by decide) z)) (fun q410 => And.intro (fun z => absurd z (show ¬ (¬ (0 : Int) = (0 : Int)) by decide)) (fun _ => And.intro (show (0 : Int) = 0 ∨ (0 : Int) = 1 by decide) (((H.1.2.1 q406).1 q407).2 q410))))) (fun q408 => And.intro (fun _ => And.intro (show (0 : Int) = 0 ∨ (0 : Int) = 1 by decide) ((H.1.2.1 q406).2 q408)) (fun z => absurd (show (0 : Int) = (0 : Int) by decide) z))) (And.intro (fun q411 => sx181 (by omega)  (fun q412 => And.intro (fun _ => And.intro (show (0 : Int) ≤ 8 ∧ (8 : Int) < ((5120 : Nat) : Int) by decide) (And.intro (show (1 : Int) = 0 ∨ (1 : Int) = 1 by decide) ((H.1.2.2.1 q411).1 q412))) (fun z => absurd (show ¬ (1 : Int) = (0 : Int) by decide) z)) (fun q413 => And.intro (fun z => absurd z (show ¬ (¬ (0 : Int) = (0 : Int)) by decide)) (fun _ => And.intro (show (0 : Int) = 0 ∨ (0 : Int) = 1 by decide) ((H.1.2.2.1 q411).2 q413)))) (And.intro (fun q414 => sx181 (by omega)  (fun q415 => And.intro (fun _ => And.intro (show (0 : Int) ≤ 9 ∧ (9 : Int) < ((5120 : Nat) : Int) by decide) (And.intro (show (1 : Int) = 0 ∨ (1 : Int) = 1 by decide) ((H.1.2.2.2.1 q414).1 q415))) (fun z => absurd (show ¬ (1 : Int) = (0 : Int) by decide) z)) (fun q416 => And.intro (fun z => absurd z (show ¬ (¬ (0 : Int) = (0 : Int)) by decide)) (fun _ => And.intro (show (0 : Int) = 0 ∨ (0 : Int) = 1 by decide) ((H.1.2.2.2.1 q414).2 q416)))) trivial)))) (fun q417 => And.intro (show (0 : Int) = 0 ∨ (0 : Int) = 1 by decide) (H.2 q417)))
set_option maxRecDepth 100000 in
theorem x257_58 {G : Ctx} {h : Nat} {Q : MP} {I : Nat → Nat → Int} {J : Nat → Nat → BitVec 64} {b : B3} {l2 l3 l4 : Int} (hh : 0 ≤ h) (H : ((5 ≤ l4) → ((0 ≤ (w32 (10 + l2)) ∧ (w32 (10 + l2)) < (5120 : Int)) ∧ (Q (some (vi 1)) (u2 I 92 ((w32 (10 + l2)).toNat) l3, J, PP b)))) ∧ (¬ (5 ≤ l4) → (((l4 = l2) → (Tri G h 257 119 119 58 [some (vr 91), none, some (vi l2), some (vi l3), some (vi (w32 (l4 + 1)))] [] (I, J, PP b) Q)) ∧ (¬ (l4 = l2) → (((l3 = (-1)) → (Tri G h 257 119 119 58 [some (vr 91), none, some (vi l2), some (vi l3), some (vi (w32 (l4 + 1)))] [] (I, J, PP b) Q)) ∧ (¬ (l3 = (-1)) → ((0 ≤ (w32 (10 + l4)) ∧ (w32 (10 + l4)) < (5120 : Int)) ∧ (((¬ (I 92 ((w32 (10 + l4)).toNat)) = l3) → (Tri G h 257 119 119 58 [some (vr 91), none, some (vi l2), some (vi l3), some (vi (w32 (l4 + 1)))] [] (I, J, PP b) Q)) ∧ (¬ (¬ (I 92 ((w32 (10 + l4)).toNat)) = l3) → (Q (some (vi 0)) (I, J, PP b))))))))))) : Tri G h 257 119 119 58 [some (vr 91), none, some (vi l2), some (vi l3), some (vi l4)] [] (I, J, PP b) Q := wp_at ck257 [(58, [true, false, true, true, true])] 400 (And.intro (fun q418 => And.intro (H.1 q418).1 (And.intro (show (1 : Int) = 0 ∨ (1 : Int) = 1 by decide) ((H.1 q418).2))) (fun q419 => And.intro (fun q420 => (H.2 q419).1 q420) (fun q421 => And.intro (fun q422 => ((H.2 q419).2 q421).1 q422) (fun q423 => And.intro (((H.2 q419).2 q421).2 q423).1 (And.intro (fun q424 => ((((H.2 q419).2 q421).2 q423).2).1 q424) (fun q425 => And.intro (show (0 : Int) = 0 ∨ (0 : Int) = 1 by decide) (((((H.2 q419).2 q421).2 q423).2).2 q425)))))))
theorem x257_m {G : Ctx} {h : Nat} {Q : MP} {I : Nat → Nat → Int} {J : Nat → Nat → BitVec 64} {b : B3} {x y z : Int} (hh : 3 ≤ h) (H : ∀ h, 2 ≤ h → Tri G h 257 119 119 0 [some (vr 91), some (vi x), some (vi y), some (vi z)] [] (I, J, PP b) Q) : TriM G h 257 119 119 [vr 91, vi x, vi y, vi z] (I, J, PP b) Q := TriM_intro (h - 1) (by omega) (by decide) (Nat.le_of_ble_eq_true rfl) (Nat.le_refl _) (Nat.le_refl _) (H (h - 1) (by omega))
set_option maxRecDepth 100000 in
theorem x143 {G : Ctx} {h : Nat} {Q : MP} {I : Nat → Nat → Int} {J : Nat → Nat → BitVec 64} {b : B3} {x : Int} (hh : 0 ≤ h) (H : Tri G h 143 119 119 3 [some (vr 0), some (vi x), some (vi 24)] [] (I, J, PP b) Q) : Tri G h 143 119 119 0 [some (vr 0), some (vi x)] [] (I, J, PP b) Q := wp_at ck143 [(3, [true, true, true])] 400 H
set_option maxRecDepth 100000 in
theorem x143_3 {G : Ctx} {h : Nat} {Q : MP} {I : Nat → Nat → Int} {J : Nat → Nat → BitVec 64} {b : B3} {l1 l2 : Int} (hh : 0 ≤ h) (H : ((l2 < 0) → (Q none (I, J, PP b))) ∧ (¬ (l2 < 0) → (((400 ≤ (I 0 4)) → (Tri G h 143 119 119 3 [some (vr 0), some (vi l1), some (vi (w32 (l2 + (-8))))] [] (I, J, PP b) Q)) ∧ (¬ (400 ≤ (I 0 4)) → ((0 ≤ (I 0 4) ∧ (I 0 4) < (400 : Int)) ∧ (Tri G h 143 119 119 3 [some (vr 0), some (vi l1), some (vi (w32 (l2 + (-8))))] [] (u2 (u2 I 61 ((I 0 4).toNat) (w8 (w8 (iUsh l1 l2)))) 0 4 (w32 ((I 0 4) + 1)), J, PP b) Q)))))) : Tri G h 143 119 119 3 [some (vr 0), some (vi l1), some (vi l2)] [] (I, J, PP b) Q := wp_at ck143 [(3, [true, true, true])] 400 H
theorem x143_m {G : Ctx} {h : Nat} {Q : MP} {I : Nat → Nat → Int} {J : Nat → Nat → BitVec 64} {b : B3} {x : Int} (hh : 1 ≤ h) (H : ∀ h, 0 ≤ h → Tri G h 143 119 119 0 [some (vr 0), some (vi x)] [] (I, J, PP b) Q) : TriM G h 143 119 119 [vr 0, vi x] (I, J, PP b) Q := TriM_intro (h - 1) (by omega) (by decide) (Nat.le_of_ble_eq_true rfl) (Nat.le_refl _) (Nat.le_refl _) (H (h - 1) (by omega))
set_option maxRecDepth 100000 in
theorem x142 {G : Ctx} {h : Nat} {Q : MP} {I : Nat → Nat → Int} {J : Nat → Nat → BitVec 64} {b : B3} {u v x y z : Int} (hh : 1 ≤ h) (H : (((w32 ((I 0 4) + 20)) ≤ 400) → (TriM G h 143 119 119 [vr 0, vi x] (I, J, PP b) (cVN fun I1 J1 b1 => (TriM G h 143 119 119 [vr 0, vi y] (I1, J1, PP b1) (cVN fun I2 J2 b2 => (TriM G h 143 119 119 [vr 0, vi z] (I2, J2, PP b2) (cVN fun I3 J3 b3 => (TriM G h 143 119 119 [vr 0, vi u] (I3, J3, PP b3) (cVN fun I4 J4 b4 => (TriM G h 143 119 119 [vr 0, vi v] (I4, J4, PP b4) (cVN fun I5 J5 b5 => (Q (some (vi (I5 0 4))) (I5, J5, PP b5))))))))))))) ∧ (¬ ((w32 ((I 0 4) + 20)) ≤ 400) → (Q (some (vi (-1))) (I, J, PP b)))) : Tri G h 142 119 119 0 [some (vr 0), some (vi x), some (vi y), some (vi z), some (vi u), some (vi v)] [] (I, J, PP b) Q := wp_at ck142 [] 400 (And.intro (fun q426 => cVN_go (H.1 q426) (fun I1 J1 b1 q428 => cVN_go q428 (fun I2 J2 b2 q429 => cVN_go q429 (fun I3 J3 b3 q430 => cVN_go q430 (fun I4 J4 b4 q431 => cVN_go q431 (fun I5 J5 b5 q432 => q432)))))) (fun q427 => H.2 q427))
theorem x142_m {G : Ctx} {h : Nat} {Q : MP} {I : Nat → Nat → Int} {J : Nat → Nat → BitVec 64} {b : B3} {x y z u v : Int} (hh : 2 ≤ h) (H : ∀ h, 1 ≤ h → Tri G h 142 119 119 0 [some (vr 0), some (vi x), some (vi y), some (vi z), some (vi u), some (vi v)] [] (I, J, PP b) Q) : TriM G h 142 119 119 [vr 0, vi x, vi y, vi z, vi u, vi v] (I, J, PP b) Q := TriM_intro (h - 1) (by omega) (by decide) (Nat.le_of_ble_eq_true rfl) (Nat.le_refl _) (Nat.le_refl _) (H (h - 1) (by omega))
set_option maxRecDepth 100000 in
theorem x197 {G : Ctx} {h : Nat} {Q : MP} {I : Nat → Nat → Int} {J : Nat → Nat → BitVec 64} {b : B3} {u v x y z : Int} (hh : 0 ≤ h) (H : (((w32 ((I 91 11) + 20)) ≤ 400) → (Tri G h 197 119 119 18 [some (vr 91), some (vi x), some (vi y), some (vi z), some (vi u), some (vi v), some (vi 0)] [] (I, J, PP b) Q)) ∧ (¬ ((w32 ((I 91 11) + 20)) ≤ 400) → (Q (some (vi (-1))) (I, J, PP b)))) : Tri G h 197 119 119 0 [some (vr 91), some (vi x), some (vi y), some (vi z), some (vi u), some (vi v)] [] (I, J, PP b) Q := wp_at ck197 [(18, [true, true, true, true, true, true, true])] 400 H
set_option maxRecDepth 100000 in
theorem x197_18 {G : Ctx} {h : Nat} {Q : MP} {I : Nat → Nat → Int} {J : Nat → Nat → BitVec 64} {b : B3} {l1 l2 l3 l4 l5 l6 : Int} (hh : 0 ≤ h) (H : ((20 ≤ l6) → (Q (some (vi (I 91 11))) (I, J, PP b))) ∧ (¬ (20 ≤ l6) → (((4 ≤ l6) → (((8 ≤ l6) → (((12 ≤ l6) → (((16 ≤ l6) → ((0 ≤ (I 91 11) ∧ (I 91 11) < (400 : Int)) ∧ (Tri G h 197 119 119 18 [some (vr 91), some (vi l1), some (vi l2), some (vi l3), some (vi l4), some (vi l5), some (vi (w32 (l6 + 1)))] [] (u2 (u2 I 96 ((I 91 11).toNat) (iAnd (iShr l5 (w32 (24 - (w32 (8 * (iRem l6 4)))))) 255)) 91 11 (w32 ((I 91 11) + 1)), J, PP b) Q))) ∧ (¬ (16 ≤ l6) → ((0 ≤ (I 91 11) ∧ (I 91 11) < (400 : Int)) ∧ (Tri G h 197 119 119 18 [some (vr 91), some (vi l1), some (vi l2), some (vi l3), some (vi l4), some (vi l5), some (vi (w32 (l6 + 1)))] [] (u2 (u2 I 96 ((I 91 11).toNat) (iAnd (iShr l4 (w32 (24 - (w32 (8 * (iRem l6 4)))))) 255)) 91 11 (w32 ((I 91 11) + 1)), J, PP b) Q))))) ∧ (¬ (12 ≤ l6) → ((0 ≤ (I 91 11) ∧ (I 91 11) < (400 : Int)) ∧ (Tri G h 197 119 119 18 [some (vr 91), some (vi l1), some (vi l2), some (vi l3), some (vi l4), some (vi l5), some (vi (w32 (l6 + 1)))] [] (u2 (u2 I 96 ((I 91 11).toNat) (iAnd (iShr l3 (w32 (24 - (w32 (8 * (iRem l6 4)))))) 255)) 91 11 (w32 ((I 91 11) + 1)), J, PP b) Q))))) ∧ (¬ (8 ≤ l6) → ((0 ≤ (I 91 11) ∧ (I 91 11) < (400 : Int)) ∧ (Tri G h 197 119 119 18 [some (vr 91), some (vi l1), some (vi l2), some (vi l3), some (vi l4), some (vi l5), some (vi (w32 (l6 + 1)))] [] (u2 (u2 I 96 ((I 91 11).toNat) (iAnd (iShr l2 (w32 (24 - (w32 (8 * (iRem l6 4)))))) 255)) 91 11 (w32 ((I 91 11) + 1)), J, PP b) Q))))) ∧ (¬ (4 ≤ l6) → ((0 ≤ (I 91 11) ∧ (I 91 11) < (400 : Int)) ∧ (Tri G h 197 119 119 18 [some (vr 91), some (vi l1), some (vi l2), some (vi l3), some (vi l4), some (vi l5), some (vi (w32 (l6 + 1)))] [] (u2 (u2 I 96 ((I 91 11).toNat) (iAnd (iShr l1 (w32 (24 - (w32 (8 * (iRem l6 4)))))) 255)) 91 11 (w32 ((I 91 11) + 1)), J, PP b) Q)))))) : Tri G h 197 119 119 18 [some (vr 91), some (vi l1), some (vi l2), some (vi l3), some (vi l4), some (vi l5), some (vi l6)] [] (I, J, PP b) Q := wp_at ck197 [(18, [true, true, true, true, true, true, true])] 400 (And.intro (fun q433 => H.1 q433) (fun q434 => And.intro (fun q435 => And.intro (fun q437 => And.intro (fun q439 => And.intro (fun q441 => And.intro (show (4 : Int) ≠ 0 by decide) (((((H.2 q434).1 q435).1 q437).1 q439).1 q441)) (fun q442 => And.intro (show (4 : Int) ≠ 0 by decide) (((((H.2 q434).1 q435).1 q437).1 q439).2 q442))) (fun q440 => And.intro (show (4 : Int) ≠ 0 by decide) ((((H.2 q434).1 q435).1 q437).2 q440))) (fun q438 => And.intro (show (4 : Int) ≠ 0 by decide) (((H.2 q434).1 q435).2 q438))) (fun q436 => And.intro (show (4 : Int) ≠ 0 by decide) ((H.2 q434).2 q436))))
theorem x197_m {G : Ctx} {h : Nat} {Q : MP} {I : Nat → Nat → Int} {J : Nat → Nat → BitVec 64} {b : B3} {x y z u v : Int} (hh : 1 ≤ h) (H : ∀ h, 0 ≤ h → Tri G h 197 119 119 0 [some (vr 91), some (vi x), some (vi y), some (vi z), some (vi u), some (vi v)] [] (I, J, PP b) Q) : TriM G h 197 119 119 [vr 91, vi x, vi y, vi z, vi u, vi v] (I, J, PP b) Q := TriM_intro (h - 1) (by omega) (by decide) (Nat.le_of_ble_eq_true rfl) (Nat.le_refl _) (Nat.le_refl _) (H (h - 1) (by omega))
/-! cells that may have changed -/
def frK (S : List Nat) (I I' : MI) : Prop := ∀ k, k ∉ S → I' k = I k
theorem frK.r {S : List Nat} {I : MI} : frK S I I := fun _ _ => rfl
theorem frK.t {S : List Nat} {I I' I2 : MI} (h : frK S I I') (h2 : frK S I' I2) : frK S I I2 := fun k hk => by rw [h2 k hk, h k hk]
theorem frK.mo {S S' : List Nat} {I I' : MI} (h : frK S I I') (hs : ∀ k ∈ S, k ∈ S') : frK S' I I' := fun k hk => h k fun q => hk (hs k q)
theorem frK.u {S : List Nat} {I I' : MI} {k j : Nat} {x : Int} (h : frK S I I') (hk : k ∈ S) : frK S I (u2 I' k j x) := fun a ha => by
  rw [u2_ne (fun q => ha (by rw [q]; exact hk)), h a ha]
theorem frK.u1 {S : List Nat} {I I' : MI} {k : Nat} {g : Nat → Int} (h : frK S I I') (hk : k ∈ S) : frK S I (u1 I' k g) := fun a ha => by
  rw [u1_ne (fun q => ha (by rw [q]; exact hk)), h a ha]
abbrev SCR : List Nat := [15, 18, 21, 30, 62, 63, 64, 65, 66, 68, 69, 78, 79, 80, 81, 83, 84, 85, 86, 87, 88, 89, 90, 94, 95, 97, 98, 99, 100, 101, 102, 103, 104, 105, 106, 107, 108, 110, 111, 112, 113, 114, 115, 116, 117, 118]
theorem INV.sc {c : Nat} {I I' : MI} {J J' : MJ} (h : INV c I J) (hk : frK SCR I I') (hj : ∀ k ∈ [70, 71, 77, 109], J' k = J k) : INV c I' J' := h.fr (fun k q _ => hk k q) (fun j _ => by rw [hk 91 (by decide)]) hj
theorem INV.sc1 {c : Nat} {I I' : MI} {J J' : MJ} (h : INV c I J) (hk : frK (91 :: SCR) I I') (h91 : ∀ j ∈ [2, 11, 18, 20], I' 91 j = I 91 j) (hj : ∀ k ∈ [70, 71, 77, 109], J' k = J k) : INV c I' J' := h.fr (fun k q q2 => hk k (by rw [List.mem_cons, not_or]; exact ⟨q2, q⟩)) h91 hj
section PUBE
variable {G : Ctx} {h n : Nat} {I : MI} {J : MJ} {b : B3} {x y z u v : Int}
def gsOK (I : MI) (x y : Int) : Prop := (0 ≤ x ∧ x < 5) ∧ (y = -1 ∨ ((0 ≤ y ∧ y < 12) ∧ ∀ i : Int, 0 ≤ i → i < 5 → i ≠ x → I 26 i.toNat ≠ y))
theorem s48_l {K : Int → MI → MJ → B3 → Prop} (hx : 0 ≤ x ∧ x < 5) (hy : y = -1 ∨ (0 ≤ y ∧ y < 12)) (k1 : gsOK I x y → K 1 (u2 I 26 x.toNat y) J b) (k0 : ¬ gsOK I x y → K 0 I J b) : ∀ (m : Nat) (i : Int), i + m = 5 → 0 ≤ i → (∀ t : Int, 0 ≤ t → t < i → t ≠ x → y = -1 ∨ I 26 t.toNat ≠ y) → Tri G h 48 119 119 26 [some (vr 25), some (vi x), some (vi y), some (vi i)] [] (I, J, PP b) (cIN K) := by
  intro m
  induction m with
  | zero =>
    intro i hi h0 ht
    refine x48_26 (Nat.zero_le _) ⟨fun q => ⟨hx, cIN_r fun _ => k1 ⟨hx, ?_⟩⟩, fun q => by omega⟩
    by_cases hy1 : y = -1
    · exact Or.inl hy1
    · exact Or.inr ⟨hy.resolve_left hy1, fun t t1 t2 t3 => (ht t t1 (by omega) t3).resolve_left hy1⟩
  | succ m ih =>
    intro i hi h0 ht
    refine x48_26 (Nat.zero_le _) ⟨fun q => by omega, fun q => ⟨fun q1 => ?_, fun q1 => ⟨fun q2 => ?_, fun q2 => ⟨by omega, fun q3 => ?_, fun q3 => cIN_r fun _ => k0 ?_⟩⟩⟩⟩
    · rw [w32_id (by omega) (by omega)]
      exact ih (i + 1) (by omega) (by omega) (fun t t1 t2 t3 => ht t t1 (by omega) t3)
    · rw [w32_id (by omega) (by omega)]
      exact ih (i + 1) (by omega) (by omega) (fun t t1 t2 t3 => Or.inl q2)
    · rw [w32_id (by omega) (by omega)]
      refine ih (i + 1) (by omega) (by omega) (fun t t1 t2 t3 => ?_)
      by_cases ht2 : t = i
      · rw [ht2]; exact Or.inr q3
      · exact ht t t1 (by omega) t3
    · intro hk
      rcases hk.2 with hk | hk
      · exact q2 hk
      · exact q3 (hk.2 i h0 (by omega) q1)
theorem s48 {K : Int → MI → MJ → B3 → Prop} (hh : 2 ≤ h) (k1 : gsOK I x y → K 1 (u2 I 26 x.toNat y) J b) (k0 : ¬ gsOK I x y → K 0 I J b) : TriM G h 48 119 119 [vr 25, vi x, vi y] (I, J, PP b) (cIN K) := by
  refine x48_m hh (fun h hh => x48 hh ⟨fun q => ⟨fun q1 => ?_, fun q1 => ⟨fun q2 => ?_, fun q2 => cIN_r fun _ => k0 ?_⟩⟩, fun q => cIN_r fun _ => k0 fun z => q z.1⟩)
  · exact s48_l q (Or.inl q1) k1 k0 5 0 rfl (by omega) (fun t t1 t2 => by omega)
  · exact s48_l q (Or.inr q2) k1 k0 5 0 rfl (by omega) (fun t t1 t2 => by omega)
  · intro hk
    rcases hk.2 with hk | hk
    · exact q1 hk
    · exact q2 hk.1
def gsM (I : MI) (x y : Int) : Prop := (0 ≤ x ∧ x < 5) ∧ (y = -1 ∨ ((0 ≤ y ∧ y < 12) ∧ ∀ i : Int, 0 ≤ i → i < 5 → i ≠ x → I 92 (10 + i).toNat ≠ y))
theorem s257_l {K : Int → MI → MJ → B3 → Prop} (hx : 0 ≤ x ∧ x < 5) (hy : y = -1 ∨ (0 ≤ y ∧ y < 12)) (k1 : gsM I x y → K 1 (u2 I 92 (10 + x).toNat y) J b) (k0 : ¬ gsM I x y → K 0 I J b) : ∀ (m : Nat) (i : Int), i + m = 5 → 0 ≤ i → (∀ t : Int, 0 ≤ t → t < i → t ≠ x → y = -1 ∨ I 92 (10 + t).toNat ≠ y) → Tri G h 257 119 119 58 [some (vr 91), none, some (vi x), some (vi y), some (vi i)] [] (I, J, PP b) (cIN K) := by
  intro m
  induction m with
  | zero =>
    intro i hi h0 ht
    refine x257_58 (Nat.zero_le _) ?_
    rw [w32_id (x := 10 + x) (by omega) (by omega)]
    refine ⟨fun q => ⟨by omega, cIN_r fun _ => k1 ⟨hx, ?_⟩⟩, fun q => by omega⟩
    by_cases hy1 : y = -1
    · exact Or.inl hy1
    · exact Or.inr ⟨hy.resolve_left hy1, fun t t1 t2 t3 => (ht t t1 (by omega) t3).resolve_left hy1⟩
  | succ m ih =>
    intro i hi h0 ht
    refine x257_58 (Nat.zero_le _) ?_
    rw [w32_id (x := 10 + i) (by omega) (by omega), w32_id (x := i + 1) (by omega) (by omega)]
    refine ⟨fun q => by omega, fun q => ⟨fun q1 => ?_, fun q1 => ⟨fun q2 => ?_, fun q2 => ⟨by omega, fun q3 => ?_, fun q3 => cIN_r fun _ => k0 ?_⟩⟩⟩⟩
    · exact ih (i + 1) (by omega) (by omega) (fun t t1 t2 t3 => ht t t1 (by omega) t3)
    · exact ih (i + 1) (by omega) (by omega) (fun t t1 t2 t3 => Or.inl q2)
    · refine ih (i + 1) (by omega) (by omega) (fun t t1 t2 t3 => ?_)
      by_cases ht2 : t = i
      · rw [ht2]; exact Or.inr q3
      · exact ht t t1 (by omega) t3
    · intro hk
      rcases hk.2 with hk | hk
      · exact q2 hk
      · exact q3 (hk.2 i h0 (by omega) q1)

theorem pub_last (hI : INV n I J) (hn : n < 64) (hh : 40 ≤ h) : PairI G h 163 257 [vi x, vi y, vi z] (n + 1) I J b := by
  have hI2 := hI.suc hn
  have hL : rLast 0 92 I := by
    obtain ⟨p0, p1, p2, ⟨a1, a2, a3, a4, a5⟩, -⟩ := hI
    exact a4
  obtain ⟨b1, b2, b3, -⟩ := hL
  simp only [Nat.reduceAdd] at b1 b2 b3
  have f0 : gsOK I y z → INV (n + 1) (u2 (u2 I 26 y.toNat z) 92 (10 + y).toNat z) J := by
    intro ⟨g1, g2⟩
    have g3 : -1 ≤ z ∧ z < 12 := by
      rcases g2 with g2 | g2
      · omega
      · have := g2.1; omega
    obtain ⟨p0, p1, p2, ⟨a1, a2, a3, a4, a5⟩, ⟨t0, t1, t2⟩, hl, hp, htp, hf, ⟨k1, k2, k3⟩, hc, hcc⟩ := hI.suc hn
    have ht : rLast 0 92 (u2 (u2 I 26 y.toNat z) 92 (10 + y).toNat z) := by
      unfold rLast at a4 ⊢
      simp (disch := omega) only [Nat.reduceAdd, u2n, u2j, u2e, and_true, true_and] at a4 ⊢
      refine ⟨by omega, by omega, fun i i1 i2 => ?_, fun i i1 i2 => ?_, fun i d i1 i2 d1 d2 => ?_, fun i d i1 i2 d1 d2 => ?_⟩
      · first
        | (simp (disch := omega) only [Nat.reduceAdd, u2n, u2j, u2e, and_true, true_and]; exact a4.2.2.1 i i1 i2)
        | (by_cases he : i = y
           · obtain rfl := he
             simp (disch := omega) only [Nat.reduceAdd, u2n, u2j, u2e, and_true, true_and]
             omega
           · simp (disch := omega) only [Nat.reduceAdd, u2n, u2j, u2e, and_true, true_and]; exact a4.2.2.1 i i1 i2)
      · first
        | (simp (disch := omega) only [Nat.reduceAdd, u2n, u2j, u2e, and_true, true_and]; exact a4.2.2.2.1 i i1 i2)
        | (by_cases he : i = y
           · obtain rfl := he
             simp (disch := omega) only [Nat.reduceAdd, u2n, u2j, u2e, and_true, true_and]
             omega
           · simp (disch := omega) only [Nat.reduceAdd, u2n, u2j, u2e, and_true, true_and]; exact a4.2.2.2.1 i i1 i2)
      · simp (disch := omega) only [Nat.reduceAdd, u2n, u2j, u2e, and_true, true_and]; exact a4.2.2.2.2.1 i d i1 i2 d1 d2
      · simp (disch := omega) only [Nat.reduceAdd, u2n, u2j, u2e, and_true, true_and]; exact a4.2.2.2.2.2 i d i1 i2 d1 d2
    refine ⟨p0, p1, p2, ⟨a1.fr ?_ ?_ ?_ ?_ ?_ ?_, a2.fr ?_ ?_ ?_ ?_ ?_ ?_ ?_ ?_, a3.fr ?_ ?_ ?_ ?_ ?_, ht, ?_⟩, ⟨t0.fr ?_ ?_ ?_, t1.fr ?_ ?_ ?_, t2.fr ?_ ?_ ?_⟩, hl.fr ?_ ?_ ?_ ?_ ?_ ?_ ?_ ?_ ?_, hp.fr ?_ ?_ ?_ ?_ ?_ ?_ ?_ ?_ ?_ ?_ ?_ ?_ ?_ ?_ ?_, htp.fr ?_ ?_ ?_ ?_, ?_, ⟨?_, ?_, fun q => (k3 ?_).fr ?_ ?_⟩, hc, ?_⟩
    all_goals first
      | (simp (disch := decide) only [u2_ne, u1_ne]; done)
      | (intro j hj; simp (disch := omega) only [u2n, u2j, u1n]; done)
      | (simp (disch := omega) only [u2n, u2j, u2e, u1n]; first | done | omega | assumption | exact Int.le_refl _)
      | (intro k hk; simp (disch := omega) only [u2_ne, u1_ne]; done)
      | (simp (disch := omega) only [u2n, u2j, u2e] at q; exact q)
      | rfl
  have f1 : (0 ≤ y ∧ y < 6) ∧ 0 ≤ z ∧ z < 10 → INV (n + 1) (u2 (u2 I 27 y.toNat z) 92 (15 + y).toNat z) J := by
    intro ⟨g1, g2⟩
    obtain ⟨p0, p1, p2, ⟨a1, a2, a3, a4, a5⟩, ⟨t0, t1, t2⟩, hl, hp, htp, hf, ⟨k1, k2, k3⟩, hc, hcc⟩ := hI.suc hn
    have ht : rLast 0 92 (u2 (u2 I 27 y.toNat z) 92 (15 + y).toNat z) := by
      unfold rLast at a4 ⊢
      simp (disch := omega) only [Nat.reduceAdd, u2n, u2j, u2e, and_true, true_and] at a4 ⊢
      refine ⟨by omega, by omega, fun i i1 i2 => ?_, fun i i1 i2 => ?_, fun i d i1 i2 d1 d2 => ?_, fun i d i1 i2 d1 d2 => ?_⟩
      · first
        | (simp (disch := omega) only [Nat.reduceAdd, u2n, u2j, u2e, and_true, true_and]; exact a4.2.2.1 i i1 i2)
        | (by_cases he : i = y
           · obtain rfl := he
             simp (disch := omega) only [Nat.reduceAdd, u2n, u2j, u2e, and_true, true_and]
             omega
           · simp (disch := omega) only [Nat.reduceAdd, u2n, u2j, u2e, and_true, true_and]; exact a4.2.2.1 i i1 i2)
      · first
        | (simp (disch := omega) only [Nat.reduceAdd, u2n, u2j, u2e, and_true, true_and]; exact a4.2.2.2.1 i i1 i2)
        | (by_cases he : i = y
           · obtain rfl := he
             simp (disch := omega) only [Nat.reduceAdd, u2n, u2j, u2e, and_true, true_and]
             omega
           · simp (disch := omega) only [Nat.reduceAdd, u2n, u2j, u2e, and_true, true_and]; exact a4.2.2.2.1 i i1 i2)
      · simp (disch := omega) only [Nat.reduceAdd, u2n, u2j, u2e, and_true, true_and]; exact a4.2.2.2.2.1 i d i1 i2 d1 d2
      · simp (disch := omega) only [Nat.reduceAdd, u2n, u2j, u2e, and_true, true_and]; exact a4.2.2.2.2.2 i d i1 i2 d1 d2
    refine ⟨p0, p1, p2, ⟨a1.fr ?_ ?_ ?_ ?_ ?_ ?_, a2.fr ?_ ?_ ?_ ?_ ?_ ?_ ?_ ?_, a3.fr ?_ ?_ ?_ ?_ ?_, ht, ?_⟩, ⟨t0.fr ?_ ?_ ?_, t1.fr ?_ ?_ ?_, t2.fr ?_ ?_ ?_⟩, hl.fr ?_ ?_ ?_ ?_ ?_ ?_ ?_ ?_ ?_, hp.fr ?_ ?_ ?_ ?_ ?_ ?_ ?_ ?_ ?_ ?_ ?_ ?_ ?_ ?_ ?_, htp.fr ?_ ?_ ?_ ?_, ?_, ⟨?_, ?_, fun q => (k3 ?_).fr ?_ ?_⟩, hc, ?_⟩
    all_goals first
      | (simp (disch := decide) only [u2_ne, u1_ne]; done)
      | (intro j hj; simp (disch := omega) only [u2n, u2j, u1n]; done)
      | (simp (disch := omega) only [u2n, u2j, u2e, u1n]; first | done | omega | assumption | exact Int.le_refl _)
      | (intro k hk; simp (disch := omega) only [u2_ne, u1_ne]; done)
      | (simp (disch := omega) only [u2n, u2j, u2e] at q; exact q)
      | rfl
  have f2 : 1 ≤ z ∧ z ≤ 4 → INV (n + 1) (u2 (u2 I 25 0 z) 92 8 z) J := by
    intro g1
    obtain ⟨p0, p1, p2, ⟨a1, a2, a3, a4, a5⟩, ⟨t0, t1, t2⟩, hl, hp, htp, hf, ⟨k1, k2, k3⟩, hc, hcc⟩ := hI.suc hn
    have ht : rLast 0 92 (u2 (u2 I 25 0 z) 92 8 z) := by
      unfold rLast at a4 ⊢
      simp (disch := omega) only [Nat.reduceAdd, u2n, u2j, u2e, and_true, true_and] at a4 ⊢
      refine ⟨by omega, by omega, fun i i1 i2 => ?_, fun i i1 i2 => ?_, fun i d i1 i2 d1 d2 => ?_, fun i d i1 i2 d1 d2 => ?_⟩
      · first
        | (simp (disch := omega) only [Nat.reduceAdd, u2n, u2j, u2e, and_true, true_and]; exact a4.2.2.1 i i1 i2)
        | (by_cases he : i = y
           · obtain rfl := he
             simp (disch := omega) only [Nat.reduceAdd, u2n, u2j, u2e, and_true, true_and]
             omega
           · simp (disch := omega) only [Nat.reduceAdd, u2n, u2j, u2e, and_true, true_and]; exact a4.2.2.1 i i1 i2)
      · first
        | (simp (disch := omega) only [Nat.reduceAdd, u2n, u2j, u2e, and_true, true_and]; exact a4.2.2.2.1 i i1 i2)
        | (by_cases he : i = y
           · obtain rfl := he
             simp (disch := omega) only [Nat.reduceAdd, u2n, u2j, u2e, and_true, true_and]
             omega
           · simp (disch := omega) only [Nat.reduceAdd, u2n, u2j, u2e, and_true, true_and]; exact a4.2.2.2.1 i i1 i2)
      · simp (disch := omega) only [Nat.reduceAdd, u2n, u2j, u2e, and_true, true_and]; exact a4.2.2.2.2.1 i d i1 i2 d1 d2
      · simp (disch := omega) only [Nat.reduceAdd, u2n, u2j, u2e, and_true, true_and]; exact a4.2.2.2.2.2 i d i1 i2 d1 d2
    refine ⟨p0, p1, p2, ⟨a1.fr ?_ ?_ ?_ ?_ ?_ ?_, a2.fr ?_ ?_ ?_ ?_ ?_ ?_ ?_ ?_, a3.fr ?_ ?_ ?_ ?_ ?_, ht, ?_⟩, ⟨t0.fr ?_ ?_ ?_, t1.fr ?_ ?_ ?_, t2.fr ?_ ?_ ?_⟩, hl.fr ?_ ?_ ?_ ?_ ?_ ?_ ?_ ?_ ?_, hp.fr ?_ ?_ ?_ ?_ ?_ ?_ ?_ ?_ ?_ ?_ ?_ ?_ ?_ ?_ ?_, htp.fr ?_ ?_ ?_ ?_, ?_, ⟨?_, ?_, fun q => (k3 ?_).fr ?_ ?_⟩, hc, ?_⟩
    all_goals first
      | (simp (disch := decide) only [u2_ne, u1_ne]; done)
      | (intro j hj; simp (disch := omega) only [u2n, u2j, u1n]; done)
      | (simp (disch := omega) only [u2n, u2j, u2e, u1n]; first | done | omega | assumption | exact Int.le_refl _)
      | (intro k hk; simp (disch := omega) only [u2_ne, u1_ne]; done)
      | (simp (disch := omega) only [u2n, u2j, u2e] at q; exact q)
      | rfl
  have f3 : 1 ≤ z ∧ z ≤ 6 → INV (n + 1) (u2 (u2 I 25 1 z) 92 9 z) J := by
    intro g1
    obtain ⟨p0, p1, p2, ⟨a1, a2, a3, a4, a5⟩, ⟨t0, t1, t2⟩, hl, hp, htp, hf, ⟨k1, k2, k3⟩, hc, hcc⟩ := hI.suc hn
    have ht : rLast 0 92 (u2 (u2 I 25 1 z) 92 9 z) := by
      unfold rLast at a4 ⊢
      simp (disch := omega) only [Nat.reduceAdd, u2n, u2j, u2e, and_true, true_and] at a4 ⊢
      refine ⟨by omega, by omega, fun i i1 i2 => ?_, fun i i1 i2 => ?_, fun i d i1 i2 d1 d2 => ?_, fun i d i1 i2 d1 d2 => ?_⟩
      · first
        | (simp (disch := omega) only [Nat.reduceAdd, u2n, u2j, u2e, and_true, true_and]; exact a4.2.2.1 i i1 i2)
        | (by_cases he : i = y
           · obtain rfl := he
             simp (disch := omega) only [Nat.reduceAdd, u2n, u2j, u2e, and_true, true_and]
             omega
           · simp (disch := omega) only [Nat.reduceAdd, u2n, u2j, u2e, and_true, true_and]; exact a4.2.2.1 i i1 i2)
      · first
        | (simp (disch := omega) only [Nat.reduceAdd, u2n, u2j, u2e, and_true, true_and]; exact a4.2.2.2.1 i i1 i2)
        | (by_cases he : i = y
           · obtain rfl := he
             simp (disch := omega) only [Nat.reduceAdd, u2n, u2j, u2e, and_true, true_and]
             omega
           · simp (disch := omega) only [Nat.reduceAdd, u2n, u2j, u2e, and_true, true_and]; exact a4.2.2.2.1 i i1 i2)
      · simp (disch := omega) only [Nat.reduceAdd, u2n, u2j, u2e, and_true, true_and]; exact a4.2.2.2.2.1 i d i1 i2 d1 d2
      · simp (disch := omega) only [Nat.reduceAdd, u2n, u2j, u2e, and_true, true_and]; exact a4.2.2.2.2.2 i d i1 i2 d1 d2
    refine ⟨p0, p1, p2, ⟨a1.fr ?_ ?_ ?_ ?_ ?_ ?_, a2.fr ?_ ?_ ?_ ?_ ?_ ?_ ?_ ?_, a3.fr ?_ ?_ ?_ ?_ ?_, ht, ?_⟩, ⟨t0.fr ?_ ?_ ?_, t1.fr ?_ ?_ ?_, t2.fr ?_ ?_ ?_⟩, hl.fr ?_ ?_ ?_ ?_ ?_ ?_ ?_ ?_ ?_, hp.fr ?_ ?_ ?_ ?_ ?_ ?_ ?_ ?_ ?_ ?_ ?_ ?_ ?_ ?_ ?_, htp.fr ?_ ?_ ?_ ?_, ?_, ⟨?_, ?_, fun q => (k3 ?_).fr ?_ ?_⟩, hc, ?_⟩
    all_goals first
      | (simp (disch := decide) only [u2_ne, u1_ne]; done)
      | (intro j hj; simp (disch := omega) only [u2n, u2j, u1n]; done)
      | (simp (disch := omega) only [u2n, u2j, u2e, u1n]; first | done | omega | assumption | exact Int.le_refl _)
      | (intro k hk; simp (disch := omega) only [u2_ne, u1_ne]; done)
      | (simp (disch := omega) only [u2n, u2j, u2e] at q; exact q)
      | rfl
  have e0 : gsM I y z ↔ gsOK I y z := by
    unfold gsM gsOK
    refine and_congr Iff.rfl (or_congr Iff.rfl (and_congr Iff.rfl ⟨fun q i i1 i2 i3 => ?_, fun q i i1 i2 i3 => ?_⟩))
    · rw [← (b3 i i1 i2).1]; exact q i i1 i2 i3
    · rw [(b3 i i1 i2).1]; exact q i i1 i2 i3
  have no : ∀ I' : MI, (x = 0 → ¬ gsM I' y z) → (x = 1 → ¬ ((0 ≤ y ∧ y < 6) ∧ 0 ≤ z ∧ z < 10)) → (x = 2 → ¬ (1 ≤ z ∧ z ≤ 4)) → (x = 3 → ¬ (1 ≤ z ∧ z ≤ 6)) → INV (n + 1) I' J → TriM G h 257 119 119 [vr 91, vi x, vi y, vi z] (I', J, PP b) (cIN fun w I2 J2 _ => 0 = w ∧ INV (n + 1) I2 J2) := by
    intro I' g0 g1 g2 g3 hI'
    have hz : cIN (fun w I2 J2 _ => 0 = w ∧ INV (n + 1) I2 J2) (some (vi 0)) (I', J, PP b) := cIN_r fun _ => ⟨rfl, hI'⟩
    have hl : x = 0 → (0 ≤ y ∧ y < 5) → (z = -1 ∨ (0 ≤ z ∧ z < 12)) → ∀ h2, Tri G h2 257 119 119 58 [some (vr 91), none, some (vi y), some (vi z), some (vi 0)] [] (I', J, PP b) (cIN fun w I2 J2 _ => 0 = w ∧ INV (n + 1) I2 J2) := fun q q1 q2 h2 => s257_l q1 q2 (fun k => absurd k (g0 q)) (fun k => ⟨rfl, hI'⟩) 5 0 rfl (by omega) (fun t t1 t2 => by omega)
    refine x257_m (by omega) (fun h2 hh2 => x257 hh2 ?_)
    refine ⟨⟨fun e => ⟨fun q => ⟨fun q2 => hl e (by omega) (Or.inl q2) _, fun q2 => ⟨fun q3 => hl e (by omega) (Or.inr q3) _, fun q3 => hz⟩⟩, fun q => hz⟩, fun e => ⟨fun q => ⟨fun q2 => absurd (show (0 ≤ y ∧ y < 6) ∧ 0 ≤ z ∧ z < 10 by omega) (g1 e), fun q2 => hz⟩, fun q => hz⟩, fun e => ⟨fun q => absurd q (g2 e), fun q => hz⟩, fun e => ⟨fun q => absurd q (g3 e), fun q => hz⟩, trivial⟩, fun q => hz⟩
  refine x163_m (by omega) (fun h2 hh2 => x163 hh2 ⟨⟨fun e => s48 (by omega) (fun g => ?_) (fun g => ?_), fun e => ?_, fun e => ?_, fun e => ?_, trivial⟩, fun e => cIN_r fun _ => no I (by omega) (by omega) (by omega) (by omega) hI2⟩)
  · refine ⟨Or.inr rfl, cIN_r fun _ => ?_⟩
    have gy := g.1
    have gz : z = -1 ∨ (0 ≤ z ∧ z < 12) := g.2.imp id And.left
    have gm : gsM (u2 I 26 y.toNat z) y z := by
      have := e0.2 g
      unfold gsM at this ⊢
      simp (disch := decide) only [u2n]
      exact this
    have hl : ∀ h2, Tri G h2 257 119 119 58 [some (vr 91), none, some (vi y), some (vi z), some (vi 0)] [] (u2 I 26 y.toNat z, J, PP b) (cIN fun w I2 J2 _ => 1 = w ∧ INV (n + 1) I2 J2) := fun h2 => s257_l gy gz (fun _ => ⟨rfl, f0 g⟩) (fun k => absurd gm k) 5 0 rfl (by omega) (fun t t1 t2 => by omega)
    exact x257_m (by omega) (fun h2 hh2 => x257 hh2 ⟨⟨fun _ => ⟨fun _ => ⟨fun _ => hl _, fun _ => ⟨fun _ => hl _, fun q => by omega⟩⟩, fun q => by omega⟩, fun q => by omega, fun q => by omega, fun q => by omega, trivial⟩, fun q => by omega⟩)
  · exact ⟨Or.inl rfl, cIN_r fun _ => no I (fun _ => fun k => g (e0.1 k)) (by omega) (by omega) (by omega) hI2⟩
  · refine ⟨fun q1 => ⟨fun q2 => ⟨q1, cIN_r fun _ => ?_⟩, fun q2 => cIN_r fun _ => no I (by omega) (by omega) (by omega) (by omega) hI2⟩, fun q1 => cIN_r fun _ => no I (by omega) (by omega) (by omega) (by omega) hI2⟩
    refine x257_m (by omega) (fun h2 hh2 => x257 hh2 ⟨⟨fun q => by omega, fun _ => ⟨fun _ => ⟨fun _ => ?_, fun q => by omega⟩, fun q => by omega⟩, fun q => by omega, fun q => by omega, trivial⟩, fun q => by omega⟩)
    rw [w32_id (by omega) (by omega)]
    exact ⟨by omega, cIN_r fun _ => ⟨rfl, f1 ⟨q1, q2⟩⟩⟩
  · refine ⟨fun q1 => cIN_r fun _ => no I (by omega) (by omega) (by omega) (by omega) hI2, fun q1 => ⟨fun q2 => cIN_r fun _ => ?_, fun q2 => cIN_r fun _ => no I (by omega) (by omega) (by omega) (by omega) hI2⟩⟩
    exact x257_m (by omega) (fun h2 hh2 => x257 hh2 ⟨⟨fun q => by omega, fun q => by omega, fun _ => ⟨fun _ => cIN_r fun _ => ⟨rfl, f2 (by omega)⟩, fun q => by omega⟩, fun q => by omega, trivial⟩, fun q => by omega⟩)
  · refine ⟨fun q1 => cIN_r fun _ => no I (by omega) (by omega) (by omega) (by omega) hI2, fun q1 => ⟨fun q2 => cIN_r fun _ => ?_, fun q2 => cIN_r fun _ => no I (by omega) (by omega) (by omega) (by omega) hI2⟩⟩
    exact x257_m (by omega) (fun h2 hh2 => x257 hh2 ⟨⟨fun q => by omega, fun q => by omega, fun q => by omega, fun _ => ⟨fun _ => cIN_r fun _ => ⟨rfl, f3 (by omega)⟩, fun q => by omega⟩, trivial⟩, fun q => by omega⟩)
end PUBE
end
