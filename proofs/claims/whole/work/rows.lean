section
-- ===== PART A: goes FIRST, ahead of the names: the tables' words, and 'selects' of the private methods out of them =====
/-- a private method of a class that the tables say can be made, by its rows of tables_1 -/
def lw_okq (q : MethodName × Nat) : Prop := (q.1.cls ≠ "java/lang/invoke/MethodHandle" ∧ q.1.cls ≠ "java/lang/invoke/VarHandle") ∧ Cond.instantiable q.1.cls q.2 ∈ tables_1 ∧ Cond.privateMethod q.1 ∈ tables_1 ∧ Cond.instanceMethod q.1 ∈ tables_1
theorem lw_p0 : lw_okq (⟨"CountedTwice", "feedNumber", "(I)V"⟩, 13) := ⟨⟨by decide +kernel, by decide +kernel⟩, List.mem_of_getElem? (i := 26) (by decide +kernel), List.mem_of_getElem? (i := 479) (by decide +kernel), List.mem_of_getElem? (i := 480) (by decide +kernel)⟩
theorem lw_p1 : lw_okq (⟨"CountedTwice$Parser", "kind", "()I"⟩, 10) := ⟨⟨by decide +kernel, by decide +kernel⟩, List.mem_of_getElem? (i := 227) (by decide +kernel), List.mem_of_getElem? (i := 631) (by decide +kernel), List.mem_of_getElem? (i := 632) (by decide +kernel)⟩
theorem lw_p2 : lw_okq (⟨"CountedTwice$Parser", "refuse", "(I)V"⟩, 10) := ⟨⟨by decide +kernel, by decide +kernel⟩, List.mem_of_getElem? (i := 227) (by decide +kernel), List.mem_of_getElem? (i := 635) (by decide +kernel), List.mem_of_getElem? (i := 636) (by decide +kernel)⟩
theorem lw_p3 : lw_okq (⟨"CountedTwice$Parser", "pass", "(I)V"⟩, 10) := ⟨⟨by decide +kernel, by decide +kernel⟩, List.mem_of_getElem? (i := 227) (by decide +kernel), List.mem_of_getElem? (i := 639) (by decide +kernel), List.mem_of_getElem? (i := 640) (by decide +kernel)⟩
theorem lw_p4 : lw_okq (⟨"CountedTwice$Parser", "readAny", "(I)V"⟩, 10) := ⟨⟨by decide +kernel, by decide +kernel⟩, List.mem_of_getElem? (i := 227) (by decide +kernel), List.mem_of_getElem? (i := 643) (by decide +kernel), List.mem_of_getElem? (i := 644) (by decide +kernel)⟩
theorem lw_p5 : lw_okq (⟨"CountedTwice$Parser", "readOne", "(I)V"⟩, 10) := ⟨⟨by decide +kernel, by decide +kernel⟩, List.mem_of_getElem? (i := 227) (by decide +kernel), List.mem_of_getElem? (i := 647) (by decide +kernel), List.mem_of_getElem? (i := 648) (by decide +kernel)⟩
theorem lw_p6 : lw_okq (⟨"CountedTwice$Parser", "emit", "(I)V"⟩, 10) := ⟨⟨by decide +kernel, by decide +kernel⟩, List.mem_of_getElem? (i := 227) (by decide +kernel), List.mem_of_getElem? (i := 651) (by decide +kernel), List.mem_of_getElem? (i := 652) (by decide +kernel)⟩
theorem lw_p7 : lw_okq (⟨"CountedTwice$Parser", "readSum", "()V"⟩, 10) := ⟨⟨by decide +kernel, by decide +kernel⟩, List.mem_of_getElem? (i := 227) (by decide +kernel), List.mem_of_getElem? (i := 655) (by decide +kernel), List.mem_of_getElem? (i := 656) (by decide +kernel)⟩
theorem lw_p8 : lw_okq (⟨"CountedTwice$Parser", "readProduct", "()V"⟩, 10) := ⟨⟨by decide +kernel, by decide +kernel⟩, List.mem_of_getElem? (i := 227) (by decide +kernel), List.mem_of_getElem? (i := 659) (by decide +kernel), List.mem_of_getElem? (i := 660) (by decide +kernel)⟩
theorem lw_p9 : lw_okq (⟨"CountedTwice$Parser", "readUnit", "()V"⟩, 10) := ⟨⟨by decide +kernel, by decide +kernel⟩, List.mem_of_getElem? (i := 227) (by decide +kernel), List.mem_of_getElem? (i := 663) (by decide +kernel), List.mem_of_getElem? (i := 664) (by decide +kernel)⟩
theorem lw_p10 : lw_okq (⟨"CountedTwice$Parser", "number", "()I"⟩, 10) := ⟨⟨by decide +kernel, by decide +kernel⟩, List.mem_of_getElem? (i := 227) (by decide +kernel), List.mem_of_getElem? (i := 667) (by decide +kernel), List.mem_of_getElem? (i := 668) (by decide +kernel)⟩
theorem lw_p11 : lw_okq (⟨"CountedTwice", "isName", "(I)Z"⟩, 13) := ⟨⟨by decide +kernel, by decide +kernel⟩, List.mem_of_getElem? (i := 26) (by decide +kernel), List.mem_of_getElem? (i := 690) (by decide +kernel), List.mem_of_getElem? (i := 691) (by decide +kernel)⟩
theorem lw_p12 : lw_okq (⟨"CountedTwice$Persons", "gather", "(I)V"⟩, 14) := ⟨⟨by decide +kernel, by decide +kernel⟩, List.mem_of_getElem? (i := 292) (by decide +kernel), List.mem_of_getElem? (i := 742) (by decide +kernel), List.mem_of_getElem? (i := 743) (by decide +kernel)⟩
theorem lw_p13 : lw_okq (⟨"CountedTwice$Persons", "join", "(II)V"⟩, 14) := ⟨⟨by decide +kernel, by decide +kernel⟩, List.mem_of_getElem? (i := 292) (by decide +kernel), List.mem_of_getElem? (i := 746) (by decide +kernel), List.mem_of_getElem? (i := 747) (by decide +kernel)⟩
theorem lw_p14 : lw_okq (⟨"CountedTwice$Likeness", "compare", "(II)V"⟩, 5) := ⟨⟨by decide +kernel, by decide +kernel⟩, List.mem_of_getElem? (i := 269) (by decide +kernel), List.mem_of_getElem? (i := 764) (by decide +kernel), List.mem_of_getElem? (i := 765) (by decide +kernel)⟩
theorem lw_p15 : lw_okq (⟨"CountedTwice$Text", "operate", "(II)I"⟩, 4) := ⟨⟨by decide +kernel, by decide +kernel⟩, List.mem_of_getElem? (i := 114) (by decide +kernel), List.mem_of_getElem? (i := 788) (by decide +kernel), List.mem_of_getElem? (i := 789) (by decide +kernel)⟩
def lw_privs_1 : List (MethodName × Nat) := [(⟨"CountedTwice", "feedNumber", "(I)V"⟩, 13), (⟨"CountedTwice$Parser", "kind", "()I"⟩, 10), (⟨"CountedTwice$Parser", "refuse", "(I)V"⟩, 10), (⟨"CountedTwice$Parser", "pass", "(I)V"⟩, 10), (⟨"CountedTwice$Parser", "readAny", "(I)V"⟩, 10), (⟨"CountedTwice$Parser", "readOne", "(I)V"⟩, 10), (⟨"CountedTwice$Parser", "emit", "(I)V"⟩, 10), (⟨"CountedTwice$Parser", "readSum", "()V"⟩, 10), (⟨"CountedTwice$Parser", "readProduct", "()V"⟩, 10), (⟨"CountedTwice$Parser", "readUnit", "()V"⟩, 10), (⟨"CountedTwice$Parser", "number", "()I"⟩, 10), (⟨"CountedTwice", "isName", "(I)Z"⟩, 13), (⟨"CountedTwice$Persons", "gather", "(I)V"⟩, 14), (⟨"CountedTwice$Persons", "join", "(II)V"⟩, 14), (⟨"CountedTwice$Likeness", "compare", "(II)V"⟩, 5), (⟨"CountedTwice$Text", "operate", "(II)I"⟩, 4)]
theorem lw_r1 : ∀ q ∈ lw_privs_1, lw_okq q := List.forall_mem_cons.mpr ⟨lw_p0, List.forall_mem_cons.mpr ⟨lw_p1, List.forall_mem_cons.mpr ⟨lw_p2, List.forall_mem_cons.mpr ⟨lw_p3, List.forall_mem_cons.mpr ⟨lw_p4, List.forall_mem_cons.mpr ⟨lw_p5, List.forall_mem_cons.mpr ⟨lw_p6, List.forall_mem_cons.mpr ⟨lw_p7, List.forall_mem_cons.mpr ⟨lw_p8, List.forall_mem_cons.mpr ⟨lw_p9, List.forall_mem_cons.mpr ⟨lw_p10, List.forall_mem_cons.mpr ⟨lw_p11, List.forall_mem_cons.mpr ⟨lw_p12, List.forall_mem_cons.mpr ⟨lw_p13, List.forall_mem_cons.mpr ⟨lw_p14, List.forall_mem_cons.mpr ⟨lw_p15, fun _ h => absurd h List.not_mem_nil⟩⟩⟩⟩⟩⟩⟩⟩⟩⟩⟩⟩⟩⟩⟩⟩
theorem lw_p16 : lw_okq (⟨"CountedTwice$Persons", "isIn", "(II)Z"⟩, 14) := ⟨⟨by decide +kernel, by decide +kernel⟩, List.mem_of_getElem? (i := 292) (by decide +kernel), List.mem_of_getElem? (i := 868) (by decide +kernel), List.mem_of_getElem? (i := 869) (by decide +kernel)⟩
theorem lw_p17 : lw_okq (⟨"CountedTwice$Persons", "findPossible", "()V"⟩, 14) := ⟨⟨by decide +kernel, by decide +kernel⟩, List.mem_of_getElem? (i := 292) (by decide +kernel), List.mem_of_getElem? (i := 892) (by decide +kernel), List.mem_of_getElem? (i := 893) (by decide +kernel)⟩
theorem lw_p18 : lw_okq (⟨"CountedTwice$Persons", "findPartner", "(I)Z"⟩, 14) := ⟨⟨by decide +kernel, by decide +kernel⟩, List.mem_of_getElem? (i := 292) (by decide +kernel), List.mem_of_getElem? (i := 898) (by decide +kernel), List.mem_of_getElem? (i := 899) (by decide +kernel)⟩
theorem lw_p19 : lw_okq (⟨"CountedTwice$Persons", "change", "(I)V"⟩, 14) := ⟨⟨by decide +kernel, by decide +kernel⟩, List.mem_of_getElem? (i := 292) (by decide +kernel), List.mem_of_getElem? (i := 903) (by decide +kernel), List.mem_of_getElem? (i := 904) (by decide +kernel)⟩
theorem lw_p20 : lw_okq (⟨"CountedTwice$Checks", "isBy", "(III)Z"⟩, 3) := ⟨⟨by decide +kernel, by decide +kernel⟩, List.mem_of_getElem? (i := 342) (by decide +kernel), List.mem_of_getElem? (i := 923) (by decide +kernel), List.mem_of_getElem? (i := 924) (by decide +kernel)⟩
theorem lw_p21 : lw_okq (⟨"CountedTwice$Checks", "justAhead", "(III)I"⟩, 3) := ⟨⟨by decide +kernel, by decide +kernel⟩, List.mem_of_getElem? (i := 342) (by decide +kernel), List.mem_of_getElem? (i := 938) (by decide +kernel), List.mem_of_getElem? (i := 939) (by decide +kernel)⟩
theorem lw_p22 : lw_okq (⟨"CountedTwice$Checks", "order", "(I)I"⟩, 3) := ⟨⟨by decide +kernel, by decide +kernel⟩, List.mem_of_getElem? (i := 342) (by decide +kernel), List.mem_of_getElem? (i := 942) (by decide +kernel), List.mem_of_getElem? (i := 943) (by decide +kernel)⟩
theorem lw_p23 : lw_okq (⟨"CountedTwice$Checks", "isQuick", "(II)Z"⟩, 3) := ⟨⟨by decide +kernel, by decide +kernel⟩, List.mem_of_getElem? (i := 342) (by decide +kernel), List.mem_of_getElem? (i := 946) (by decide +kernel), List.mem_of_getElem? (i := 947) (by decide +kernel)⟩
theorem lw_p24 : lw_okq (⟨"CountedTwice$Checks", "tally", "(I)I"⟩, 3) := ⟨⟨by decide +kernel, by decide +kernel⟩, List.mem_of_getElem? (i := 342) (by decide +kernel), List.mem_of_getElem? (i := 955) (by decide +kernel), List.mem_of_getElem? (i := 956) (by decide +kernel)⟩
theorem lw_p25 : lw_okq (⟨"CountedTwice$Checks", "squares", "()I"⟩, 3) := ⟨⟨by decide +kernel, by decide +kernel⟩, List.mem_of_getElem? (i := 342) (by decide +kernel), List.mem_of_getElem? (i := 963) (by decide +kernel), List.mem_of_getElem? (i := 964) (by decide +kernel)⟩
theorem lw_p26 : lw_okq (⟨"CountedTwice$Checks", "allowDigit", "(II)V"⟩, 3) := ⟨⟨by decide +kernel, by decide +kernel⟩, List.mem_of_getElem? (i := 342) (by decide +kernel), List.mem_of_getElem? (i := 976) (by decide +kernel), List.mem_of_getElem? (i := 977) (by decide +kernel)⟩
theorem lw_p27 : lw_okq (⟨"CountedTwice$Round", "isTooSoon", "(LCountedTwice$Town;I)Z"⟩, 3) := ⟨⟨by decide +kernel, by decide +kernel⟩, List.mem_of_getElem? (i := 135) (by decide +kernel), List.mem_of_getElem? (i := 1009) (by decide +kernel), List.mem_of_getElem? (i := 1010) (by decide +kernel)⟩
theorem lw_p28 : lw_okq (⟨"CountedTwice$Search", "begin", "([I)I"⟩, 5) := ⟨⟨by decide +kernel, by decide +kernel⟩, List.mem_of_getElem? (i := 358) (by decide +kernel), List.mem_of_getElem? (i := 1095) (by decide +kernel), List.mem_of_getElem? (i := 1096) (by decide +kernel)⟩
theorem lw_p29 : lw_okq (⟨"CountedTwice$Search", "clear", "([J)V"⟩, 5) := ⟨⟨by decide +kernel, by decide +kernel⟩, List.mem_of_getElem? (i := 358) (by decide +kernel), List.mem_of_getElem? (i := 1100) (by decide +kernel), List.mem_of_getElem? (i := 1101) (by decide +kernel)⟩
theorem lw_p30 : lw_okq (⟨"CountedTwice$Search", "send", "(LCountedTwice$LastDays;II)V"⟩, 5) := ⟨⟨by decide +kernel, by decide +kernel⟩, List.mem_of_getElem? (i := 358) (by decide +kernel), List.mem_of_getElem? (i := 1106) (by decide +kernel), List.mem_of_getElem? (i := 1107) (by decide +kernel)⟩
theorem lw_p31 : lw_okq (⟨"CountedTwice$Search", "sendFrom", "(ILCountedTwice$LastDays;II)V"⟩, 5) := ⟨⟨by decide +kernel, by decide +kernel⟩, List.mem_of_getElem? (i := 358) (by decide +kernel), List.mem_of_getElem? (i := 1117) (by decide +kernel), List.mem_of_getElem? (i := 1118) (by decide +kernel)⟩
def lw_privs_2 : List (MethodName × Nat) := [(⟨"CountedTwice$Persons", "isIn", "(II)Z"⟩, 14), (⟨"CountedTwice$Persons", "findPossible", "()V"⟩, 14), (⟨"CountedTwice$Persons", "findPartner", "(I)Z"⟩, 14), (⟨"CountedTwice$Persons", "change", "(I)V"⟩, 14), (⟨"CountedTwice$Checks", "isBy", "(III)Z"⟩, 3), (⟨"CountedTwice$Checks", "justAhead", "(III)I"⟩, 3), (⟨"CountedTwice$Checks", "order", "(I)I"⟩, 3), (⟨"CountedTwice$Checks", "isQuick", "(II)Z"⟩, 3), (⟨"CountedTwice$Checks", "tally", "(I)I"⟩, 3), (⟨"CountedTwice$Checks", "squares", "()I"⟩, 3), (⟨"CountedTwice$Checks", "allowDigit", "(II)V"⟩, 3), (⟨"CountedTwice$Round", "isTooSoon", "(LCountedTwice$Town;I)Z"⟩, 3), (⟨"CountedTwice$Search", "begin", "([I)I"⟩, 5), (⟨"CountedTwice$Search", "clear", "([J)V"⟩, 5), (⟨"CountedTwice$Search", "send", "(LCountedTwice$LastDays;II)V"⟩, 5), (⟨"CountedTwice$Search", "sendFrom", "(ILCountedTwice$LastDays;II)V"⟩, 5)]
theorem lw_r2 : ∀ q ∈ lw_privs_2, lw_okq q := List.forall_mem_cons.mpr ⟨lw_p16, List.forall_mem_cons.mpr ⟨lw_p17, List.forall_mem_cons.mpr ⟨lw_p18, List.forall_mem_cons.mpr ⟨lw_p19, List.forall_mem_cons.mpr ⟨lw_p20, List.forall_mem_cons.mpr ⟨lw_p21, List.forall_mem_cons.mpr ⟨lw_p22, List.forall_mem_cons.mpr ⟨lw_p23, List.forall_mem_cons.mpr ⟨lw_p24, List.forall_mem_cons.mpr ⟨lw_p25, List.forall_mem_cons.mpr ⟨lw_p26, List.forall_mem_cons.mpr ⟨lw_p27, List.forall_mem_cons.mpr ⟨lw_p28, List.forall_mem_cons.mpr ⟨lw_p29, List.forall_mem_cons.mpr ⟨lw_p30, List.forall_mem_cons.mpr ⟨lw_p31, fun _ h => absurd h List.not_mem_nil⟩⟩⟩⟩⟩⟩⟩⟩⟩⟩⟩⟩⟩⟩⟩⟩
theorem lw_p32 : lw_okq (⟨"CountedTwice$Search", "leftIn", "(II)I"⟩, 5) := ⟨⟨by decide +kernel, by decide +kernel⟩, List.mem_of_getElem? (i := 358) (by decide +kernel), List.mem_of_getElem? (i := 1121) (by decide +kernel), List.mem_of_getElem? (i := 1122) (by decide +kernel)⟩
theorem lw_p33 : lw_okq (⟨"CountedTwice$Search", "leastLeft", "()I"⟩, 5) := ⟨⟨by decide +kernel, by decide +kernel⟩, List.mem_of_getElem? (i := 358) (by decide +kernel), List.mem_of_getElem? (i := 1126) (by decide +kernel), List.mem_of_getElem? (i := 1127) (by decide +kernel)⟩
theorem lw_p34 : lw_okq (⟨"CountedTwice", "lookInRow", "(I)I"⟩, 13) := ⟨⟨by decide +kernel, by decide +kernel⟩, List.mem_of_getElem? (i := 26) (by decide +kernel), List.mem_of_getElem? (i := 1186) (by decide +kernel), List.mem_of_getElem? (i := 1187) (by decide +kernel)⟩
theorem lw_p35 : lw_okq (⟨"CountedTwiceModel", "isHouse", "(I)Z"⟩, 43) := ⟨⟨by decide +kernel, by decide +kernel⟩, List.mem_of_getElem? (i := 1194) (by decide +kernel), List.mem_of_getElem? (i := 1357) (by decide +kernel), List.mem_of_getElem? (i := 1358) (by decide +kernel)⟩
theorem lw_p36 : lw_okq (⟨"CountedTwiceModel", "wayOf", "(II)I"⟩, 43) := ⟨⟨by decide +kernel, by decide +kernel⟩, List.mem_of_getElem? (i := 1194) (by decide +kernel), List.mem_of_getElem? (i := 1361) (by decide +kernel), List.mem_of_getElem? (i := 1362) (by decide +kernel)⟩
theorem lw_p37 : lw_okq (⟨"CountedTwiceModel", "street", "(I)I"⟩, 43) := ⟨⟨by decide +kernel, by decide +kernel⟩, List.mem_of_getElem? (i := 1194) (by decide +kernel), List.mem_of_getElem? (i := 1365) (by decide +kernel), List.mem_of_getElem? (i := 1366) (by decide +kernel)⟩
theorem lw_p38 : lw_okq (⟨"CountedTwiceModel", "number0", "(I)I"⟩, 43) := ⟨⟨by decide +kernel, by decide +kernel⟩, List.mem_of_getElem? (i := 1194) (by decide +kernel), List.mem_of_getElem? (i := 1369) (by decide +kernel), List.mem_of_getElem? (i := 1370) (by decide +kernel)⟩
theorem lw_p39 : lw_okq (⟨"CountedTwiceModel", "minutesOf", "(II)I"⟩, 43) := ⟨⟨by decide +kernel, by decide +kernel⟩, List.mem_of_getElem? (i := 1194) (by decide +kernel), List.mem_of_getElem? (i := 1376) (by decide +kernel), List.mem_of_getElem? (i := 1377) (by decide +kernel)⟩
theorem lw_p40 : lw_okq (⟨"CountedTwiceModel", "next0", "()V"⟩, 43) := ⟨⟨by decide +kernel, by decide +kernel⟩, List.mem_of_getElem? (i := 1194) (by decide +kernel), List.mem_of_getElem? (i := 1392) (by decide +kernel), List.mem_of_getElem? (i := 1393) (by decide +kernel)⟩
theorem lw_p41 : lw_okq (⟨"CountedTwiceModel", "see", "(I)I"⟩, 43) := ⟨⟨by decide +kernel, by decide +kernel⟩, List.mem_of_getElem? (i := 1194) (by decide +kernel), List.mem_of_getElem? (i := 1396) (by decide +kernel), List.mem_of_getElem? (i := 1397) (by decide +kernel)⟩
theorem lw_p42 : lw_okq (⟨"CountedTwiceModel", "word", "()I"⟩, 43) := ⟨⟨by decide +kernel, by decide +kernel⟩, List.mem_of_getElem? (i := 1194) (by decide +kernel), List.mem_of_getElem? (i := 1403) (by decide +kernel), List.mem_of_getElem? (i := 1404) (by decide +kernel)⟩
theorem lw_p43 : lw_okq (⟨"CountedTwiceModel", "is", "(Ljava/lang/String;)Z"⟩, 43) := ⟨⟨by decide +kernel, by decide +kernel⟩, List.mem_of_getElem? (i := 1194) (by decide +kernel), List.mem_of_getElem? (i := 1408) (by decide +kernel), List.mem_of_getElem? (i := 1409) (by decide +kernel)⟩
theorem lw_p44 : lw_okq (⟨"CountedTwiceModel", "likeWord", "()I"⟩, 43) := ⟨⟨by decide +kernel, by decide +kernel⟩, List.mem_of_getElem? (i := 1194) (by decide +kernel), List.mem_of_getElem? (i := 1417) (by decide +kernel), List.mem_of_getElem? (i := 1418) (by decide +kernel)⟩
theorem lw_p45 : lw_okq (⟨"CountedTwiceModel", "homeWord", "()I"⟩, 43) := ⟨⟨by decide +kernel, by decide +kernel⟩, List.mem_of_getElem? (i := 1194) (by decide +kernel), List.mem_of_getElem? (i := 1429) (by decide +kernel), List.mem_of_getElem? (i := 1430) (by decide +kernel)⟩
theorem lw_p46 : lw_okq (⟨"CountedTwiceModel", "aLine", "()Z"⟩, 43) := ⟨⟨by decide +kernel, by decide +kernel⟩, List.mem_of_getElem? (i := 1194) (by decide +kernel), List.mem_of_getElem? (i := 1443) (by decide +kernel), List.mem_of_getElem? (i := 1444) (by decide +kernel)⟩
theorem lw_p47 : lw_okq (⟨"CountedTwiceModel", "bad", "(I)Z"⟩, 43) := ⟨⟨by decide +kernel, by decide +kernel⟩, List.mem_of_getElem? (i := 1194) (by decide +kernel), List.mem_of_getElem? (i := 1447) (by decide +kernel), List.mem_of_getElem? (i := 1448) (by decide +kernel)⟩
def lw_privs_3 : List (MethodName × Nat) := [(⟨"CountedTwice$Search", "leftIn", "(II)I"⟩, 5), (⟨"CountedTwice$Search", "leastLeft", "()I"⟩, 5), (⟨"CountedTwice", "lookInRow", "(I)I"⟩, 13), (⟨"CountedTwiceModel", "isHouse", "(I)Z"⟩, 43), (⟨"CountedTwiceModel", "wayOf", "(II)I"⟩, 43), (⟨"CountedTwiceModel", "street", "(I)I"⟩, 43), (⟨"CountedTwiceModel", "number0", "(I)I"⟩, 43), (⟨"CountedTwiceModel", "minutesOf", "(II)I"⟩, 43), (⟨"CountedTwiceModel", "next0", "()V"⟩, 43), (⟨"CountedTwiceModel", "see", "(I)I"⟩, 43), (⟨"CountedTwiceModel", "word", "()I"⟩, 43), (⟨"CountedTwiceModel", "is", "(Ljava/lang/String;)Z"⟩, 43), (⟨"CountedTwiceModel", "likeWord", "()I"⟩, 43), (⟨"CountedTwiceModel", "homeWord", "()I"⟩, 43), (⟨"CountedTwiceModel", "aLine", "()Z"⟩, 43), (⟨"CountedTwiceModel", "bad", "(I)Z"⟩, 43)]
theorem lw_r3 : ∀ q ∈ lw_privs_3, lw_okq q := List.forall_mem_cons.mpr ⟨lw_p32, List.forall_mem_cons.mpr ⟨lw_p33, List.forall_mem_cons.mpr ⟨lw_p34, List.forall_mem_cons.mpr ⟨lw_p35, List.forall_mem_cons.mpr ⟨lw_p36, List.forall_mem_cons.mpr ⟨lw_p37, List.forall_mem_cons.mpr ⟨lw_p38, List.forall_mem_cons.mpr ⟨lw_p39, List.forall_mem_cons.mpr ⟨lw_p40, List.forall_mem_cons.mpr ⟨lw_p41, List.forall_mem_cons.mpr ⟨lw_p42, List.forall_mem_cons.mpr ⟨lw_p43, List.forall_mem_cons.mpr ⟨lw_p44, List.forall_mem_cons.mpr ⟨lw_p45, List.forall_mem_cons.mpr ⟨lw_p46, List.forall_mem_cons.mpr ⟨lw_p47, fun _ h => absurd h List.not_mem_nil⟩⟩⟩⟩⟩⟩⟩⟩⟩⟩⟩⟩⟩⟩⟩⟩
theorem lw_p48 : lw_okq (⟨"CountedTwiceModel", "need", "(I)Z"⟩, 43) := ⟨⟨by decide +kernel, by decide +kernel⟩, List.mem_of_getElem? (i := 1194) (by decide +kernel), List.mem_of_getElem? (i := 1451) (by decide +kernel), List.mem_of_getElem? (i := 1452) (by decide +kernel)⟩
theorem lw_p49 : lw_okq (⟨"CountedTwiceModel", "any", "()Z"⟩, 43) := ⟨⟨by decide +kernel, by decide +kernel⟩, List.mem_of_getElem? (i := 1194) (by decide +kernel), List.mem_of_getElem? (i := 1455) (by decide +kernel), List.mem_of_getElem? (i := 1456) (by decide +kernel)⟩
theorem lw_p50 : lw_okq (⟨"CountedTwiceModel", "every", "()Z"⟩, 43) := ⟨⟨by decide +kernel, by decide +kernel⟩, List.mem_of_getElem? (i := 1194) (by decide +kernel), List.mem_of_getElem? (i := 1459) (by decide +kernel), List.mem_of_getElem? (i := 1460) (by decide +kernel)⟩
theorem lw_p51 : lw_okq (⟨"CountedTwiceModel", "one", "()Z"⟩, 43) := ⟨⟨by decide +kernel, by decide +kernel⟩, List.mem_of_getElem? (i := 1194) (by decide +kernel), List.mem_of_getElem? (i := 1463) (by decide +kernel), List.mem_of_getElem? (i := 1464) (by decide +kernel)⟩
theorem lw_p52 : lw_okq (⟨"CountedTwiceModel", "opens", "()Z"⟩, 43) := ⟨⟨by decide +kernel, by decide +kernel⟩, List.mem_of_getElem? (i := 1194) (by decide +kernel), List.mem_of_getElem? (i := 1467) (by decide +kernel), List.mem_of_getElem? (i := 1468) (by decide +kernel)⟩
theorem lw_p53 : lw_okq (⟨"CountedTwiceModel", "lay", "(II)V"⟩, 43) := ⟨⟨by decide +kernel, by decide +kernel⟩, List.mem_of_getElem? (i := 1194) (by decide +kernel), List.mem_of_getElem? (i := 1471) (by decide +kernel), List.mem_of_getElem? (i := 1472) (by decide +kernel)⟩
theorem lw_p54 : lw_okq (⟨"CountedTwiceModel", "sumUp", "()Z"⟩, 43) := ⟨⟨by decide +kernel, by decide +kernel⟩, List.mem_of_getElem? (i := 1194) (by decide +kernel), List.mem_of_getElem? (i := 1475) (by decide +kernel), List.mem_of_getElem? (i := 1476) (by decide +kernel)⟩
theorem lw_p55 : lw_okq (⟨"CountedTwiceModel", "product", "()Z"⟩, 43) := ⟨⟨by decide +kernel, by decide +kernel⟩, List.mem_of_getElem? (i := 1194) (by decide +kernel), List.mem_of_getElem? (i := 1479) (by decide +kernel), List.mem_of_getElem? (i := 1480) (by decide +kernel)⟩
theorem lw_p56 : lw_okq (⟨"CountedTwiceModel", "unit", "()Z"⟩, 43) := ⟨⟨by decide +kernel, by decide +kernel⟩, List.mem_of_getElem? (i := 1194) (by decide +kernel), List.mem_of_getElem? (i := 1483) (by decide +kernel), List.mem_of_getElem? (i := 1484) (by decide +kernel)⟩
theorem lw_p57 : lw_okq (⟨"CountedTwiceModel", "isEntry", "(I)Z"⟩, 43) := ⟨⟨by decide +kernel, by decide +kernel⟩, List.mem_of_getElem? (i := 1194) (by decide +kernel), List.mem_of_getElem? (i := 1499) (by decide +kernel), List.mem_of_getElem? (i := 1500) (by decide +kernel)⟩
theorem lw_p58 : lw_okq (⟨"CountedTwiceModel", "own", "(II)I"⟩, 43) := ⟨⟨by decide +kernel, by decide +kernel⟩, List.mem_of_getElem? (i := 1194) (by decide +kernel), List.mem_of_getElem? (i := 1503) (by decide +kernel), List.mem_of_getElem? (i := 1504) (by decide +kernel)⟩
theorem lw_p59 : lw_okq (⟨"CountedTwiceModel", "letters", "(II)I"⟩, 43) := ⟨⟨by decide +kernel, by decide +kernel⟩, List.mem_of_getElem? (i := 1194) (by decide +kernel), List.mem_of_getElem? (i := 1515) (by decide +kernel), List.mem_of_getElem? (i := 1516) (by decide +kernel)⟩
theorem lw_p60 : lw_okq (⟨"CountedTwiceModel", "areAlike", "(III)Z"⟩, 43) := ⟨⟨by decide +kernel, by decide +kernel⟩, List.mem_of_getElem? (i := 1194) (by decide +kernel), List.mem_of_getElem? (i := 1519) (by decide +kernel), List.mem_of_getElem? (i := 1520) (by decide +kernel)⟩
theorem lw_p61 : lw_okq (⟨"CountedTwiceModel", "isSo", "(II)Z"⟩, 43) := ⟨⟨by decide +kernel, by decide +kernel⟩, List.mem_of_getElem? (i := 1194) (by decide +kernel), List.mem_of_getElem? (i := 1523) (by decide +kernel), List.mem_of_getElem? (i := 1524) (by decide +kernel)⟩
theorem lw_p62 : lw_okq (⟨"CountedTwiceModel", "isHome", "(III)Z"⟩, 43) := ⟨⟨by decide +kernel, by decide +kernel⟩, List.mem_of_getElem? (i := 1194) (by decide +kernel), List.mem_of_getElem? (i := 1534) (by decide +kernel), List.mem_of_getElem? (i := 1535) (by decide +kernel)⟩
theorem lw_p63 : lw_okq (⟨"CountedTwiceModel", "isKnown", "(I)Z"⟩, 43) := ⟨⟨by decide +kernel, by decide +kernel⟩, List.mem_of_getElem? (i := 1194) (by decide +kernel), List.mem_of_getElem? (i := 1542) (by decide +kernel), List.mem_of_getElem? (i := 1543) (by decide +kernel)⟩
def lw_privs_4 : List (MethodName × Nat) := [(⟨"CountedTwiceModel", "need", "(I)Z"⟩, 43), (⟨"CountedTwiceModel", "any", "()Z"⟩, 43), (⟨"CountedTwiceModel", "every", "()Z"⟩, 43), (⟨"CountedTwiceModel", "one", "()Z"⟩, 43), (⟨"CountedTwiceModel", "opens", "()Z"⟩, 43), (⟨"CountedTwiceModel", "lay", "(II)V"⟩, 43), (⟨"CountedTwiceModel", "sumUp", "()Z"⟩, 43), (⟨"CountedTwiceModel", "product", "()Z"⟩, 43), (⟨"CountedTwiceModel", "unit", "()Z"⟩, 43), (⟨"CountedTwiceModel", "isEntry", "(I)Z"⟩, 43), (⟨"CountedTwiceModel", "own", "(II)I"⟩, 43), (⟨"CountedTwiceModel", "letters", "(II)I"⟩, 43), (⟨"CountedTwiceModel", "areAlike", "(III)Z"⟩, 43), (⟨"CountedTwiceModel", "isSo", "(II)Z"⟩, 43), (⟨"CountedTwiceModel", "isHome", "(III)Z"⟩, 43), (⟨"CountedTwiceModel", "isKnown", "(I)Z"⟩, 43)]
theorem lw_r4 : ∀ q ∈ lw_privs_4, lw_okq q := List.forall_mem_cons.mpr ⟨lw_p48, List.forall_mem_cons.mpr ⟨lw_p49, List.forall_mem_cons.mpr ⟨lw_p50, List.forall_mem_cons.mpr ⟨lw_p51, List.forall_mem_cons.mpr ⟨lw_p52, List.forall_mem_cons.mpr ⟨lw_p53, List.forall_mem_cons.mpr ⟨lw_p54, List.forall_mem_cons.mpr ⟨lw_p55, List.forall_mem_cons.mpr ⟨lw_p56, List.forall_mem_cons.mpr ⟨lw_p57, List.forall_mem_cons.mpr ⟨lw_p58, List.forall_mem_cons.mpr ⟨lw_p59, List.forall_mem_cons.mpr ⟨lw_p60, List.forall_mem_cons.mpr ⟨lw_p61, List.forall_mem_cons.mpr ⟨lw_p62, List.forall_mem_cons.mpr ⟨lw_p63, fun _ h => absurd h List.not_mem_nil⟩⟩⟩⟩⟩⟩⟩⟩⟩⟩⟩⟩⟩⟩⟩⟩
theorem lw_p64 : lw_okq (⟨"CountedTwiceModel", "laysPersons", "()V"⟩, 43) := ⟨⟨by decide +kernel, by decide +kernel⟩, List.mem_of_getElem? (i := 1194) (by decide +kernel), List.mem_of_getElem? (i := 1546) (by decide +kernel), List.mem_of_getElem? (i := 1547) (by decide +kernel)⟩
theorem lw_p65 : lw_okq (⟨"CountedTwiceModel", "whatIs", "(I)I"⟩, 43) := ⟨⟨by decide +kernel, by decide +kernel⟩, List.mem_of_getElem? (i := 1194) (by decide +kernel), List.mem_of_getElem? (i := 1554) (by decide +kernel), List.mem_of_getElem? (i := 1555) (by decide +kernel)⟩
theorem lw_p66 : lw_okq (⟨"CountedTwiceModel", "housesOf", "(I)I"⟩, 43) := ⟨⟨by decide +kernel, by decide +kernel⟩, List.mem_of_getElem? (i := 1194) (by decide +kernel), List.mem_of_getElem? (i := 1558) (by decide +kernel), List.mem_of_getElem? (i := 1559) (by decide +kernel)⟩
theorem lw_p67 : lw_okq (⟨"CountedTwiceModel", "laysCouples", "()V"⟩, 43) := ⟨⟨by decide +kernel, by decide +kernel⟩, List.mem_of_getElem? (i := 1194) (by decide +kernel), List.mem_of_getElem? (i := 1570) (by decide +kernel), List.mem_of_getElem? (i := 1571) (by decide +kernel)⟩
theorem lw_p68 : lw_okq (⟨"CountedTwiceModel", "findsMate", "(I)Z"⟩, 43) := ⟨⟨by decide +kernel, by decide +kernel⟩, List.mem_of_getElem? (i := 1194) (by decide +kernel), List.mem_of_getElem? (i := 1574) (by decide +kernel), List.mem_of_getElem? (i := 1575) (by decide +kernel)⟩
theorem lw_p69 : lw_okq (⟨"CountedTwiceModel", "laysChoose", "()V"⟩, 43) := ⟨⟨by decide +kernel, by decide +kernel⟩, List.mem_of_getElem? (i := 1194) (by decide +kernel), List.mem_of_getElem? (i := 1583) (by decide +kernel), List.mem_of_getElem? (i := 1584) (by decide +kernel)⟩
theorem lw_p70 : lw_okq (⟨"CountedTwiceModel", "of0", "(II)J"⟩, 43) := ⟨⟨by decide +kernel, by decide +kernel⟩, List.mem_of_getElem? (i := 1194) (by decide +kernel), List.mem_of_getElem? (i := 1587) (by decide +kernel), List.mem_of_getElem? (i := 1588) (by decide +kernel)⟩
theorem lw_p71 : lw_okq (⟨"CountedTwiceModel", "laysBook", "(II)I"⟩, 43) := ⟨⟨by decide +kernel, by decide +kernel⟩, List.mem_of_getElem? (i := 1194) (by decide +kernel), List.mem_of_getElem? (i := 1598) (by decide +kernel), List.mem_of_getElem? (i := 1599) (by decide +kernel)⟩
theorem lw_p72 : lw_okq (⟨"CountedTwiceModel", "isAhead", "(II)Z"⟩, 43) := ⟨⟨by decide +kernel, by decide +kernel⟩, List.mem_of_getElem? (i := 1194) (by decide +kernel), List.mem_of_getElem? (i := 1602) (by decide +kernel), List.mem_of_getElem? (i := 1603) (by decide +kernel)⟩
theorem lw_p73 : lw_okq (⟨"CountedTwiceModel", "ghosts", "(I)I"⟩, 43) := ⟨⟨by decide +kernel, by decide +kernel⟩, List.mem_of_getElem? (i := 1194) (by decide +kernel), List.mem_of_getElem? (i := 1606) (by decide +kernel), List.mem_of_getElem? (i := 1607) (by decide +kernel)⟩
theorem lw_p74 : lw_okq (⟨"CountedTwiceModel", "quick", "(II)I"⟩, 43) := ⟨⟨by decide +kernel, by decide +kernel⟩, List.mem_of_getElem? (i := 1194) (by decide +kernel), List.mem_of_getElem? (i := 1610) (by decide +kernel), List.mem_of_getElem? (i := 1611) (by decide +kernel)⟩
theorem lw_p75 : lw_okq (⟨"CountedTwiceModel", "evenness", "(I)I"⟩, 43) := ⟨⟨by decide +kernel, by decide +kernel⟩, List.mem_of_getElem? (i := 1194) (by decide +kernel), List.mem_of_getElem? (i := 1614) (by decide +kernel), List.mem_of_getElem? (i := 1615) (by decide +kernel)⟩
theorem lw_p76 : lw_okq (⟨"CountedTwiceModel", "aDigit", "(I)V"⟩, 43) := ⟨⟨by decide +kernel, by decide +kernel⟩, List.mem_of_getElem? (i := 1194) (by decide +kernel), List.mem_of_getElem? (i := 1622) (by decide +kernel), List.mem_of_getElem? (i := 1623) (by decide +kernel)⟩
theorem lw_p77 : lw_okq (⟨"CountedTwiceModel", "isRight", "(II)Z"⟩, 43) := ⟨⟨by decide +kernel, by decide +kernel⟩, List.mem_of_getElem? (i := 1194) (by decide +kernel), List.mem_of_getElem? (i := 1638) (by decide +kernel), List.mem_of_getElem? (i := 1639) (by decide +kernel)⟩
theorem lw_p78 : lw_okq (⟨"CountedTwiceModel", "laysSlots", "()I"⟩, 43) := ⟨⟨by decide +kernel, by decide +kernel⟩, List.mem_of_getElem? (i := 1194) (by decide +kernel), List.mem_of_getElem? (i := 1658) (by decide +kernel), List.mem_of_getElem? (i := 1659) (by decide +kernel)⟩
theorem lw_p79 : lw_okq (⟨"CountedTwiceModel", "missed", "(I)I"⟩, 43) := ⟨⟨by decide +kernel, by decide +kernel⟩, List.mem_of_getElem? (i := 1194) (by decide +kernel), List.mem_of_getElem? (i := 1662) (by decide +kernel), List.mem_of_getElem? (i := 1663) (by decide +kernel)⟩
def lw_privs_5 : List (MethodName × Nat) := [(⟨"CountedTwiceModel", "laysPersons", "()V"⟩, 43), (⟨"CountedTwiceModel", "whatIs", "(I)I"⟩, 43), (⟨"CountedTwiceModel", "housesOf", "(I)I"⟩, 43), (⟨"CountedTwiceModel", "laysCouples", "()V"⟩, 43), (⟨"CountedTwiceModel", "findsMate", "(I)Z"⟩, 43), (⟨"CountedTwiceModel", "laysChoose", "()V"⟩, 43), (⟨"CountedTwiceModel", "of0", "(II)J"⟩, 43), (⟨"CountedTwiceModel", "laysBook", "(II)I"⟩, 43), (⟨"CountedTwiceModel", "isAhead", "(II)Z"⟩, 43), (⟨"CountedTwiceModel", "ghosts", "(I)I"⟩, 43), (⟨"CountedTwiceModel", "quick", "(II)I"⟩, 43), (⟨"CountedTwiceModel", "evenness", "(I)I"⟩, 43), (⟨"CountedTwiceModel", "aDigit", "(I)V"⟩, 43), (⟨"CountedTwiceModel", "isRight", "(II)Z"⟩, 43), (⟨"CountedTwiceModel", "laysSlots", "()I"⟩, 43), (⟨"CountedTwiceModel", "missed", "(I)I"⟩, 43)]
theorem lw_r5 : ∀ q ∈ lw_privs_5, lw_okq q := List.forall_mem_cons.mpr ⟨lw_p64, List.forall_mem_cons.mpr ⟨lw_p65, List.forall_mem_cons.mpr ⟨lw_p66, List.forall_mem_cons.mpr ⟨lw_p67, List.forall_mem_cons.mpr ⟨lw_p68, List.forall_mem_cons.mpr ⟨lw_p69, List.forall_mem_cons.mpr ⟨lw_p70, List.forall_mem_cons.mpr ⟨lw_p71, List.forall_mem_cons.mpr ⟨lw_p72, List.forall_mem_cons.mpr ⟨lw_p73, List.forall_mem_cons.mpr ⟨lw_p74, List.forall_mem_cons.mpr ⟨lw_p75, List.forall_mem_cons.mpr ⟨lw_p76, List.forall_mem_cons.mpr ⟨lw_p77, List.forall_mem_cons.mpr ⟨lw_p78, List.forall_mem_cons.mpr ⟨lw_p79, fun _ h => absurd h List.not_mem_nil⟩⟩⟩⟩⟩⟩⟩⟩⟩⟩⟩⟩⟩⟩⟩⟩
theorem lw_p80 : lw_okq (⟨"CountedTwiceModel", "isOpen", "(II)Z"⟩, 43) := ⟨⟨by decide +kernel, by decide +kernel⟩, List.mem_of_getElem? (i := 1194) (by decide +kernel), List.mem_of_getElem? (i := 1666) (by decide +kernel), List.mem_of_getElem? (i := 1667) (by decide +kernel)⟩
theorem lw_p81 : lw_okq (⟨"CountedTwiceModel", "aWalk", "(II)V"⟩, 43) := ⟨⟨by decide +kernel, by decide +kernel⟩, List.mem_of_getElem? (i := 1194) (by decide +kernel), List.mem_of_getElem? (i := 1674) (by decide +kernel), List.mem_of_getElem? (i := 1675) (by decide +kernel)⟩
theorem lw_p82 : lw_okq (⟨"CountedTwiceModel", "draw", "(I)I"⟩, 43) := ⟨⟨by decide +kernel, by decide +kernel⟩, List.mem_of_getElem? (i := 1194) (by decide +kernel), List.mem_of_getElem? (i := 1682) (by decide +kernel), List.mem_of_getElem? (i := 1683) (by decide +kernel)⟩
theorem lw_p83 : lw_okq (⟨"CountedTwiceModel", "known", "()I"⟩, 43) := ⟨⟨by decide +kernel, by decide +kernel⟩, List.mem_of_getElem? (i := 1194) (by decide +kernel), List.mem_of_getElem? (i := 1696) (by decide +kernel), List.mem_of_getElem? (i := 1697) (by decide +kernel)⟩
def lw_privs_6 : List (MethodName × Nat) := [(⟨"CountedTwiceModel", "isOpen", "(II)Z"⟩, 43), (⟨"CountedTwiceModel", "aWalk", "(II)V"⟩, 43), (⟨"CountedTwiceModel", "draw", "(I)I"⟩, 43), (⟨"CountedTwiceModel", "known", "()I"⟩, 43)]
theorem lw_r6 : ∀ q ∈ lw_privs_6, lw_okq q := List.forall_mem_cons.mpr ⟨lw_p80, List.forall_mem_cons.mpr ⟨lw_p81, List.forall_mem_cons.mpr ⟨lw_p82, List.forall_mem_cons.mpr ⟨lw_p83, fun _ h => absurd h List.not_mem_nil⟩⟩⟩⟩
def lw_privs : List (MethodName × Nat) := lw_privs_1 ++ (lw_privs_2 ++ (lw_privs_3 ++ (lw_privs_4 ++ (lw_privs_5 ++ (lw_privs_6)))))
def lw_tbl : List Cond := k2_sels lw_privs ++ tables_1
theorem lw_privs_ok : ∀ q ∈ lw_privs, lw_okq q := by
  show ∀ q ∈ lw_privs_1 ++ (lw_privs_2 ++ (lw_privs_3 ++ (lw_privs_4 ++ (lw_privs_5 ++ (lw_privs_6))))), lw_okq q
  exact List.forall_mem_append.mpr ⟨lw_r1, List.forall_mem_append.mpr ⟨lw_r2, List.forall_mem_append.mpr ⟨lw_r3, List.forall_mem_append.mpr ⟨lw_r4, List.forall_mem_append.mpr ⟨lw_r5, lw_r6⟩⟩⟩⟩⟩
-- classes: names, fields, types (out of the printed names)
def RX0 : String := "CountedTwice$Book"
def TX0 : u_T := fun k => match k with
  | 0 => ("CountedTwice$Book", "told", "I", false)
  | 1 => ("CountedTwice$Book", "time", "I", false)
  | 2 => ("CountedTwice$Book", "seenFrom", "I", false)
  | 3 => ("CountedTwice$Book", "facts", "[I", true)
  | 4 => ("CountedTwice$Book", "knownFrom", "[I", true)
  | 5 => ("CountedTwice$Book", "knownTill", "[I", true)
  | 6 => ("CountedTwice$Book", "lengths", "[I", true)
  | _ => ("CountedTwice$Book", "letters", "[B", true)
def tyX0 : Nat → FieldType := fun k => match k with
  | 0 => .int
  | 1 => .int
  | 2 => .int
  | 3 => .array .int
  | 4 => .array .int
  | 5 => .array .int
  | 6 => .array .int
  | _ => .array .byte
abbrev wsX00 : List Cond := u_ws RX0 TX0 8
theorem nmX0 : ∀ a, a < 8 → ∀ b, b < 8 → a ≠ b → (TX0 a).2.1 ≠ (TX0 b).2.1 := by decide +kernel
theorem tyX0_ok : ∀ k, k < 8 → parseFieldDescriptor (TX0 k).2.2.1 = some (tyX0 k) := by decide +kernel
def RX1 : String := "CountedTwice$Checks"
def TX1 : u_T := fun k => match k with
  | 0 => ("CountedTwice$Checks", "world", "LCountedTwice$World;", true)
  | 1 => ("CountedTwice$Checks", "often", "[I", true)
  | _ => ("CountedTwice$Checks", "ways", "[J", true)
def tyX1 : Nat → FieldType := fun k => match k with
  | 0 => .object "CountedTwice$World"
  | 1 => .array .int
  | _ => .array .long
abbrev wsX10 : List Cond := u_ws RX1 TX1 3
theorem nmX1 : ∀ a, a < 3 → ∀ b, b < 3 → a ≠ b → (TX1 a).2.1 ≠ (TX1 b).2.1 := by decide +kernel
theorem tyX1_ok : ∀ k, k < 3 → parseFieldDescriptor (TX1 k).2.2.1 = some (tyX1 k) := by decide +kernel
def RX2 : String := "CountedTwice$LastDays"
def TX2 : u_T := fun k => match k with
  | 0 => ("CountedTwice$LastDays", "days", "I", false)
  | 1 => ("CountedTwice$LastDays", "counters", "I", false)
  | 2 => ("CountedTwice$LastDays", "streets", "[I", true)
  | 3 => ("CountedTwice$LastDays", "strengths", "[I", true)
  | 4 => ("CountedTwice$LastDays", "isClosed", "[Z", true)
  | _ => ("CountedTwice$LastDays", "slots", "[I", true)
def tyX2 : Nat → FieldType := fun k => match k with
  | 0 => .int
  | 1 => .int
  | 2 => .array .int
  | 3 => .array .int
  | 4 => .array .boolean
  | _ => .array .int
abbrev wsX20 : List Cond := u_ws RX2 TX2 6
theorem nmX2 : ∀ a, a < 6 → ∀ b, b < 6 → a ≠ b → (TX2 a).2.1 ≠ (TX2 b).2.1 := by decide +kernel
theorem tyX2_ok : ∀ k, k < 6 → parseFieldDescriptor (TX2 k).2.2.1 = some (tyX2 k) := by decide +kernel
def RX3 : String := "CountedTwice$Likeness"
def TX3 : u_T := fun k => match k with
  | 0 => ("CountedTwice$Likeness", "world", "LCountedTwice$World;", true)
  | 1 => ("CountedTwice$Likeness", "given", "[I", true)
  | 2 => ("CountedTwice$Likeness", "fewest", "[I", true)
  | 3 => ("CountedTwice$Likeness", "asked", "[J", true)
  | _ => ("CountedTwice$Likeness", "agreed", "[J", true)
def tyX3 : Nat → FieldType := fun k => match k with
  | 0 => .object "CountedTwice$World"
  | 1 => .array .int
  | 2 => .array .int
  | 3 => .array .long
  | _ => .array .long
abbrev wsX30 : List Cond := u_ws RX3 TX3 5
theorem nmX3 : ∀ a, a < 5 → ∀ b, b < 5 → a ≠ b → (TX3 a).2.1 ≠ (TX3 b).2.1 := by decide +kernel
theorem tyX3_ok : ∀ k, k < 5 → parseFieldDescriptor (TX3 k).2.2.1 = some (tyX3 k) := by decide +kernel
def RX4 : String := "CountedTwice$Parser"
def TX4 : u_T := fun k => match k with
  | 0 => ("CountedTwice$Parser", "fault", "I", false)
  | 1 => ("CountedTwice$Parser", "faultPlace", "I", false)
  | 2 => ("CountedTwice$Parser", "lines", "I", false)
  | 3 => ("CountedTwice$Parser", "length", "I", false)
  | 4 => ("CountedTwice$Parser", "words", "[I", true)
  | 5 => ("CountedTwice$Parser", "kinds", "[I", true)
  | 6 => ("CountedTwice$Parser", "places", "[I", true)
  | 7 => ("CountedTwice$Parser", "numbers", "[I", true)
  | 8 => ("CountedTwice$Parser", "tokens", "I", false)
  | _ => ("CountedTwice$Parser", "at", "I", false)
def tyX4 : Nat → FieldType := fun k => match k with
  | 0 => .int
  | 1 => .int
  | 2 => .int
  | 3 => .int
  | 4 => .array .int
  | 5 => .array .int
  | 6 => .array .int
  | 7 => .array .int
  | 8 => .int
  | _ => .int
abbrev wsX40 : List Cond := u_ws RX4 TX4 10
theorem nmX4 : ∀ a, a < 10 → ∀ b, b < 10 → a ≠ b → (TX4 a).2.1 ≠ (TX4 b).2.1 := by decide +kernel
theorem tyX4_ok : ∀ k, k < 10 → parseFieldDescriptor (TX4 k).2.2.1 = some (tyX4 k) := by decide +kernel
def RX5 : String := "CountedTwice$Persons"
def TX5 : u_T := fun k => match k with
  | 0 => ("CountedTwice$Persons", "size", "I", false)
  | 1 => ("CountedTwice$Persons", "world", "LCountedTwice$World;", true)
  | 2 => ("CountedTwice$Persons", "likeness", "LCountedTwice$Likeness;", true)
  | 3 => ("CountedTwice$Persons", "isStale", "Z", false)
  | 4 => ("CountedTwice$Persons", "ofEntries", "[I", true)
  | 5 => ("CountedTwice$Persons", "entries", "[I", true)
  | 6 => ("CountedTwice$Persons", "least", "[I", true)
  | 7 => ("CountedTwice$Persons", "counts", "[I", true)
  | 8 => ("CountedTwice$Persons", "houses", "[J", true)
  | 9 => ("CountedTwice$Persons", "queue", "[I", true)
  | 10 => ("CountedTwice$Persons", "couples", "I", false)
  | 11 => ("CountedTwice$Persons", "possible", "[J", true)
  | 12 => ("CountedTwice$Persons", "partner", "[I", true)
  | _ => ("CountedTwice$Persons", "comeFrom", "[I", true)
def tyX5 : Nat → FieldType := fun k => match k with
  | 0 => .int
  | 1 => .object "CountedTwice$World"
  | 2 => .object "CountedTwice$Likeness"
  | 3 => .boolean
  | 4 => .array .int
  | 5 => .array .int
  | 6 => .array .int
  | 7 => .array .int
  | 8 => .array .long
  | 9 => .array .int
  | 10 => .int
  | 11 => .array .long
  | 12 => .array .int
  | _ => .array .int
abbrev wsX50 : List Cond := u_ws RX5 TX5 14
theorem nmX5 : ∀ a, a < 14 → ∀ b, b < 14 → a ≠ b → (TX5 a).2.1 ≠ (TX5 b).2.1 := by decide +kernel
theorem tyX5_ok : ∀ k, k < 14 → parseFieldDescriptor (TX5 k).2.2.1 = some (tyX5 k) := by decide +kernel
def RX6 : String := "CountedTwice$Round"
def TX6 : u_T := fun k => match k with
  | 0 => ("CountedTwice$Round", "steps", "I", false)
  | 1 => ("CountedTwice$Round", "houses", "[I", true)
  | _ => ("CountedTwice$Round", "minutes", "[I", true)
def tyX6 : Nat → FieldType := fun k => match k with
  | 0 => .int
  | 1 => .array .int
  | _ => .array .int
abbrev wsX60 : List Cond := u_ws RX6 TX6 3
theorem nmX6 : ∀ a, a < 3 → ∀ b, b < 3 → a ≠ b → (TX6 a).2.1 ≠ (TX6 b).2.1 := by decide +kernel
theorem tyX6_ok : ∀ k, k < 3 → parseFieldDescriptor (TX6 k).2.2.1 = some (tyX6 k) := by decide +kernel
def RX7 : String := "CountedTwice$Search"
def TX7 : u_T := fun k => match k with
  | 0 => ("CountedTwice$Search", "reached", "[J", false)
  | 1 => ("CountedTwice$Search", "next", "[J", false)
  | 2 => ("CountedTwice$Search", "weights", "[I", true)
  | 3 => ("CountedTwice$Search", "bases", "[I", true)
  | _ => ("CountedTwice$Search", "wordsUsed", "I", false)
def tyX7 : Nat → FieldType := fun k => match k with
  | 0 => .array .long
  | 1 => .array .long
  | 2 => .array .int
  | 3 => .array .int
  | _ => .int
abbrev wsX70 : List Cond := u_ws RX7 TX7 5
theorem nmX7 : ∀ a, a < 5 → ∀ b, b < 5 → a ≠ b → (TX7 a).2.1 ≠ (TX7 b).2.1 := by decide +kernel
theorem tyX7_ok : ∀ k, k < 5 → parseFieldDescriptor (TX7 k).2.2.1 = some (tyX7 k) := by decide +kernel
def RX8 : String := "CountedTwice$Text"
def TX8 : u_T := fun k => match k with
  | 0 => ("CountedTwice$Text", "lines", "I", false)
  | 1 => ("CountedTwice$Text", "words", "[I", true)
  | 2 => ("CountedTwice$Text", "length", "I", false)
  | _ => ("CountedTwice$Text", "stack", "[I", true)
def tyX8 : Nat → FieldType := fun k => match k with
  | 0 => .int
  | 1 => .array .int
  | 2 => .int
  | _ => .array .int
abbrev wsX80 : List Cond := u_ws RX8 TX8 4
theorem nmX8 : ∀ a, a < 4 → ∀ b, b < 4 → a ≠ b → (TX8 a).2.1 ≠ (TX8 b).2.1 := by decide +kernel
theorem tyX8_ok : ∀ k, k < 4 → parseFieldDescriptor (TX8 k).2.2.1 = some (tyX8 k) := by decide +kernel
def RX9 : String := "CountedTwice$Town"
def TX9 : u_T := fun k => match k with
  | 0 => ("CountedTwice$Town", "houses", "I", false)
  | 1 => ("CountedTwice$Town", "pace", "I", false)
  | 2 => ("CountedTwice$Town", "sit", "I", false)
  | 3 => ("CountedTwice$Town", "streets", "[I", true)
  | 4 => ("CountedTwice$Town", "numbers", "[I", true)
  | 5 => ("CountedTwice$Town", "kinds", "[I", true)
  | _ => ("CountedTwice$Town", "gaps", "[I", true)
def tyX9 : Nat → FieldType := fun k => match k with
  | 0 => .int
  | 1 => .int
  | 2 => .int
  | 3 => .array .int
  | 4 => .array .int
  | 5 => .array .int
  | _ => .array .int
abbrev wsX90 : List Cond := u_ws RX9 TX9 7
theorem nmX9 : ∀ a, a < 7 → ∀ b, b < 7 → a ≠ b → (TX9 a).2.1 ≠ (TX9 b).2.1 := by decide +kernel
theorem tyX9_ok : ∀ k, k < 7 → parseFieldDescriptor (TX9 k).2.2.1 = some (tyX9 k) := by decide +kernel
def RX10 : String := "CountedTwice$World"
def TX10 : u_T := fun k => match k with
  | 0 => ("CountedTwice$World", "draws", "I", false)
  | 1 => ("CountedTwice$World", "town", "LCountedTwice$Town;", true)
  | 2 => ("CountedTwice$World", "book", "LCountedTwice$Book;", true)
  | 3 => ("CountedTwice$World", "same", "LCountedTwice$Text;", true)
  | 4 => ("CountedTwice$World", "maybe", "LCountedTwice$Text;", true)
  | 5 => ("CountedTwice$World", "home", "LCountedTwice$Text;", true)
  | 6 => ("CountedTwice$World", "round", "LCountedTwice$Round;", true)
  | 7 => ("CountedTwice$World", "last", "LCountedTwice$LastDays;", true)
  | _ => ("CountedTwice$World", "given", "[I", true)
def tyX10 : Nat → FieldType := fun k => match k with
  | 0 => .int
  | 1 => .object "CountedTwice$Town"
  | 2 => .object "CountedTwice$Book"
  | 3 => .object "CountedTwice$Text"
  | 4 => .object "CountedTwice$Text"
  | 5 => .object "CountedTwice$Text"
  | 6 => .object "CountedTwice$Round"
  | 7 => .object "CountedTwice$LastDays"
  | _ => .array .int
abbrev wsX100 : List Cond := u_ws RX10 TX10 9
theorem nmX10 : ∀ a, a < 9 → ∀ b, b < 9 → a ≠ b → (TX10 a).2.1 ≠ (TX10 b).2.1 := by decide +kernel
theorem tyX10_ok : ∀ k, k < 9 → parseFieldDescriptor (TX10 k).2.2.1 = some (tyX10 k) := by decide +kernel
def RX11 : String := "CountedTwice"
def TX11 : u_T := fun k => match k with
  | 0 => ("CountedTwice", "now", "LCountedTwice$World;", true)
  | 1 => ("CountedTwice", "kept", "LCountedTwice$World;", true)
  | 2 => ("CountedTwice", "isKept", "Z", false)
  | 3 => ("CountedTwice", "tape", "[B", true)
  | 4 => ("CountedTwice", "tapeLength", "I", false)
  | 5 => ("CountedTwice", "faultKind", "I", false)
  | 6 => ("CountedTwice", "faultPlace", "I", false)
  | 7 => ("CountedTwice", "parser", "LCountedTwice$Parser;", true)
  | 8 => ("CountedTwice", "likeness", "LCountedTwice$Likeness;", true)
  | 9 => ("CountedTwice", "persons", "LCountedTwice$Persons;", true)
  | 10 => ("CountedTwice", "checks", "LCountedTwice$Checks;", true)
  | 11 => ("CountedTwice", "search", "LCountedTwice$Search;", true)
  | _ => ("CountedTwice", "slotMissed", "[I", true)
def tyX11 : Nat → FieldType := fun k => match k with
  | 0 => .object "CountedTwice$World"
  | 1 => .object "CountedTwice$World"
  | 2 => .boolean
  | 3 => .array .byte
  | 4 => .int
  | 5 => .int
  | 6 => .int
  | 7 => .object "CountedTwice$Parser"
  | 8 => .object "CountedTwice$Likeness"
  | 9 => .object "CountedTwice$Persons"
  | 10 => .object "CountedTwice$Checks"
  | 11 => .object "CountedTwice$Search"
  | _ => .array .int
abbrev wsX110 : List Cond := u_ws RX11 TX11 13
theorem nmX11 : ∀ a, a < 13 → ∀ b, b < 13 → a ≠ b → (TX11 a).2.1 ≠ (TX11 b).2.1 := by decide +kernel
theorem tyX11_ok : ∀ k, k < 13 → parseFieldDescriptor (TX11 k).2.2.1 = some (tyX11 k) := by decide +kernel
def RX12 : String := "CountedTwiceModel"
def TX12 : u_T := fun k => match k with
  | 0 => ("CountedTwiceModel", "w", "[I", true)
  | 1 => ("CountedTwiceModel", "kept", "[I", true)
  | 2 => ("CountedTwiceModel", "hasImage", "Z", false)
  | 3 => ("CountedTwiceModel", "freshLine", "[I", true)
  | 4 => ("CountedTwiceModel", "freshStep", "[I", true)
  | 5 => ("CountedTwiceModel", "tape", "[I", true)
  | 6 => ("CountedTwiceModel", "pile", "[I", true)
  | 7 => ("CountedTwiceModel", "facts", "[I", true)
  | 8 => ("CountedTwiceModel", "which", "I", false)
  | 9 => ("CountedTwiceModel", "lines", "I", false)
  | 10 => ("CountedTwiceModel", "steps", "I", false)
  | 11 => ("CountedTwiceModel", "taped", "I", false)
  | 12 => ("CountedTwiceModel", "at", "I", false)
  | 13 => ("CountedTwiceModel", "token", "I", false)
  | 14 => ("CountedTwiceModel", "tokenAt", "I", false)
  | 15 => ("CountedTwiceModel", "value", "I", false)
  | 16 => ("CountedTwiceModel", "wrong", "I", false)
  | 17 => ("CountedTwiceModel", "wrongAt", "I", false)
  | 18 => ("CountedTwiceModel", "faultKind", "I", false)
  | 19 => ("CountedTwiceModel", "depth", "I", false)
  | 20 => ("CountedTwiceModel", "faultPlace", "I", false)
  | 21 => ("CountedTwiceModel", "above", "[I", true)
  | 22 => ("CountedTwiceModel", "below", "[I", true)
  | 23 => ("CountedTwiceModel", "classOf", "[I", true)
  | 24 => ("CountedTwiceModel", "leastOf", "[I", true)
  | 25 => ("CountedTwiceModel", "waiting", "[I", true)
  | 26 => ("CountedTwiceModel", "persons", "I", false)
  | 27 => ("CountedTwiceModel", "kinds", "[I", true)
  | 28 => ("CountedTwiceModel", "isWhat", "[I", true)
  | 29 => ("CountedTwiceModel", "mate", "[I", true)
  | 30 => ("CountedTwiceModel", "seen", "[Z", true)
  | 31 => ("CountedTwiceModel", "canBeOne", "[Z", true)
  | 32 => ("CountedTwiceModel", "choose", "[J", true)
  | 33 => ("CountedTwiceModel", "book", "[I", true)
  | 34 => ("CountedTwiceModel", "digits", "[I", true)
  | 35 => ("CountedTwiceModel", "digitMany", "I", false)
  | 36 => ("CountedTwiceModel", "ways", "[J", false)
  | 37 => ("CountedTwiceModel", "nextWays", "[J", false)
  | 38 => ("CountedTwiceModel", "isSeen", "[Z", true)
  | 39 => ("CountedTwiceModel", "has", "[I", true)
  | 40 => ("CountedTwiceModel", "canBe", "[Z", false)
  | 41 => ("CountedTwiceModel", "canBeNext", "[Z", false)
  | _ => ("CountedTwiceModel", "lot", "[I", true)
def tyX12 : Nat → FieldType := fun k => match k with
  | 0 => .array .int
  | 1 => .array .int
  | 2 => .boolean
  | 3 => .array .int
  | 4 => .array .int
  | 5 => .array .int
  | 6 => .array .int
  | 7 => .array .int
  | 8 => .int
  | 9 => .int
  | 10 => .int
  | 11 => .int
  | 12 => .int
  | 13 => .int
  | 14 => .int
  | 15 => .int
  | 16 => .int
  | 17 => .int
  | 18 => .int
  | 19 => .int
  | 20 => .int
  | 21 => .array .int
  | 22 => .array .int
  | 23 => .array .int
  | 24 => .array .int
  | 25 => .array .int
  | 26 => .int
  | 27 => .array .int
  | 28 => .array .int
  | 29 => .array .int
  | 30 => .array .boolean
  | 31 => .array .boolean
  | 32 => .array .long
  | 33 => .array .int
  | 34 => .array .int
  | 35 => .int
  | 36 => .array .long
  | 37 => .array .long
  | 38 => .array .boolean
  | 39 => .array .int
  | 40 => .array .boolean
  | 41 => .array .boolean
  | _ => .array .int
abbrev wsX120 : List Cond := u_ws RX12 TX12 43
theorem nmX12 : ∀ a, a < 43 → ∀ b, b < 43 → a ≠ b → (TX12 a).2.1 ≠ (TX12 b).2.1 := by decide +kernel
theorem tyX12_ok : ∀ k, k < 43 → parseFieldDescriptor (TX12 k).2.2.1 = some (tyX12 k) := by decide +kernel
abbrev vwCl : List vw_C := [(RX0, TX0, 8), (RX1, TX1, 3), (RX2, TX2, 6), (RX3, TX3, 5), (RX4, TX4, 10), (RX5, TX5, 14), (RX6, TX6, 3), (RX7, TX7, 5), (RX8, TX8, 4), (RX9, TX9, 7), (RX10, TX10, 9), (RX11, TX11, 13), (RX12, TX12, 43)]
def lw_good : List Cond := lw_tbl.filter goodWord
theorem good_in {w : Cond} (h : w ∈ lw_good) : w ∈ lw_tbl := (List.mem_filter.mp h).1
theorem mem_ps {big ws : List Cond} (ps : List Nat) (h : ws.map some = ps.map (fun i => big[i]?)) : ∀ w ∈ ws, w ∈ big := by
  intro w hw
  have h1 : some w ∈ ws.map some := List.mem_map_of_mem hw
  rw [h] at h1
  obtain ⟨i, -, hi⟩ := List.mem_map.mp h1
  exact List.mem_of_getElem? hi
theorem mem_g {ws : List Cond} (ps : List Nat) (h : ws.map some = ps.map (fun i => lw_tbl[i]?)) (hg : ws.all goodWord = true) : ∀ w ∈ ws, w ∈ lw_good := fun w hw => List.mem_filter.mpr ⟨mem_ps ps h w hw, List.all_eq_true.mp hg w hw⟩
theorem good_all : GoodIn lw_good lw_good := fun w hw => ⟨hw, good_of_word (List.mem_filter.mp hw).2⟩
set_option maxRecDepth 100000 in
theorem inX0 : ∀ w ∈ wsX00, w ∈ lw_good := mem_g [179, 181, 183, 185, 187, 189, 191, 193] (by decide +kernel) (by decide +kernel)
set_option maxRecDepth 100000 in
theorem inX1 : ∀ w ∈ wsX10, w ∈ lw_good := mem_g [434, 436, 438] (by decide +kernel) (by decide +kernel)
set_option maxRecDepth 100000 in
theorem inX2 : ∀ w ∈ wsX20, w ∈ lw_good := mem_g [256, 258, 260, 262, 264, 266] (by decide +kernel) (by decide +kernel)
set_option maxRecDepth 100000 in
theorem inX3 : ∀ w ∈ wsX30, w ∈ lw_good := mem_g [363, 365, 367, 369, 371] (by decide +kernel) (by decide +kernel)
set_option maxRecDepth 100000 in
theorem inX4 : ∀ w ∈ wsX40, w ∈ lw_good := mem_g [331, 333, 335, 337, 339, 341, 343, 345, 347, 349] (by decide +kernel) (by decide +kernel)
set_option maxRecDepth 100000 in
theorem inX5 : ∀ w ∈ wsX50, w ∈ lw_good := mem_g [396, 398, 400, 402, 404, 406, 408, 410, 412, 414, 416, 418, 420, 422] (by decide +kernel) (by decide +kernel)
set_option maxRecDepth 100000 in
theorem inX6 : ∀ w ∈ wsX60, w ∈ lw_good := mem_g [228, 230, 232] (by decide +kernel) (by decide +kernel)
set_option maxRecDepth 100000 in
theorem inX7 : ∀ w ∈ wsX70, w ∈ lw_good := mem_g [452, 454, 456, 458, 460] (by decide +kernel) (by decide +kernel)
set_option maxRecDepth 100000 in
theorem inX8 : ∀ w ∈ wsX80, w ∈ lw_good := mem_g [209, 211, 213, 215] (by decide +kernel) (by decide +kernel)
set_option maxRecDepth 100000 in
theorem inX9 : ∀ w ∈ wsX90, w ∈ lw_good := mem_g [143, 145, 147, 149, 151, 153, 155] (by decide +kernel) (by decide +kernel)
set_option maxRecDepth 100000 in
theorem inX10 : ∀ w ∈ wsX100, w ∈ lw_good := mem_g [291, 293, 295, 297, 299, 301, 303, 305, 307] (by decide +kernel) (by decide +kernel)
set_option maxRecDepth 100000 in
theorem inX11 : ∀ w ∈ wsX110, w ∈ lw_good := mem_g [476, 478, 480, 482, 484, 486, 488, 490, 492, 494, 496, 498, 500] (by decide +kernel) (by decide +kernel)
set_option maxRecDepth 100000 in
theorem inX12 : ∀ w ∈ wsX120, w ∈ lw_good := mem_g [1327, 1329, 1331, 1333, 1335, 1337, 1339, 1341, 1343, 1345, 1347, 1349, 1351, 1353, 1355, 1357, 1359, 1361, 1363, 1365, 1367, 1369, 1371, 1373, 1375, 1377, 1379, 1381, 1383, 1385, 1387, 1389, 1391, 1393, 1395, 1397, 1399, 1401, 1403, 1405, 1407, 1409, 1411] (by decide +kernel) (by decide +kernel)
end
