def RC : Nat → String := fun k => ([RX0, RX1, RX2, RX3, RX4, RX5, RX6, RX7, RX8, RX9, RX10, RX11, RX12, "java/util/Arrays", "java/lang/Math", "java/lang/String", "java/lang/StringLatin1", "jdk/internal/util/Preconditions", "java/lang/Long", "java/lang/Integer", "CountedTwiceLaw"] : List String).getD k ""
abbrev Mth : Type := MethodName × ByteArray × Nat × Option FieldType
def mtab_0 : List Mth := [(⟨"java/util/Arrays", "fill", "([II)V"⟩, prog_24_method_103_code, 4, none),
  (⟨"java/util/Arrays", "fill", "([JJ)V"⟩, prog_24_method_101_code, 5, none),
  (⟨"java/lang/Math", "abs", "(I)I"⟩, prog_18_method_59_code, 1, (some .int)),
  (⟨"java/lang/Math", "min", "(II)I"⟩, prog_18_method_69_code, 2, (some .int)),
  (⟨"java/lang/String", "length", "()I"⟩, prog_20_method_54_code, 1, (some .int)),
  (⟨"java/lang/String", "coder", "()B"⟩, prog_20_method_152_code, 1, (some .byte)),
  (⟨"java/lang/String", "charAt", "(I)C"⟩, prog_20_method_56_code, 2, (some .char)),
  (⟨"java/lang/String", "isLatin1", "()Z"⟩, prog_20_method_154_code, 1, (some .boolean)),
  (⟨"java/lang/StringLatin1", "charAt", "([BI)C"⟩, prog_21_method_2_code, 2, (some .char)),
  (⟨"java/lang/String", "checkIndex", "(II)V"⟩, prog_20_method_155_code, 2, none),
  (⟨"jdk/internal/util/Preconditions", "checkIndex", "(IILjava/util/function/BiFunction;)I"⟩, prog_25_method_11_code, 3, (some .int)),
  (⟨"java/lang/String", "indexOf", "(I)I"⟩, prog_20_method_79_code, 2, (some .int)),
  (⟨"java/lang/String", "indexOf", "(II)I"⟩, prog_20_method_80_code, 3, (some .int)),
  (⟨"java/lang/StringLatin1", "indexOf", "([BIII)I"⟩, prog_21_method_22_code, 4, (some .int)),
  (⟨"java/lang/StringLatin1", "canEncode", "(I)Z"⟩, prog_21_method_4_code, 1, (some .boolean)),
  (⟨"java/lang/Math", "max", "(II)I"⟩, prog_18_method_65_code, 2, (some .int)),
  (⟨"java/lang/StringLatin1", "indexOfChar", "([BIII)I"⟩, prog_21_method_23_code, 6, (some .int)),
  (⟨"java/lang/Long", "bitCount", "(J)I"⟩, prog_17_method_50_code, 2, (some .int)),
  (⟨"java/lang/Math", "floorMod", "(II)I"⟩, prog_18_method_50_code, 3, (some .int)),
  (⟨"java/lang/Long", "numberOfTrailingZeros", "(J)I"⟩, prog_17_method_49_code, 3, (some .int)),
  (⟨"java/lang/Integer", "numberOfTrailingZeros", "(I)I"⟩, prog_16_method_48_code, 2, (some .int)),
  (⟨"CountedTwice$Book", "<init>", "()V"⟩, prog_2_method_1_code, 1, none),
  (⟨"CountedTwice$Book", "copyFrom", "(LCountedTwice$Book;)V"⟩, prog_2_method_2_code, 2, none),
  (⟨"CountedTwice$Book", "sign", "([BI)V"⟩, prog_2_method_3_code, 4, none),
  (⟨"CountedTwice$Book", "write", "(IIIIII)I"⟩, prog_2_method_4_code, 8, (some .int)),
  (⟨"CountedTwice$Book", "strike", "(I)V"⟩, prog_2_method_5_code, 2, none),
  (⟨"CountedTwice$Book", "isVoid", "(I)Z"⟩, prog_2_method_6_code, 2, (some .boolean)),
  (⟨"CountedTwice$Book", "isKnown", "(I)Z"⟩, prog_2_method_7_code, 3, (some .boolean)),
  (⟨"CountedTwice$Book", "knownEntries", "()I"⟩, prog_2_method_8_code, 3, (some .int)),
  (⟨"CountedTwice$Book", "fact", "(II)I"⟩, prog_2_method_9_code, 3, (some .int)),
  (⟨"CountedTwice$Book", "nameLength", "(I)I"⟩, prog_2_method_10_code, 2, (some .int)),
  (⟨"CountedTwice$Book", "letter", "(II)I"⟩, prog_2_method_11_code, 3, (some .int)),
  (⟨"CountedTwice$Checks", "<init>", "(LCountedTwice$World;)V"⟩, prog_3_method_1_code, 2, none),
  (⟨"CountedTwice$Checks", "isBy", "(III)Z"⟩, prog_3_method_2_code, 5, (some .boolean)),
  (⟨"CountedTwice$Checks", "entriesOf", "(II)I"⟩, prog_3_method_3_code, 5, (some .int)),
  (⟨"CountedTwice$Checks", "ghosts", "(I)I"⟩, prog_3_method_4_code, 5, (some .int)),
  (⟨"CountedTwice$Checks", "quick", "(II)I"⟩, prog_3_method_5_code, 6, (some .int)),
  (⟨"CountedTwice$Checks", "order", "(I)I"⟩, prog_3_method_6_code, 3, (some .int)),
  (⟨"CountedTwice$Checks", "justAhead", "(III)I"⟩, prog_3_method_7_code, 9, (some .int)),
  (⟨"CountedTwice$Checks", "isQuick", "(II)Z"⟩, prog_3_method_8_code, 7, (some .boolean)),
  (⟨"CountedTwice$Checks", "tally", "(I)I"⟩, prog_3_method_9_code, 4, (some .int)),
  (⟨"CountedTwice$Checks", "squares", "()I"⟩, prog_3_method_10_code, 3, (some .int)),
  (⟨"CountedTwice$Checks", "evenness", "(I)I"⟩, prog_3_method_11_code, 2, (some .int)),
  (⟨"CountedTwice$Checks", "evenWays", "(I)J"⟩, prog_3_method_12_code, 7, (some .long)),
  (⟨"CountedTwice$Checks", "allowDigit", "(II)V"⟩, prog_3_method_13_code, 8, none),
  (⟨"CountedTwice$Checks", "mostSuspicious", "()I"⟩, prog_3_method_14_code, 5, (some .int)),
  (⟨"CountedTwice$LastDays", "<init>", "()V"⟩, prog_4_method_1_code, 1, none),
  (⟨"CountedTwice$LastDays", "copyFrom", "(LCountedTwice$LastDays;)V"⟩, prog_4_method_2_code, 2, none),
  (⟨"CountedTwice$LastDays", "giveStreet", "(II)Z"⟩, prog_4_method_3_code, 4, (some .boolean)),
  (⟨"CountedTwice$LastDays", "giveStrength", "(II)Z"⟩, prog_4_method_4_code, 3, (some .boolean))]
def mtab_1 : List Mth := [(⟨"CountedTwice$LastDays", "giveDays", "(I)Z"⟩, prog_4_method_5_code, 2, (some .boolean)),
  (⟨"CountedTwice$LastDays", "giveCounters", "(I)Z"⟩, prog_4_method_6_code, 2, (some .boolean)),
  (⟨"CountedTwice$LastDays", "close", "(IIZ)V"⟩, prog_4_method_7_code, 4, none),
  (⟨"CountedTwice$LastDays", "isOpen", "(II)Z"⟩, prog_4_method_8_code, 3, (some .boolean)),
  (⟨"CountedTwice$LastDays", "send", "(III)V"⟩, prog_4_method_9_code, 4, none),
  (⟨"CountedTwice$LastDays", "seenByPlan", "([I)I"⟩, prog_4_method_10_code, 7, (some .int)),
  (⟨"CountedTwice$Likeness", "<init>", "(LCountedTwice$World;)V"⟩, prog_5_method_1_code, 2, none),
  (⟨"CountedTwice$Likeness", "forget", "()V"⟩, prog_5_method_2_code, 1, none),
  (⟨"CountedTwice$Likeness", "agree", "(III)Z"⟩, prog_5_method_3_code, 7, (some .boolean)),
  (⟨"CountedTwice$Likeness", "compare", "(II)V"⟩, prog_5_method_4_code, 6, none),
  (⟨"CountedTwice$Likeness", "wayApart", "(II)I"⟩, prog_5_method_5_code, 3, (some .int)),
  (⟨"CountedTwice$Likeness", "lettersApart", "(II)I"⟩, prog_5_method_6_code, 11, (some .int)),
  (⟨"CountedTwice$Parser", "<init>", "()V"⟩, prog_6_method_1_code, 1, none),
  (⟨"CountedTwice$Parser", "read", "([BIZ)V"⟩, prog_6_method_2_code, 9, none),
  (⟨"CountedTwice$Parser", "tokenEnd", "([BII)I"⟩, prog_6_method_3_code, 6, (some .int)),
  (⟨"CountedTwice$Parser", "kindOf", "([BIILjava/lang/String;)I"⟩, prog_6_method_4_code, 5, (some .int)),
  (⟨"CountedTwice$Parser", "keyword", "([BIILjava/lang/String;)I"⟩, prog_6_method_5_code, 8, (some .int)),
  (⟨"CountedTwice$Parser", "numberIn", "([BII)I"⟩, prog_6_method_6_code, 5, (some .int)),
  (⟨"CountedTwice$Parser", "parse", "()V"⟩, prog_6_method_7_code, 3, none),
  (⟨"CountedTwice$Parser", "readAny", "(I)V"⟩, prog_6_method_8_code, 5, none),
  (⟨"CountedTwice$Parser", "readOne", "(I)V"⟩, prog_6_method_9_code, 4, none),
  (⟨"CountedTwice$Parser", "readSum", "()V"⟩, prog_6_method_10_code, 3, none),
  (⟨"CountedTwice$Parser", "readProduct", "()V"⟩, prog_6_method_11_code, 3, none),
  (⟨"CountedTwice$Parser", "readUnit", "()V"⟩, prog_6_method_12_code, 2, none),
  (⟨"CountedTwice$Parser", "kind", "()I"⟩, prog_6_method_13_code, 1, (some .int)),
  (⟨"CountedTwice$Parser", "number", "()I"⟩, prog_6_method_14_code, 1, (some .int)),
  (⟨"CountedTwice$Parser", "pass", "(I)V"⟩, prog_6_method_15_code, 2, none),
  (⟨"CountedTwice$Parser", "refuse", "(I)V"⟩, prog_6_method_16_code, 2, none),
  (⟨"CountedTwice$Parser", "emit", "(I)V"⟩, prog_6_method_17_code, 2, none),
  (⟨"CountedTwice$Persons", "<init>", "(LCountedTwice$World;LCountedTwice$Likeness;)V"⟩, prog_7_method_1_code, 3, none),
  (⟨"CountedTwice$Persons", "forget", "()V"⟩, prog_7_method_2_code, 1, none),
  (⟨"CountedTwice$Persons", "refresh", "()V"⟩, prog_7_method_3_code, 2, none),
  (⟨"CountedTwice$Persons", "gather", "(I)V"⟩, prog_7_method_4_code, 5, none),
  (⟨"CountedTwice$Persons", "join", "(II)V"⟩, prog_7_method_5_code, 4, none),
  (⟨"CountedTwice$Persons", "ofEntry", "(I)I"⟩, prog_7_method_6_code, 2, (some .int)),
  (⟨"CountedTwice$Persons", "entriesOf", "(I)I"⟩, prog_7_method_7_code, 2, (some .int)),
  (⟨"CountedTwice$Persons", "leastOf", "(I)I"⟩, prog_7_method_8_code, 2, (some .int)),
  (⟨"CountedTwice$Persons", "sortOf", "(I)I"⟩, prog_7_method_9_code, 2, (some .int)),
  (⟨"CountedTwice$Persons", "housesOf", "(I)I"⟩, prog_7_method_10_code, 2, (some .int)),
  (⟨"CountedTwice$Persons", "isIn", "(II)Z"⟩, prog_7_method_11_code, 3, (some .boolean)),
  (⟨"CountedTwice$Persons", "manyOfSort", "(II)I"⟩, prog_7_method_12_code, 5, (some .int)),
  (⟨"CountedTwice$Persons", "missedByBoth", "(I)I"⟩, prog_7_method_13_code, 3, (some .int)),
  (⟨"CountedTwice$Persons", "doubles", "(I)I"⟩, prog_7_method_14_code, 4, (some .int)),
  (⟨"CountedTwice$Persons", "mostCouples", "()I"⟩, prog_7_method_15_code, 2, (some .int)),
  (⟨"CountedTwice$Persons", "findPossible", "()V"⟩, prog_7_method_16_code, 5, none),
  (⟨"CountedTwice$Persons", "findPartner", "(I)Z"⟩, prog_7_method_17_code, 5, (some .boolean)),
  (⟨"CountedTwice$Persons", "change", "(I)V"⟩, prog_7_method_18_code, 6, none),
  (⟨"CountedTwice$Round", "<init>", "()V"⟩, prog_8_method_1_code, 1, none),
  (⟨"CountedTwice$Round", "copyFrom", "(LCountedTwice$Round;)V"⟩, prog_8_method_2_code, 2, none),
  (⟨"CountedTwice$Round", "put", "(III)I"⟩, prog_8_method_3_code, 4, (some .int))]
def mtab_2 : List Mth := [(⟨"CountedTwice$Round", "firstWrong", "(LCountedTwice$World;I)I"⟩, prog_8_method_4_code, 5, (some .int)),
  (⟨"CountedTwice$Round", "isTooSoon", "(LCountedTwice$Town;I)Z"⟩, prog_8_method_5_code, 3, (some .boolean)),
  (⟨"CountedTwice$Round", "seen", "(LCountedTwice$World;I)I"⟩, prog_8_method_6_code, 8, (some .int)),
  (⟨"CountedTwice$Search", "<init>", "()V"⟩, prog_9_method_1_code, 1, none),
  (⟨"CountedTwice$Search", "mostSeen", "(LCountedTwice$LastDays;[I)I"⟩, prog_9_method_2_code, 7, (some .int)),
  (⟨"CountedTwice$Search", "begin", "([I)I"⟩, prog_9_method_3_code, 7, (some .int)),
  (⟨"CountedTwice$Search", "clear", "([J)V"⟩, prog_9_method_4_code, 3, none),
  (⟨"CountedTwice$Search", "send", "(LCountedTwice$LastDays;II)V"⟩, prog_9_method_5_code, 8, none),
  (⟨"CountedTwice$Search", "sendFrom", "(ILCountedTwice$LastDays;II)V"⟩, prog_9_method_6_code, 8, none),
  (⟨"CountedTwice$Search", "leftIn", "(II)I"⟩, prog_9_method_7_code, 5, (some .int)),
  (⟨"CountedTwice$Search", "leastLeft", "()I"⟩, prog_9_method_8_code, 9, (some .int)),
  (⟨"CountedTwice$Text", "<init>", "()V"⟩, prog_10_method_1_code, 1, none),
  (⟨"CountedTwice$Text", "copyFrom", "(LCountedTwice$Text;)V"⟩, prog_10_method_2_code, 2, none),
  (⟨"CountedTwice$Text", "take", "(LCountedTwice$Parser;)V"⟩, prog_10_method_3_code, 2, none),
  (⟨"CountedTwice$Text", "firstLine", "([I)I"⟩, prog_10_method_4_code, 5, (some .int)),
  (⟨"CountedTwice$Text", "valueOf", "(I[I)I"⟩, prog_10_method_5_code, 2, (some .int)),
  (⟨"CountedTwice$Text", "operate", "(II)I"⟩, prog_10_method_6_code, 3, (some .int)),
  (⟨"CountedTwice$Text", "joined", "(III)I"⟩, prog_10_method_7_code, 3, (some .int)),
  (⟨"CountedTwice$Town", "<init>", "()V"⟩, prog_11_method_1_code, 1, none),
  (⟨"CountedTwice$Town", "copyFrom", "(LCountedTwice$Town;)V"⟩, prog_11_method_2_code, 2, none),
  (⟨"CountedTwice$Town", "build", "(III)I"⟩, prog_11_method_3_code, 4, (some .int)),
  (⟨"CountedTwice$Town", "streetOf", "(I)I"⟩, prog_11_method_4_code, 2, (some .int)),
  (⟨"CountedTwice$Town", "numberOf", "(I)I"⟩, prog_11_method_5_code, 2, (some .int)),
  (⟨"CountedTwice$Town", "kindOf", "(I)I"⟩, prog_11_method_6_code, 2, (some .int)),
  (⟨"CountedTwice$Town", "setGap", "(III)V"⟩, prog_11_method_7_code, 4, none),
  (⟨"CountedTwice$Town", "wayBetween", "(II)I"⟩, prog_11_method_8_code, 3, (some .int)),
  (⟨"CountedTwice$Town", "minutesBetween", "(II)I"⟩, prog_11_method_9_code, 3, (some .int)),
  (⟨"CountedTwice$Town", "housesIn", "(I)J"⟩, prog_11_method_10_code, 5, (some .long)),
  (⟨"CountedTwice$World", "<init>", "()V"⟩, prog_12_method_1_code, 1, none),
  (⟨"CountedTwice$World", "copyFrom", "(LCountedTwice$World;)V"⟩, prog_12_method_2_code, 2, none),
  (⟨"CountedTwice$World", "textOf", "(I)LCountedTwice$Text;"⟩, prog_12_method_3_code, 2, (some (.object "CountedTwice$Text"))),
  (⟨"CountedTwice$World", "draw", "(I)I"⟩, prog_12_method_4_code, 2, (some .int)),
  (⟨"CountedTwice$World", "somebodyHome", "(III)Z"⟩, prog_12_method_5_code, 4, (some .boolean)),
  (⟨"CountedTwice$World", "missed", "()J"⟩, prog_12_method_6_code, 4, (some .long)),
  (⟨"CountedTwice$World", "missedIn", "(I)I"⟩, prog_12_method_7_code, 2, (some .int)),
  (⟨"CountedTwice$World", "countSlots", "([I)V"⟩, prog_12_method_8_code, 7, none),
  (⟨"CountedTwice", "<init>", "()V"⟩, prog_1_method_1_code, 1, none),
  (⟨"CountedTwice", "state", "(I)I"⟩, prog_1_method_2_code, 3, (some .int)),
  (⟨"CountedTwice", "house", "(III)I"⟩, prog_1_method_3_code, 4, (some .int)),
  (⟨"CountedTwice", "gap", "(III)Z"⟩, prog_1_method_4_code, 4, (some .boolean)),
  (⟨"CountedTwice", "set", "(II)Z"⟩, prog_1_method_5_code, 3, (some .boolean)),
  (⟨"CountedTwice", "way", "(III)I"⟩, prog_1_method_6_code, 4, (some .int)),
  (⟨"CountedTwice", "feed", "(IIIII)I"⟩, prog_1_method_7_code, 6, (some .int)),
  (⟨"CountedTwice", "feedNumber", "(I)V"⟩, prog_1_method_8_code, 3, none),
  (⟨"CountedTwice", "end", "(I)Z"⟩, prog_1_method_9_code, 2, (some .boolean)),
  (⟨"CountedTwice", "text", "(I)I"⟩, prog_1_method_10_code, 4, (some .int)),
  (⟨"CountedTwice", "fault", "(I)I"⟩, prog_1_method_11_code, 2, (some .int)),
  (⟨"CountedTwice", "entry", "(IIIIII)I"⟩, prog_1_method_12_code, 10, (some .int)),
  (⟨"CountedTwice", "isName", "(I)Z"⟩, prog_1_method_13_code, 3, (some .boolean)),
  (⟨"CountedTwice", "voids", "(I)Z"⟩, prog_1_method_14_code, 2, (some .boolean))]
def mtab_3 : List Mth := [(⟨"CountedTwice", "view", "(I)Z"⟩, prog_1_method_15_code, 2, (some .boolean)),
  (⟨"CountedTwice", "of", "(II)I"⟩, prog_1_method_16_code, 4, (some .int)),
  (⟨"CountedTwice", "alike", "(III)I"⟩, prog_1_method_17_code, 4, (some .int)),
  (⟨"CountedTwice", "home", "(III)I"⟩, prog_1_method_18_code, 4, (some .int)),
  (⟨"CountedTwice", "person", "(II)I"⟩, prog_1_method_19_code, 3, (some .int)),
  (⟨"CountedTwice", "table", "(II)I"⟩, prog_1_method_20_code, 3, (some .int)),
  (⟨"CountedTwice", "ends", "(I)I"⟩, prog_1_method_21_code, 2, (some .int)),
  (⟨"CountedTwice", "luck", "(IIII)J"⟩, prog_1_method_22_code, 8, (some .long)),
  (⟨"CountedTwice", "counter", "(II)I"⟩, prog_1_method_23_code, 3, (some .int)),
  (⟨"CountedTwice", "even", "(I)J"⟩, prog_1_method_24_code, 2, (some .long)),
  (⟨"CountedTwice", "suspect", "()I"⟩, prog_1_method_25_code, 1, (some .int)),
  (⟨"CountedTwice", "step", "(III)I"⟩, prog_1_method_26_code, 5, (some .int)),
  (⟨"CountedTwice", "round", "(II)I"⟩, prog_1_method_27_code, 3, (some .int)),
  (⟨"CountedTwice", "last", "(III)Z"⟩, prog_1_method_28_code, 4, (some .boolean)),
  (⟨"CountedTwice", "closed", "(IIZ)Z"⟩, prog_1_method_29_code, 4, (some .boolean)),
  (⟨"CountedTwice", "plan", "(III)Z"⟩, prog_1_method_30_code, 5, (some .boolean)),
  (⟨"CountedTwice", "planned", "()I"⟩, prog_1_method_31_code, 1, (some .int)),
  (⟨"CountedTwice", "best", "()I"⟩, prog_1_method_32_code, 1, (some .int)),
  (⟨"CountedTwice", "lots", "(I)J"⟩, prog_1_method_33_code, 10, (some .long)),
  (⟨"CountedTwice", "image", "(Z)Z"⟩, prog_1_method_34_code, 2, (some .boolean)),
  (⟨"CountedTwice", "look", "(I)I"⟩, prog_1_method_35_code, 2, (some .int)),
  (⟨"CountedTwice", "lookInRow", "(I)I"⟩, prog_1_method_36_code, 2, (some .int)),
  (⟨"CountedTwice", "below", "(II)Z"⟩, prog_1_method_37_code, 2, (some .boolean)),
  (⟨"CountedTwice", "isSmallLetter", "(I)Z"⟩, prog_1_method_38_code, 1, (some .boolean)),
  (⟨"CountedTwice", "isLetter", "(I)Z"⟩, prog_1_method_39_code, 1, (some .boolean)),
  (⟨"CountedTwice", "isDigit", "(I)Z"⟩, prog_1_method_40_code, 1, (some .boolean)),
  (⟨"CountedTwice", "hasBit", "([JI)Z"⟩, prog_1_method_41_code, 3, (some .boolean)),
  (⟨"CountedTwice", "setBit", "([JI)V"⟩, prog_1_method_42_code, 3, none),
  (⟨"CountedTwice", "bitInOrder", "(JI)J"⟩, prog_1_method_43_code, 6, (some .long)),
  (⟨"CountedTwice", "choose", "(II)J"⟩, prog_1_method_44_code, 5, (some .long)),
  (⟨"CountedTwiceModel", "<init>", "()V"⟩, prog_14_method_1_code, 3, none),
  (⟨"CountedTwiceModel", "isIn", "(III)Z"⟩, prog_14_method_2_code, 3, (some .boolean)),
  (⟨"CountedTwiceModel", "apart", "(II)I"⟩, prog_14_method_3_code, 2, (some .int)),
  (⟨"CountedTwiceModel", "state", "(I)I"⟩, prog_14_method_4_code, 3, (some .int)),
  (⟨"CountedTwiceModel", "draw", "(I)I"⟩, prog_14_method_5_code, 2, (some .int)),
  (⟨"CountedTwiceModel", "isHouse", "(I)Z"⟩, prog_14_method_6_code, 2, (some .boolean)),
  (⟨"CountedTwiceModel", "isStreet", "(I)Z"⟩, prog_14_method_7_code, 1, (some .boolean)),
  (⟨"CountedTwiceModel", "isEntry", "(I)Z"⟩, prog_14_method_8_code, 2, (some .boolean)),
  (⟨"CountedTwiceModel", "own", "(II)I"⟩, prog_14_method_9_code, 3, (some .int)),
  (⟨"CountedTwiceModel", "street", "(I)I"⟩, prog_14_method_10_code, 2, (some .int)),
  (⟨"CountedTwiceModel", "number0", "(I)I"⟩, prog_14_method_11_code, 2, (some .int)),
  (⟨"CountedTwiceModel", "house", "(III)I"⟩, prog_14_method_12_code, 5, (some .int)),
  (⟨"CountedTwiceModel", "gap", "(III)Z"⟩, prog_14_method_13_code, 4, (some .boolean)),
  (⟨"CountedTwiceModel", "set", "(II)Z"⟩, prog_14_method_14_code, 3, (some .boolean)),
  (⟨"CountedTwiceModel", "wayOf", "(II)I"⟩, prog_14_method_15_code, 3, (some .int)),
  (⟨"CountedTwiceModel", "minutesOf", "(II)I"⟩, prog_14_method_16_code, 3, (some .int)),
  (⟨"CountedTwiceModel", "way", "(III)I"⟩, prog_14_method_17_code, 4, (some .int)),
  (⟨"CountedTwiceModel", "feed", "(IIIII)I"⟩, prog_14_method_18_code, 8, (some .int)),
  (⟨"CountedTwiceModel", "end", "(I)Z"⟩, prog_14_method_19_code, 2, (some .boolean)),
  (⟨"CountedTwiceModel", "see", "(I)I"⟩, prog_14_method_20_code, 2, (some .int))]
def mtab_4 : List Mth := [(⟨"CountedTwiceModel", "isLetter", "(I)Z"⟩, prog_14_method_21_code, 1, (some .boolean)),
  (⟨"CountedTwiceModel", "isDigit", "(I)Z"⟩, prog_14_method_22_code, 1, (some .boolean)),
  (⟨"CountedTwiceModel", "is", "(Ljava/lang/String;)Z"⟩, prog_14_method_23_code, 4, (some .boolean)),
  (⟨"CountedTwiceModel", "likeWord", "()I"⟩, prog_14_method_24_code, 1, (some .int)),
  (⟨"CountedTwiceModel", "homeWord", "()I"⟩, prog_14_method_25_code, 1, (some .int)),
  (⟨"CountedTwiceModel", "word", "()I"⟩, prog_14_method_26_code, 1, (some .int)),
  (⟨"CountedTwiceModel", "next0", "()V"⟩, prog_14_method_27_code, 3, none),
  (⟨"CountedTwiceModel", "bad", "(I)Z"⟩, prog_14_method_28_code, 2, (some .boolean)),
  (⟨"CountedTwiceModel", "need", "(I)Z"⟩, prog_14_method_29_code, 2, (some .boolean)),
  (⟨"CountedTwiceModel", "lay", "(II)V"⟩, prog_14_method_30_code, 3, none),
  (⟨"CountedTwiceModel", "opens", "()Z"⟩, prog_14_method_31_code, 1, (some .boolean)),
  (⟨"CountedTwiceModel", "sumUp", "()Z"⟩, prog_14_method_32_code, 2, (some .boolean)),
  (⟨"CountedTwiceModel", "product", "()Z"⟩, prog_14_method_33_code, 3, (some .boolean)),
  (⟨"CountedTwiceModel", "unit", "()Z"⟩, prog_14_method_34_code, 2, (some .boolean)),
  (⟨"CountedTwiceModel", "any", "()Z"⟩, prog_14_method_35_code, 1, (some .boolean)),
  (⟨"CountedTwiceModel", "every", "()Z"⟩, prog_14_method_36_code, 1, (some .boolean)),
  (⟨"CountedTwiceModel", "one", "()Z"⟩, prog_14_method_37_code, 2, (some .boolean)),
  (⟨"CountedTwiceModel", "aLine", "()Z"⟩, prog_14_method_38_code, 2, (some .boolean)),
  (⟨"CountedTwiceModel", "text", "(I)I"⟩, prog_14_method_39_code, 4, (some .int)),
  (⟨"CountedTwiceModel", "fault", "(I)I"⟩, prog_14_method_40_code, 2, (some .int)),
  (⟨"CountedTwiceModel", "both", "(III)I"⟩, prog_14_method_41_code, 3, (some .int)),
  (⟨"CountedTwiceModel", "isSo", "(II)Z"⟩, prog_14_method_42_code, 7, (some .boolean)),
  (⟨"CountedTwiceModel", "entry", "(IIIIII)I"⟩, prog_14_method_43_code, 10, (some .int)),
  (⟨"CountedTwiceModel", "voids", "(I)Z"⟩, prog_14_method_44_code, 2, (some .boolean)),
  (⟨"CountedTwiceModel", "view", "(I)Z"⟩, prog_14_method_45_code, 2, (some .boolean)),
  (⟨"CountedTwiceModel", "isKnown", "(I)Z"⟩, prog_14_method_46_code, 3, (some .boolean)),
  (⟨"CountedTwiceModel", "letters", "(II)I"⟩, prog_14_method_47_code, 7, (some .int)),
  (⟨"CountedTwiceModel", "areAlike", "(III)Z"⟩, prog_14_method_48_code, 5, (some .boolean)),
  (⟨"CountedTwiceModel", "alike", "(III)I"⟩, prog_14_method_49_code, 4, (some .int)),
  (⟨"CountedTwiceModel", "isHome", "(III)Z"⟩, prog_14_method_50_code, 5, (some .boolean)),
  (⟨"CountedTwiceModel", "home", "(III)I"⟩, prog_14_method_51_code, 4, (some .int)),
  (⟨"CountedTwiceModel", "laysPersons", "()V"⟩, prog_14_method_52_code, 5, none),
  (⟨"CountedTwiceModel", "whatIs", "(I)I"⟩, prog_14_method_53_code, 4, (some .int)),
  (⟨"CountedTwiceModel", "housesOf", "(I)I"⟩, prog_14_method_54_code, 6, (some .int)),
  (⟨"CountedTwiceModel", "of", "(II)I"⟩, prog_14_method_55_code, 3, (some .int)),
  (⟨"CountedTwiceModel", "person", "(II)I"⟩, prog_14_method_56_code, 5, (some .int)),
  (⟨"CountedTwiceModel", "table", "(II)I"⟩, prog_14_method_57_code, 4, (some .int)),
  (⟨"CountedTwiceModel", "laysCouples", "()V"⟩, prog_14_method_58_code, 3, none),
  (⟨"CountedTwiceModel", "findsMate", "(I)Z"⟩, prog_14_method_59_code, 3, (some .boolean)),
  (⟨"CountedTwiceModel", "ends", "(I)I"⟩, prog_14_method_60_code, 5, (some .int)),
  (⟨"CountedTwiceModel", "laysChoose", "()V"⟩, prog_14_method_61_code, 3, none),
  (⟨"CountedTwiceModel", "of0", "(II)J"⟩, prog_14_method_62_code, 3, (some .long)),
  (⟨"CountedTwiceModel", "luck", "(IIII)J"⟩, prog_14_method_63_code, 8, (some .long)),
  (⟨"CountedTwiceModel", "isAhead", "(II)Z"⟩, prog_14_method_64_code, 3, (some .boolean)),
  (⟨"CountedTwiceModel", "laysBook", "(II)I"⟩, prog_14_method_65_code, 6, (some .int)),
  (⟨"CountedTwiceModel", "ghosts", "(I)I"⟩, prog_14_method_66_code, 5, (some .int)),
  (⟨"CountedTwiceModel", "quick", "(II)I"⟩, prog_14_method_67_code, 8, (some .int)),
  (⟨"CountedTwiceModel", "evenness", "(I)I"⟩, prog_14_method_68_code, 4, (some .int)),
  (⟨"CountedTwiceModel", "isCounter", "(I)Z"⟩, prog_14_method_69_code, 1, (some .boolean)),
  (⟨"CountedTwiceModel", "counter", "(II)I"⟩, prog_14_method_70_code, 3, (some .int))]
def mtab_5 : List Mth := [(⟨"CountedTwiceModel", "aDigit", "(I)V"⟩, prog_14_method_71_code, 5, none),
  (⟨"CountedTwiceModel", "even", "(I)J"⟩, prog_14_method_72_code, 7, (some .long)),
  (⟨"CountedTwiceModel", "suspect", "()I"⟩, prog_14_method_73_code, 5, (some .int)),
  (⟨"CountedTwiceModel", "step", "(III)I"⟩, prog_14_method_74_code, 4, (some .int)),
  (⟨"CountedTwiceModel", "isRight", "(II)Z"⟩, prog_14_method_75_code, 5, (some .boolean)),
  (⟨"CountedTwiceModel", "round", "(II)I"⟩, prog_14_method_76_code, 8, (some .int)),
  (⟨"CountedTwiceModel", "missed", "(I)I"⟩, prog_14_method_77_code, 4, (some .int)),
  (⟨"CountedTwiceModel", "last", "(III)Z"⟩, prog_14_method_78_code, 5, (some .boolean)),
  (⟨"CountedTwiceModel", "closed", "(IIZ)Z"⟩, prog_14_method_79_code, 4, (some .boolean)),
  (⟨"CountedTwiceModel", "plan", "(III)Z"⟩, prog_14_method_80_code, 4, (some .boolean)),
  (⟨"CountedTwiceModel", "laysSlots", "()I"⟩, prog_14_method_81_code, 4, (some .int)),
  (⟨"CountedTwiceModel", "isOpen", "(II)Z"⟩, prog_14_method_82_code, 3, (some .boolean)),
  (⟨"CountedTwiceModel", "planned", "()I"⟩, prog_14_method_83_code, 6, (some .int)),
  (⟨"CountedTwiceModel", "aWalk", "(II)V"⟩, prog_14_method_84_code, 8, none),
  (⟨"CountedTwiceModel", "best", "()I"⟩, prog_14_method_85_code, 6, (some .int)),
  (⟨"CountedTwiceModel", "lots", "(I)J"⟩, prog_14_method_86_code, 9, (some .long)),
  (⟨"CountedTwiceModel", "image", "(Z)Z"⟩, prog_14_method_87_code, 3, (some .boolean)),
  (⟨"CountedTwiceModel", "known", "()I"⟩, prog_14_method_88_code, 3, (some .int)),
  (⟨"CountedTwiceModel", "look", "(I)I"⟩, prog_14_method_89_code, 2, (some .int)),
  (⟨"CountedTwiceLaw", "law", "([I)Z"⟩, code, 4, (some .boolean))]
def mtab : List Mth := mtab_0 ++ (mtab_1 ++ (mtab_2 ++ (mtab_3 ++ (mtab_4 ++ (mtab_5)))))
def mM (i : Nat) : Mth := mtab.getD i (⟨"", "", ""⟩, ⟨#[]⟩, 0, none)
def yM (i : Nat) : MethodName := (mM i).1
def bM (i : Nat) : ByteArray := (mM i).2.1
def lM (i : Nat) : Nat := (mM i).2.2.1
def rM (i : Nat) : Option FieldType := (mM i).2.2.2
def wM (i : Nat) : Cond := Cond.code (yM i) (bM i) (lM i) (rM i)
/-- what a method returns: 0 nothing, 1 int, 2 long, 3 reference, 4 boolean, 5 char, 6 byte -/
def rtT : List Nat := [0, 0, 1, 1, 1, 6, 5, 4, 5, 0, 1, 1, 1, 1, 4, 1, 1, 1, 1, 1, 1, 0, 0, 0, 1, 0, 4, 4, 1, 1, 1, 1, 0, 4, 1, 1, 1, 1, 1, 4, 1, 1, 1, 2, 0, 1, 0, 0, 4, 4, 4, 4, 0, 4, 0, 1, 0, 0, 4, 0, 1, 1, 0, 0, 1, 1, 1, 1, 0, 0, 0, 0, 0, 0, 1, 1, 0, 0, 0, 0, 0, 0, 0, 0, 1, 1, 1, 1, 1, 4, 1, 1, 1, 1, 0, 4, 0, 0, 0, 1, 1, 4, 1, 0, 1, 1, 0, 0, 0, 1, 1, 0, 0, 0, 1, 1, 1, 1, 0, 0, 1, 1, 1, 1, 0, 1, 1, 2, 0, 0, 3, 1, 4, 2, 1, 0, 0, 1, 1, 4, 4, 1, 1, 0, 4, 1, 1, 1, 4, 4, 4, 1, 1, 1, 1, 1, 1, 2, 1, 2, 1, 1, 1, 4, 4, 4, 1, 1, 2, 4, 1, 1, 4, 4, 4, 4, 4, 0, 2, 2, 0, 4, 1, 1, 1, 4, 4, 4, 1, 1, 1, 1, 4, 4, 1, 1, 1, 1, 4, 1, 4, 4, 4, 1, 1, 1, 0, 4, 4, 0, 4, 4, 4, 4, 4, 4, 4, 4, 1, 1, 1, 4, 1, 4, 4, 4, 1, 4, 1, 4, 1, 0, 1, 1, 1, 1, 1, 0, 4, 1, 0, 2, 2, 4, 1, 1, 1, 1, 4, 1, 0, 2, 1, 1, 4, 1, 1, 4, 4, 4, 1, 4, 1, 0, 1, 2, 4, 1, 1, 4]
def rt (i : Nat) : Nat := rtT.getD i 0
/-- own class -/
def ocT : List Nat := [13, 13, 14, 14, 15, 15, 15, 15, 16, 15, 17, 15, 15, 16, 16, 14, 16, 18, 14, 18, 19, 0, 0, 0, 0, 0, 0, 0, 0, 0, 0, 0, 1, 1, 1, 1, 1, 1, 1, 1, 1, 1, 1, 1, 1, 1, 2, 2, 2, 2, 2, 2, 2, 2, 2, 2, 3, 3, 3, 3, 3, 3, 4, 4, 4, 4, 4, 4, 4, 4, 4, 4, 4, 4, 4, 4, 4, 4, 4, 5, 5, 5, 5, 5, 5, 5, 5, 5, 5, 5, 5, 5, 5, 5, 5, 5, 5, 6, 6, 6, 6, 6, 6, 7, 7, 7, 7, 7, 7, 7, 7, 8, 8, 8, 8, 8, 8, 8, 9, 9, 9, 9, 9, 9, 9, 9, 9, 9, 10, 10, 10, 10, 10, 10, 10, 10, 11, 11, 11, 11, 11, 11, 11, 11, 11, 11, 11, 11, 11, 11, 11, 11, 11, 11, 11, 11, 11, 11, 11, 11, 11, 11, 11, 11, 11, 11, 11, 11, 11, 11, 11, 11, 11, 11, 11, 11, 11, 11, 11, 11, 12, 12, 12, 12, 12, 12, 12, 12, 12, 12, 12, 12, 12, 12, 12, 12, 12, 12, 12, 12, 12, 12, 12, 12, 12, 12, 12, 12, 12, 12, 12, 12, 12, 12, 12, 12, 12, 12, 12, 12, 12, 12, 12, 12, 12, 12, 12, 12, 12, 12, 12, 12, 12, 12, 12, 12, 12, 12, 12, 12, 12, 12, 12, 12, 12, 12, 12, 12, 12, 12, 12, 12, 12, 12, 12, 12, 12, 12, 12, 12, 12, 12, 12, 12, 12, 12, 12, 12, 12, 20]
def oc (i : Nat) : Nat := ocT.getD i 0
/-- kind: 0 static, 1 of an object, 2 a constructor -/
def mkT : List Nat := [0, 0, 0, 0, 1, 1, 1, 1, 0, 0, 0, 1, 1, 0, 0, 0, 0, 0, 0, 0, 0, 2, 1, 1, 1, 1, 1, 1, 1, 1, 1, 1, 2, 1, 1, 1, 1, 1, 1, 1, 1, 1, 1, 1, 1, 1, 2, 1, 1, 1, 1, 1, 1, 1, 1, 1, 2, 1, 1, 1, 1, 1, 2, 1, 0, 0, 0, 0, 1, 1, 1, 1, 1, 1, 1, 1, 1, 1, 1, 2, 1, 1, 1, 1, 1, 1, 1, 1, 1, 1, 1, 1, 1, 1, 1, 1, 1, 2, 1, 1, 1, 1, 1, 2, 1, 1, 1, 1, 1, 1, 1, 2, 1, 1, 1, 0, 1, 0, 2, 1, 1, 1, 1, 1, 1, 1, 1, 1, 2, 1, 1, 1, 1, 1, 1, 1, 2, 1, 1, 1, 1, 1, 1, 1, 1, 1, 1, 1, 1, 1, 1, 1, 1, 1, 1, 1, 1, 1, 1, 1, 1, 1, 1, 1, 1, 1, 1, 1, 1, 1, 1, 1, 0, 0, 0, 0, 0, 0, 0, 0, 2, 0, 0, 1, 1, 1, 0, 1, 1, 1, 1, 1, 1, 1, 1, 1, 1, 1, 1, 1, 0, 0, 1, 1, 1, 1, 1, 1, 1, 1, 1, 1, 1, 1, 1, 1, 1, 1, 1, 1, 0, 1, 1, 1, 1, 1, 1, 1, 1, 1, 1, 1, 1, 1, 1, 1, 1, 1, 1, 1, 1, 1, 1, 1, 1, 1, 1, 1, 0, 1, 1, 1, 1, 1, 1, 1, 1, 1, 1, 1, 1, 1, 1, 1, 1, 1, 1, 1, 1, 0]
def mk (i : Nat) : Nat := mkT.getD i 3
/-- how many arguments, the object not counted -/
def agT : List Nat := [2, 2, 1, 2, 0, 0, 1, 0, 2, 2, 3, 1, 2, 4, 1, 2, 4, 1, 2, 1, 1, 0, 1, 2, 6, 1, 1, 1, 0, 2, 1, 2, 1, 3, 2, 1, 2, 1, 3, 2, 1, 0, 1, 1, 2, 0, 0, 1, 2, 2, 1, 1, 3, 2, 3, 1, 1, 0, 3, 2, 2, 2, 0, 3, 3, 4, 4, 3, 0, 1, 1, 0, 0, 0, 0, 0, 1, 1, 1, 2, 0, 0, 1, 2, 1, 1, 1, 1, 1, 2, 2, 1, 1, 0, 0, 1, 1, 0, 1, 3, 2, 2, 2, 0, 2, 1, 1, 3, 4, 2, 0, 0, 1, 1, 1, 2, 2, 3, 0, 1, 3, 1, 1, 1, 3, 2, 2, 1, 0, 1, 1, 1, 3, 0, 1, 1, 0, 1, 3, 3, 2, 3, 5, 1, 1, 1, 1, 6, 1, 1, 1, 2, 3, 3, 2, 2, 1, 4, 2, 1, 0, 3, 2, 3, 3, 3, 0, 0, 1, 1, 1, 1, 2, 1, 1, 1, 2, 2, 2, 2, 0, 3, 2, 1, 1, 1, 1, 1, 2, 1, 1, 3, 3, 2, 2, 2, 3, 5, 1, 1, 1, 1, 1, 0, 0, 0, 0, 1, 1, 2, 0, 0, 0, 0, 0, 0, 0, 0, 1, 1, 3, 2, 6, 1, 1, 1, 2, 3, 3, 3, 3, 0, 1, 1, 2, 2, 2, 0, 1, 1, 0, 2, 4, 2, 2, 1, 2, 1, 1, 2, 1, 1, 0, 3, 2, 2, 1, 3, 3, 3, 0, 2, 0, 2, 0, 1, 1, 0, 1, 1]
def ag (i : Nat) : Nat := agT.getD i 99
/-- how many cells it makes -/
def alT : List Nat := [0, 0, 0, 0, 0, 0, 0, 0, 0, 0, 0, 0, 0, 0, 0, 0, 0, 0, 0, 0, 0, 5, 0, 0, 0, 0, 0, 0, 0, 0, 0, 0, 2, 0, 0, 0, 0, 0, 0, 0, 0, 0, 0, 0, 0, 0, 4, 0, 0, 0, 0, 0, 0, 0, 0, 0, 4, 0, 0, 0, 0, 0, 4, 0, 0, 0, 0, 0, 0, 0, 0, 0, 0, 0, 0, 0, 0, 0, 0, 9, 0, 0, 0, 0, 0, 0, 0, 0, 0, 0, 0, 0, 0, 0, 0, 0, 0, 2, 0, 0, 0, 0, 0, 4, 0, 0, 0, 0, 0, 0, 0, 2, 0, 0, 0, 0, 0, 0, 4, 0, 0, 0, 0, 0, 0, 0, 0, 0, 29, 0, 0, 0, 0, 0, 0, 0, 90, 0, 0, 0, 0, 0, 0, 0, 0, 0, 0, 0, 0, 0, 0, 0, 0, 0, 0, 0, 0, 0, 0, 0, 0, 0, 0, 0, 0, 0, 0, 0, 0, 0, 0, 0, 0, 0, 0, 0, 0, 0, 0, 0, 27, 0, 0, 0, 0, 0, 0, 0, 0, 0, 0, 0, 0, 0, 0, 0, 0, 0, 0, 0, 0, 0, 0, 0, 0, 0, 0, 0, 0, 0, 0, 0, 0, 0, 0, 0, 0, 0, 0, 0, 0, 0, 0, 0, 0, 0, 0, 0, 0, 0, 0, 0, 0, 0, 0, 0, 0, 0, 0, 0, 0, 0, 0, 0, 0, 0, 0, 0, 0, 0, 0, 0, 0, 0, 0, 0, 0, 0, 0, 0, 0, 0, 0, 0, 0, 0, 0, 0, 0, 0]
def al (i : Nat) : Nat := alT.getD i 0
def NM : Nat := 270
set_option maxRecDepth 1000000 in
set_option maxHeartbeats 0 in
theorem wM_in : ∀ i, i < 269 → wM i ∈ lw_good := by
  have h : ∀ w ∈ (List.range 269).map wM, w ∈ lw_good := mem_g [131, 533, 552, 582, 607, 611, 617, 621, 624, 627, 632, 656, 660, 664, 667, 670, 674, 938, 1045, 1195, 1198, 163, 1244, 780, 785, 798, 793, 818, 1267, 810, 814, 860, 429, 1009, 1005, 1015, 1020, 1028, 1024, 1032, 1041, 1049, 1037, 1057, 1062, 1071, 239, 1258, 1110, 1115, 1119, 1123, 1131, 1168, 1139, 1164, 356, 530, 837, 850, 865, 855, 314, 577, 585, 600, 603, 597, 713, 729, 733, 741, 745, 749, 717, 753, 725, 721, 737, 379, 537, 822, 828, 832, 885, 923, 927, 931, 935, 954, 949, 960, 965, 974, 978, 984, 989, 222, 1253, 1081, 1090, 1095, 1100, 445, 1177, 1181, 1186, 1192, 1203, 1207, 1212, 201, 1249, 761, 870, 881, 874, 878, 127, 1239, 517, 906, 910, 914, 525, 549, 556, 1158, 121, 1235, 757, 1222, 902, 1151, 1276, 1147, 113, 506, 510, 521, 541, 545, 561, 565, 569, 573, 768, 772, 776, 789, 802, 806, 891, 898, 919, 945, 970, 993, 1001, 1053, 1067, 1077, 1086, 1106, 1127, 1135, 1143, 1173, 1216, 1231, 1263, 1272, 513, 591, 588, 594, 843, 846, 1227, 997, 1281, 1427, 1458, 1417, 1768, 1443, 1424, 1585, 1589, 1451, 1455, 1421, 1431, 1435, 1447, 1462, 1439, 1466, 1470, 1482, 1485, 1525, 1494, 1503, 1515, 1489, 1478, 1533, 1537, 1557, 1553, 1561, 1565, 1569, 1541, 1545, 1549, 1529, 1474, 1573, 1612, 1609, 1577, 1581, 1593, 1628, 1601, 1605, 1597, 1620, 1616, 1632, 1640, 1644, 1624, 1636, 1648, 1656, 1660, 1652, 1669, 1673, 1664, 1688, 1684, 1692, 1696, 1700, 1680, 1677, 1708, 1704, 1712, 1716, 1724, 1720, 1748, 1728, 1732, 1736, 1744, 1752, 1740, 1760, 1756, 1764, 1774, 1782, 1778] (by rfl) (by decide +kernel)
  intro i hi
  exact h _ (List.mem_map.mpr ⟨i, List.mem_range.mpr hi, rfl⟩)
theorem oc_ok : ∀ i, i < NM → (yM i).cls = RC (oc i) := by decide +kernel
theorem pl_ok : ∀ i, i < NM → plainFor (yM i) = true := by decide +kernel
theorem mh_ok : ∀ i, i < NM → (yM i).cls ≠ "java/lang/invoke/MethodHandle" ∧ (yM i).cls ≠ "java/lang/invoke/VarHandle" := by decide +kernel
theorem ag_ok : ∀ i, i < NM → (parseMethodDescriptor (yM i).desc).map (fun d => d.parameters.length) = some (ag i) := by decide +kernel
theorem rt_ok : ∀ i, i < NM → (rt i = 0 → rM i = none) ∧ (rt i = 1 → rM i = some .int) ∧ (rt i = 2 → rM i = some .long) ∧ (rt i = 4 → rM i = some .boolean) ∧ (rt i = 5 → rM i = some .char) ∧ (rt i = 6 → rM i = some .byte) := by decide +kernel
theorem rt_okR : ∀ i, i < NM → rt i = 3 → rM i = some (.object "CountedTwice$Text") := by decide +kernel
theorem lM_ok : ∀ i, i < NM → lM i ≤ 45 := by decide +kernel
def v_inst_l : List Nat := [4, 5, 6, 7, 11, 12, 22, 23, 24, 25, 26, 27, 28, 29, 30, 31, 33, 34, 35, 36, 37, 38, 39, 40, 41, 42, 43, 44, 45, 47, 48, 49, 50, 51, 52, 53, 54, 55, 57, 58, 59, 60, 61, 63, 68, 69, 70, 71, 72, 73, 74, 75, 76, 77, 78, 80, 81, 82, 83, 84, 85, 86, 87, 88, 89, 90, 91, 92, 93, 94, 95, 96, 98, 99, 100, 101, 102, 104, 105, 106, 107, 108, 109, 110, 112, 113, 114, 116, 119, 120, 121, 122, 123, 124, 125, 126, 127, 129, 130, 131, 132, 133, 134, 135, 137, 138, 139, 140, 141, 142, 143, 144, 145, 146, 147, 148, 149, 150, 151, 152, 153, 154, 155, 156, 157, 158, 159, 160, 161, 162, 163, 164, 165, 166, 167, 168, 169, 170, 171, 183, 184, 185, 187, 188, 189, 190, 191, 192, 193, 194, 195, 196, 197, 198, 199, 202, 203, 204, 205, 206, 207, 208, 209, 210, 211, 212, 213, 214, 215, 216, 217, 218, 219, 221, 222, 223, 224, 225, 226, 227, 228, 229, 230, 231, 232, 233, 234, 235, 236, 237, 238, 239, 240, 241, 242, 243, 244, 245, 246, 247, 249, 250, 251, 252, 253, 254, 255, 256, 257, 258, 259, 260, 261, 262, 263, 264, 265, 266, 267, 268]
theorem v_inst : ∀ i ∈ v_inst_l, Cond.instanceMethod (yM i) ∈ lw_good := by
  have h : ∀ w ∈ v_inst_l.map (fun i => Cond.instanceMethod (yM i)), w ∈ lw_good := mem_g [605, 609, 615, 619, 654, 658, 1242, 778, 783, 796, 791, 816, 1265, 808, 812, 858, 1008, 1003, 1013, 1018, 1027, 1023, 1031, 1040, 1048, 1035, 1055, 1061, 1069, 1256, 1108, 1113, 1117, 1121, 1129, 1166, 1137, 1162, 528, 835, 849, 863, 853, 575, 711, 728, 732, 740, 744, 748, 716, 752, 724, 720, 736, 535, 820, 827, 831, 883, 921, 925, 929, 933, 953, 947, 958, 963, 972, 977, 983, 988, 1251, 1079, 1088, 1094, 1098, 1175, 1180, 1185, 1191, 1202, 1206, 1211, 1247, 759, 868, 873, 1237, 515, 904, 908, 912, 523, 547, 554, 1156, 1233, 755, 1220, 900, 1149, 1274, 1145, 504, 508, 519, 539, 543, 559, 564, 567, 571, 766, 770, 775, 787, 800, 804, 889, 896, 917, 943, 968, 991, 999, 1051, 1065, 1075, 1084, 1104, 1125, 1133, 1141, 1171, 1214, 1229, 1261, 1271, 1415, 1767, 1442, 1584, 1588, 1450, 1454, 1419, 1429, 1433, 1446, 1461, 1437, 1464, 1468, 1481, 1493, 1502, 1514, 1488, 1477, 1532, 1536, 1556, 1552, 1560, 1564, 1568, 1540, 1544, 1548, 1528, 1472, 1571, 1608, 1575, 1579, 1591, 1627, 1600, 1604, 1595, 1619, 1614, 1631, 1639, 1643, 1622, 1634, 1646, 1655, 1659, 1650, 1668, 1672, 1662, 1687, 1683, 1691, 1695, 1699, 1675, 1707, 1702, 1710, 1714, 1723, 1718, 1747, 1726, 1730, 1734, 1743, 1751, 1738, 1759, 1754, 1762, 1772, 1781, 1776] (by decide +kernel) (by decide +kernel)
  intro i hi
  exact h _ (List.mem_map.mpr ⟨i, hi, rfl⟩)
def v_sel_l : List Nat := [4, 5, 6, 7, 11, 12, 22, 23, 24, 25, 26, 27, 28, 29, 30, 31, 33, 34, 35, 36, 37, 38, 39, 40, 41, 42, 43, 44, 45, 47, 48, 49, 50, 51, 52, 53, 54, 55, 57, 58, 59, 60, 61, 63, 68, 69, 70, 71, 72, 73, 74, 75, 76, 77, 78, 80, 81, 82, 83, 84, 85, 86, 87, 88, 89, 90, 91, 92, 93, 94, 95, 96, 98, 99, 100, 101, 102, 104, 105, 106, 107, 108, 109, 110, 112, 113, 114, 116, 119, 120, 121, 122, 123, 124, 125, 126, 127, 129, 130, 131, 132, 133, 134, 135, 137, 138, 139, 140, 141, 142, 143, 144, 145, 146, 147, 148, 149, 150, 151, 152, 153, 154, 155, 156, 157, 158, 159, 160, 161, 162, 163, 164, 165, 166, 167, 168, 169, 170, 171, 183, 184, 185, 187, 188, 189, 190, 191, 192, 193, 194, 195, 196, 197, 198, 199, 202, 203, 204, 205, 206, 207, 208, 209, 210, 211, 212, 213, 214, 215, 216, 217, 218, 219, 221, 222, 223, 224, 225, 226, 227, 228, 229, 230, 231, 232, 233, 234, 235, 236, 237, 238, 239, 240, 241, 242, 243, 244, 245, 246, 247, 249, 250, 251, 252, 253, 254, 255, 256, 257, 258, 259, 260, 261, 262, 263, 264, 265, 266, 267, 268]
theorem v_sel : ∀ i ∈ v_sel_l, Cond.selects (yM i).cls (yM i) (yM i) ∈ lw_good := by
  have h : ∀ w ∈ v_sel_l.map (fun i => Cond.selects (yM i).cls (yM i) (yM i)), w ∈ lw_good := mem_g [606, 610, 616, 620, 655, 659, 1243, 779, 784, 797, 792, 817, 1266, 809, 813, 859, 20, 1004, 1014, 1019, 22, 21, 23, 24, 25, 1036, 1056, 26, 1070, 1257, 1109, 1114, 1118, 1122, 1130, 1167, 1138, 1163, 529, 836, 14, 864, 854, 576, 712, 4, 5, 7, 8, 9, 1, 10, 3, 2, 6, 536, 821, 12, 13, 884, 922, 926, 930, 934, 16, 948, 959, 964, 973, 17, 18, 19, 1252, 1080, 1089, 27, 1099, 1176, 28, 29, 30, 31, 32, 33, 1248, 760, 869, 15, 1238, 516, 905, 909, 913, 524, 548, 555, 1157, 1234, 756, 1221, 901, 1150, 1275, 1146, 505, 509, 520, 540, 544, 560, 0, 568, 572, 767, 771, 11, 788, 801, 805, 890, 897, 918, 944, 969, 992, 1000, 1052, 1066, 1076, 1085, 1105, 1126, 1134, 1142, 1172, 1215, 1230, 1262, 34, 1416, 82, 35, 57, 58, 37, 38, 1420, 1430, 1434, 36, 39, 1438, 1465, 1469, 41, 43, 44, 45, 42, 40, 47, 48, 53, 52, 54, 55, 56, 49, 50, 51, 46, 1473, 1572, 61, 1576, 1580, 1592, 63, 59, 60, 1596, 62, 1615, 64, 65, 66, 1623, 1635, 1647, 67, 68, 1651, 69, 70, 1663, 72, 71, 73, 74, 75, 1676, 76, 1703, 1711, 1715, 77, 1719, 79, 1727, 1731, 1735, 78, 80, 1739, 81, 1755, 1763, 1773, 83, 1777] (by decide +kernel) (by decide +kernel)
  intro i hi
  exact h _ (List.mem_map.mpr ⟨i, hi, rfl⟩)
def c_inst_l : List Nat := [21, 32, 46, 56, 62, 79, 97, 103, 111, 118, 128, 136, 180]
theorem c_inst : ∀ i ∈ c_inst_l, Cond.instanceMethod (yM i) ∈ lw_good := by
  have h : ∀ w ∈ c_inst_l.map (fun i => Cond.instanceMethod (yM i)), w ∈ lw_good := mem_g [162, 428, 238, 355, 313, 378, 221, 444, 200, 126, 120, 112, 1280] (by decide +kernel) (by decide +kernel)
  intro i hi
  exact h _ (List.mem_map.mpr ⟨i, hi, rfl⟩)
def s_stat_l : List Nat := [0, 1, 2, 3, 8, 9, 10, 13, 14, 15, 16, 17, 18, 19, 20, 64, 65, 66, 67, 115, 117, 172, 173, 174, 175, 176, 177, 178, 179, 181, 182, 186, 200, 201, 220, 248]
theorem s_stat : ∀ i ∈ s_stat_l, Cond.static (yM i) ∈ lw_good := by
  have h : ∀ w ∈ s_stat_l.map (fun i => Cond.static (yM i)), w ∈ lw_good := mem_g [130, 532, 551, 581, 623, 626, 631, 663, 666, 669, 673, 937, 1044, 1194, 1197, 584, 599, 602, 596, 880, 877, 512, 590, 587, 593, 842, 845, 1226, 996, 1426, 1457, 1423, 1484, 1524, 1611, 1679] (by decide +kernel) (by decide +kernel)
  intro i hi
  exact h _ (List.mem_map.mpr ⟨i, hi, rfl⟩)
def a_init_l : List Nat := [0, 1, 2, 3, 4, 5, 6, 7, 8, 9, 10, 11, 12, 13, 14, 15, 16, 17, 18, 19, 20]
theorem a_init : ∀ i ∈ a_init_l, Cond.initialized (RC i) ∈ lw_good := by
  have h : ∀ w ∈ a_init_l.map (fun i => Cond.initialized (RC i)), w ∈ lw_good := mem_g [89, 96, 92, 94, 93, 95, 91, 97, 90, 87, 86, 85, 98, 88, 99, 100, 101, 102, 107, 108, 84] (by decide +kernel) (by decide +kernel)
  intro i hi
  exact h _ (List.mem_map.mpr ⟨i, hi, rfl⟩)
theorem v_all : ∀ i, i < NM → mk i = 1 → i ∈ v_inst_l := by decide +kernel
theorem v_all2 : ∀ i, i < NM → mk i = 1 → i ∈ v_sel_l := by decide +kernel
theorem c_all : ∀ i, i < NM → mk i = 2 → i ∈ c_inst_l ∧ (yM i).name = "<init>" ∧ rM i = none := by decide +kernel
theorem s_all : ∀ i, i < NM - 1 → mk i = 0 → i ∈ s_stat_l := by decide +kernel
theorem oc_lt : ∀ i, i < NM → oc i ∈ a_init_l := by decide +kernel
abbrev L4 : Type := Nat × Nat × Nat × Nat
abbrev L3 : Type := Nat × Nat × Nat
def fT (a k : Nat) : String × String × String × Bool := (vwCl.getD a ("", fun _ => ("", "", "", false), 0)).2.1 k
def flC (q : L4) : Cond := Cond.fieldLink (RC q.1) q.2.1 (fT q.2.2.1 q.2.2.2).1 (fT q.2.2.1 q.2.2.2).2.1 (fT q.2.2.1 q.2.2.2).2.2.1
def mlC (q : L3) : Cond := Cond.methodLink (RC q.1) q.2.1 (yM q.2.2)
def nlC (q : L3) : Cond := Cond.methodLinkNest (RC q.1) q.2.1 (yM q.2.2) "CountedTwice"
def flT : List L4 := [(0, 9, 0, 0), (0, 15, 0, 1), (0, 18, 0, 2), (0, 21, 0, 3), (0, 25, 0, 4), (0, 28, 0, 5), (0, 31, 0, 6), (0, 34, 0, 7), (1, 11, 1, 0), (1, 15, 1, 1), (1, 19, 1, 2), (1, 23, 10, 2), (1, 39, 0, 0), (1, 62, 10, 1), (2, 9, 2, 0), (2, 15, 2, 1), (2, 18, 2, 2), (2, 22, 2, 3), (2, 25, 2, 4), (2, 29, 2, 5), (3, 11, 3, 0), (3, 17, 3, 1), (3, 21, 3, 2), (3, 24, 3, 3), (3, 28, 3, 4), (3, 43, 8, 0), (3, 72, 10, 2), (3, 94, 10, 1), (4, 9, 4, 0), (4, 15, 4, 1), (4, 18, 4, 2), (4, 21, 4, 3), (4, 24, 4, 4), (4, 28, 4, 5), (4, 31, 4, 6), (4, 34, 4, 7), (4, 37, 4, 8), (4, 40, 4, 9), (5, 9, 5, 0), (5, 15, 5, 1), (5, 19, 5, 2), (5, 23, 5, 3), (5, 27, 5, 4), (5, 31, 5, 5), (5, 34, 5, 6), (5, 37, 5, 7), (5, 40, 5, 8), (5, 44, 5, 9), (5, 47, 5, 10), (5, 50, 5, 11), (5, 53, 5, 12), (5, 56, 5, 13), (5, 65, 10, 2), (5, 71, 0, 0), (5, 108, 10, 1), (6, 9, 6, 0), (6, 15, 6, 1), (6, 19, 6, 2), (6, 38, 10, 1), (7, 11, 7, 0), (7, 15, 7, 1), (7, 18, 7, 2), (7, 22, 7, 3), (7, 25, 7, 4), (7, 33, 2, 0), (7, 38, 2, 1), (7, 45, 2, 3), (8, 9, 8, 0), (8, 15, 8, 1), (8, 19, 8, 2), (8, 22, 8, 3), (8, 31, 4, 2), (8, 34, 4, 3), (8, 35, 4, 4), (9, 9, 9, 0), (9, 15, 9, 1), (9, 18, 9, 2), (9, 21, 9, 3), (9, 25, 9, 4), (9, 28, 9, 5), (9, 31, 9, 6), (10, 9, 10, 0), (10, 18, 10, 1), (10, 25, 10, 2), (10, 32, 10, 3), (10, 36, 10, 4), (10, 39, 10, 5), (10, 45, 10, 6), (10, 52, 10, 7), (10, 56, 10, 8), (10, 92, 0, 0), (10, 103, 9, 0), (10, 122, 2, 2), (11, 10, 11, 0), (11, 16, 11, 1), (11, 19, 11, 2), (11, 23, 11, 3), (11, 27, 11, 4), (11, 31, 11, 5), (11, 34, 11, 6), (11, 40, 11, 7), (11, 49, 11, 8), (11, 58, 11, 9), (11, 65, 11, 10), (11, 72, 11, 11), (11, 76, 11, 12), (11, 80, 10, 0), (11, 87, 10, 1), (11, 105, 9, 1), (11, 108, 9, 2), (11, 111, 9, 0), (11, 132, 4, 0), (11, 135, 4, 1), (11, 146, 8, 0), (11, 153, 10, 2), (11, 157, 0, 0), (11, 179, 0, 1), (11, 182, 0, 2), (11, 238, 5, 0), (11, 269, 10, 6), (11, 273, 6, 0), (11, 288, 10, 7), (11, 348, 2, 0), (11, 351, 2, 1), (11, 360, 2, 2), (11, 363, 2, 3), (12, 7, 12, 0), (12, 13, 12, 1), (12, 16, 12, 3), (12, 19, 12, 4), (12, 22, 12, 5), (12, 25, 12, 6), (12, 28, 12, 7), (12, 31, 12, 20), (12, 35, 12, 21), (12, 38, 12, 22), (12, 41, 12, 23), (12, 44, 12, 24), (12, 47, 12, 25), (12, 50, 12, 27), (12, 53, 12, 28), (12, 56, 12, 29), (12, 59, 12, 30), (12, 63, 12, 31), (12, 66, 12, 32), (12, 70, 12, 33), (12, 73, 12, 34), (12, 76, 12, 36), (12, 79, 12, 37), (12, 82, 12, 38), (12, 85, 12, 39), (12, 89, 12, 40), (12, 92, 12, 41), (12, 95, 12, 42), (12, 128, 12, 11), (12, 131, 12, 12), (12, 134, 12, 14), (12, 187, 12, 8), (12, 199, 12, 13), (12, 211, 12, 15), (12, 214, 12, 16), (12, 217, 12, 17), (12, 226, 12, 10), (12, 229, 12, 19), (12, 261, 12, 9), (12, 264, 12, 18), (12, 292, 12, 26), (12, 328, 12, 35), (12, 365, 12, 2)]
def mlT : List L3 := [(15, 335, 5), (15, 492, 7), (15, 495, 8), (16, 9, 9), (15, 1059, 10), (15, 633, 12), (15, 505, 4), (15, 637, 13), (16, 88, 14), (16, 92, 15), (16, 38, 3), (16, 95, 16), (18, 311, 20), (0, 44, 3), (0, 54, 27), (1, 31, 29), (1, 35, 27), (1, 43, 33), (1, 47, 132), (1, 50, 38), (1, 54, 39), (1, 58, 37), (1, 66, 126), (1, 71, 0), (1, 77, 18), (1, 82, 40), (1, 85, 41), (1, 89, 1), (1, 92, 44), (1, 100, 35), (1, 103, 36), (2, 32, 0), (2, 48, 53), (2, 51, 3), (3, 31, 1), (3, 37, 130), (3, 47, 15), (3, 53, 3), (3, 64, 59), (3, 68, 114), (3, 78, 29), (3, 81, 61), (3, 84, 31), (3, 87, 2), (3, 91, 60), (3, 98, 125), (3, 103, 30), (4, 47, 3), (4, 53, 64), (4, 57, 67), (4, 60, 65), (4, 71, 66), (4, 76, 11), (4, 82, 4), (4, 85, 6), (4, 89, 74), (4, 92, 77), (4, 96, 76), (4, 99, 69), (4, 104, 78), (4, 107, 70), (4, 110, 71), (4, 113, 72), (4, 116, 73), (4, 119, 75), (5, 59, 0), (5, 76, 27), (5, 80, 82), (5, 84, 83), (5, 88, 58), (5, 94, 29), (5, 102, 17), (5, 112, 86), (5, 116, 121), (5, 121, 87), (5, 124, 89), (5, 127, 90), (5, 130, 88), (5, 133, 94), (5, 136, 95), (5, 139, 1), (5, 150, 96), (6, 32, 132), (6, 42, 101), (6, 46, 126), (6, 52, 100), (6, 56, 17), (7, 29, 105), (7, 48, 107), (7, 52, 110), (7, 56, 3), (7, 62, 106), (7, 70, 19), (7, 76, 108), (7, 80, 109), (7, 83, 53), (8, 36, 116), (8, 40, 115), (8, 48, 117), (9, 34, 0), (9, 50, 2), (9, 56, 125), (10, 17, 118), (10, 24, 21), (10, 31, 111), (10, 44, 97), (10, 51, 46), (10, 60, 119), (10, 64, 22), (10, 67, 112), (10, 70, 98), (10, 73, 47), (10, 78, 121), (10, 82, 122), (10, 85, 123), (10, 88, 114), (10, 95, 27), (10, 99, 29), (10, 108, 133), (10, 112, 127), (10, 116, 17), (10, 125, 3), (11, 9, 128), (11, 39, 62), (11, 46, 56), (11, 55, 79), (11, 64, 32), (11, 71, 103), (11, 83, 172), (11, 91, 120), (11, 97, 124), (11, 101, 57), (11, 104, 80), (11, 114, 125), (11, 118, 126), (11, 121, 143), (11, 125, 63), (11, 129, 68), (11, 136, 130), (11, 140, 113), (11, 149, 148), (11, 162, 23), (11, 166, 24), (11, 170, 173), (11, 173, 26), (11, 176, 25), (11, 185, 29), (11, 188, 30), (11, 192, 27), (11, 195, 81), (11, 198, 84), (11, 201, 31), (11, 204, 58), (11, 208, 61), (11, 211, 60), (11, 214, 132), (11, 217, 85), (11, 220, 86), (11, 223, 87), (11, 226, 88), (11, 229, 90), (11, 232, 91), (11, 235, 92), (11, 241, 93), (11, 247, 179), (11, 251, 34), (11, 253, 35), (11, 256, 36), (11, 259, 42), (11, 262, 43), (11, 266, 45), (11, 278, 99), (11, 281, 100), (11, 285, 102), (11, 292, 48), (11, 297, 49), (11, 300, 50), (11, 303, 51), (11, 306, 52), (11, 310, 54), (11, 313, 135), (11, 317, 55), (11, 321, 104), (11, 325, 133), (11, 329, 17), (11, 335, 131), (11, 338, 178), (11, 342, 129), (11, 345, 28), (11, 354, 171), (11, 357, 134), (12, 100, 181), (12, 104, 186), (12, 108, 189), (12, 112, 190), (12, 115, 182), (12, 119, 194), (12, 122, 185), (12, 125, 195), (12, 137, 4), (12, 143, 6), (12, 149, 202), (12, 190, 203), (12, 193, 204), (12, 196, 199), (12, 202, 200), (12, 205, 205), (12, 208, 201), (12, 220, 207), (12, 223, 206), (12, 232, 212), (12, 236, 209), (12, 240, 213), (12, 243, 215), (12, 246, 216), (12, 249, 210), (12, 252, 214), (12, 255, 208), (12, 258, 211), (12, 267, 217), (12, 270, 220), (12, 274, 187), (12, 277, 188), (12, 280, 226), (12, 282, 221), (12, 286, 227), (12, 289, 229), (12, 295, 225), (12, 298, 231), (12, 301, 232), (12, 304, 233), (12, 307, 238), (12, 310, 237), (12, 315, 240), (12, 318, 241), (12, 322, 243), (12, 325, 244), (12, 331, 248), (12, 334, 245), (12, 337, 246), (12, 340, 247), (12, 343, 250), (12, 347, 254), (12, 350, 256), (12, 353, 260), (12, 356, 261), (12, 359, 263), (12, 362, 184), (12, 369, 267), (20, 9, 136), (20, 12, 180), (20, 13, 137), (20, 17, 183), (20, 18, 138), (20, 22, 191), (20, 23, 139), (20, 27, 192), (20, 28, 140), (20, 32, 193), (20, 33, 141), (20, 36, 196), (20, 37, 142), (20, 41, 197), (20, 42, 144), (20, 46, 198), (20, 47, 145), (20, 50, 218), (20, 51, 146), (20, 54, 219), (20, 55, 147), (20, 59, 222), (20, 60, 149), (20, 63, 223), (20, 64, 150), (20, 67, 224), (20, 68, 151), (20, 72, 234), (20, 73, 152), (20, 76, 228), (20, 77, 153), (20, 80, 230), (20, 81, 154), (20, 84, 235), (20, 85, 155), (20, 88, 236), (20, 89, 156), (20, 92, 239), (20, 93, 157), (20, 97, 242), (20, 98, 158), (20, 101, 249), (20, 102, 159), (20, 106, 251), (20, 107, 160), (20, 111, 252), (20, 112, 161), (20, 115, 253), (20, 116, 162), (20, 119, 255), (20, 120, 163), (20, 123, 257), (20, 124, 164), (20, 128, 258), (20, 129, 165), (20, 132, 259), (20, 133, 166), (20, 136, 262), (20, 137, 167), (20, 140, 264), (20, 141, 168), (20, 144, 265), (20, 145, 169), (20, 149, 266), (20, 150, 170), (20, 153, 268)]
def nlT : List L3 := [(0, 50, 172), (1, 96, 179), (2, 44, 172), (3, 56, 176), (3, 60, 177), (4, 64, 174), (4, 68, 175), (5, 98, 172), (5, 142, 177), (5, 146, 176), (6, 28, 172), (7, 41, 176), (7, 66, 177), (8, 44, 172), (9, 46, 172)]
set_option maxRecDepth 100000 in
theorem fl_ok : ∀ q ∈ flT, flC q ∈ lw_good := by
  have h : ∀ w ∈ flT.map flC, w ∈ lw_good := mem_g [165, 170, 172, 174, 175, 176, 177, 178, 431, 432, 433, 279, 166, 276, 242, 245, 248, 251, 254, 255, 358, 359, 360, 361, 362, 204, 281, 275, 316, 318, 320, 322, 324, 326, 327, 328, 329, 330, 381, 383, 384, 385, 386, 387, 388, 389, 390, 391, 392, 393, 394, 395, 280, 167, 277, 224, 226, 227, 274, 447, 448, 449, 450, 451, 243, 246, 252, 203, 206, 207, 208, 321, 323, 325, 132, 135, 137, 139, 140, 141, 142, 270, 272, 278, 283, 284, 285, 286, 288, 290, 168, 134, 249, 463, 464, 465, 466, 467, 468, 469, 470, 471, 472, 473, 474, 475, 271, 273, 136, 138, 133, 317, 319, 205, 282, 169, 171, 173, 382, 287, 225, 289, 244, 247, 250, 253, 1284, 1285, 1287, 1288, 1289, 1290, 1291, 1304, 1305, 1306, 1307, 1308, 1309, 1311, 1312, 1313, 1314, 1315, 1316, 1317, 1318, 1320, 1321, 1322, 1323, 1324, 1325, 1326, 1295, 1296, 1298, 1292, 1297, 1299, 1300, 1301, 1294, 1303, 1293, 1302, 1310, 1319, 1286] (by decide +kernel) (by decide +kernel)
  exact fun q hq => h _ (List.mem_map_of_mem hq)
set_option maxRecDepth 100000 in
theorem ml_ok : ∀ q ∈ mlT, mlC q ∈ lw_good := by
  have h : ∀ w ∈ mlT.map mlC, w ∈ lw_good := mem_g [608, 618, 622, 625, 630, 657, 661, 662, 665, 668, 671, 672, 1196, 781, 1268, 1010, 1011, 1006, 1016, 1021, 1029, 1025, 1033, 1042, 1043, 1038, 1046, 1058, 1059, 1072, 1073, 241, 1165, 1169, 531, 838, 839, 840, 847, 867, 851, 852, 857, 861, 862, 866, 856, 580, 583, 595, 598, 601, 653, 604, 614, 714, 718, 722, 726, 734, 730, 738, 742, 746, 750, 823, 824, 825, 829, 834, 833, 936, 955, 956, 950, 951, 961, 966, 975, 981, 979, 986, 1091, 1092, 1096, 1101, 1102, 1178, 1189, 1209, 1182, 1183, 1193, 1200, 1204, 1208, 871, 879, 876, 129, 550, 557, 125, 161, 199, 220, 237, 1236, 1241, 1246, 1250, 1255, 903, 907, 911, 915, 1152, 1153, 1148, 1155, 1159, 1160, 119, 312, 354, 377, 427, 443, 511, 514, 522, 527, 534, 546, 553, 562, 574, 710, 754, 758, 773, 777, 782, 589, 790, 795, 807, 811, 815, 819, 882, 887, 892, 893, 894, 899, 920, 924, 928, 932, 946, 957, 962, 971, 995, 1002, 1012, 1017, 1034, 1054, 1068, 1078, 1087, 1097, 1107, 1112, 1116, 1120, 1128, 1136, 1144, 1161, 1174, 1217, 1218, 1219, 1225, 1232, 1264, 1269, 1273, 1425, 1422, 1448, 1452, 1456, 1444, 1440, 1459, 1495, 1496, 1491, 1500, 1512, 1479, 1483, 1486, 1523, 1530, 1475, 1562, 1554, 1566, 1542, 1546, 1550, 1538, 1534, 1558, 1526, 1610, 1582, 1586, 1598, 1606, 1602, 1617, 1625, 1629, 1637, 1641, 1657, 1653, 1666, 1670, 1685, 1681, 1678, 1689, 1693, 1697, 1705, 1721, 1745, 1741, 1749, 1757, 1765, 1779, 111, 1279, 503, 1414, 507, 1418, 518, 1428, 538, 1432, 542, 1436, 558, 1463, 566, 1467, 570, 1471, 765, 1570, 769, 1574, 786, 1578, 799, 1590, 803, 1621, 888, 1594, 895, 1613, 916, 1633, 942, 1645, 967, 1649, 990, 1661, 998, 1674, 1050, 1701, 1064, 1709, 1074, 1713, 1083, 1717, 1103, 1725, 1124, 1729, 1132, 1733, 1140, 1737, 1170, 1753, 1213, 1761, 1228, 1771, 1260, 1775] (by decide +kernel) (by decide +kernel)
  exact fun q hq => h _ (List.mem_map_of_mem hq)
set_option maxRecDepth 100000 in
theorem nl_ok : ∀ q ∈ nlT, nlC q ∈ lw_tbl := by
  have h : ∀ w ∈ nlT.map nlC, w ∈ lw_tbl := mem_ps [794, 1063, 1111, 841, 844, 586, 592, 886, 980, 985, 1082, 1188, 1187, 875, 526] (by decide +kernel)
  exact fun q hq => h _ (List.mem_map_of_mem hq)
def kiT : List (Nat × Nat × Int) := [(19, 264, 65536), (10, 76, 1664525), (10, 77, 1013904223), (12, 88, 100000), (12, 98, 1664525), (12, 99, 1013904223)]
def klT : List (Nat × Nat × Int) := [(18, 314, 6148914691236517205), (18, 316, 3689348814741910323), (18, 318, 1085102592571150095), (11, 245, -1), (10, 106, -1), (12, 313, -1)]
def kiC (q : Nat × Nat × Int) : Cond := Cond.constant (RC q.1) q.2.1 (Int32.ofInt q.2.2)
def klC (q : Nat × Nat × Int) : Cond := Cond.constantLong (RC q.1) q.2.1 (Int64.ofInt q.2.2)
set_option maxRecDepth 100000 in
theorem ki_ok : ∀ q ∈ kiT, kiC q ∈ lw_good := by
  have h : ∀ w ∈ kiT.map kiC, w ∈ lw_good := mem_g [1199, 1223, 1224, 1283, 1769, 1770] (by decide +kernel) (by decide +kernel)
  exact fun q hq => h _ (List.mem_map_of_mem hq)
set_option maxRecDepth 100000 in
theorem kl_ok : ∀ q ∈ klT, klC q ∈ lw_good := by
  have h : ∀ w ∈ klT.map klC, w ∈ lw_good := mem_g [939, 940, 941, 994, 1154, 1665] (by decide +kernel) (by decide +kernel)
  exact fun q hq => h _ (List.mem_map_of_mem hq)
def clT : List L3 := [(20, 7, 11), (11, 7, 10), (10, 15, 9), (10, 22, 0), (10, 29, 8), (10, 42, 6), (10, 49, 2), (11, 37, 4), (11, 44, 3), (11, 53, 5), (11, 62, 1), (11, 69, 7), (20, 10, 12)]
def clC (q : L3) : Cond := Cond.classLink (RC q.1) q.2.1 (RC q.2.2)
set_option maxRecDepth 100000 in
theorem cl_ok : ∀ q ∈ clT, clC q ∈ lw_good := by
  have h : ∀ w ∈ clT.map clC, w ∈ lw_good := mem_g [109, 117, 123, 159, 197, 218, 235, 310, 352, 375, 425, 441, 1277] (by decide +kernel) (by decide +kernel)
  exact fun q hq => h _ (List.mem_map_of_mem hq)
def cnT : List Nat := [8, 3, 6, 5, 10, 14, 3, 5, 4, 7, 9, 13, 43]
def cN (c : Nat) : Nat := cnT.getD c 0
def n_inst_l : List Nat := [0, 1, 2, 3, 4, 5, 6, 7, 8, 9, 10, 11, 12]
theorem n_inst : ∀ i ∈ n_inst_l, Cond.instantiable (RC i) (cN i) ∈ lw_good := by
  have h : ∀ w ∈ n_inst_l.map (fun i => Cond.instantiable (RC i) (cN i)), w ∈ lw_good := mem_g [160, 426, 236, 353, 311, 376, 219, 442, 198, 124, 118, 110, 1278] (by decide +kernel) (by decide +kernel)
  intro i hi
  exact h _ (List.mem_map.mpr ⟨i, hi, rfl⟩)
def oiT : List (Nat × Nat) := [(11, 1), (10, 3), (9, 3), (0, 3), (8, 3), (6, 3), (2, 3), (4, 3), (3, 5), (5, 3), (1, 5), (7, 5), (12, 1)]
def oiC (q : Nat × Nat) : Cond := Cond.methodLink (RC q.1) q.2 Lib.objectInit
set_option maxRecDepth 100000 in
theorem oi_ok : ∀ q ∈ oiT, oiC q ∈ lw_good := by
  have h : ∀ w ∈ oiT.map oiC, w ∈ lw_good := mem_g [114, 122, 128, 164, 202, 223, 240, 315, 357, 380, 430, 446, 1282] (by decide +kernel) (by decide +kernel)
  exact fun q hq => h _ (List.mem_map_of_mem hq)
theorem oi_inst : Cond.instanceMethod Lib.objectInit ∈ lw_good := mem_g (ws := [Cond.instanceMethod Lib.objectInit]) [115] (by decide +kernel) (by decide +kernel) _ List.mem_cons_self
theorem oi_code : Cond.code Lib.objectInit ⟨#[0xb1]⟩ 1 none ∈ lw_good := mem_g (ws := [Cond.code Lib.objectInit ⟨#[0xb1]⟩ 1 none]) [116] (by decide +kernel) (by decide +kernel) _ List.mem_cons_self
def acT : List (Nat × Nat) := [(8, 25), (9, 40), (0, 38), (6, 22), (2, 38)]
def acC (q : Nat × Nat) : Cond := Cond.methodLink (RC q.1) q.2 arraycopyName
set_option maxRecDepth 100000 in
theorem ac_ok : ∀ q ∈ acT, acC q ∈ lw_good := by
  have h : ∀ w ∈ acT.map acC, w ∈ lw_good := mem_g [762, 1240, 1245, 1254, 1259] (by decide +kernel) (by decide +kernel)
  exact fun q hq => h _ (List.mem_map_of_mem hq)
theorem ac_rest : ∀ w ∈ [Cond.native arraycopyName, Cond.static arraycopyName, Cond.initialized "java/lang/System"], w ∈ lw_good := mem_g [764, 763, 105] (by decide +kernel) (by decide +kernel)
def sfT : List L3 := [(15, 9, 0), (15, 15, 1)]
def sfC (q : L3) : Cond := Cond.fieldLink (RC q.1) q.2.1 "java/lang/String" (if q.2.2 = 0 then "value" else "coder") (if q.2.2 = 0 then "[B" else "B")
set_option maxRecDepth 100000 in
theorem sf_ok : ∀ q ∈ sfT, sfC q ∈ lw_good := by
  have h : ∀ w ∈ sfT.map sfC, w ∈ lw_good := mem_g [1783, 1784] (by decide +kernel) (by decide +kernel)
  exact fun q hq => h _ (List.mem_map_of_mem hq)
def gsT : List L3 := [(15, 38, 0), (15, 1053, 1)]
def gsC (q : L3) : Cond := if q.2.2 = 0 then Cond.fieldLink (RC q.1) q.2.1 "java/lang/String" "COMPACT_STRINGS" "Z" else Cond.fieldLink (RC q.1) q.2.1 "jdk/internal/util/Preconditions" "SIOOBE_FORMATTER" "Ljava/util/function/BiFunction;"
set_option maxRecDepth 100000 in
theorem gs_ok : ∀ q ∈ gsT, gsC q ∈ lw_good := by
  have h : ∀ w ∈ gsT.map gsC, w ∈ lw_good := mem_g [612, 628] (by decide +kernel) (by decide +kernel)
  exact fun q hq => h _ (List.mem_map_of_mem hq)
def akT : List FieldType := [.int, .long, .byte, .boolean]
theorem ar_ok : ∀ t ∈ akT, Cond.arrayClass t ∈ lw_good := by
  have h : ∀ w ∈ akT.map Cond.arrayClass, w ∈ lw_good := mem_g [158, 374, 196, 269] (by decide +kernel) (by decide +kernel)
  exact fun q hq => h _ (List.mem_map_of_mem hq)
