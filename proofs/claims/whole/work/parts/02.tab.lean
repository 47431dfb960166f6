-- THE TABLES: written by wip/whole/gen02.py out of the Statement
def mtb : List (MethodName × ByteArray × Nat × Option FieldType) := [
  (⟨"NeedsALoser", "<init>", "()V"⟩, prog_1_method_1_code, 1, none),
  (⟨"java/lang/Object", "<init>", "()V"⟩, object_method_1_code, 1, none),
  (⟨"NeedsALoser$Town", "<init>", "()V"⟩, prog_6_method_1_code, 1, none),
  (⟨"NeedsALoser$Shelves", "<init>", "()V"⟩, prog_5_method_1_code, 2, none),
  (⟨"NeedsALoser$Reader", "<init>", "()V"⟩, prog_2_method_1_code, 1, none),
  (⟨"NeedsALoser$Week", "<init>", "()V"⟩, prog_7_method_1_code, 1, none),
  (⟨"NeedsALoser$Search", "<init>", "()V"⟩, prog_4_method_1_code, 1, none),
  (⟨"NeedsALoser", "row", "(III)I"⟩, prog_1_method_2_code, 4, some (FieldType.int)),
  (⟨"NeedsALoser", "isBelow", "(II)Z"⟩, prog_1_method_68_code, 2, some (FieldType.boolean)),
  (⟨"NeedsALoser", "isWithin", "(III)Z"⟩, prog_1_method_67_code, 3, some (FieldType.boolean)),
  (⟨"NeedsALoser", "refuse", "(I)I"⟩, prog_1_method_59_code, 3, some (FieldType.int)),
  (⟨"NeedsALoser", "at", "([II)I"⟩, prog_1_method_70_code, 2, some (FieldType.int)),
  (⟨"NeedsALoser", "put", "([III)V"⟩, prog_1_method_71_code, 3, none),
  (⟨"NeedsALoser$Shelves", "putRow", "(III)V"⟩, prog_5_method_14_code, 5, none),
  (⟨"NeedsALoser$Shelves", "putElement", "(IIJ)V"⟩, prog_5_method_15_code, 6, none),
  (⟨"NeedsALoser$Shelves", "heldIn", "(I)I"⟩, prog_5_method_2_code, 2, some (FieldType.int)),
  (⟨"NeedsALoser$Shelves", "lowestBits", "(IJ)J"⟩, prog_5_method_18_code, 3, some (FieldType.long)),
  (⟨"NeedsALoser", "set", "(IIJ)I"⟩, prog_1_method_3_code, 6, some (FieldType.int)),
  (⟨"NeedsALoser$Shelves", "rowRefusal", "(I)I"⟩, prog_5_method_5_code, 2, some (FieldType.int)),
  (⟨"NeedsALoser$Shelves", "holdsRule", "(I)Z"⟩, prog_5_method_4_code, 2, some (FieldType.boolean)),
  (⟨"NeedsALoser$Shelves", "holdsRow", "(I)Z"⟩, prog_5_method_3_code, 2, some (FieldType.boolean)),
  (⟨"NeedsALoser$Shelves", "sizeOf", "(I)I"⟩, prog_5_method_9_code, 2, some (FieldType.int)),
  (⟨"NeedsALoser", "copy", "(IIIII)I"⟩, prog_1_method_4_code, 7, some (FieldType.int)),
  (⟨"NeedsALoser$Shelves", "copyRefusal", "(IIIII)I"⟩, prog_5_method_7_code, 7, some (FieldType.int)),
  (⟨"NeedsALoser$Shelves", "isSpan", "(III)Z"⟩, prog_5_method_8_code, 3, some (FieldType.boolean)),
  (⟨"NeedsALoser$Shelves", "move", "(IIIII)V"⟩, prog_5_method_17_code, 8, none),
  (⟨"NeedsALoser$Shelves", "elementAt", "(II)J"⟩, prog_5_method_16_code, 4, some (FieldType.long)),
  (⟨"NeedsALoser", "element", "(II)J"⟩, prog_1_method_5_code, 3, some (FieldType.long)),
  (⟨"NeedsALoser", "holds", "(I)I"⟩, prog_1_method_6_code, 2, some (FieldType.int)),
  (⟨"NeedsALoser", "rule", "(III)I"⟩, prog_1_method_7_code, 4, some (FieldType.int)),
  (⟨"NeedsALoser$Shelves", "putRule", "(III)V"⟩, prog_5_method_13_code, 4, none),
  (⟨"NeedsALoser", "says", "(II)I"⟩, prog_1_method_8_code, 4, some (FieldType.int)),
  (⟨"NeedsALoser$Shelves", "ruleRefusal", "(I)I"⟩, prog_5_method_6_code, 2, some (FieldType.int)),
  (⟨"NeedsALoser$Shelves", "kindIn", "(I)I"⟩, prog_5_method_10_code, 2, some (FieldType.int)),
  (⟨"NeedsALoser$Rules", "isUnder", "(II)Z"⟩, prog_3_method_2_code, 4, some (FieldType.boolean)),
  (⟨"NeedsALoser$Shelves", "numberIn", "(I)I"⟩, prog_5_method_11_code, 2, some (FieldType.int)),
  (⟨"NeedsALoser", "thirdByShelf", "(III)I"⟩, prog_1_method_62_code, 4, some (FieldType.int)),
  (⟨"NeedsALoser$Town", "mayBits", "(II)I"⟩, prog_6_method_26_code, 3, some (FieldType.int)),
  (⟨"NeedsALoser$Town", "goodBits", "(I)I"⟩, prog_6_method_24_code, 4, some (FieldType.int)),
  (⟨"NeedsALoser$Town", "isGoodBy", "(II)Z"⟩, prog_6_method_23_code, 3, some (FieldType.boolean)),
  (⟨"NeedsALoser$Town", "lossBy", "(II)I"⟩, prog_6_method_17_code, 4, some (FieldType.int)),
  (⟨"NeedsALoser$Town", "isParty", "(II)Z"⟩, prog_6_method_19_code, 3, some (FieldType.boolean)),
  (⟨"NeedsALoser$Rules", "thirdFor", "(LNeedsALoser$Town;IIII)I"⟩, prog_3_method_3_code, 7, some (FieldType.int)),
  (⟨"NeedsALoser", "hasBit", "(II)Z"⟩, prog_1_method_69_code, 2, some (FieldType.boolean)),
  (⟨"NeedsALoser$Rules", "foremost", "(LNeedsALoser$Town;IIII)I"⟩, prog_3_method_4_code, 9, some (FieldType.int)),
  (⟨"NeedsALoser$Rules", "score", "(LNeedsALoser$Town;IIII)I"⟩, prog_3_method_5_code, 5, some (FieldType.int)),
  (⟨"NeedsALoser$Rules", "stepsRound", "(III)I"⟩, prog_3_method_6_code, 3, some (FieldType.int)),
  (⟨"java/lang/Math", "floorMod", "(II)I"⟩, prog_11_method_50_code, 3, some (FieldType.int)),
  (⟨"NeedsALoser$Town", "valueBy", "(II)I"⟩, prog_6_method_22_code, 3, some (FieldType.int)),
  (⟨"NeedsALoser$Town", "gainsOf", "(I)I"⟩, prog_6_method_21_code, 2, some (FieldType.int)),
  (⟨"NeedsALoser", "one", "()I"⟩, prog_1_method_9_code, 1, some (FieldType.int)),
  (⟨"NeedsALoser$Town", "addPerson", "()I"⟩, prog_6_method_8_code, 1, some (FieldType.int)),
  (⟨"NeedsALoser", "bargain", "(IIII)I"⟩, prog_1_method_10_code, 5, some (FieldType.int)),
  (⟨"NeedsALoser$Town", "hasPerson", "(I)Z"⟩, prog_6_method_3_code, 2, some (FieldType.boolean)),
  (⟨"NeedsALoser$Town", "addBargain", "(IIII)I"⟩, prog_6_method_9_code, 6, some (FieldType.int)),
  (⟨"NeedsALoser", "hurts", "(III)I"⟩, prog_1_method_11_code, 4, some (FieldType.int)),
  (⟨"NeedsALoser$Town", "hasPair", "(II)Z"⟩, prog_6_method_5_code, 3, some (FieldType.boolean)),
  (⟨"NeedsALoser$Town", "hasBargain", "(I)Z"⟩, prog_6_method_4_code, 2, some (FieldType.boolean)),
  (⟨"NeedsALoser$Town", "putLoss", "(III)V"⟩, prog_6_method_10_code, 4, none),
  (⟨"NeedsALoser", "bars", "(IIZ)I"⟩, prog_1_method_12_code, 4, some (FieldType.int)),
  (⟨"NeedsALoser$Town", "hasUnlike", "(II)Z"⟩, prog_6_method_6_code, 3, some (FieldType.boolean)),
  (⟨"NeedsALoser$Town", "barredBy", "(I)I"⟩, prog_6_method_18_code, 2, some (FieldType.int)),
  (⟨"NeedsALoser$Town", "putBar", "(IIZ)V"⟩, prog_6_method_11_code, 4, none),
  (⟨"NeedsALoser$Town", "withBit", "(IIZ)I"⟩, prog_6_method_12_code, 3, some (FieldType.int)),
  (⟨"NeedsALoser", "ask", "(II)I"⟩, prog_1_method_13_code, 4, some (FieldType.int)),
  (⟨"NeedsALoser$Town", "leastOfLaw", "(I)I"⟩, prog_6_method_13_code, 1, some (FieldType.int)),
  (⟨"NeedsALoser$Town", "mostOfLaw", "(I)I"⟩, prog_6_method_14_code, 1, some (FieldType.int)),
  (⟨"NeedsALoser$Town", "law", "(I)I"⟩, prog_6_method_15_code, 2, some (FieldType.int)),
  (⟨"NeedsALoser$Town", "putLaw", "(II)V"⟩, prog_6_method_16_code, 3, none),
  (⟨"NeedsALoser", "feed", "(I)I"⟩, prog_1_method_14_code, 2, some (FieldType.int)),
  (⟨"NeedsALoser$Reader", "isFull", "()Z"⟩, prog_2_method_2_code, 1, some (FieldType.boolean)),
  (⟨"NeedsALoser$Reader", "add", "(I)I"⟩, prog_2_method_3_code, 2, some (FieldType.int)),
  (⟨"NeedsALoser", "wipe", "()I"⟩, prog_1_method_15_code, 1, some (FieldType.int)),
  (⟨"NeedsALoser$Reader", "clear", "()I"⟩, prog_2_method_4_code, 2, some (FieldType.int)),
  (⟨"NeedsALoser", "town", "()I"⟩, prog_1_method_16_code, 2, some (FieldType.int)),
  (⟨"NeedsALoser$Town", "become", "(LNeedsALoser$Town;)V"⟩, prog_6_method_2_code, 2, none),
  (⟨"NeedsALoser", "copyAll", "([I[I)V"⟩, prog_1_method_72_code, 3, none),
  (⟨"NeedsALoser$Reader", "read", "(LNeedsALoser$Town;)I"⟩, prog_2_method_5_code, 4, some (FieldType.int)),
  (⟨"NeedsALoser$Reader", "step", "()V"⟩, prog_2_method_16_code, 1, none),
  (⟨"NeedsALoser$Reader", "tokenOf", "(I)I"⟩, prog_2_method_17_code, 3, some (FieldType.int)),
  (⟨"NeedsALoser$Reader", "readStatement", "(LNeedsALoser$Town;)V"⟩, prog_2_method_6_code, 2, none),
  (⟨"NeedsALoser$Reader", "isWord", "(Ljava/lang/String;)Z"⟩, prog_2_method_15_code, 3, some (FieldType.boolean)),
  (⟨"java/lang/String", "length", "()I"⟩, prog_12_method_54_code, 1, some (FieldType.int)),
  (⟨"java/lang/String", "coder", "()B"⟩, prog_12_method_152_code, 1, some (FieldType.byte)),
  (⟨"java/lang/String", "charAt", "(I)C"⟩, prog_12_method_56_code, 2, some (FieldType.char)),
  (⟨"java/lang/String", "isLatin1", "()Z"⟩, prog_12_method_154_code, 1, some (FieldType.boolean)),
  (⟨"java/lang/StringLatin1", "charAt", "([BI)C"⟩, prog_13_method_2_code, 2, some (FieldType.char)),
  (⟨"java/lang/String", "checkIndex", "(II)V"⟩, prog_12_method_155_code, 2, none),
  (⟨"jdk/internal/util/Preconditions", "checkIndex", "(IILjava/util/function/BiFunction;)I"⟩, prog_15_method_11_code, 3, some (FieldType.int)),
  (⟨"java/lang/StringUTF16", "charAt", "([BI)C"⟩, prog_14_method_83_code, 2, some (FieldType.char)),
  (⟨"java/lang/StringUTF16", "checkIndex", "(I[B)V"⟩, prog_14_method_91_code, 2, none),
  (⟨"java/lang/StringUTF16", "length", "([B)I"⟩, prog_14_method_6_code, 1, some (FieldType.int)),
  (⟨"java/lang/StringUTF16", "getChar", "([BI)C"⟩, prog_14_method_5_code, 2, some (FieldType.char)),
  (⟨"NeedsALoser$Reader", "readOne", "(LNeedsALoser$Town;)V"⟩, prog_2_method_7_code, 2, none),
  (⟨"NeedsALoser$Reader", "fail", "()V"⟩, prog_2_method_14_code, 1, none),
  (⟨"NeedsALoser$Reader", "readDeal", "(LNeedsALoser$Town;)V"⟩, prog_2_method_8_code, 10, none),
  (⟨"NeedsALoser$Reader", "readNumber", "(III)I"⟩, prog_2_method_12_code, 5, some (FieldType.int)),
  (⟨"NeedsALoser$Reader", "numberHere", "()I"⟩, prog_2_method_13_code, 3, some (FieldType.int)),
  (⟨"NeedsALoser$Reader", "readGains", "(LNeedsALoser$Town;)V"⟩, prog_2_method_9_code, 5, none),
  (⟨"NeedsALoser$Reader", "readBars", "(LNeedsALoser$Town;)V"⟩, prog_2_method_10_code, 4, none),
  (⟨"NeedsALoser$Reader", "readLaw", "(LNeedsALoser$Town;I)V"⟩, prog_2_method_11_code, 4, none),
  (⟨"NeedsALoser", "bargainOf", "(II)I"⟩, prog_1_method_17_code, 3, some (FieldType.int)),
  (⟨"NeedsALoser", "lossOf", "(II)I"⟩, prog_1_method_18_code, 3, some (FieldType.int)),
  (⟨"NeedsALoser", "refuseBelow", "(I)I"⟩, prog_1_method_60_code, 2, some (FieldType.int)),
  (⟨"NeedsALoser", "standing", "(I)I"⟩, prog_1_method_19_code, 2, some (FieldType.int)),
  (⟨"NeedsALoser", "good", "(I)I"⟩, prog_1_method_20_code, 2, some (FieldType.int)),
  (⟨"NeedsALoser", "value", "(II)I"⟩, prog_1_method_21_code, 3, some (FieldType.int)),
  (⟨"NeedsALoser", "name", "(III)I"⟩, prog_1_method_22_code, 5, some (FieldType.int)),
  (⟨"NeedsALoser", "judge", "(I)I"⟩, prog_1_method_23_code, 3, some (FieldType.int)),
  (⟨"NeedsALoser", "toldRefusal", "(I)I"⟩, prog_1_method_61_code, 3, some (FieldType.int)),
  (⟨"NeedsALoser$Week", "fillTold", "(LNeedsALoser$Town;LNeedsALoser$Shelves;I)I"⟩, prog_7_method_2_code, 7, some (FieldType.int)),
  (⟨"NeedsALoser$Week", "begin", "()V"⟩, prog_7_method_7_code, 1, none),
  (⟨"NeedsALoser$Week", "isBarred", "(LNeedsALoser$Town;I)Z"⟩, prog_7_method_8_code, 3, some (FieldType.boolean)),
  (⟨"NeedsALoser$Week", "take", "(II)V"⟩, prog_7_method_9_code, 3, none),
  (⟨"NeedsALoser", "told", "(II)I"⟩, prog_1_method_24_code, 4, some (FieldType.int)),
  (⟨"NeedsALoser$Week", "tell", "(LNeedsALoser$Town;I)I"⟩, prog_7_method_5_code, 3, some (FieldType.int)),
  (⟨"java/lang/Integer", "bitCount", "(I)I"⟩, prog_10_method_49_code, 1, some (FieldType.int)),
  (⟨"NeedsALoser$Week", "sumOfValues", "(LNeedsALoser$Town;)I"⟩, prog_7_method_10_code, 4, some (FieldType.int)),
  (⟨"NeedsALoser", "by", "(II)I"⟩, prog_1_method_25_code, 4, some (FieldType.int)),
  (⟨"NeedsALoser", "tellByShelf", "(II)I"⟩, prog_1_method_63_code, 3, some (FieldType.int)),
  (⟨"NeedsALoser$Week", "fillByRule", "(LNeedsALoser$Town;II)V"⟩, prog_7_method_3_code, 5, none),
  (⟨"NeedsALoser", "head", "()I"⟩, prog_1_method_26_code, 5, some (FieldType.int)),
  (⟨"NeedsALoser", "lives", "(I)I"⟩, prog_1_method_27_code, 3, some (FieldType.int)),
  (⟨"NeedsALoser$Week", "comeTrue", "(LNeedsALoser$Town;)I"⟩, prog_7_method_6_code, 3, some (FieldType.int)),
  (⟨"NeedsALoser$Town", "makeInTruth", "(II)V"⟩, prog_6_method_30_code, 3, none),
  (⟨"NeedsALoser$Town", "addTo", "([III)V"⟩, prog_6_method_31_code, 3, none),
  (⟨"NeedsALoser", "makes", "(I)I"⟩, prog_1_method_28_code, 3, some (FieldType.int)),
  (⟨"NeedsALoser", "week", "()I"⟩, prog_1_method_29_code, 1, some (FieldType.int)),
  (⟨"NeedsALoser$Week", "fillByDraws", "(LNeedsALoser$Town;)V"⟩, prog_7_method_4_code, 4, none),
  (⟨"NeedsALoser$Town", "draw", "(I)I"⟩, prog_6_method_29_code, 2, some (FieldType.int)),
  (⟨"NeedsALoser$Week", "bitOfPlace", "(II)I"⟩, prog_7_method_11_code, 4, some (FieldType.int)),
  (⟨"NeedsALoser", "weeks", "(I)I"⟩, prog_1_method_30_code, 4, some (FieldType.int)),
  (⟨"NeedsALoser", "best", "()I"⟩, prog_1_method_31_code, 1, some (FieldType.int)),
  (⟨"NeedsALoser$Town", "everybody", "()I"⟩, prog_6_method_7_code, 1, some (FieldType.int)),
  (⟨"NeedsALoser$Search", "bestValue", "(LNeedsALoser$Town;I)I"⟩, prog_4_method_2_code, 3, some (FieldType.int)),
  (⟨"NeedsALoser$Search", "greatestKey", "(LNeedsALoser$Town;IZ)J"⟩, prog_4_method_11_code, 8, some (FieldType.long)),
  (⟨"NeedsALoser$Search", "findApart", "(LNeedsALoser$Town;)I"⟩, prog_4_method_12_code, 6, some (FieldType.int)),
  (⟨"java/lang/Math", "min", "(II)I"⟩, prog_11_method_69_code, 2, some (FieldType.int)),
  (⟨"java/lang/Integer", "numberOfTrailingZeros", "(I)I"⟩, prog_10_method_48_code, 2, some (FieldType.int)),
  (⟨"NeedsALoser$Search", "fillKeys", "(LNeedsALoser$Town;IZ)V"⟩, prog_4_method_13_code, 7, none),
  (⟨"NeedsALoser$Search", "shiftOf", "(I)I"⟩, prog_4_method_9_code, 1, some (FieldType.int)),
  (⟨"NeedsALoser$Town", "bargainsGoodBy", "(I)I"⟩, prog_6_method_25_code, 4, some (FieldType.int)),
  (⟨"NeedsALoser$Search", "addThird", "(IIZI)V"⟩, prog_4_method_14_code, 11, none),
  (⟨"java/lang/Math", "max", "(JJ)J"⟩, prog_11_method_66_code, 4, some (FieldType.long)),
  (⟨"NeedsALoser$Search", "valueOf", "(J)I"⟩, prog_4_method_7_code, 2, some (FieldType.int)),
  (⟨"java/lang/Math", "floorDiv", "(JJ)J"⟩, prog_11_method_49_code, 6, some (FieldType.long)),
  (⟨"NeedsALoser", "bestOf", "(I)I"⟩, prog_1_method_32_code, 2, some (FieldType.int)),
  (⟨"NeedsALoser$Search", "bestThird", "(LNeedsALoser$Town;I)I"⟩, prog_4_method_3_code, 5, some (FieldType.int)),
  (⟨"NeedsALoser$Search", "codeOf", "(J)J"⟩, prog_4_method_8_code, 2, some (FieldType.long)),
  (⟨"NeedsALoser", "worth", "(I)I"⟩, prog_1_method_33_code, 2, some (FieldType.int)),
  (⟨"NeedsALoser", "dearest", "()I"⟩, prog_1_method_34_code, 5, some (FieldType.int)),
  (⟨"NeedsALoser", "gap", "(I)I"⟩, prog_1_method_35_code, 3, some (FieldType.int)),
  (⟨"NeedsALoser", "fewest", "()I"⟩, prog_1_method_36_code, 1, some (FieldType.int)),
  (⟨"NeedsALoser$Search", "fewestBits", "(LNeedsALoser$Town;)I"⟩, prog_4_method_4_code, 2, some (FieldType.int)),
  (⟨"NeedsALoser", "richest", "()I"⟩, prog_1_method_37_code, 1, some (FieldType.int)),
  (⟨"NeedsALoser", "placeOfGreatest", "([II)I"⟩, prog_1_method_66_code, 4, some (FieldType.int)),
  (⟨"NeedsALoser", "alone", "(I)I"⟩, prog_1_method_38_code, 4, some (FieldType.int)),
  (⟨"NeedsALoser", "party", "(I)I"⟩, prog_1_method_39_code, 4, some (FieldType.int)),
  (⟨"NeedsALoser", "fair", "()I"⟩, prog_1_method_40_code, 4, some (FieldType.int)),
  (⟨"NeedsALoser", "never", "()I"⟩, prog_1_method_41_code, 3, some (FieldType.int)),
  (⟨"NeedsALoser", "free", "()I"⟩, prog_1_method_42_code, 1, some (FieldType.int)),
  (⟨"NeedsALoser$Search", "greatestGains", "(LNeedsALoser$Town;)I"⟩, prog_4_method_5_code, 3, some (FieldType.int)),
  (⟨"NeedsALoser$Search", "heaviest", "(LNeedsALoser$Town;)I"⟩, prog_4_method_10_code, 5, some (FieldType.int)),
  (⟨"java/lang/Math", "max", "(II)I"⟩, prog_11_method_65_code, 2, some (FieldType.int)),
  (⟨"NeedsALoser", "cross", "(III)I"⟩, prog_1_method_43_code, 7, some (FieldType.int)),
  (⟨"NeedsALoser$Town", "partyBits", "(I)I"⟩, prog_6_method_20_code, 2, some (FieldType.int)),
  (⟨"NeedsALoser", "greatestValue", "(II)I"⟩, prog_1_method_64_code, 4, some (FieldType.int)),
  (⟨"NeedsALoser", "rings", "()I"⟩, prog_1_method_44_code, 5, some (FieldType.int)),
  (⟨"NeedsALoser", "isRing", "(III)Z"⟩, prog_1_method_65_code, 4, some (FieldType.boolean)),
  (⟨"NeedsALoser", "harm", "(I)I"⟩, prog_1_method_45_code, 2, some (FieldType.int)),
  (⟨"NeedsALoser$Search", "greatestHarm", "(LNeedsALoser$Town;I)I"⟩, prog_4_method_6_code, 6, some (FieldType.int)),
  (⟨"NeedsALoser", "worst", "()I"⟩, prog_1_method_46_code, 5, some (FieldType.int)),
  (⟨"NeedsALoser", "hated", "()I"⟩, prog_1_method_47_code, 5, some (FieldType.int)),
  (⟨"NeedsALoser", "said", "(II)I"⟩, prog_1_method_48_code, 3, some (FieldType.int)),
  (⟨"NeedsALoser$Town", "canBeSaid", "(II)Z"⟩, prog_6_method_27_code, 3, some (FieldType.boolean)),
  (⟨"NeedsALoser$Town", "shareOfSaid", "(II)I"⟩, prog_6_method_28_code, 3, some (FieldType.int)),
  (⟨"NeedsALoser", "dares", "()I"⟩, prog_1_method_49_code, 4, some (FieldType.int)),
  (⟨"NeedsALoser", "deters", "()I"⟩, prog_1_method_50_code, 4, some (FieldType.int)),
  (⟨"NeedsALoser", "under", "(I)I"⟩, prog_1_method_51_code, 2, some (FieldType.int)),
  (⟨"NeedsALoser", "bestLaw", "()I"⟩, prog_1_method_52_code, 1, some (FieldType.int)),
  (⟨"NeedsALoser", "hiding", "(II)I"⟩, prog_1_method_53_code, 3, some (FieldType.int)),
  (⟨"NeedsALoser", "named", "(I)I"⟩, prog_1_method_54_code, 2, some (FieldType.int)),
  (⟨"NeedsALoser", "seed", "(I)I"⟩, prog_1_method_55_code, 3, some (FieldType.int)),
  (⟨"NeedsALoser", "image", "()I"⟩, prog_1_method_56_code, 1, some (FieldType.int)),
  (⟨"NeedsALoser", "back", "()I"⟩, prog_1_method_57_code, 1, some (FieldType.int)),
  (⟨"NeedsALoser", "status", "(I)I"⟩, prog_1_method_58_code, 2, some (FieldType.int)),
  (⟨"NeedsALoser$Shelves", "countHeld", "()I"⟩, prog_5_method_12_code, 3, some (FieldType.int)),
  (⟨"NeedsALoserModel", "<init>", "()V"⟩, prog_9_method_1_code, 1, none),
  (⟨"NeedsALoserModel", "row", "(III)I"⟩, prog_9_method_8_code, 5, some (FieldType.int)),
  (⟨"NeedsALoserModel", "in", "(JJJ)Z"⟩, prog_9_method_3_code, 6, some (FieldType.boolean)),
  (⟨"NeedsALoserModel", "refuse", "(I)I"⟩, prog_9_method_2_code, 2, some (FieldType.int)),
  (⟨"NeedsALoserModel", "set", "(IIJ)I"⟩, prog_9_method_12_code, 6, some (FieldType.int)),
  (⟨"NeedsALoserModel", "noRow", "(I)I"⟩, prog_9_method_10_code, 2, some (FieldType.int)),
  (⟨"NeedsALoserModel", "fit", "(IJ)J"⟩, prog_9_method_9_code, 3, some (FieldType.long)),
  (⟨"NeedsALoserModel", "copy", "(IIIII)I"⟩, prog_9_method_13_code, 7, some (FieldType.int)),
  (⟨"NeedsALoserModel", "element", "(II)J"⟩, prog_9_method_14_code, 3, some (FieldType.long)),
  (⟨"NeedsALoserModel", "holds", "(I)I"⟩, prog_9_method_15_code, 2, some (FieldType.int)),
  (⟨"NeedsALoserModel", "rule", "(III)I"⟩, prog_9_method_16_code, 4, some (FieldType.int)),
  (⟨"NeedsALoserModel", "says", "(II)I"⟩, prog_9_method_18_code, 3, some (FieldType.int)),
  (⟨"NeedsALoserModel", "isUnder", "(II)Z"⟩, prog_9_method_17_code, 2, some (FieldType.boolean)),
  (⟨"NeedsALoserModel", "names", "(IIII)I"⟩, prog_9_method_52_code, 8, some (FieldType.int)),
  (⟨"NeedsALoserModel", "mildest", "(II)I"⟩, prog_9_method_51_code, 5, some (FieldType.int)),
  (⟨"NeedsALoserModel", "may", "(III)Z"⟩, prog_9_method_50_code, 4, some (FieldType.boolean)),
  (⟨"NeedsALoserModel", "isGood", "(II)Z"⟩, prog_9_method_44_code, 3, some (FieldType.boolean)),
  (⟨"NeedsALoserModel", "isParty", "(II)Z"⟩, prog_9_method_43_code, 3, some (FieldType.boolean)),
  (⟨"NeedsALoserModel", "has", "(II)Z"⟩, prog_9_method_6_code, 2, some (FieldType.boolean)),
  (⟨"NeedsALoserModel", "isOne", "(J)Z"⟩, prog_9_method_4_code, 3, some (FieldType.boolean)),
  (⟨"NeedsALoserModel", "valueOf", "(II)I"⟩, prog_9_method_47_code, 3, some (FieldType.int)),
  (⟨"NeedsALoserModel", "gains", "(I)I"⟩, prog_9_method_46_code, 2, some (FieldType.int)),
  (⟨"NeedsALoserModel", "one", "()I"⟩, prog_9_method_19_code, 2, some (FieldType.int)),
  (⟨"NeedsALoserModel", "bargain", "(IIII)I"⟩, prog_9_method_20_code, 7, some (FieldType.int)),
  (⟨"NeedsALoserModel", "hurts", "(III)I"⟩, prog_9_method_21_code, 4, some (FieldType.int)),
  (⟨"NeedsALoserModel", "isBargain", "(I)Z"⟩, prog_9_method_5_code, 2, some (FieldType.boolean)),
  (⟨"NeedsALoserModel", "bars", "(IIZ)I"⟩, prog_9_method_22_code, 5, some (FieldType.int)),
  (⟨"NeedsALoserModel", "ask", "(II)I"⟩, prog_9_method_24_code, 4, some (FieldType.int)),
  (⟨"NeedsALoserModel", "mostOf", "(I)I"⟩, prog_9_method_23_code, 1, some (FieldType.int)),
  (⟨"NeedsALoserModel", "feed", "(I)I"⟩, prog_9_method_25_code, 2, some (FieldType.int)),
  (⟨"NeedsALoserModel", "wipe", "()I"⟩, prog_9_method_26_code, 2, some (FieldType.int)),
  (⟨"NeedsALoserModel", "town", "()I"⟩, prog_9_method_39_code, 3, some (FieldType.int)),
  (⟨"NeedsALoserModel", "fresh", "()LNeedsALoserModel;"⟩, prog_9_method_107_code, 1, some ((FieldType.object "NeedsALoserModel"))),
  (⟨"NeedsALoserModel", "takeFrom", "(LNeedsALoserModel;)V"⟩, prog_9_method_109_code, 3, none),
  (⟨"NeedsALoserModel", "over", "([I[I)V"⟩, prog_9_method_108_code, 3, none),
  (⟨"NeedsALoserModel", "readAll", "()Z"⟩, prog_9_method_38_code, 1, some (FieldType.boolean)),
  (⟨"NeedsALoserModel", "look", "()V"⟩, prog_9_method_29_code, 1, none),
  (⟨"NeedsALoserModel", "isLetter", "(I)Z"⟩, prog_9_method_27_code, 1, some (FieldType.boolean)),
  (⟨"NeedsALoserModel", "isDigit", "(I)Z"⟩, prog_9_method_28_code, 1, some (FieldType.boolean)),
  (⟨"NeedsALoserModel", "statement", "()Z"⟩, prog_9_method_37_code, 1, some (FieldType.boolean)),
  (⟨"NeedsALoserModel", "isWord", "(Ljava/lang/String;)Z"⟩, prog_9_method_31_code, 3, some (FieldType.boolean)),
  (⟨"NeedsALoserModel", "dealTold", "()Z"⟩, prog_9_method_35_code, 2, some (FieldType.boolean)),
  (⟨"NeedsALoserModel", "tells", "(Ljava/lang/String;III)Z"⟩, prog_9_method_33_code, 5, some (FieldType.boolean)),
  (⟨"NeedsALoserModel", "wrong", "()Z"⟩, prog_9_method_30_code, 1, some (FieldType.boolean)),
  (⟨"NeedsALoserModel", "number", "(III)Z"⟩, prog_9_method_32_code, 4, some (FieldType.boolean)),
  (⟨"NeedsALoserModel", "unlike", "(II)Z"⟩, prog_9_method_34_code, 3, some (FieldType.boolean)),
  (⟨"NeedsALoserModel", "askedTold", "(Ljava/lang/String;I)Z"⟩, prog_9_method_36_code, 4, some (FieldType.boolean)),
  (⟨"NeedsALoserModel", "bargainOf", "(II)I"⟩, prog_9_method_40_code, 3, some (FieldType.int)),
  (⟨"NeedsALoserModel", "lossOf", "(II)I"⟩, prog_9_method_41_code, 3, some (FieldType.int)),
  (⟨"NeedsALoserModel", "standing", "(I)I"⟩, prog_9_method_42_code, 2, some (FieldType.int)),
  (⟨"NeedsALoserModel", "good", "(I)I"⟩, prog_9_method_48_code, 2, some (FieldType.int)),
  (⟨"NeedsALoserModel", "goodBy", "(I)I"⟩, prog_9_method_45_code, 4, some (FieldType.int)),
  (⟨"NeedsALoserModel", "value", "(II)I"⟩, prog_9_method_49_code, 3, some (FieldType.int)),
  (⟨"NeedsALoserModel", "name", "(III)I"⟩, prog_9_method_53_code, 5, some (FieldType.int)),
  (⟨"NeedsALoserModel", "noRule", "(I)I"⟩, prog_9_method_11_code, 2, some (FieldType.int)),
  (⟨"NeedsALoserModel", "judge", "(I)I"⟩, prog_9_method_57_code, 3, some (FieldType.int)),
  (⟨"NeedsALoserModel", "noWeek", "(I)I"⟩, prog_9_method_54_code, 3, some (FieldType.int)),
  (⟨"NeedsALoserModel", "takeWeek", "(I)I"⟩, prog_9_method_55_code, 6, some (FieldType.int)),
  (⟨"NeedsALoserModel", "told", "(II)I"⟩, prog_9_method_58_code, 4, some (FieldType.int)),
  (⟨"NeedsALoserModel", "ofWeek", "(I)I"⟩, prog_9_method_56_code, 6, some (FieldType.int)),
  (⟨"NeedsALoserModel", "by", "(II)I"⟩, prog_9_method_60_code, 4, some (FieldType.int)),
  (⟨"NeedsALoserModel", "weekBy", "(I)V"⟩, prog_9_method_59_code, 5, none),
  (⟨"NeedsALoserModel", "head", "()I"⟩, prog_9_method_61_code, 5, some (FieldType.int)),
  (⟨"NeedsALoserModel", "lives", "(I)I"⟩, prog_9_method_63_code, 3, some (FieldType.int)),
  (⟨"NeedsALoserModel", "comes", "()I"⟩, prog_9_method_62_code, 2, some (FieldType.int)),
  (⟨"NeedsALoserModel", "makes", "(I)I"⟩, prog_9_method_64_code, 3, some (FieldType.int)),
  (⟨"NeedsALoserModel", "best", "()I"⟩, prog_9_method_69_code, 1, some (FieldType.int)),
  (⟨"NeedsALoserModel", "all", "()I"⟩, prog_9_method_68_code, 1, some (FieldType.int)),
  (⟨"NeedsALoserModel", "bestBy", "(I)I"⟩, prog_9_method_67_code, 3, some (FieldType.int)),
  (⟨"NeedsALoserModel", "seek", "(IIIII)V"⟩, prog_9_method_65_code, 9, none),
  (⟨"NeedsALoserModel", "mildestOf", "(II)I"⟩, prog_9_method_66_code, 5, some (FieldType.int)),
  (⟨"NeedsALoserModel", "bestOf", "(I)I"⟩, prog_9_method_70_code, 2, some (FieldType.int)),
  (⟨"NeedsALoserModel", "worth", "(I)I"⟩, prog_9_method_72_code, 2, some (FieldType.int)),
  (⟨"NeedsALoserModel", "worthOf", "(I)I"⟩, prog_9_method_71_code, 2, some (FieldType.int)),
  (⟨"NeedsALoserModel", "dearest", "()I"⟩, prog_9_method_73_code, 5, some (FieldType.int)),
  (⟨"NeedsALoserModel", "gap", "(I)I"⟩, prog_9_method_74_code, 3, some (FieldType.int)),
  (⟨"NeedsALoserModel", "fewest", "()I"⟩, prog_9_method_75_code, 4, some (FieldType.int)),
  (⟨"NeedsALoserModel", "bits", "(I)I"⟩, prog_9_method_7_code, 3, some (FieldType.int)),
  (⟨"NeedsALoserModel", "richest", "()I"⟩, prog_9_method_76_code, 3, some (FieldType.int)),
  (⟨"NeedsALoserModel", "alone", "(I)I"⟩, prog_9_method_77_code, 4, some (FieldType.int)),
  (⟨"NeedsALoserModel", "party", "(I)I"⟩, prog_9_method_78_code, 4, some (FieldType.int)),
  (⟨"NeedsALoserModel", "fair", "()I"⟩, prog_9_method_79_code, 4, some (FieldType.int)),
  (⟨"NeedsALoserModel", "never", "()I"⟩, prog_9_method_80_code, 3, some (FieldType.int)),
  (⟨"NeedsALoserModel", "free", "()I"⟩, prog_9_method_82_code, 5, some (FieldType.int)),
  (⟨"NeedsALoserModel", "isBarred", "(I)Z"⟩, prog_9_method_81_code, 3, some (FieldType.boolean)),
  (⟨"NeedsALoserModel", "cross", "(III)I"⟩, prog_9_method_84_code, 7, some (FieldType.int)),
  (⟨"NeedsALoserModel", "partyFor", "(II)I"⟩, prog_9_method_83_code, 5, some (FieldType.int)),
  (⟨"NeedsALoserModel", "rings", "()I"⟩, prog_9_method_86_code, 5, some (FieldType.int)),
  (⟨"NeedsALoserModel", "isRing", "(III)Z"⟩, prog_9_method_85_code, 4, some (FieldType.boolean)),
  (⟨"NeedsALoserModel", "harm", "(I)I"⟩, prog_9_method_88_code, 2, some (FieldType.int)),
  (⟨"NeedsALoserModel", "harmOf", "(I)I"⟩, prog_9_method_87_code, 7, some (FieldType.int)),
  (⟨"NeedsALoserModel", "worst", "()I"⟩, prog_9_method_89_code, 3, some (FieldType.int)),
  (⟨"NeedsALoserModel", "hated", "()I"⟩, prog_9_method_91_code, 3, some (FieldType.int)),
  (⟨"NeedsALoserModel", "hates", "(I)I"⟩, prog_9_method_90_code, 4, some (FieldType.int)),
  (⟨"NeedsALoserModel", "said", "(II)I"⟩, prog_9_method_93_code, 3, some (FieldType.int)),
  (⟨"NeedsALoserModel", "saidBy", "(III)I"⟩, prog_9_method_92_code, 4, some (FieldType.int)),
  (⟨"NeedsALoserModel", "dares", "()I"⟩, prog_9_method_95_code, 1, some (FieldType.int)),
  (⟨"NeedsALoserModel", "daresBy", "(I)I"⟩, prog_9_method_94_code, 5, some (FieldType.int)),
  (⟨"NeedsALoserModel", "deters", "()I"⟩, prog_9_method_96_code, 2, some (FieldType.int)),
  (⟨"NeedsALoserModel", "under", "(I)I"⟩, prog_9_method_98_code, 2, some (FieldType.int)),
  (⟨"NeedsALoserModel", "underOf", "(I)I"⟩, prog_9_method_97_code, 4, some (FieldType.int)),
  (⟨"NeedsALoserModel", "bestLaw", "()I"⟩, prog_9_method_99_code, 3, some (FieldType.int)),
  (⟨"NeedsALoserModel", "hiding", "(II)I"⟩, prog_9_method_100_code, 6, some (FieldType.int)),
  (⟨"NeedsALoserModel", "week", "()I"⟩, prog_9_method_103_code, 1, some (FieldType.int)),
  (⟨"NeedsALoserModel", "weekByDraws", "()I"⟩, prog_9_method_102_code, 7, some (FieldType.int)),
  (⟨"NeedsALoserModel", "draw", "(I)I"⟩, prog_9_method_101_code, 2, some (FieldType.int)),
  (⟨"NeedsALoserModel", "weeks", "(I)I"⟩, prog_9_method_104_code, 4, some (FieldType.int)),
  (⟨"NeedsALoserModel", "named", "(I)I"⟩, prog_9_method_105_code, 2, some (FieldType.int)),
  (⟨"NeedsALoserModel", "seed", "(I)I"⟩, prog_9_method_106_code, 3, some (FieldType.int)),
  (⟨"NeedsALoserModel", "image", "()I"⟩, prog_9_method_110_code, 1, some (FieldType.int)),
  (⟨"NeedsALoserModel", "back", "()I"⟩, prog_9_method_111_code, 1, some (FieldType.int)),
  (⟨"NeedsALoserModel", "status", "(I)I"⟩, prog_9_method_112_code, 4, some (FieldType.int)),
  (x, code, 4, some .boolean)]
def me (y : Nat) : MethodName × ByteArray × Nat × Option FieldType := mtb.getD y (⟨"", "", ""⟩, ⟨#[]⟩, 0, none)
abbrev mn (y : Nat) : MethodName := (me y).1
abbrev mb (y : Nat) : ByteArray := (me y).2.1
abbrev ml (y : Nat) : Nat := (me y).2.2.1
abbrev mr (y : Nat) : Option FieldType := (me y).2.2.2
def Rk0 : String := "NeedsALoser"
def Fk0 : u_T := fun k => match k with
  | 0 => ("NeedsALoser", "now", "LNeedsALoser$Town;", true)
  | 1 => ("NeedsALoser", "kept", "LNeedsALoser$Town;", true)
  | 2 => ("NeedsALoser", "draft", "LNeedsALoser$Town;", true)
  | 3 => ("NeedsALoser", "isKept", "Z", false)
  | 4 => ("NeedsALoser", "shelves", "LNeedsALoser$Shelves;", true)
  | 5 => ("NeedsALoser", "reader", "LNeedsALoser$Reader;", true)
  | 6 => ("NeedsALoser", "trial", "LNeedsALoser$Week;", true)
  | 7 => ("NeedsALoser", "search", "LNeedsALoser$Search;", true)
  | _ => ("NeedsALoser", "refusals", "[I", true)
def tk0 : Nat → FieldType := fun k => match k with
  | 0 => .object "NeedsALoser$Town"
  | 1 => .object "NeedsALoser$Town"
  | 2 => .object "NeedsALoser$Town"
  | 3 => .boolean
  | 4 => .object "NeedsALoser$Shelves"
  | 5 => .object "NeedsALoser$Reader"
  | 6 => .object "NeedsALoser$Week"
  | 7 => .object "NeedsALoser$Search"
  | _ => .array .int
def Rk1 : String := "NeedsALoser$Town"
def Fk1 : u_T := fun k => match k with
  | 0 => ("NeedsALoser$Town", "people", "I", false)
  | 1 => ("NeedsALoser$Town", "bargains", "I", false)
  | 2 => ("NeedsALoser$Town", "least", "I", false)
  | 3 => ("NeedsALoser$Town", "once", "I", false)
  | 4 => ("NeedsALoser$Town", "court", "I", false)
  | 5 => ("NeedsALoser$Town", "fine", "I", false)
  | 6 => ("NeedsALoser$Town", "seed", "I", false)
  | 7 => ("NeedsALoser$Town", "weeksLived", "I", false)
  | 8 => ("NeedsALoser$Town", "madeInAll", "I", false)
  | 9 => ("NeedsALoser$Town", "standings", "[I", true)
  | 10 => ("NeedsALoser$Town", "times", "[I", true)
  | 11 => ("NeedsALoser$Town", "firsts", "[I", true)
  | 12 => ("NeedsALoser$Town", "seconds", "[I", true)
  | 13 => ("NeedsALoser$Town", "gainsOfFirst", "[I", true)
  | 14 => ("NeedsALoser$Town", "gainsOfSecond", "[I", true)
  | 15 => ("NeedsALoser$Town", "barred", "[I", true)
  | _ => ("NeedsALoser$Town", "losses", "[I", true)
def tk1 : Nat → FieldType := fun k => match k with
  | 0 => .int
  | 1 => .int
  | 2 => .int
  | 3 => .int
  | 4 => .int
  | 5 => .int
  | 6 => .int
  | 7 => .int
  | 8 => .int
  | 9 => .array .int
  | 10 => .array .int
  | 11 => .array .int
  | 12 => .array .int
  | 13 => .array .int
  | 14 => .array .int
  | 15 => .array .int
  | _ => .array .int
def Rk2 : String := "NeedsALoser$Shelves"
def Fk2 : u_T := fun k => match k with
  | 0 => ("NeedsALoser$Shelves", "held", "[I", true)
  | 1 => ("NeedsALoser$Shelves", "sizes", "[I", true)
  | 2 => ("NeedsALoser$Shelves", "numbers", "[I", true)
  | _ => ("NeedsALoser$Shelves", "elements", "[J", true)
def tk2 : Nat → FieldType := fun k => match k with
  | 0 => .array .int
  | 1 => .array .int
  | 2 => .array .int
  | _ => .array .long
def Rk3 : String := "NeedsALoser$Reader"
def Fk3 : u_T := fun k => match k with
  | 0 => ("NeedsALoser$Reader", "tape", "[I", true)
  | 1 => ("NeedsALoser$Reader", "size", "I", false)
  | 2 => ("NeedsALoser$Reader", "place", "I", false)
  | 3 => ("NeedsALoser$Reader", "token", "I", false)
  | 4 => ("NeedsALoser$Reader", "start", "I", false)
  | _ => ("NeedsALoser$Reader", "fault", "I", false)
def tk3 : Nat → FieldType := fun k => match k with
  | 0 => .array .int
  | 1 => .int
  | 2 => .int
  | 3 => .int
  | 4 => .int
  | _ => .int
def Rk4 : String := "NeedsALoser$Week"
def Fk4 : u_T := fun k => match k with
  | 0 => ("NeedsALoser$Week", "thirds", "[I", true)
  | 1 => ("NeedsALoser$Week", "made", "I", false)
  | _ => ("NeedsALoser$Week", "taken", "I", false)
def tk4 : Nat → FieldType := fun k => match k with
  | 0 => .array .int
  | 1 => .int
  | _ => .int
def Rk5 : String := "NeedsALoser$Search"
def Fk5 : u_T := fun k => match k with
  | 0 => ("NeedsALoser$Search", "apart", "[Z", true)
  | 1 => ("NeedsALoser$Search", "ways", "[J", true)
  | 2 => ("NeedsALoser$Search", "waysNaming", "[J", true)
  | 3 => ("NeedsALoser$Search", "keys", "[J", true)
  | _ => ("NeedsALoser$Search", "weights", "[I", true)
def tk5 : Nat → FieldType := fun k => match k with
  | 0 => .array .boolean
  | 1 => .array .long
  | 2 => .array .long
  | 3 => .array .long
  | _ => .array .int
def Rk6 : String := "NeedsALoserModel"
def Fk6 : u_T := fun k => match k with
  | 0 => ("NeedsALoserModel", "shelf", "[I", true)
  | 1 => ("NeedsALoserModel", "rowSort", "[I", true)
  | 2 => ("NeedsALoserModel", "rowSize", "[I", true)
  | 3 => ("NeedsALoserModel", "rows", "[[J", true)
  | 4 => ("NeedsALoserModel", "moved", "[J", true)
  | 5 => ("NeedsALoserModel", "ruleKind", "[I", true)
  | 6 => ("NeedsALoserModel", "ruleBy", "[I", true)
  | 7 => ("NeedsALoserModel", "tape", "[I", true)
  | 8 => ("NeedsALoserModel", "tapeSize", "I", false)
  | 9 => ("NeedsALoserModel", "refused", "[I", true)
  | 10 => ("NeedsALoserModel", "people", "I", false)
  | 11 => ("NeedsALoserModel", "standing", "[I", true)
  | 12 => ("NeedsALoserModel", "named", "[I", true)
  | 13 => ("NeedsALoserModel", "bargains", "I", false)
  | 14 => ("NeedsALoserModel", "of", "[[I", true)
  | 15 => ("NeedsALoserModel", "loss", "[[I", true)
  | 16 => ("NeedsALoserModel", "asked", "[I", true)
  | 17 => ("NeedsALoserModel", "weeksGone", "I", false)
  | 18 => ("NeedsALoserModel", "made", "I", false)
  | 19 => ("NeedsALoserModel", "seed", "I", false)
  | 20 => ("NeedsALoserModel", "kept", "LNeedsALoserModel;", false)
  | 21 => ("NeedsALoserModel", "tried", "LNeedsALoserModel;", false)
  | 22 => ("NeedsALoserModel", "at", "I", false)
  | 23 => ("NeedsALoserModel", "token", "I", false)
  | 24 => ("NeedsALoserModel", "from", "I", false)
  | 25 => ("NeedsALoserModel", "figures", "I", false)
  | 26 => ("NeedsALoserModel", "fault", "I", false)
  | 27 => ("NeedsALoserModel", "told", "[I", true)
  | 28 => ("NeedsALoserModel", "statements", "I", false)
  | 29 => ("NeedsALoserModel", "week", "[I", true)
  | 30 => ("NeedsALoserModel", "trying", "[I", true)
  | 31 => ("NeedsALoserModel", "bestWeek", "[I", true)
  | _ => ("NeedsALoserModel", "bestValue", "I", false)
def tk6 : Nat → FieldType := fun k => match k with
  | 0 => .array .int
  | 1 => .array .int
  | 2 => .array .int
  | 3 => .array (.array .long)
  | 4 => .array .long
  | 5 => .array .int
  | 6 => .array .int
  | 7 => .array .int
  | 8 => .int
  | 9 => .array .int
  | 10 => .int
  | 11 => .array .int
  | 12 => .array .int
  | 13 => .int
  | 14 => .array (.array .int)
  | 15 => .array (.array .int)
  | 16 => .array .int
  | 17 => .int
  | 18 => .int
  | 19 => .int
  | 20 => .object "NeedsALoserModel"
  | 21 => .object "NeedsALoserModel"
  | 22 => .int
  | 23 => .int
  | 24 => .int
  | 25 => .int
  | 26 => .int
  | 27 => .array .int
  | 28 => .int
  | 29 => .array .int
  | 30 => .array .int
  | 31 => .array .int
  | _ => .int
def classes : List vw_C := [(Rk0, Fk0, 9), (Rk1, Fk1, 17), (Rk2, Fk2, 4), (Rk3, Fk3, 6), (Rk4, Fk4, 3), (Rk5, Fk5, 5), (Rk6, Fk6, 33)]
def tks : List (Nat → FieldType) := [tk0, tk1, tk2, tk3, tk4, tk5, tk6]
def WALL : List Cond := lw_tbl.filter goodWord
def isNest : Cond → Bool
  | .methodLinkNest .. => true
  | .fieldLinkNest .. => true
  | _ => false
def NST : List Cond := lw_tbl.filter isNest
theorem w_in {w : Cond} (i : Nat) (h : lw_tbl[i]? = some w) (g : goodWord w = true) : w ∈ WALL := List.mem_filter.mpr ⟨List.mem_of_getElem? h, g⟩
theorem n_in {w : Cond} (i : Nat) (h : lw_tbl[i]? = some w) (g : isNest w = true) : w ∈ NST := List.mem_filter.mpr ⟨List.mem_of_getElem? h, g⟩
theorem nk0 : ∀ a, a < 9 → ∀ b, b < 9 → a ≠ b → (Fk0 a).2.1 ≠ (Fk0 b).2.1 := by decide +kernel
theorem ok0 : ∀ k, k < 9 → parseFieldDescriptor (Fk0 k).2.2.1 = some (tk0 k) := by decide +kernel
theorem lk0 : ∀ w ∈ u_ws Rk0 Fk0 9, w ∈ WALL := by
  intro w hw
  have e : u_ws Rk0 Fk0 9 = [274, 276, 278, 280, 282, 284, 286, 288, 290].filterMap (fun i => lw_tbl[i]?) := by decide +kernel
  have g : (u_ws Rk0 Fk0 9).all goodWord = true := by decide +kernel
  have g1 := List.all_eq_true.mp g w hw
  rw [e] at hw
  obtain ⟨i, -, hi⟩ := List.mem_filterMap.mp hw
  exact w_in i hi g1
theorem ik0 : Cond.instantiable Rk0 9 ∈ WALL ∧ Cond.initialized Rk0 ∈ WALL := ⟨w_in 89 (by decide +kernel) (by decide +kernel), w_in 74 (by decide +kernel) (by decide +kernel)⟩
theorem nk1 : ∀ a, a < 17 → ∀ b, b < 17 → a ≠ b → (Fk1 a).2.1 ≠ (Fk1 b).2.1 := by decide +kernel
theorem ok1 : ∀ k, k < 17 → parseFieldDescriptor (Fk1 k).2.2.1 = some (tk1 k) := by decide +kernel
theorem lk1 : ∀ w ∈ u_ws Rk1 Fk1 17, w ∈ WALL := by
  intro w hw
  have e : u_ws Rk1 Fk1 17 = [144, 146, 148, 150, 152, 154, 156, 158, 160, 162, 164, 166, 168, 170, 172, 174, 176].filterMap (fun i => lw_tbl[i]?) := by decide +kernel
  have g : (u_ws Rk1 Fk1 17).all goodWord = true := by decide +kernel
  have g1 := List.all_eq_true.mp g w hw
  rw [e] at hw
  obtain ⟨i, -, hi⟩ := List.mem_filterMap.mp hw
  exact w_in i hi g1
theorem ik1 : Cond.instantiable Rk1 17 ∈ WALL ∧ Cond.initialized Rk1 ∈ WALL := ⟨w_in 97 (by decide +kernel) (by decide +kernel), w_in 75 (by decide +kernel) (by decide +kernel)⟩
theorem nk2 : ∀ a, a < 4 → ∀ b, b < 4 → a ≠ b → (Fk2 a).2.1 ≠ (Fk2 b).2.1 := by decide +kernel
theorem ok2 : ∀ k, k < 4 → parseFieldDescriptor (Fk2 k).2.2.1 = some (tk2 k) := by decide +kernel
theorem lk2 : ∀ w ∈ u_ws Rk2 Fk2 4, w ∈ WALL := by
  intro w hw
  have e : u_ws Rk2 Fk2 4 = [190, 192, 194, 196].filterMap (fun i => lw_tbl[i]?) := by decide +kernel
  have g : (u_ws Rk2 Fk2 4).all goodWord = true := by decide +kernel
  have g1 := List.all_eq_true.mp g w hw
  rw [e] at hw
  obtain ⟨i, -, hi⟩ := List.mem_filterMap.mp hw
  exact w_in i hi g1
theorem ik2 : Cond.instantiable Rk2 4 ∈ WALL ∧ Cond.initialized Rk2 ∈ WALL := ⟨w_in 181 (by decide +kernel) (by decide +kernel), w_in 76 (by decide +kernel) (by decide +kernel)⟩
theorem nk3 : ∀ a, a < 6 → ∀ b, b < 6 → a ≠ b → (Fk3 a).2.1 ≠ (Fk3 b).2.1 := by decide +kernel
theorem ok3 : ∀ k, k < 6 → parseFieldDescriptor (Fk3 k).2.2.1 = some (tk3 k) := by decide +kernel
theorem lk3 : ∀ w ∈ u_ws Rk3 Fk3 6, w ∈ WALL := by
  intro w hw
  have e : u_ws Rk3 Fk3 6 = [213, 215, 217, 219, 221, 223].filterMap (fun i => lw_tbl[i]?) := by decide +kernel
  have g : (u_ws Rk3 Fk3 6).all goodWord = true := by decide +kernel
  have g1 := List.all_eq_true.mp g w hw
  rw [e] at hw
  obtain ⟨i, -, hi⟩ := List.mem_filterMap.mp hw
  exact w_in i hi g1
theorem ik3 : Cond.instantiable Rk3 6 ∈ WALL ∧ Cond.initialized Rk3 ∈ WALL := ⟨w_in 201 (by decide +kernel) (by decide +kernel), w_in 77 (by decide +kernel) (by decide +kernel)⟩
theorem nk4 : ∀ a, a < 3 → ∀ b, b < 3 → a ≠ b → (Fk4 a).2.1 ≠ (Fk4 b).2.1 := by decide +kernel
theorem ok4 : ∀ k, k < 3 → parseFieldDescriptor (Fk4 k).2.2.1 = some (tk4 k) := by decide +kernel
theorem lk4 : ∀ w ∈ u_ws Rk4 Fk4 3, w ∈ WALL := by
  intro w hw
  have e : u_ws Rk4 Fk4 3 = [235, 237, 239].filterMap (fun i => lw_tbl[i]?) := by decide +kernel
  have g : (u_ws Rk4 Fk4 3).all goodWord = true := by decide +kernel
  have g1 := List.all_eq_true.mp g w hw
  rw [e] at hw
  obtain ⟨i, -, hi⟩ := List.mem_filterMap.mp hw
  exact w_in i hi g1
theorem ik4 : Cond.instantiable Rk4 3 ∈ WALL ∧ Cond.initialized Rk4 ∈ WALL := ⟨w_in 227 (by decide +kernel) (by decide +kernel), w_in 78 (by decide +kernel) (by decide +kernel)⟩
theorem nk5 : ∀ a, a < 5 → ∀ b, b < 5 → a ≠ b → (Fk5 a).2.1 ≠ (Fk5 b).2.1 := by decide +kernel
theorem ok5 : ∀ k, k < 5 → parseFieldDescriptor (Fk5 k).2.2.1 = some (tk5 k) := by decide +kernel
theorem lk5 : ∀ w ∈ u_ws Rk5 Fk5 5, w ∈ WALL := by
  intro w hw
  have e : u_ws Rk5 Fk5 5 = [253, 255, 257, 259, 261].filterMap (fun i => lw_tbl[i]?) := by decide +kernel
  have g : (u_ws Rk5 Fk5 5).all goodWord = true := by decide +kernel
  have g1 := List.all_eq_true.mp g w hw
  rw [e] at hw
  obtain ⟨i, -, hi⟩ := List.mem_filterMap.mp hw
  exact w_in i hi g1
theorem ik5 : Cond.instantiable Rk5 5 ∈ WALL ∧ Cond.initialized Rk5 ∈ WALL := ⟨w_in 243 (by decide +kernel) (by decide +kernel), w_in 79 (by decide +kernel) (by decide +kernel)⟩
theorem nk6 : ∀ a, a < 33 → ∀ b, b < 33 → a ≠ b → (Fk6 a).2.1 ≠ (Fk6 b).2.1 := by decide +kernel
theorem ok6 : ∀ k, k < 33 → parseFieldDescriptor (Fk6 k).2.2.1 = some (tk6 k) := by decide +kernel
theorem lk6 : ∀ w ∈ u_ws Rk6 Fk6 33, w ∈ WALL := by
  intro w hw
  have e : u_ws Rk6 Fk6 33 = [1109, 1111, 1113, 1115, 1117, 1119, 1121, 1123, 1125, 1127, 1129, 1131, 1133, 1135, 1137, 1139, 1141, 1143, 1145, 1147, 1149, 1151, 1153, 1155, 1157, 1159, 1161, 1163, 1165, 1167, 1169, 1171, 1173].filterMap (fun i => lw_tbl[i]?) := by decide +kernel
  have g : (u_ws Rk6 Fk6 33).all goodWord = true := by decide +kernel
  have g1 := List.all_eq_true.mp g w hw
  rw [e] at hw
  obtain ⟨i, -, hi⟩ := List.mem_filterMap.mp hw
  exact w_in i hi g1
theorem ik6 : Cond.instantiable Rk6 33 ∈ WALL ∧ Cond.initialized Rk6 ∈ WALL := ⟨w_in 1067 (by decide +kernel) (by decide +kernel), w_in 80 (by decide +kernel) (by decide +kernel)⟩
