def mm_cnl : List String := ["ChairViews$Bench", "ChairViews$Chair", "ChairViews$Crown", "ChairViews$Glued", "ChairViews$House", "ChairViews$Reader", "ChairViews$Repaired", "ChairViews$Row", "ChairViews$Soaked", "ChairViews$Text", "ChairViews$Wet", "ChairViews", "ChairViewsModel", "ChairViewsLaw", "java/lang/String", "java/lang/StringLatin1", "java/lang/Integer", "java/util/Arrays"]
def mm_cn (o : Nat) : String := if o = 50 then "java/lang/String" else mm_cnl.getD o ""
def mm_ownl : List Nat := [13, 0, 0, 0, 1, 1, 1, 1, 1, 1, 1, 2, 2, 2, 2, 2, 3, 3, 3, 4, 4, 4, 4, 4, 4, 4, 4, 4, 4, 4, 4, 4, 4, 4, 4, 4, 4, 4, 4, 4, 5, 5, 5, 5, 5, 5, 5, 5, 5, 6, 6, 6, 7, 7, 7, 7, 7, 7, 7, 7, 7, 7, 7, 7, 8, 8, 8, 9, 9, 9, 9, 9, 10, 10, 10, 11, 11, 11, 11, 11, 11, 11, 11, 11, 11, 11, 11, 11, 11, 11, 11, 11, 11, 11, 11, 11, 11, 11, 11, 11, 11, 11, 11, 11, 11, 11, 11, 11, 11, 11, 11, 11, 11, 11, 11, 11, 11, 11, 11, 11, 11, 11, 11, 11, 11, 11, 11, 11, 11, 11, 11, 11, 11, 11, 11, 11, 12, 12, 12, 12, 12, 12, 12, 12, 12, 12, 12, 12, 12, 12, 12, 12, 12, 12, 12, 12, 12, 12, 12, 12, 12, 12, 12, 12, 12, 12, 12, 12, 12, 12, 12, 12, 12, 12, 12, 12, 12, 12, 12, 12, 12, 12, 12, 12, 12, 12, 12, 12, 12, 12, 12, 12, 12, 12, 12, 12, 12, 12, 12, 12, 12, 12, 12, 12, 12, 12, 12, 12, 12, 12, 12, 12, 12, 12, 12, 12, 12, 12, 12, 12, 12, 12, 12, 12, 12, 12, 12, 12, 12, 12, 12, 12, 12, 12, 12, 12, 12, 12, 12, 12, 12, 12, 12, 14, 14, 14, 14, 14, 15, 15, 15, 16, 17]
def mm_own (mid : Nat) : Nat := mm_ownl.getD mid 99
abbrev mm_ME : Type := MethodName × ByteArray × Nat × Option FieldType
def mm_law0 : mm_ME := (x, code, 4, some .boolean)
def mm_m1 : mm_ME := (⟨"ChairViews$Bench", "<init>", "(LChairViews$Row;)V"⟩, prog_2_method_1_code, 2, none)
def mm_m2 : mm_ME := (⟨"ChairViews$Bench", "heft", "(II)I"⟩, prog_2_method_2_code, 3, (Option.some FieldType.int))
def mm_m3 : mm_ME := (⟨"ChairViews$Bench", "weighsVoice", "(III)I"⟩, prog_2_method_3_code, 4, (Option.some FieldType.int))
def mm_m4 : mm_ME := (⟨"ChairViews$Chair", "<init>", "(LChairViews$Row;)V"⟩, prog_3_method_1_code, 2, none)
def mm_m5 : mm_ME := (⟨"ChairViews$Chair", "opinion", "(LChairViews$House;III)I"⟩, prog_3_method_2_code, 5, (Option.some FieldType.int))
def mm_m6 : mm_ME := (⟨"ChairViews$Chair", "heft", "(II)I"⟩, prog_3_method_3_code, 3, (Option.some FieldType.int))
def mm_m7 : mm_ME := (⟨"ChairViews$Chair", "saysVoice", "(III)I"⟩, prog_3_method_4_code, 4, (Option.some FieldType.int))
def mm_m8 : mm_ME := (⟨"ChairViews$Chair", "weighsVoice", "(III)I"⟩, prog_3_method_5_code, 4, (Option.some FieldType.int))
def mm_m9 : mm_ME := (⟨"ChairViews$Chair", "creaksVoice", "(III)I"⟩, prog_3_method_6_code, 4, (Option.some FieldType.int))
def mm_m10 : mm_ME := (⟨"ChairViews$Chair", "tellsVoice", "(III)I"⟩, prog_3_method_7_code, 4, (Option.some FieldType.int))
def mm_m11 : mm_ME := (⟨"ChairViews$Crown", "<init>", "(LChairViews$Row;)V"⟩, prog_4_method_1_code, 2, none)
def mm_m12 : mm_ME := (⟨"ChairViews$Crown", "opinion", "(LChairViews$House;III)I"⟩, prog_4_method_2_code, 5, (Option.some FieldType.int))
def mm_m13 : mm_ME := (⟨"ChairViews$Crown", "heft", "(II)I"⟩, prog_4_method_3_code, 3, (Option.some FieldType.int))
def mm_m14 : mm_ME := (⟨"ChairViews$Crown", "creaksVoice", "(III)I"⟩, prog_4_method_4_code, 4, (Option.some FieldType.int))
def mm_m15 : mm_ME := (⟨"ChairViews$Crown", "tellsVoice", "(III)I"⟩, prog_4_method_5_code, 4, (Option.some FieldType.int))
def mm_m16 : mm_ME := (⟨"ChairViews$Glued", "<init>", "(LChairViews$Row;)V"⟩, prog_5_method_1_code, 2, none)
def mm_m17 : mm_ME := (⟨"ChairViews$Glued", "opinion", "(LChairViews$House;III)I"⟩, prog_5_method_2_code, 6, (Option.some FieldType.int))
def mm_m18 : mm_ME := (⟨"ChairViews$Glued", "weighsVoice", "(III)I"⟩, prog_5_method_3_code, 4, (Option.some FieldType.int))
def mm_m19 : mm_ME := (⟨"ChairViews$House", "<init>", "([LChairViews$Chair;)V"⟩, prog_6_method_1_code, 2, none)
def mm_m20 : mm_ME := (⟨"ChairViews$House", "copyFrom", "(LChairViews$House;)V"⟩, prog_6_method_2_code, 2, none)
def mm_m21 : mm_ME := (⟨"ChairViews$House", "addChair", "(II)I"⟩, prog_6_method_3_code, 4, (Option.some FieldType.int))
def mm_m22 : mm_ME := (⟨"ChairViews$House", "addMember", "(I)I"⟩, prog_6_method_4_code, 3, (Option.some FieldType.int))
def mm_m23 : mm_ME := (⟨"ChairViews$House", "kindOf", "(I)LChairViews$Chair;"⟩, prog_6_method_5_code, 2, (Option.some (FieldType.object "ChairViews$Chair")))
def mm_m24 : mm_ME := (⟨"ChairViews$House", "sitterOf", "(I)I"⟩, prog_6_method_6_code, 3, (Option.some FieldType.int))
def mm_m25 : mm_ME := (⟨"ChairViews$House", "taken", "()I"⟩, prog_6_method_7_code, 3, (Option.some FieldType.int))
def mm_m26 : mm_ME := (⟨"ChairViews$House", "nextTo", "(I)I"⟩, prog_6_method_8_code, 2, (Option.some FieldType.int))
def mm_m27 : mm_ME := (⟨"ChairViews$House", "isFor", "(II)Z"⟩, prog_6_method_9_code, 3, (Option.some FieldType.boolean))
def mm_m28 : mm_ME := (⟨"ChairViews$House", "weigh", "(I)I"⟩, prog_6_method_10_code, 3, (Option.some FieldType.int))
def mm_m29 : mm_ME := (⟨"ChairViews$House", "weighAll", "()V"⟩, prog_6_method_11_code, 2, none)
def mm_m30 : mm_ME := (⟨"ChairViews$House", "weightOf", "(I)I"⟩, prog_6_method_12_code, 4, (Option.some FieldType.int))
def mm_m31 : mm_ME := (⟨"ChairViews$House", "opinionOf", "(III)I"⟩, prog_6_method_13_code, 4, (Option.some FieldType.int))
def mm_m32 : mm_ME := (⟨"ChairViews$House", "weightSaying", "(II)I"⟩, prog_6_method_14_code, 6, (Option.some FieldType.int))
def mm_m33 : mm_ME := (⟨"ChairViews$House", "margin", "(II)I"⟩, prog_6_method_15_code, 5, (Option.some FieldType.int))
def mm_m34 : mm_ME := (⟨"ChairViews$House", "runAll", "()V"⟩, prog_6_method_16_code, 6, none)
def mm_m35 : mm_ME := (⟨"ChairViews$House", "fastestBut", "(I)I"⟩, prog_6_method_17_code, 5, (Option.some FieldType.int))
def mm_m36 : mm_ME := (⟨"ChairViews$House", "dearestTo", "(II)I"⟩, prog_6_method_18_code, 8, (Option.some FieldType.int))
def mm_m37 : mm_ME := (⟨"ChairViews$House", "holdSitting", "()V"⟩, prog_6_method_19_code, 3, none)
def mm_m38 : mm_ME := (⟨"ChairViews$House", "drawSpeed", "()V"⟩, prog_6_method_20_code, 2, none)
def mm_m39 : mm_ME := (⟨"ChairViews$House", "draw", "()I"⟩, prog_6_method_21_code, 1, (Option.some FieldType.int))
def mm_m40 : mm_ME := (⟨"ChairViews$Reader", "<init>", "()V"⟩, prog_7_method_1_code, 1, none)
def mm_m41 : mm_ME := (⟨"ChairViews$Reader", "faultOf", "(LChairViews$Row;Ljava/lang/String;)I"⟩, prog_7_method_2_code, 3, (Option.some FieldType.int))
def mm_m42 : mm_ME := (⟨"ChairViews$Reader", "nextByte", "()I"⟩, prog_7_method_3_code, 1, (Option.some FieldType.int))
def mm_m43 : mm_ME := (⟨"ChairViews$Reader", "readLevel", "(II)V"⟩, prog_7_method_4_code, 6, none)
def mm_m44 : mm_ME := (⟨"ChairViews$Reader", "levelOf", "(I)I"⟩, prog_7_method_5_code, 1, (Option.some FieldType.int))
def mm_m45 : mm_ME := (⟨"ChairViews$Reader", "readOperand", "(I)V"⟩, prog_7_method_6_code, 4, none)
def mm_m46 : mm_ME := (⟨"ChairViews$Reader", "readNumber", "()V"⟩, prog_7_method_7_code, 3, none)
def mm_m47 : mm_ME := (⟨"ChairViews$Reader", "readClosing", "()V"⟩, prog_7_method_8_code, 1, none)
def mm_m48 : mm_ME := (⟨"ChairViews$Reader", "isDigit", "(I)Z"⟩, prog_7_method_9_code, 1, (Option.some FieldType.boolean))
def mm_m49 : mm_ME := (⟨"ChairViews$Repaired", "<init>", "(LChairViews$Row;)V"⟩, prog_8_method_1_code, 2, none)
def mm_m50 : mm_ME := (⟨"ChairViews$Repaired", "opinion", "(LChairViews$House;III)I"⟩, prog_8_method_2_code, 6, (Option.some FieldType.int))
def mm_m51 : mm_ME := (⟨"ChairViews$Repaired", "creaksVoice", "(III)I"⟩, prog_8_method_3_code, 4, (Option.some FieldType.int))
def mm_m52 : mm_ME := (⟨"ChairViews$Row", "<init>", "(II)V"⟩, prog_9_method_1_code, 3, none)
def mm_m53 : mm_ME := (⟨"ChairViews$Row", "has", "(I)Z"⟩, prog_9_method_2_code, 2, (Option.some FieldType.boolean))
def mm_m54 : mm_ME := (⟨"ChairViews$Row", "spans", "(II)Z"⟩, prog_9_method_3_code, 3, (Option.some FieldType.boolean))
def mm_m55 : mm_ME := (⟨"ChairViews$Row", "get", "(I)I"⟩, prog_9_method_4_code, 2, (Option.some FieldType.int))
def mm_m56 : mm_ME := (⟨"ChairViews$Row", "set", "(II)V"⟩, prog_9_method_5_code, 3, none)
def mm_m57 : mm_ME := (⟨"ChairViews$Row", "add", "(I)V"⟩, prog_9_method_6_code, 2, none)
def mm_m58 : mm_ME := (⟨"ChairViews$Row", "addUnlessThere", "(I)V"⟩, prog_9_method_7_code, 3, none)
def mm_m59 : mm_ME := (⟨"ChairViews$Row", "clear", "()V"⟩, prog_9_method_8_code, 1, none)
def mm_m60 : mm_ME := (⟨"ChairViews$Row", "shape", "(II)V"⟩, prog_9_method_9_code, 3, none)
def mm_m61 : mm_ME := (⟨"ChairViews$Row", "copyFrom", "(LChairViews$Row;)V"⟩, prog_9_method_10_code, 2, none)
def mm_m62 : mm_ME := (⟨"ChairViews$Row", "take", "(LChairViews$Row;III)V"⟩, prog_9_method_11_code, 5, none)
def mm_m63 : mm_ME := (⟨"ChairViews$Row", "cutToBits", "(I)I"⟩, prog_9_method_12_code, 2, (Option.some FieldType.int))
def mm_m64 : mm_ME := (⟨"ChairViews$Soaked", "<init>", "(LChairViews$Row;)V"⟩, prog_10_method_1_code, 2, none)
def mm_m65 : mm_ME := (⟨"ChairViews$Soaked", "opinion", "(LChairViews$House;III)I"⟩, prog_10_method_2_code, 5, (Option.some FieldType.int))
def mm_m66 : mm_ME := (⟨"ChairViews$Soaked", "tellsVoice", "(III)I"⟩, prog_10_method_3_code, 4, (Option.some FieldType.int))
def mm_m67 : mm_ME := (⟨"ChairViews$Text", "<init>", "([III)V"⟩, prog_11_method_1_code, 5, none)
def mm_m68 : mm_ME := (⟨"ChairViews$Text", "gives", "(III)I"⟩, prog_11_method_2_code, 7, (Option.some FieldType.int))
def mm_m69 : mm_ME := (⟨"ChairViews$Text", "valueOf", "(IIII)I"⟩, prog_11_method_3_code, 4, (Option.some FieldType.int))
def mm_m70 : mm_ME := (⟨"ChairViews$Text", "join", "(III)I"⟩, prog_11_method_4_code, 3, (Option.some FieldType.int))
def mm_m71 : mm_ME := (⟨"ChairViews$Text", "oneIf", "(Z)I"⟩, prog_11_method_5_code, 1, (Option.some FieldType.int))
def mm_m72 : mm_ME := (⟨"ChairViews$Wet", "<init>", "(LChairViews$Row;)V"⟩, prog_12_method_1_code, 2, none)
def mm_m73 : mm_ME := (⟨"ChairViews$Wet", "opinion", "(LChairViews$House;III)I"⟩, prog_12_method_2_code, 5, (Option.some FieldType.int))
def mm_m74 : mm_ME := (⟨"ChairViews$Wet", "saysVoice", "(III)I"⟩, prog_12_method_3_code, 4, (Option.some FieldType.int))
def mm_m75 : mm_ME := (⟨"ChairViews", "<init>", "()V"⟩, prog_1_method_1_code, 1, none)
def mm_m76 : mm_ME := (⟨"ChairViews", "chair", "(II)I"⟩, prog_1_method_2_code, 3, (Option.some FieldType.int))
def mm_m77 : mm_ME := (⟨"ChairViews", "ofChair", "(II)I"⟩, prog_1_method_3_code, 3, (Option.some FieldType.int))
def mm_m78 : mm_ME := (⟨"ChairViews", "stuff", "(III)I"⟩, prog_1_method_4_code, 6, (Option.some FieldType.int))
def mm_m79 : mm_ME := (⟨"ChairViews", "become", "(II)I"⟩, prog_1_method_5_code, 4, (Option.some FieldType.int))
def mm_m80 : mm_ME := (⟨"ChairViews", "as", "(II)I"⟩, prog_1_method_6_code, 3, (Option.some FieldType.int))
def mm_m81 : mm_ME := (⟨"ChairViews", "member", "(I)I"⟩, prog_1_method_7_code, 2, (Option.some FieldType.int))
def mm_m82 : mm_ME := (⟨"ChairViews", "ofMember", "(II)I"⟩, prog_1_method_8_code, 3, (Option.some FieldType.int))
def mm_m83 : mm_ME := (⟨"ChairViews", "change", "(III)I"⟩, prog_1_method_9_code, 6, (Option.some FieldType.int))
def mm_m84 : mm_ME := (⟨"ChairViews", "sit", "(II)I"⟩, prog_1_method_10_code, 4, (Option.some FieldType.int))
def mm_m85 : mm_ME := (⟨"ChairViews", "feed", "(JI)I"⟩, prog_1_method_11_code, 5, (Option.some FieldType.int))
def mm_m86 : mm_ME := (⟨"ChairViews", "text", "(I)I"⟩, prog_1_method_12_code, 3, (Option.some FieldType.int))
def mm_m87 : mm_ME := (⟨"ChairViews", "law", "(IIII)I"⟩, prog_1_method_13_code, 5, (Option.some FieldType.int))
def mm_m88 : mm_ME := (⟨"ChairViews", "vote", "(II)I"⟩, prog_1_method_14_code, 3, (Option.some FieldType.int))
def mm_m89 : mm_ME := (⟨"ChairViews", "says", "(II)I"⟩, prog_1_method_15_code, 3, (Option.some FieldType.int))
def mm_m90 : mm_ME := (⟨"ChairViews", "run", "()I"⟩, prog_1_method_16_code, 1, (Option.some FieldType.int))
def mm_m91 : mm_ME := (⟨"ChairViews", "sittings", "(I)I"⟩, prog_1_method_17_code, 3, (Option.some FieldType.int))
def mm_m92 : mm_ME := (⟨"ChairViews", "loose", "(I)I"⟩, prog_1_method_18_code, 3, (Option.some FieldType.int))
def mm_m93 : mm_ME := (⟨"ChairViews", "then", "(II)I"⟩, prog_1_method_19_code, 4, (Option.some FieldType.int))
def mm_m94 : mm_ME := (⟨"ChairViews", "when", "(I)I"⟩, prog_1_method_20_code, 3, (Option.some FieldType.int))
def mm_m95 : mm_ME := (⟨"ChairViews", "turning", "(I)I"⟩, prog_1_method_21_code, 6, (Option.some FieldType.int))
def mm_m96 : mm_ME := (⟨"ChairViews", "moves", "(I)I"⟩, prog_1_method_22_code, 7, (Option.some FieldType.int))
def mm_m97 : mm_ME := (⟨"ChairViews", "power", "(I)I"⟩, prog_1_method_23_code, 9, (Option.some FieldType.int))
def mm_m98 : mm_ME := (⟨"ChairViews", "fits", "(II)I"⟩, prog_1_method_24_code, 7, (Option.some FieldType.int))
def mm_m99 : mm_ME := (⟨"ChairViews", "parts", "(I)I"⟩, prog_1_method_25_code, 7, (Option.some FieldType.int))
def mm_m100 : mm_ME := (⟨"ChairViews", "faster", "(II)I"⟩, prog_1_method_26_code, 4, (Option.some FieldType.int))
def mm_m101 : mm_ME := (⟨"ChairViews", "seatless", "()I"⟩, prog_1_method_27_code, 3, (Option.some FieldType.int))
def mm_m102 : mm_ME := (⟨"ChairViews", "seed", "(I)I"⟩, prog_1_method_28_code, 3, (Option.some FieldType.int))
def mm_m103 : mm_ME := (⟨"ChairViews", "voice", "(III)I"⟩, prog_1_method_29_code, 6, (Option.some FieldType.int))
def mm_m104 : mm_ME := (⟨"ChairViews", "trace", "(I)I"⟩, prog_1_method_30_code, 2, (Option.some FieldType.int))
def mm_m105 : mm_ME := (⟨"ChairViews", "sheet", "(III)I"⟩, prog_1_method_31_code, 4, (Option.some FieldType.int))
def mm_m106 : mm_ME := (⟨"ChairViews", "put", "(III)I"⟩, prog_1_method_32_code, 4, (Option.some FieldType.int))
def mm_m107 : mm_ME := (⟨"ChairViews", "move", "(IIIII)I"⟩, prog_1_method_33_code, 8, (Option.some FieldType.int))
def mm_m108 : mm_ME := (⟨"ChairViews", "speeds", "(I)I"⟩, prog_1_method_34_code, 5, (Option.some FieldType.int))
def mm_m109 : mm_ME := (⟨"ChairViews", "judge", "(I)I"⟩, prog_1_method_35_code, 5, (Option.some FieldType.int))
def mm_m110 : mm_ME := (⟨"ChairViews", "image", "()I"⟩, prog_1_method_36_code, 1, (Option.some FieldType.int))
def mm_m111 : mm_ME := (⟨"ChairViews", "restore", "()I"⟩, prog_1_method_37_code, 1, (Option.some FieldType.int))
def mm_m112 : mm_ME := (⟨"ChairViews", "tell", "(I)I"⟩, prog_1_method_38_code, 2, (Option.some FieldType.int))
def mm_m113 : mm_ME := (⟨"ChairViews", "check", "()I"⟩, prog_1_method_39_code, 2, (Option.some FieldType.int))
def mm_m114 : mm_ME := (⟨"ChairViews", "count", "(I)I"⟩, prog_1_method_40_code, 2, (Option.some FieldType.int))
def mm_m115 : mm_ME := (⟨"ChairViews", "told", "(I)I"⟩, prog_1_method_41_code, 2, (Option.some FieldType.int))
def mm_m116 : mm_ME := (⟨"ChairViews", "error", "(I)I"⟩, prog_1_method_42_code, 3, (Option.some FieldType.int))
def mm_m117 : mm_ME := (⟨"ChairViews", "isWithin", "(III)Z"⟩, prog_1_method_43_code, 3, (Option.some FieldType.boolean))
def mm_m118 : mm_ME := (⟨"ChairViews", "isBill", "(I)Z"⟩, prog_1_method_44_code, 1, (Option.some FieldType.boolean))
def mm_m119 : mm_ME := (⟨"ChairViews", "isSetOfBills", "(I)Z"⟩, prog_1_method_45_code, 1, (Option.some FieldType.boolean))
def mm_m120 : mm_ME := (⟨"ChairViews", "isSpeed", "(I)Z"⟩, prog_1_method_46_code, 1, (Option.some FieldType.boolean))
def mm_m121 : mm_ME := (⟨"ChairViews", "isKindAndNumber", "(I)Z"⟩, prog_1_method_47_code, 1, (Option.some FieldType.boolean))
def mm_m122 : mm_ME := (⟨"ChairViews", "isUse", "(I)Z"⟩, prog_1_method_48_code, 1, (Option.some FieldType.boolean))
def mm_m123 : mm_ME := (⟨"ChairViews", "isSheet", "(I)Z"⟩, prog_1_method_49_code, 1, (Option.some FieldType.boolean))
def mm_m124 : mm_ME := (⟨"ChairViews", "isBits", "(I)Z"⟩, prog_1_method_50_code, 1, (Option.some FieldType.boolean))
def mm_m125 : mm_ME := (⟨"ChairViews", "isIn", "(II)Z"⟩, prog_1_method_51_code, 2, (Option.some FieldType.boolean))
def mm_m126 : mm_ME := (⟨"ChairViews", "isChair", "(I)Z"⟩, prog_1_method_52_code, 2, (Option.some FieldType.boolean))
def mm_m127 : mm_ME := (⟨"ChairViews", "isMember", "(I)Z"⟩, prog_1_method_53_code, 2, (Option.some FieldType.boolean))
def mm_m128 : mm_ME := (⟨"ChairViews", "isMissing", "(I)Z"⟩, prog_1_method_54_code, 2, (Option.some FieldType.boolean))
def mm_m129 : mm_ME := (⟨"ChairViews", "isUnder", "(II)Z"⟩, prog_1_method_55_code, 4, (Option.some FieldType.boolean))
def mm_m130 : mm_ME := (⟨"ChairViews", "textOf", "(I)LChairViews$Text;"⟩, prog_1_method_56_code, 2, (Option.some (FieldType.object "ChairViews$Text")))
def mm_m131 : mm_ME := (⟨"ChairViews", "passesTurned", "(II)Z"⟩, prog_1_method_57_code, 4, (Option.some FieldType.boolean))
def mm_m132 : mm_ME := (⟨"ChairViews", "turnCushions", "(II)V"⟩, prog_1_method_58_code, 4, none)
def mm_m133 : mm_ME := (⟨"ChairViews", "moversBetween", "(II)I"⟩, prog_1_method_59_code, 2, (Option.some FieldType.int))
def mm_m134 : mm_ME := (⟨"ChairViews", "allWentSo", "(LChairViews$Row;I)Z"⟩, prog_1_method_60_code, 4, (Option.some FieldType.boolean))
def mm_m135 : mm_ME := (⟨"ChairViews", "unlikeMargins", "(II)I"⟩, prog_1_method_61_code, 4, (Option.some FieldType.int))
def mm_m136 : mm_ME := (⟨"ChairViewsModel", "<init>", "()V"⟩, prog_14_method_1_code, 1, none)
def mm_m137 : mm_ME := (⟨"ChairViewsModel", "error", "(I)I"⟩, prog_14_method_2_code, 2, (Option.some FieldType.int))
def mm_m138 : mm_ME := (⟨"ChairViewsModel", "in", "(III)Z"⟩, prog_14_method_3_code, 3, (Option.some FieldType.boolean))
def mm_m139 : mm_ME := (⟨"ChairViewsModel", "held", "(III)I"⟩, prog_14_method_4_code, 3, (Option.some FieldType.int))
def mm_m140 : mm_ME := (⟨"ChairViewsModel", "copyAll", "([I[I)V"⟩, prog_14_method_5_code, 3, none)
def mm_m141 : mm_ME := (⟨"ChairViewsModel", "bits", "(I)I"⟩, prog_14_method_6_code, 3, (Option.some FieldType.int))
def mm_m142 : mm_ME := (⟨"ChairViewsModel", "isChair", "(I)Z"⟩, prog_14_method_7_code, 2, (Option.some FieldType.boolean))
def mm_m143 : mm_ME := (⟨"ChairViewsModel", "isMember", "(I)Z"⟩, prog_14_method_8_code, 2, (Option.some FieldType.boolean))
def mm_m144 : mm_ME := (⟨"ChairViewsModel", "isBill", "(I)Z"⟩, prog_14_method_9_code, 1, (Option.some FieldType.boolean))
def mm_m145 : mm_ME := (⟨"ChairViewsModel", "becomes", "(II)I"⟩, prog_14_method_10_code, 4, (Option.some FieldType.int))
def mm_m146 : mm_ME := (⟨"ChairViewsModel", "of", "(II)I"⟩, prog_14_method_11_code, 3, (Option.some FieldType.int))
def mm_m147 : mm_ME := (⟨"ChairViewsModel", "about", "(II)I"⟩, prog_14_method_12_code, 3, (Option.some FieldType.int))
def mm_m148 : mm_ME := (⟨"ChairViewsModel", "lets", "(III)V"⟩, prog_14_method_13_code, 4, none)
def mm_m149 : mm_ME := (⟨"ChairViewsModel", "whoAt", "(I)I"⟩, prog_14_method_14_code, 3, (Option.some FieldType.int))
def mm_m150 : mm_ME := (⟨"ChairViewsModel", "taken", "()I"⟩, prog_14_method_15_code, 3, (Option.some FieldType.int))
def mm_m151 : mm_ME := (⟨"ChairViewsModel", "isFor", "(II)Z"⟩, prog_14_method_16_code, 3, (Option.some FieldType.boolean))
def mm_m152 : mm_ME := (⟨"ChairViewsModel", "plainSays", "(II)I"⟩, prog_14_method_17_code, 3, (Option.some FieldType.int))
def mm_m153 : mm_ME := (⟨"ChairViewsModel", "repairedSays", "(II)I"⟩, prog_14_method_18_code, 3, (Option.some FieldType.int))
def mm_m154 : mm_ME := (⟨"ChairViewsModel", "saysOf", "(III)I"⟩, prog_14_method_19_code, 5, (Option.some FieldType.int))
def mm_m155 : mm_ME := (⟨"ChairViewsModel", "weightOf", "(I)I"⟩, prog_14_method_20_code, 3, (Option.some FieldType.int))
def mm_m156 : mm_ME := (⟨"ChairViewsModel", "weighing", "(III)I"⟩, prog_14_method_21_code, 6, (Option.some FieldType.int))
def mm_m157 : mm_ME := (⟨"ChairViewsModel", "marginOf", "(II)I"⟩, prog_14_method_22_code, 3, (Option.some FieldType.int))
def mm_m158 : mm_ME := (⟨"ChairViewsModel", "doesPass", "(I)Z"⟩, prog_14_method_23_code, 2, (Option.some FieldType.boolean))
def mm_m159 : mm_ME := (⟨"ChairViewsModel", "isKm", "(I)Z"⟩, prog_14_method_24_code, 1, (Option.some FieldType.boolean))
def mm_m160 : mm_ME := (⟨"ChairViewsModel", "chair", "(II)I"⟩, prog_14_method_25_code, 4, (Option.some FieldType.int))
def mm_m161 : mm_ME := (⟨"ChairViewsModel", "ofChair", "(II)I"⟩, prog_14_method_26_code, 3, (Option.some FieldType.int))
def mm_m162 : mm_ME := (⟨"ChairViewsModel", "stuff", "(III)I"⟩, prog_14_method_27_code, 4, (Option.some FieldType.int))
def mm_m163 : mm_ME := (⟨"ChairViewsModel", "become", "(II)I"⟩, prog_14_method_28_code, 3, (Option.some FieldType.int))
def mm_m164 : mm_ME := (⟨"ChairViewsModel", "isUnder", "(II)Z"⟩, prog_14_method_29_code, 2, (Option.some FieldType.boolean))
def mm_m165 : mm_ME := (⟨"ChairViewsModel", "as", "(II)I"⟩, prog_14_method_30_code, 3, (Option.some FieldType.int))
def mm_m166 : mm_ME := (⟨"ChairViewsModel", "member", "(I)I"⟩, prog_14_method_31_code, 3, (Option.some FieldType.int))
def mm_m167 : mm_ME := (⟨"ChairViewsModel", "ofMember", "(II)I"⟩, prog_14_method_32_code, 3, (Option.some FieldType.int))
def mm_m168 : mm_ME := (⟨"ChairViewsModel", "change", "(III)I"⟩, prog_14_method_33_code, 5, (Option.some FieldType.int))
def mm_m169 : mm_ME := (⟨"ChairViewsModel", "sit", "(II)I"⟩, prog_14_method_34_code, 4, (Option.some FieldType.int))
def mm_m170 : mm_ME := (⟨"ChairViewsModel", "feed", "(JI)I"⟩, prog_14_method_35_code, 5, (Option.some FieldType.int))
def mm_m171 : mm_ME := (⟨"ChairViewsModel", "look", "()I"⟩, prog_14_method_36_code, 1, (Option.some FieldType.int))
def mm_m172 : mm_ME := (⟨"ChairViewsModel", "step", "(II)V"⟩, prog_14_method_37_code, 3, none)
def mm_m173 : mm_ME := (⟨"ChairViewsModel", "nameOf", "(I)I"⟩, prog_14_method_38_code, 2, (Option.some FieldType.int))
def mm_m174 : mm_ME := (⟨"ChairViewsModel", "number", "()V"⟩, prog_14_method_39_code, 3, none)
def mm_m175 : mm_ME := (⟨"ChairViewsModel", "opens", "(I)V"⟩, prog_14_method_40_code, 2, none)
def mm_m176 : mm_ME := (⟨"ChairViewsModel", "one", "()V"⟩, prog_14_method_41_code, 3, none)
def mm_m177 : mm_ME := (⟨"ChairViewsModel", "times", "()V"⟩, prog_14_method_42_code, 2, none)
def mm_m178 : mm_ME := (⟨"ChairViewsModel", "sum", "()V"⟩, prog_14_method_43_code, 2, none)
def mm_m179 : mm_ME := (⟨"ChairViewsModel", "compares", "()V"⟩, prog_14_method_44_code, 2, none)
def mm_m180 : mm_ME := (⟨"ChairViewsModel", "all", "()V"⟩, prog_14_method_45_code, 1, none)
def mm_m181 : mm_ME := (⟨"ChairViewsModel", "any", "()V"⟩, prog_14_method_46_code, 1, none)
def mm_m182 : mm_ME := (⟨"ChairViewsModel", "text", "(I)I"⟩, prog_14_method_47_code, 4, (Option.some FieldType.int))
def mm_m183 : mm_ME := (⟨"ChairViewsModel", "twoOf", "(III)I"⟩, prog_14_method_48_code, 3, (Option.some FieldType.int))
def mm_m184 : mm_ME := (⟨"ChairViewsModel", "works", "(I)I"⟩, prog_14_method_49_code, 5, (Option.some FieldType.int))
def mm_m185 : mm_ME := (⟨"ChairViewsModel", "gives", "(IIII)I"⟩, prog_14_method_50_code, 7, (Option.some FieldType.int))
def mm_m186 : mm_ME := (⟨"ChairViewsModel", "law", "(IIII)I"⟩, prog_14_method_51_code, 5, (Option.some FieldType.int))
def mm_m187 : mm_ME := (⟨"ChairViewsModel", "vote", "(II)I"⟩, prog_14_method_52_code, 3, (Option.some FieldType.int))
def mm_m188 : mm_ME := (⟨"ChairViewsModel", "says", "(II)I"⟩, prog_14_method_53_code, 3, (Option.some FieldType.int))
def mm_m189 : mm_ME := (⟨"ChairViewsModel", "fastest", "(I)I"⟩, prog_14_method_54_code, 5, (Option.some FieldType.int))
def mm_m190 : mm_ME := (⟨"ChairViewsModel", "zealOf", "(II)I"⟩, prog_14_method_55_code, 3, (Option.some FieldType.int))
def mm_m191 : mm_ME := (⟨"ChairViewsModel", "takes", "(II)I"⟩, prog_14_method_56_code, 8, (Option.some FieldType.int))
def mm_m192 : mm_ME := (⟨"ChairViewsModel", "runs", "()V"⟩, prog_14_method_57_code, 5, none)
def mm_m193 : mm_ME := (⟨"ChairViewsModel", "run", "()I"⟩, prog_14_method_58_code, 1, (Option.some FieldType.int))
def mm_m194 : mm_ME := (⟨"ChairViewsModel", "sitting", "()V"⟩, prog_14_method_59_code, 3, none)
def mm_m195 : mm_ME := (⟨"ChairViewsModel", "goesOn", "(I)V"⟩, prog_14_method_60_code, 3, none)
def mm_m196 : mm_ME := (⟨"ChairViewsModel", "sittings", "(I)I"⟩, prog_14_method_61_code, 2, (Option.some FieldType.int))
def mm_m197 : mm_ME := (⟨"ChairViewsModel", "draw", "()I"⟩, prog_14_method_62_code, 1, (Option.some FieldType.int))
def mm_m198 : mm_ME := (⟨"ChairViewsModel", "loose", "(I)I"⟩, prog_14_method_63_code, 4, (Option.some FieldType.int))
def mm_m199 : mm_ME := (⟨"ChairViewsModel", "thinks", "()V"⟩, prog_14_method_64_code, 1, none)
def mm_m200 : mm_ME := (⟨"ChairViewsModel", "putsBack", "()V"⟩, prog_14_method_65_code, 1, none)
def mm_m201 : mm_ME := (⟨"ChairViewsModel", "then", "(II)I"⟩, prog_14_method_66_code, 4, (Option.some FieldType.int))
def mm_m202 : mm_ME := (⟨"ChairViewsModel", "when", "(I)I"⟩, prog_14_method_67_code, 3, (Option.some FieldType.int))
def mm_m203 : mm_ME := (⟨"ChairViewsModel", "turning", "(I)I"⟩, prog_14_method_68_code, 6, (Option.some FieldType.int))
def mm_m204 : mm_ME := (⟨"ChairViewsModel", "canPass", "(II)Z"⟩, prog_14_method_69_code, 7, (Option.some FieldType.boolean))
def mm_m205 : mm_ME := (⟨"ChairViewsModel", "moves", "(I)I"⟩, prog_14_method_70_code, 3, (Option.some FieldType.int))
def mm_m206 : mm_ME := (⟨"ChairViewsModel", "weightAll", "(I)I"⟩, prog_14_method_71_code, 4, (Option.some FieldType.int))
def mm_m207 : mm_ME := (⟨"ChairViewsModel", "power", "(I)I"⟩, prog_14_method_72_code, 9, (Option.some FieldType.int))
def mm_m208 : mm_ME := (⟨"ChairViewsModel", "isFit", "(II)Z"⟩, prog_14_method_73_code, 5, (Option.some FieldType.boolean))
def mm_m209 : mm_ME := (⟨"ChairViewsModel", "fits", "(II)I"⟩, prog_14_method_74_code, 6, (Option.some FieldType.int))
def mm_m210 : mm_ME := (⟨"ChairViewsModel", "isFirst", "(III)Z"⟩, prog_14_method_75_code, 7, (Option.some FieldType.boolean))
def mm_m211 : mm_ME := (⟨"ChairViewsModel", "unlike", "(I)I"⟩, prog_14_method_76_code, 5, (Option.some FieldType.int))
def mm_m212 : mm_ME := (⟨"ChairViewsModel", "parts", "(I)I"⟩, prog_14_method_77_code, 6, (Option.some FieldType.int))
def mm_m213 : mm_ME := (⟨"ChairViewsModel", "faster", "(II)I"⟩, prog_14_method_78_code, 5, (Option.some FieldType.int))
def mm_m214 : mm_ME := (⟨"ChairViewsModel", "seatless", "()I"⟩, prog_14_method_79_code, 3, (Option.some FieldType.int))
def mm_m215 : mm_ME := (⟨"ChairViewsModel", "seed", "(I)I"⟩, prog_14_method_80_code, 2, (Option.some FieldType.int))
def mm_m216 : mm_ME := (⟨"ChairViewsModel", "begins", "(I)V"⟩, prog_14_method_81_code, 2, none)
def mm_m217 : mm_ME := (⟨"ChairViewsModel", "plainSpeaks", "(II)I"⟩, prog_14_method_82_code, 3, (Option.some FieldType.int))
def mm_m218 : mm_ME := (⟨"ChairViewsModel", "speaks", "(II)I"⟩, prog_14_method_83_code, 4, (Option.some FieldType.int))
def mm_m219 : mm_ME := (⟨"ChairViewsModel", "plainWeighs", "(II)I"⟩, prog_14_method_84_code, 3, (Option.some FieldType.int))
def mm_m220 : mm_ME := (⟨"ChairViewsModel", "gluedWeighs", "(II)I"⟩, prog_14_method_85_code, 4, (Option.some FieldType.int))
def mm_m221 : mm_ME := (⟨"ChairViewsModel", "weighs", "(II)I"⟩, prog_14_method_86_code, 4, (Option.some FieldType.int))
def mm_m222 : mm_ME := (⟨"ChairViewsModel", "plainCreaks", "(II)I"⟩, prog_14_method_87_code, 3, (Option.some FieldType.int))
def mm_m223 : mm_ME := (⟨"ChairViewsModel", "repairedCreaks", "(II)I"⟩, prog_14_method_88_code, 3, (Option.some FieldType.int))
def mm_m224 : mm_ME := (⟨"ChairViewsModel", "creaks", "(II)I"⟩, prog_14_method_89_code, 4, (Option.some FieldType.int))
def mm_m225 : mm_ME := (⟨"ChairViewsModel", "plainTells", "(II)I"⟩, prog_14_method_90_code, 4, (Option.some FieldType.int))
def mm_m226 : mm_ME := (⟨"ChairViewsModel", "tells", "(II)I"⟩, prog_14_method_91_code, 5, (Option.some FieldType.int))
def mm_m227 : mm_ME := (⟨"ChairViewsModel", "voice", "(III)I"⟩, prog_14_method_92_code, 4, (Option.some FieldType.int))
def mm_m228 : mm_ME := (⟨"ChairViewsModel", "trace", "(I)I"⟩, prog_14_method_93_code, 2, (Option.some FieldType.int))
def mm_m229 : mm_ME := (⟨"ChairViewsModel", "isSheet", "(I)Z"⟩, prog_14_method_94_code, 1, (Option.some FieldType.boolean))
def mm_m230 : mm_ME := (⟨"ChairViewsModel", "sheet", "(III)I"⟩, prog_14_method_95_code, 5, (Option.some FieldType.int))
def mm_m231 : mm_ME := (⟨"ChairViewsModel", "notThere", "(I)I"⟩, prog_14_method_96_code, 2, (Option.some FieldType.int))
def mm_m232 : mm_ME := (⟨"ChairViewsModel", "put", "(III)I"⟩, prog_14_method_97_code, 5, (Option.some FieldType.int))
def mm_m233 : mm_ME := (⟨"ChairViewsModel", "notMoved", "(IIIII)I"⟩, prog_14_method_98_code, 7, (Option.some FieldType.int))
def mm_m234 : mm_ME := (⟨"ChairViewsModel", "move", "(IIIII)I"⟩, prog_14_method_99_code, 9, (Option.some FieldType.int))
def mm_m235 : mm_ME := (⟨"ChairViewsModel", "speeds", "(I)I"⟩, prog_14_method_100_code, 4, (Option.some FieldType.int))
def mm_m236 : mm_ME := (⟨"ChairViewsModel", "judge", "(I)I"⟩, prog_14_method_101_code, 4, (Option.some FieldType.int))
def mm_m237 : mm_ME := (⟨"ChairViewsModel", "image", "()I"⟩, prog_14_method_102_code, 1, (Option.some FieldType.int))
def mm_m238 : mm_ME := (⟨"ChairViewsModel", "restore", "()I"⟩, prog_14_method_103_code, 1, (Option.some FieldType.int))
def mm_m239 : mm_ME := (⟨"ChairViewsModel", "tell", "(I)I"⟩, prog_14_method_104_code, 2, (Option.some FieldType.int))
def mm_m240 : mm_ME := (⟨"ChairViewsModel", "check", "()I"⟩, prog_14_method_105_code, 4, (Option.some FieldType.int))
def mm_m241 : mm_ME := (⟨"ChairViewsModel", "count", "(I)I"⟩, prog_14_method_106_code, 2, (Option.some FieldType.int))
def mm_m242 : mm_ME := (⟨"ChairViewsModel", "told", "(I)I"⟩, prog_14_method_107_code, 2, (Option.some FieldType.int))
def mm_m243 : mm_ME := (⟨"java/lang/String", "length", "()I"⟩, prog_18_method_54_code, 1, (Option.some FieldType.int))
def mm_m244 : mm_ME := (⟨"java/lang/String", "indexOf", "(I)I"⟩, prog_18_method_79_code, 2, (Option.some FieldType.int))
def mm_m245 : mm_ME := (⟨"java/lang/String", "indexOf", "(II)I"⟩, prog_18_method_80_code, 3, (Option.some FieldType.int))
def mm_m246 : mm_ME := (⟨"java/lang/String", "coder", "()B"⟩, prog_18_method_152_code, 1, (Option.some FieldType.byte))
def mm_m247 : mm_ME := (⟨"java/lang/String", "isLatin1", "()Z"⟩, prog_18_method_154_code, 1, (Option.some FieldType.boolean))
def mm_m248 : mm_ME := (⟨"java/lang/StringLatin1", "canEncode", "(I)Z"⟩, prog_19_method_4_code, 1, (Option.some FieldType.boolean))
def mm_m249 : mm_ME := (⟨"java/lang/StringLatin1", "indexOf", "([BIII)I"⟩, prog_19_method_22_code, 4, (Option.some FieldType.int))
def mm_m250 : mm_ME := (⟨"java/lang/StringLatin1", "indexOfChar", "([BIII)I"⟩, prog_19_method_23_code, 6, (Option.some FieldType.int))
def mm_m251 : mm_ME := (⟨"java/lang/Integer", "bitCount", "(I)I"⟩, prog_16_method_49_code, 1, (Option.some FieldType.int))
def mm_m252 : mm_ME := (⟨"java/util/Arrays", "fill", "([II)V"⟩, prog_22_method_103_code, 4, none)
def mm_Ms : List mm_ME := [mm_law0, mm_m1, mm_m2, mm_m3, mm_m4, mm_m5, mm_m6, mm_m7, mm_m8, mm_m9, mm_m10, mm_m11, mm_m12, mm_m13, mm_m14, mm_m15, mm_m16, mm_m17, mm_m18, mm_m19, mm_m20, mm_m21, mm_m22, mm_m23, mm_m24, mm_m25, mm_m26, mm_m27, mm_m28, mm_m29, mm_m30, mm_m31, mm_m32, mm_m33, mm_m34, mm_m35, mm_m36, mm_m37, mm_m38, mm_m39, mm_m40, mm_m41, mm_m42, mm_m43, mm_m44, mm_m45, mm_m46, mm_m47, mm_m48, mm_m49, mm_m50, mm_m51, mm_m52, mm_m53, mm_m54, mm_m55, mm_m56, mm_m57, mm_m58, mm_m59, mm_m60, mm_m61, mm_m62, mm_m63, mm_m64, mm_m65, mm_m66, mm_m67, mm_m68, mm_m69, mm_m70, mm_m71, mm_m72, mm_m73, mm_m74, mm_m75, mm_m76, mm_m77, mm_m78, mm_m79, mm_m80, mm_m81, mm_m82, mm_m83, mm_m84, mm_m85, mm_m86, mm_m87, mm_m88, mm_m89, mm_m90, mm_m91, mm_m92, mm_m93, mm_m94, mm_m95, mm_m96, mm_m97, mm_m98, mm_m99, mm_m100, mm_m101, mm_m102, mm_m103, mm_m104, mm_m105, mm_m106, mm_m107, mm_m108, mm_m109, mm_m110, mm_m111, mm_m112, mm_m113, mm_m114, mm_m115, mm_m116, mm_m117, mm_m118, mm_m119, mm_m120, mm_m121, mm_m122, mm_m123, mm_m124, mm_m125, mm_m126, mm_m127, mm_m128, mm_m129, mm_m130, mm_m131, mm_m132, mm_m133, mm_m134, mm_m135, mm_m136, mm_m137, mm_m138, mm_m139, mm_m140, mm_m141, mm_m142, mm_m143, mm_m144, mm_m145, mm_m146, mm_m147, mm_m148, mm_m149, mm_m150, mm_m151, mm_m152, mm_m153, mm_m154, mm_m155, mm_m156, mm_m157, mm_m158, mm_m159, mm_m160, mm_m161, mm_m162, mm_m163, mm_m164, mm_m165, mm_m166, mm_m167, mm_m168, mm_m169, mm_m170, mm_m171, mm_m172, mm_m173, mm_m174, mm_m175, mm_m176, mm_m177, mm_m178, mm_m179, mm_m180, mm_m181, mm_m182, mm_m183, mm_m184, mm_m185, mm_m186, mm_m187, mm_m188, mm_m189, mm_m190, mm_m191, mm_m192, mm_m193, mm_m194, mm_m195, mm_m196, mm_m197, mm_m198, mm_m199, mm_m200, mm_m201, mm_m202, mm_m203, mm_m204, mm_m205, mm_m206, mm_m207, mm_m208, mm_m209, mm_m210, mm_m211, mm_m212, mm_m213, mm_m214, mm_m215, mm_m216, mm_m217, mm_m218, mm_m219, mm_m220, mm_m221, mm_m222, mm_m223, mm_m224, mm_m225, mm_m226, mm_m227, mm_m228, mm_m229, mm_m230, mm_m231, mm_m232, mm_m233, mm_m234, mm_m235, mm_m236, mm_m237, mm_m238, mm_m239, mm_m240, mm_m241, mm_m242, mm_m243, mm_m244, mm_m245, mm_m246, mm_m247, mm_m248, mm_m249, mm_m250, mm_m251, mm_m252]
def mm_me (mid : Nat) : mm_ME := mm_Ms.getD mid mm_law0
def mm_b (mid : Nat) : ByteArray := (mm_me mid).2.1
def mm_rt (k : Nat) (t : Option FieldType) : Bool := match k, t with | 0, some .int => true | 1, some .boolean => true | 1, some .byte => true | 2, none => true | 3, some (.object _) => true | _, _ => false
/-- what is known of a method by the tables -/
def mm_mok (mid : Nat) (q : mm_ME) : Prop := Cond.code q.1 q.2.1 q.2.2.1 q.2.2.2 ∈ lw_g ∧ (plainName q.1.cls = true ∧ q.1.cls ≠ "java/lang/invoke/MethodHandle" ∧ q.1.cls ≠ "java/lang/invoke/VarHandle") ∧ q.1.cls = mm_cn (mm_own mid) ∧ q.2.2.1 = mm_ml mid ∧ mm_rt (mm_rk mid) q.2.2.2 = true ∧ Cond.initialized q.1.cls ∈ lw_g
def mm_fok (q : Nat × Nat × Nat × Nat) : Prop := ∃ (ref : String) (r : vw_C), vwCl[q.2.2.2]? = some r ∧ q.2.2.1 % 100 < r.2.2 ∧ Cond.fieldLink (mm_cn q.1) q.2.1 ref (r.2.1 (q.2.2.1 % 100)).2.1 (r.2.1 (q.2.2.1 % 100)).2.2.1 ∈ lw_g ∧ (ref = (r.2.1 (q.2.2.1 % 100)).1 ∨ Cond.sameField ref (r.2.1 (q.2.2.1 % 100)).1 (r.2.1 (q.2.2.1 % 100)).2.1 (r.2.1 (q.2.2.1 % 100)).2.2.1 ∈ lw_g)
def mm_FX : List (Nat × Nat × Nat × Nat) := [(0, 11, 100, 0), (0, 11, 100, 1), (0, 11, 100, 2), (0, 11, 100, 3), (0, 11, 100, 6), (0, 11, 100, 8), (0, 11, 100, 10), (1, 9, 100, 0), (1, 9, 100, 1), (1, 9, 100, 2), (1, 9, 100, 3), (1, 9, 100, 6), (1, 9, 100, 8), (1, 9, 100, 10), (2, 15, 100, 0), (2, 15, 100, 1), (2, 15, 100, 2), (2, 15, 100, 3), (2, 15, 100, 6), (2, 15, 100, 8), (2, 15, 100, 10), (3, 23, 100, 0), (3, 23, 100, 1), (3, 23, 100, 2), (3, 23, 100, 3), (3, 23, 100, 6), (3, 23, 100, 8), (3, 23, 100, 10), (4, 9, 402, 4), (4, 15, 403, 4), (4, 18, 404, 4), (4, 21, 405, 4), (4, 24, 406, 4), (4, 27, 408, 4), (4, 30, 409, 4), (4, 33, 410, 4), (4, 44, 411, 4), (4, 51, 412, 4), (4, 59, 413, 4), (4, 63, 414, 4), (4, 66, 417, 4), (4, 70, 400, 4), (4, 74, 401, 4), (4, 83, 407, 4), (4, 86, 900, 9), (4, 93, 415, 4), (4, 96, 416, 4), (5, 14, 500, 5), (5, 20, 501, 5), (5, 25, 502, 5), (5, 36, 503, 5), (5, 40, 504, 5), (5, 46, 702, 7), (6, 9, 404, 4), (6, 27, 100, 0), (6, 27, 100, 1), (6, 27, 100, 2), (6, 27, 100, 3), (6, 27, 100, 6), (6, 27, 100, 8), (6, 27, 100, 10), (7, 13, 700, 7), (7, 19, 701, 7), (7, 23, 702, 7), (8, 7, 100, 0), (8, 7, 100, 1), (8, 7, 100, 2), (8, 7, 100, 3), (8, 7, 100, 6), (8, 7, 100, 8), (8, 7, 100, 10), (9, 14, 900, 9), (9, 20, 901, 9), (9, 28, 902, 9), (9, 32, 903, 9), (9, 35, 702, 7), (10, 7, 403, 4), (10, 17, 100, 0), (10, 17, 100, 1), (10, 17, 100, 2), (10, 17, 100, 3), (10, 17, 100, 6), (10, 17, 100, 8), (10, 17, 100, 10), (11, 14, 1100, 11), (11, 41, 1101, 11), (11, 50, 1102, 11), (11, 54, 1103, 11), (11, 57, 1104, 11), (11, 63, 1105, 11), (11, 67, 1106, 11), (11, 71, 1107, 11), (11, 74, 1108, 11), (11, 90, 401, 4), (11, 102, 402, 4), (11, 105, 403, 4), (11, 108, 404, 4), (11, 111, 405, 4), (11, 132, 407, 4), (11, 141, 408, 4), (11, 144, 409, 4), (11, 147, 410, 4), (11, 154, 413, 4), (11, 157, 702, 7), (11, 182, 900, 9), (11, 187, 500, 5), (11, 219, 416, 4), (11, 225, 415, 4), (11, 247, 406, 4), (11, 253, 701, 7), (11, 263, 417, 4), (11, 312, 1109, 11), (11, 315, 414, 4), (11, 322, 411, 4), (11, 326, 412, 4), (12, 9, 1200, 12), (12, 13, 1201, 12), (12, 16, 1202, 12), (12, 19, 1204, 12), (12, 22, 1205, 12), (12, 25, 1206, 12), (12, 28, 1207, 12), (12, 31, 1208, 12), (12, 34, 1214, 12), (12, 37, 1216, 12), (12, 40, 1217, 12), (12, 43, 1218, 12), (12, 128, 1210, 12), (12, 132, 1209, 12), (12, 135, 1213, 12), (12, 141, 1212, 12), (12, 149, 1211, 12), (12, 243, 1215, 12), (12, 286, 1203, 12)]
def mm_SF : List (Nat × Nat × Nat) := [(14, 15, 5001), (14, 9, 5000)]
def mm_KI : List (Nat × Nat × Int32) := [(4, 158, 1103515245), (11, 85, -1000000001), (11, 94, -1000000004), (11, 128, -1000000005), (11, 153, -1000000003), (11, 237, -1000000002), (11, 318, -1000000000), (12, 46, -1000000000), (12, 97, -1000000001), (12, 101, -1000000004), (12, 114, -1000000005), (12, 125, -1000000003), (12, 210, 1103515245), (12, 224, -1000000002), (16, 265, 1431655765), (16, 266, 858993459), (16, 267, 252645135)]
def mm_KL : List (Nat × Nat × Int64) := [(13, 52, 4294967295), (12, 126, 255)]
def mm_KS : List (Nat × Nat × Nat) := [(5, 23, 1010), (11, 167, 1011), (11, 169, 1012)]
/-- statics that are read: by the class and the entry, which one (0 KIND_ABOVE, 1 FIRST_WEIGHT, 2 FIRST_ZEAL, 3 COMPACT_STRINGS), its value -/
def mm_SS : List (Nat × Nat × Nat × Value) := [(4, 38, 1, .ref 1001), (4, 48, 2, .ref 1002), (11, 319, 0, .ref 1003), (14, 38, 3, .int 1)]
def mm_sn : List (String × String × String) := [("ChairViews", "KIND_ABOVE", "[I"), ("ChairViews$Text", "FIRST_WEIGHT", "[I"), ("ChairViews$Text", "FIRST_ZEAL", "[I"), ("java/lang/String", "COMPACT_STRINGS", "Z")]
def mm_sd (k : Nat) : String × String × String := mm_sn.getD k ("", "", "")
def mm_AC : List (Nat × Nat) := [(4, 77), (7, 47)]
def mm_XM : List (Nat × Nat) := [(11, 332), (7, 7), (9, 60), (15, 92)]
def mm_XN : List (Nat × Nat) := [(11, 307), (7, 38), (9, 54), (15, 38)]
def mm_np (y : MethodName) : Option Nat := (parseMethodDescriptor y.desc).map (fun d => d.parameters.length)
def mm_tS (o idx na : Nat) (q : mm_ME) : Prop := Cond.methodLink (mm_cn o) idx q.1 ∈ lw_g ∧ Cond.static q.1 ∈ lw_g ∧ mm_np q.1 = some na
def mm_NN : List (Nat × Nat) := [(3, 13), (4, 99)]
def mm_tN (o idx na : Nat) (q : mm_ME) : Prop := (o, idx) ∈ mm_NN ∧ q.1 = ⟨"ChairViews", "isIn", "(II)Z"⟩ ∧ Cond.static q.1 ∈ lw_g ∧ mm_np q.1 = some na
def mm_tV (o idx ci na : Nat) (q : mm_ME) : Prop := Cond.methodLink (mm_cn o) idx q.1 ∈ lw_g ∧ Cond.instanceMethod q.1 ∈ lw_g ∧ Cond.selects (mm_cn ci) q.1 q.1 ∈ lw_g ∧ Cond.initialized (mm_cn ci) ∈ lw_g ∧ (mm_np q.1).map (· + 1) = some na ∧ q.1.cls = mm_cn ci
def mm_tU (o idx ci na : Nat) (q : mm_ME) : Prop := ∃ (owner : String) (x : MethodName), Cond.methodLink (mm_cn o) idx x ∈ lw_g ∧ Cond.sameMethod x.cls owner x.name x.desc ∈ lw_g ∧ Cond.selects (mm_cn ci) x q.1 ∈ lw_g ∧ Cond.instanceMethod q.1 ∈ lw_g ∧ Cond.instanceMethod ⟨owner, x.name, x.desc⟩ ∈ lw_g ∧ (∃ (b0 : ByteArray) (m0 : Nat) (r0 : Option FieldType), Cond.code ⟨owner, x.name, x.desc⟩ b0 m0 r0 ∈ lw_g) ∧ (owner ≠ "java/lang/invoke/MethodHandle" ∧ owner ≠ "java/lang/invoke/VarHandle") ∧ (mm_np x).map (· + 1) = some na
def mm_tP (o idx na : Nat) (q : mm_ME) : Prop := ∃ (x : MethodName), Cond.methodLink (mm_cn o) idx x ∈ lw_g ∧ Cond.sameMethod x.cls q.1.cls x.name x.desc ∈ lw_g ∧ Cond.superclass (mm_cn o) x.cls ∈ lw_g ∧ (x.cls = q.1.cls ∨ Cond.superclass x.cls q.1.cls ∈ lw_g) ∧ q.1 = ⟨q.1.cls, x.name, x.desc⟩ ∧ Cond.instanceMethod q.1 ∈ lw_g ∧ x.name ≠ "<init>" ∧ (mm_np q.1).map (· + 1) = some na
def mm_sok (q : Nat × Nat × Nat × Nat × List (Nat × Nat)) : Prop := (q.2.2.2.1 = 0 ∧ ∀ t ∈ q.2.2.2.2, t.1 = 0 → 0 < t.2 ∧ t.2 < 253 ∧ mm_tS q.1 q.2.1 q.2.2.1 (mm_me t.2)) ∨ (q.2.2.2.1 = 5 ∧ ∀ t ∈ q.2.2.2.2, 0 < t.2 ∧ t.2 < 253 ∧ mm_tN q.1 q.2.1 q.2.2.1 (mm_me t.2)) ∨ (q.2.2.2.1 = 1 ∧ ∀ t ∈ q.2.2.2.2, 0 < t.2 ∧ t.2 < 253 ∧ (mm_tV q.1 q.2.1 t.1 q.2.2.1 (mm_me t.2) ∨ mm_tU q.1 q.2.1 t.1 q.2.2.1 (mm_me t.2))) ∨ (q.2.2.2.1 = 2 ∧ ∀ t ∈ q.2.2.2.2, 0 < t.2 ∧ t.2 < 253 ∧ mm_tP q.1 q.2.1 q.2.2.1 (mm_me t.2)) ∨ q.2.2.2.1 = 3
def mm_CZ : List (Nat × Nat × Nat × Nat × List (Nat × Nat)) := [(13, 9, 1, 3, [(0, 75)]), (13, 12, 1, 3, [(0, 136)]), (13, 13, 3, 1, [(11, 76)]), (13, 17, 3, 1, [(12, 160)]), (13, 18, 3, 1, [(11, 77)]), (13, 21, 3, 1, [(12, 161)]), (13, 22, 4, 1, [(11, 78)]), (13, 26, 4, 1, [(12, 162)]), (13, 27, 3, 1, [(11, 79)]), (13, 30, 3, 1, [(12, 163)]), (13, 31, 3, 1, [(11, 80)]), (13, 34, 3, 1, [(12, 165)]), (13, 35, 2, 1, [(11, 81)]), (13, 39, 2, 1, [(12, 166)]), (13, 40, 3, 1, [(11, 82)]), (13, 43, 3, 1, [(12, 167)]), (13, 44, 4, 1, [(11, 83)]), (13, 47, 4, 1, [(12, 168)]), (13, 48, 3, 1, [(11, 84)]), (13, 51, 3, 1, [(12, 169)]), (13, 54, 3, 1, [(11, 85)]), (13, 58, 3, 1, [(12, 170)]), (13, 59, 2, 1, [(11, 86)]), (13, 62, 2, 1, [(12, 182)]), (13, 63, 5, 1, [(11, 87)]), (13, 67, 5, 1, [(12, 186)]), (13, 68, 3, 1, [(11, 88)]), (13, 71, 3, 1, [(12, 187)]), (13, 72, 3, 1, [(11, 89)]), (13, 75, 3, 1, [(12, 188)]), (13, 76, 1, 1, [(11, 90)]), (13, 80, 1, 1, [(12, 193)]), (13, 81, 2, 1, [(11, 91)]), (13, 84, 2, 1, [(12, 196)]), (13, 85, 2, 1, [(11, 92)]), (13, 88, 2, 1, [(12, 198)]), (13, 89, 3, 1, [(11, 93)]), (13, 92, 3, 1, [(12, 201)]), (13, 93, 2, 1, [(11, 94)]), (13, 96, 2, 1, [(12, 202)]), (13, 97, 2, 1, [(11, 95)]), (13, 100, 2, 1, [(12, 203)]), (13, 101, 2, 1, [(11, 96)]), (13, 104, 2, 1, [(12, 205)]), (13, 105, 2, 1, [(11, 97)]), (13, 108, 2, 1, [(12, 207)]), (13, 109, 3, 1, [(11, 98)]), (13, 112, 3, 1, [(12, 209)]), (13, 113, 2, 1, [(11, 99)]), (13, 116, 2, 1, [(12, 212)]), (13, 117, 3, 1, [(11, 100)]), (13, 120, 3, 1, [(12, 213)]), (13, 121, 1, 1, [(11, 101)]), (13, 124, 1, 1, [(12, 214)]), (13, 125, 2, 1, [(11, 102)]), (13, 128, 2, 1, [(12, 215)]), (13, 129, 4, 1, [(11, 103)]), (13, 132, 4, 1, [(12, 227)]), (13, 133, 2, 1, [(11, 104)]), (13, 136, 2, 1, [(12, 228)]), (13, 137, 4, 1, [(11, 105)]), (13, 140, 4, 1, [(12, 230)]), (13, 141, 4, 1, [(11, 106)]), (13, 144, 4, 1, [(12, 232)]), (13, 145, 6, 1, [(11, 107)]), (13, 149, 6, 1, [(12, 234)]), (13, 150, 2, 1, [(11, 108)]), (13, 153, 2, 1, [(12, 235)]), (13, 154, 2, 1, [(11, 109)]), (13, 157, 2, 1, [(12, 236)]), (13, 158, 1, 1, [(11, 110)]), (13, 161, 1, 1, [(12, 237)]), (13, 162, 1, 1, [(11, 111)]), (13, 165, 1, 1, [(12, 238)]), (13, 166, 2, 1, [(11, 112)]), (13, 169, 2, 1, [(12, 239)]), (13, 170, 1, 1, [(11, 113)]), (13, 173, 1, 1, [(12, 240)]), (13, 174, 2, 1, [(11, 114)]), (13, 177, 2, 1, [(12, 241)]), (13, 178, 2, 1, [(11, 115)]), (13, 181, 2, 1, [(12, 242)]), (0, 1, 2, 3, [(0, 16)]), (0, 7, 3, 2, [(0, 6)]), (0, 17, 2, 1, [(7, 57)]), (0, 23, 4, 2, [(0, 18)]), (1, 15, 3, 1, [(4, 27)]), (1, 21, 2, 1, [(7, 57)]), (1, 27, 4, 1, [(1, 7), (0, 7), (2, 7), (3, 7), (6, 7), (8, 74), (10, 74)]), (1, 31, 4, 1, [(1, 8), (0, 3), (2, 8), (3, 18), (6, 8), (8, 8), (10, 8)]), (1, 34, 4, 1, [(1, 9), (0, 9), (2, 14), (3, 9), (6, 51), (8, 9), (10, 9)]), (2, 1, 2, 3, [(0, 49)]), (2, 7, 5, 2, [(0, 50)]), (2, 11, 3, 2, [(0, 6)]), (2, 21, 2, 1, [(7, 57)]), (2, 27, 4, 2, [(0, 51)]), (2, 31, 4, 1, [(2, 8)]), (2, 34, 4, 2, [(0, 10)]), (3, 1, 2, 3, [(0, 4)]), (3, 7, 2, 1, [(4, 26)]), (3, 13, 2, 5, [(0, 125)]), (3, 19, 5, 2, [(0, 5)]), (3, 29, 2, 1, [(7, 57)]), (3, 35, 4, 2, [(0, 8)]), (3, 39, 4, 1, [(0, 9), (3, 9)]), (4, 41, 4, 3, [(0, 67)]), (4, 56, 3, 3, [(0, 52)]), (4, 89, 2, 1, [(7, 61)]), (4, 99, 2, 5, [(0, 125)]), (4, 103, 1, 0, [(0, 251)]), (4, 109, 4, 1, [(9, 68)]), (4, 113, 2, 1, [(4, 23)]), (4, 117, 3, 1, [(1, 6), (0, 2), (2, 13), (3, 6), (6, 6), (8, 6), (10, 6)]), (4, 123, 2, 1, [(4, 28)]), (4, 126, 5, 1, [(1, 5), (0, 17), (2, 12), (3, 17), (6, 50), (8, 65), (10, 73)]), (4, 130, 1, 1, [(4, 25)]), (4, 134, 4, 1, [(4, 31)]), (4, 137, 2, 1, [(4, 35)]), (4, 140, 3, 1, [(4, 36)]), (4, 143, 3, 1, [(4, 27)]), (4, 146, 1, 1, [(4, 34)]), (4, 149, 1, 1, [(4, 29)]), (4, 152, 3, 1, [(4, 33)]), (4, 155, 1, 1, [(4, 39)]), (5, 11, 3, 3, [(0, 52)]), (5, 29, 2, 1, [(7, 61)]), (5, 33, 1, 1, [(7, 59)]), (5, 43, 3, 1, [(5, 43)]), (5, 49, 2, 1, [(7, 53)]), (5, 53, 2, 1, [(7, 55)]), (5, 57, 2, 1, [(5, 45)]), (5, 61, 1, 1, [(5, 42)]), (5, 65, 1, 0, [(0, 44)]), (5, 68, 2, 1, [(7, 57)]), (5, 71, 2, 1, [(50, 244)]), (5, 76, 1, 0, [(0, 48)]), (5, 79, 1, 1, [(5, 46)]), (5, 84, 1, 1, [(5, 47)]), (6, 3, 2, 3, [(0, 4)]), (6, 15, 1, 0, [(0, 251)]), (6, 23, 5, 2, [(0, 5)]), (6, 31, 2, 1, [(7, 57)]), (6, 37, 4, 2, [(0, 9)]), (7, 26, 2, 1, [(7, 53)]), (7, 30, 2, 1, [(7, 63)]), (7, 34, 2, 1, [(7, 57)]), (7, 41, 2, 0, [(0, 252)]), (7, 53, 3, 1, [(7, 54)]), (8, 1, 2, 3, [(0, 72)]), (8, 13, 2, 1, [(7, 57)]), (8, 19, 4, 2, [(0, 10)]), (8, 23, 4, 1, [(8, 74)]), (9, 11, 3, 3, [(0, 52)]), (9, 24, 2, 1, [(7, 57)]), (9, 38, 2, 1, [(7, 55)]), (9, 42, 4, 0, [(0, 69)]), (9, 46, 1, 0, [(0, 71)]), (9, 50, 3, 0, [(0, 70)]), (10, 1, 2, 3, [(0, 4)]), (10, 13, 5, 2, [(0, 5)]), (10, 23, 2, 1, [(7, 57)]), (10, 29, 4, 2, [(0, 7)]), (11, 11, 3, 3, [(0, 52)]), (11, 20, 2, 3, [(0, 4)]), (11, 25, 2, 3, [(0, 72)]), (11, 28, 2, 3, [(0, 16)]), (11, 31, 2, 3, [(0, 49)]), (11, 34, 2, 3, [(0, 64)]), (11, 37, 2, 3, [(0, 1)]), (11, 40, 2, 3, [(0, 11)]), (11, 47, 2, 3, [(0, 19)]), (11, 62, 1, 3, [(0, 40)]), (11, 78, 1, 0, [(0, 121)]), (11, 82, 1, 0, [(0, 119)]), (11, 86, 2, 1, [(11, 116)]), (11, 95, 3, 1, [(4, 21)]), (11, 99, 2, 1, [(11, 126)]), (11, 114, 2, 1, [(4, 24)]), (11, 117, 2, 1, [(4, 28)]), (11, 120, 3, 0, [(0, 117)]), (11, 124, 2, 0, [(0, 129)]), (11, 129, 1, 0, [(0, 118)]), (11, 135, 2, 1, [(4, 22)]), (11, 138, 2, 1, [(11, 127)]), (11, 150, 1, 0, [(0, 120)]), (11, 160, 2, 1, [(7, 57)]), (11, 164, 1, 0, [(0, 122)]), (11, 171, 3, 1, [(5, 41)]), (11, 175, 1, 1, [(7, 59)]), (11, 178, 2, 1, [(11, 130)]), (11, 188, 2, 1, [(7, 61)]), (11, 191, 4, 1, [(9, 68)]), (11, 195, 1, 1, [(4, 29)]), (11, 198, 3, 1, [(4, 32)]), (11, 201, 1, 1, [(4, 25)]), (11, 205, 3, 1, [(4, 33)]), (11, 208, 4, 1, [(4, 31)]), (11, 211, 1, 1, [(4, 34)]), (11, 214, 1, 0, [(0, 251)]), (11, 222, 1, 1, [(4, 37)]), (11, 228, 1, 1, [(4, 38)]), (11, 231, 2, 1, [(4, 20)]), (11, 234, 2, 0, [(0, 125)]), (11, 238, 3, 1, [(11, 131)]), (11, 241, 2, 0, [(0, 133)]), (11, 244, 2, 1, [(4, 30)]), (11, 250, 1, 0, [(0, 123)]), (11, 256, 3, 1, [(11, 134)]), (11, 260, 3, 1, [(11, 135)]), (11, 266, 2, 1, [(4, 23)]), (11, 270, 4, 1, [(1, 7), (0, 7), (2, 7), (3, 7), (6, 7), (8, 74), (10, 74)]), (11, 273, 4, 1, [(1, 8), (0, 3), (2, 8), (3, 18), (6, 8), (8, 8), (10, 8)]), (11, 276, 4, 1, [(1, 9), (0, 9), (2, 14), (3, 9), (6, 51), (8, 9), (10, 9)]), (11, 279, 4, 1, [(1, 10), (0, 10), (2, 15), (3, 10), (6, 10), (8, 66), (10, 10)]), (11, 282, 2, 1, [(7, 53)]), (11, 285, 2, 1, [(7, 55)]), (11, 288, 1, 0, [(0, 124)]), (11, 291, 3, 1, [(7, 60)]), (11, 294, 2, 1, [(11, 128)]), (11, 297, 3, 1, [(7, 56)]), (11, 300, 3, 1, [(7, 54)]), (11, 303, 5, 1, [(7, 62)]), (11, 329, 3, 1, [(11, 132)]), (11, 335, 2, 1, [(7, 58)]), (12, 47, 3, 0, [(0, 138)]), (12, 51, 3, 1, [(12, 147)]), (12, 55, 3, 1, [(12, 146)]), (12, 58, 3, 1, [(12, 151)]), (12, 62, 1, 0, [(0, 141)]), (12, 66, 3, 1, [(12, 152)]), (12, 69, 3, 1, [(12, 153)]), (12, 72, 5, 1, [(12, 185)]), (12, 76, 4, 1, [(12, 154)]), (12, 80, 2, 1, [(12, 155)]), (12, 83, 4, 1, [(12, 156)]), (12, 86, 1, 1, [(12, 150)]), (12, 90, 3, 1, [(12, 157)]), (12, 93, 1, 0, [(0, 159)]), (12, 98, 2, 1, [(12, 137)]), (12, 102, 2, 1, [(12, 142)]), (12, 105, 2, 1, [(12, 149)]), (12, 108, 3, 1, [(12, 145)]), (12, 111, 2, 0, [(0, 164)]), (12, 115, 1, 0, [(0, 144)]), (12, 118, 4, 1, [(12, 148)]), (12, 122, 2, 1, [(12, 143)]), (12, 138, 1, 1, [(12, 171)]), (12, 145, 3, 1, [(12, 172)]), (12, 152, 1, 1, [(12, 176)]), (12, 155, 1, 1, [(12, 181)]), (12, 158, 2, 1, [(12, 173)]), (12, 161, 2, 1, [(12, 175)]), (12, 165, 1, 1, [(12, 174)]), (12, 168, 1, 1, [(12, 177)]), (12, 171, 1, 1, [(12, 178)]), (12, 174, 1, 1, [(12, 179)]), (12, 177, 1, 1, [(12, 180)]), (12, 180, 3, 0, [(0, 183)]), (12, 183, 2, 1, [(12, 184)]), (12, 186, 3, 0, [(0, 139)]), (12, 189, 2, 1, [(12, 158)]), (12, 192, 3, 1, [(12, 190)]), (12, 195, 2, 1, [(12, 189)]), (12, 198, 3, 1, [(12, 191)]), (12, 201, 1, 1, [(12, 192)]), (12, 204, 1, 1, [(12, 194)]), (12, 207, 2, 1, [(12, 195)]), (12, 211, 1, 1, [(12, 197)]), (12, 214, 2, 0, [(0, 140)]), (12, 218, 1, 1, [(12, 199)]), (12, 221, 1, 1, [(12, 200)]), (12, 225, 3, 1, [(12, 204)]), (12, 228, 2, 1, [(12, 206)]), (12, 231, 1, 0, [(0, 229)]), (12, 234, 3, 1, [(12, 208)]), (12, 237, 4, 1, [(12, 210)]), (12, 240, 2, 1, [(12, 211)]), (12, 246, 2, 1, [(12, 216)]), (12, 249, 3, 1, [(12, 217)]), (12, 252, 3, 1, [(12, 218)]), (12, 255, 3, 1, [(12, 219)]), (12, 258, 3, 1, [(12, 224)]), (12, 261, 3, 1, [(12, 220)]), (12, 264, 3, 1, [(12, 222)]), (12, 267, 3, 1, [(12, 223)]), (12, 270, 3, 1, [(12, 221)]), (12, 273, 3, 1, [(12, 225)]), (12, 276, 3, 1, [(12, 226)]), (12, 279, 2, 1, [(12, 231)]), (12, 282, 6, 1, [(12, 233)]), (14, 335, 1, 1, [(50, 246)]), (14, 633, 3, 1, [(50, 245)]), (14, 492, 1, 1, [(50, 247)]), (14, 505, 1, 1, [(50, 243)]), (14, 637, 4, 0, [(0, 249)]), (15, 88, 1, 0, [(0, 248)]), (15, 95, 4, 0, [(0, 250)])]
theorem mk_1 : mm_mok 1 mm_m1 := ⟨tb_189, ⟨by decide +kernel, by decide +kernel, by decide +kernel⟩, by decide +kernel, by decide +kernel, by decide +kernel, tb_84⟩
theorem mk_2 : mm_mok 2 mm_m2 := ⟨tb_458, ⟨by decide +kernel, by decide +kernel, by decide +kernel⟩, by decide +kernel, by decide +kernel, by decide +kernel, tb_84⟩
theorem mk_3 : mm_mok 3 mm_m3 := ⟨tb_892, ⟨by decide +kernel, by decide +kernel, by decide +kernel⟩, by decide +kernel, by decide +kernel, by decide +kernel, tb_84⟩
theorem mk_4 : mm_mok 4 mm_m4 := ⟨tb_135, ⟨by decide +kernel, by decide +kernel, by decide +kernel⟩, by decide +kernel, by decide +kernel, by decide +kernel, tb_79⟩
theorem mk_5 : mm_mok 5 mm_m5 := ⟨tb_727, ⟨by decide +kernel, by decide +kernel, by decide +kernel⟩, by decide +kernel, by decide +kernel, by decide +kernel, tb_79⟩
theorem mk_6 : mm_mok 6 mm_m6 := ⟨tb_471, ⟨by decide +kernel, by decide +kernel, by decide +kernel⟩, by decide +kernel, by decide +kernel, by decide +kernel, tb_79⟩
theorem mk_7 : mm_mok 7 mm_m7 := ⟨tb_884, ⟨by decide +kernel, by decide +kernel, by decide +kernel⟩, by decide +kernel, by decide +kernel, by decide +kernel, tb_79⟩
theorem mk_8 : mm_mok 8 mm_m8 := ⟨tb_911, ⟨by decide +kernel, by decide +kernel, by decide +kernel⟩, by decide +kernel, by decide +kernel, by decide +kernel, tb_79⟩
theorem mk_9 : mm_mok 9 mm_m9 := ⟨tb_905, ⟨by decide +kernel, by decide +kernel, by decide +kernel⟩, by decide +kernel, by decide +kernel, by decide +kernel, tb_79⟩
theorem mk_10 : mm_mok 10 mm_m10 := ⟨tb_950, ⟨by decide +kernel, by decide +kernel, by decide +kernel⟩, by decide +kernel, by decide +kernel, by decide +kernel, tb_79⟩
theorem mk_11 : mm_mok 11 mm_m11 := ⟨tb_197, ⟨by decide +kernel, by decide +kernel, by decide +kernel⟩, by decide +kernel, by decide +kernel, by decide +kernel, tb_85⟩
theorem mk_12 : mm_mok 12 mm_m12 := ⟨tb_712, ⟨by decide +kernel, by decide +kernel, by decide +kernel⟩, by decide +kernel, by decide +kernel, by decide +kernel, tb_85⟩
theorem mk_13 : mm_mok 13 mm_m13 := ⟨tb_464, ⟨by decide +kernel, by decide +kernel, by decide +kernel⟩, by decide +kernel, by decide +kernel, by decide +kernel, tb_85⟩
theorem mk_14 : mm_mok 14 mm_m14 := ⟨tb_915, ⟨by decide +kernel, by decide +kernel, by decide +kernel⟩, by decide +kernel, by decide +kernel, by decide +kernel, tb_85⟩
theorem mk_15 : mm_mok 15 mm_m15 := ⟨tb_929, ⟨by decide +kernel, by decide +kernel, by decide +kernel⟩, by decide +kernel, by decide +kernel, by decide +kernel, tb_85⟩
theorem mk_16 : mm_mok 16 mm_m16 := ⟨tb_165, ⟨by decide +kernel, by decide +kernel, by decide +kernel⟩, by decide +kernel, by decide +kernel, by decide +kernel, tb_81⟩
theorem mk_17 : mm_mok 17 mm_m17 := ⟨tb_703, ⟨by decide +kernel, by decide +kernel, by decide +kernel⟩, by decide +kernel, by decide +kernel, by decide +kernel, tb_81⟩
theorem mk_18 : mm_mok 18 mm_m18 := ⟨tb_896, ⟨by decide +kernel, by decide +kernel, by decide +kernel⟩, by decide +kernel, by decide +kernel, by decide +kernel, tb_81⟩
theorem mk_19 : mm_mok 19 mm_m19 := ⟨tb_205, ⟨by decide +kernel, by decide +kernel, by decide +kernel⟩, by decide +kernel, by decide +kernel, by decide +kernel, tb_86⟩
theorem mk_20 : mm_mok 20 mm_m20 := ⟨tb_791, ⟨by decide +kernel, by decide +kernel, by decide +kernel⟩, by decide +kernel, by decide +kernel, by decide +kernel, tb_86⟩
theorem mk_21 : mm_mok 21 mm_m21 := ⟨tb_400, ⟨by decide +kernel, by decide +kernel, by decide +kernel⟩, by decide +kernel, by decide +kernel, by decide +kernel, tb_86⟩
theorem mk_22 : mm_mok 22 mm_m22 := ⟨tb_500, ⟨by decide +kernel, by decide +kernel, by decide +kernel⟩, by decide +kernel, by decide +kernel, by decide +kernel, tb_86⟩
theorem mk_23 : mm_mok 23 mm_m23 := ⟨tb_451, ⟨by decide +kernel, by decide +kernel, by decide +kernel⟩, by decide +kernel, by decide +kernel, by decide +kernel, tb_86⟩
theorem mk_24 : mm_mok 24 mm_m24 := ⟨tb_412, ⟨by decide +kernel, by decide +kernel, by decide +kernel⟩, by decide +kernel, by decide +kernel, by decide +kernel, tb_86⟩
theorem mk_25 : mm_mok 25 mm_m25 := ⟨tb_689, ⟨by decide +kernel, by decide +kernel, by decide +kernel⟩, by decide +kernel, by decide +kernel, by decide +kernel, tb_86⟩
theorem mk_26 : mm_mok 26 mm_m26 := ⟨tb_707, ⟨by decide +kernel, by decide +kernel, by decide +kernel⟩, by decide +kernel, by decide +kernel, by decide +kernel, tb_86⟩
theorem mk_27 : mm_mok 27 mm_m27 := ⟨tb_731, ⟨by decide +kernel, by decide +kernel, by decide +kernel⟩, by decide +kernel, by decide +kernel, by decide +kernel, tb_86⟩
theorem mk_28 : mm_mok 28 mm_m28 := ⟨tb_416, ⟨by decide +kernel, by decide +kernel, by decide +kernel⟩, by decide +kernel, by decide +kernel, by decide +kernel, tb_86⟩
theorem mk_29 : mm_mok 29 mm_m29 := ⟨tb_680, ⟨by decide +kernel, by decide +kernel, by decide +kernel⟩, by decide +kernel, by decide +kernel, by decide +kernel, tb_86⟩
theorem mk_30 : mm_mok 30 mm_m30 := ⟨tb_827, ⟨by decide +kernel, by decide +kernel, by decide +kernel⟩, by decide +kernel, by decide +kernel, by decide +kernel, tb_86⟩
theorem mk_31 : mm_mok 31 mm_m31 := ⟨tb_693, ⟨by decide +kernel, by decide +kernel, by decide +kernel⟩, by decide +kernel, by decide +kernel, by decide +kernel, tb_86⟩
theorem mk_32 : mm_mok 32 mm_m32 := ⟨tb_685, ⟨by decide +kernel, by decide +kernel, by decide +kernel⟩, by decide +kernel, by decide +kernel, by decide +kernel, tb_86⟩
theorem mk_33 : mm_mok 33 mm_m33 := ⟨tb_736, ⟨by decide +kernel, by decide +kernel, by decide +kernel⟩, by decide +kernel, by decide +kernel, by decide +kernel, tb_86⟩
theorem mk_34 : mm_mok 34 mm_m34 := ⟨tb_749, ⟨by decide +kernel, by decide +kernel, by decide +kernel⟩, by decide +kernel, by decide +kernel, by decide +kernel, tb_86⟩
theorem mk_35 : mm_mok 35 mm_m35 := ⟨tb_753, ⟨by decide +kernel, by decide +kernel, by decide +kernel⟩, by decide +kernel, by decide +kernel, by decide +kernel, tb_86⟩
theorem mk_36 : mm_mok 36 mm_m36 := ⟨tb_757, ⟨by decide +kernel, by decide +kernel, by decide +kernel⟩, by decide +kernel, by decide +kernel, by decide +kernel, tb_86⟩
theorem mk_37 : mm_mok 37 mm_m37 := ⟨tb_767, ⟨by decide +kernel, by decide +kernel, by decide +kernel⟩, by decide +kernel, by decide +kernel, by decide +kernel, tb_86⟩
theorem mk_38 : mm_mok 38 mm_m38 := ⟨tb_778, ⟨by decide +kernel, by decide +kernel, by decide +kernel⟩, by decide +kernel, by decide +kernel, by decide +kernel, tb_86⟩
theorem mk_39 : mm_mok 39 mm_m39 := ⟨tb_782, ⟨by decide +kernel, by decide +kernel, by decide +kernel⟩, by decide +kernel, by decide +kernel, by decide +kernel, tb_86⟩
theorem mk_40 : mm_mok 40 mm_m40 := ⟨tb_322, ⟨by decide +kernel, by decide +kernel, by decide +kernel⟩, by decide +kernel, by decide +kernel, by decide +kernel, tb_88⟩
theorem mk_41 : mm_mok 41 mm_m41 := ⟨tb_538, ⟨by decide +kernel, by decide +kernel, by decide +kernel⟩, by decide +kernel, by decide +kernel, by decide +kernel, tb_88⟩
theorem mk_42 : mm_mok 42 mm_m42 := ⟨tb_562, ⟨by decide +kernel, by decide +kernel, by decide +kernel⟩, by decide +kernel, by decide +kernel, by decide +kernel, tb_88⟩
theorem mk_43 : mm_mok 43 mm_m43 := ⟨tb_554, ⟨by decide +kernel, by decide +kernel, by decide +kernel⟩, by decide +kernel, by decide +kernel, by decide +kernel, tb_88⟩
theorem mk_44 : mm_mok 44 mm_m44 := ⟨tb_661, ⟨by decide +kernel, by decide +kernel, by decide +kernel⟩, by decide +kernel, by decide +kernel, by decide +kernel, tb_88⟩
theorem mk_45 : mm_mok 45 mm_m45 := ⟨tb_558, ⟨by decide +kernel, by decide +kernel, by decide +kernel⟩, by decide +kernel, by decide +kernel, by decide +kernel, tb_88⟩
theorem mk_46 : mm_mok 46 mm_m46 := ⟨tb_653, ⟨by decide +kernel, by decide +kernel, by decide +kernel⟩, by decide +kernel, by decide +kernel, by decide +kernel, tb_88⟩
theorem mk_47 : mm_mok 47 mm_m47 := ⟨tb_658, ⟨by decide +kernel, by decide +kernel, by decide +kernel⟩, by decide +kernel, by decide +kernel, by decide +kernel, tb_88⟩
theorem mk_48 : mm_mok 48 mm_m48 := ⟨tb_649, ⟨by decide +kernel, by decide +kernel, by decide +kernel⟩, by decide +kernel, by decide +kernel, by decide +kernel, tb_88⟩
theorem mk_49 : mm_mok 49 mm_m49 := ⟨tb_173, ⟨by decide +kernel, by decide +kernel, by decide +kernel⟩, by decide +kernel, by decide +kernel, by decide +kernel, tb_82⟩
theorem mk_50 : mm_mok 50 mm_m50 := ⟨tb_715, ⟨by decide +kernel, by decide +kernel, by decide +kernel⟩, by decide +kernel, by decide +kernel, by decide +kernel, tb_82⟩
theorem mk_51 : mm_mok 51 mm_m51 := ⟨tb_919, ⟨by decide +kernel, by decide +kernel, by decide +kernel⟩, by decide +kernel, by decide +kernel, by decide +kernel, tb_82⟩
theorem mk_52 : mm_mok 52 mm_m52 := ⟨tb_110, ⟨by decide +kernel, by decide +kernel, by decide +kernel⟩, by decide +kernel, by decide +kernel, by decide +kernel, tb_77⟩
theorem mk_53 : mm_mok 53 mm_m53 := ⟨tb_434, ⟨by decide +kernel, by decide +kernel, by decide +kernel⟩, by decide +kernel, by decide +kernel, by decide +kernel, tb_77⟩
theorem mk_54 : mm_mok 54 mm_m54 := ⟨tb_991, ⟨by decide +kernel, by decide +kernel, by decide +kernel⟩, by decide +kernel, by decide +kernel, by decide +kernel, tb_77⟩
theorem mk_55 : mm_mok 55 mm_m55 := ⟨tb_430, ⟨by decide +kernel, by decide +kernel, by decide +kernel⟩, by decide +kernel, by decide +kernel, by decide +kernel, tb_77⟩
theorem mk_56 : mm_mok 56 mm_m56 := ⟨tb_983, ⟨by decide +kernel, by decide +kernel, by decide +kernel⟩, by decide +kernel, by decide +kernel, by decide +kernel, tb_77⟩
theorem mk_57 : mm_mok 57 mm_m57 := ⟨tb_220, ⟨by decide +kernel, by decide +kernel, by decide +kernel⟩, by decide +kernel, by decide +kernel, by decide +kernel, tb_77⟩
theorem mk_58 : mm_mok 58 mm_m58 := ⟨tb_851, ⟨by decide +kernel, by decide +kernel, by decide +kernel⟩, by decide +kernel, by decide +kernel, by decide +kernel, tb_77⟩
theorem mk_59 : mm_mok 59 mm_m59 := ⟨tb_550, ⟨by decide +kernel, by decide +kernel, by decide +kernel⟩, by decide +kernel, by decide +kernel, by decide +kernel, tb_77⟩
theorem mk_60 : mm_mok 60 mm_m60 := ⟨tb_968, ⟨by decide +kernel, by decide +kernel, by decide +kernel⟩, by decide +kernel, by decide +kernel, by decide +kernel, tb_77⟩
theorem mk_61 : mm_mok 61 mm_m61 := ⟨tb_542, ⟨by decide +kernel, by decide +kernel, by decide +kernel⟩, by decide +kernel, by decide +kernel, by decide +kernel, tb_77⟩
theorem mk_62 : mm_mok 62 mm_m62 := ⟨tb_995, ⟨by decide +kernel, by decide +kernel, by decide +kernel⟩, by decide +kernel, by decide +kernel, by decide +kernel, tb_77⟩
theorem mk_63 : mm_mok 63 mm_m63 := ⟨tb_224, ⟨by decide +kernel, by decide +kernel, by decide +kernel⟩, by decide +kernel, by decide +kernel, by decide +kernel, tb_77⟩
theorem mk_64 : mm_mok 64 mm_m64 := ⟨tb_181, ⟨by decide +kernel, by decide +kernel, by decide +kernel⟩, by decide +kernel, by decide +kernel, by decide +kernel, tb_83⟩
theorem mk_65 : mm_mok 65 mm_m65 := ⟨tb_722, ⟨by decide +kernel, by decide +kernel, by decide +kernel⟩, by decide +kernel, by decide +kernel, by decide +kernel, tb_83⟩
theorem mk_66 : mm_mok 66 mm_m66 := ⟨tb_941, ⟨by decide +kernel, by decide +kernel, by decide +kernel⟩, by decide +kernel, by decide +kernel, by decide +kernel, tb_83⟩
theorem mk_67 : mm_mok 67 mm_m67 := ⟨tb_213, ⟨by decide +kernel, by decide +kernel, by decide +kernel⟩, by decide +kernel, by decide +kernel, by decide +kernel, tb_87⟩
theorem mk_68 : mm_mok 68 mm_m68 := ⟨tb_426, ⟨by decide +kernel, by decide +kernel, by decide +kernel⟩, by decide +kernel, by decide +kernel, by decide +kernel, tb_87⟩
theorem mk_69 : mm_mok 69 mm_m69 := ⟨tb_437, ⟨by decide +kernel, by decide +kernel, by decide +kernel⟩, by decide +kernel, by decide +kernel, by decide +kernel, tb_87⟩
theorem mk_70 : mm_mok 70 mm_m70 := ⟨tb_443, ⟨by decide +kernel, by decide +kernel, by decide +kernel⟩, by decide +kernel, by decide +kernel, by decide +kernel, tb_87⟩
theorem mk_71 : mm_mok 71 mm_m71 := ⟨tb_440, ⟨by decide +kernel, by decide +kernel, by decide +kernel⟩, by decide +kernel, by decide +kernel, by decide +kernel, tb_87⟩
theorem mk_72 : mm_mok 72 mm_m72 := ⟨tb_157, ⟨by decide +kernel, by decide +kernel, by decide +kernel⟩, by decide +kernel, by decide +kernel, by decide +kernel, tb_80⟩
theorem mk_73 : mm_mok 73 mm_m73 := ⟨tb_725, ⟨by decide +kernel, by decide +kernel, by decide +kernel⟩, by decide +kernel, by decide +kernel, by decide +kernel, tb_80⟩
theorem mk_74 : mm_mok 74 mm_m74 := ⟨tb_880, ⟨by decide +kernel, by decide +kernel, by decide +kernel⟩, by decide +kernel, by decide +kernel, by decide +kernel, tb_80⟩
theorem mk_75 : mm_mok 75 mm_m75 := ⟨tb_102, ⟨by decide +kernel, by decide +kernel, by decide +kernel⟩, by decide +kernel, by decide +kernel, by decide +kernel, tb_76⟩
theorem mk_76 : mm_mok 76 mm_m76 := ⟨tb_380, ⟨by decide +kernel, by decide +kernel, by decide +kernel⟩, by decide +kernel, by decide +kernel, by decide +kernel, tb_76⟩
theorem mk_77 : mm_mok 77 mm_m77 := ⟨tb_404, ⟨by decide +kernel, by decide +kernel, by decide +kernel⟩, by decide +kernel, by decide +kernel, by decide +kernel, tb_76⟩
theorem mk_78 : mm_mok 78 mm_m78 := ⟨tb_475, ⟨by decide +kernel, by decide +kernel, by decide +kernel⟩, by decide +kernel, by decide +kernel, by decide +kernel, tb_76⟩
theorem mk_79 : mm_mok 79 mm_m79 := ⟨tb_479, ⟨by decide +kernel, by decide +kernel, by decide +kernel⟩, by decide +kernel, by decide +kernel, by decide +kernel, tb_76⟩
theorem mk_80 : mm_mok 80 mm_m80 := ⟨tb_483, ⟨by decide +kernel, by decide +kernel, by decide +kernel⟩, by decide +kernel, by decide +kernel, by decide +kernel, tb_76⟩
theorem mk_81 : mm_mok 81 mm_m81 := ⟨tb_493, ⟨by decide +kernel, by decide +kernel, by decide +kernel⟩, by decide +kernel, by decide +kernel, by decide +kernel, tb_76⟩
theorem mk_82 : mm_mok 82 mm_m82 := ⟨tb_504, ⟨by decide +kernel, by decide +kernel, by decide +kernel⟩, by decide +kernel, by decide +kernel, by decide +kernel, tb_76⟩
theorem mk_83 : mm_mok 83 mm_m83 := ⟨tb_512, ⟨by decide +kernel, by decide +kernel, by decide +kernel⟩, by decide +kernel, by decide +kernel, by decide +kernel, tb_76⟩
theorem mk_84 : mm_mok 84 mm_m84 := ⟨tb_519, ⟨by decide +kernel, by decide +kernel, by decide +kernel⟩, by decide +kernel, by decide +kernel, by decide +kernel, tb_76⟩
theorem mk_85 : mm_mok 85 mm_m85 := ⟨tb_524, ⟨by decide +kernel, by decide +kernel, by decide +kernel⟩, by decide +kernel, by decide +kernel, by decide +kernel, tb_76⟩
theorem mk_86 : mm_mok 86 mm_m86 := ⟨tb_529, ⟨by decide +kernel, by decide +kernel, by decide +kernel⟩, by decide +kernel, by decide +kernel, by decide +kernel, tb_76⟩
theorem mk_87 : mm_mok 87 mm_m87 := ⟨tb_671, ⟨by decide +kernel, by decide +kernel, by decide +kernel⟩, by decide +kernel, by decide +kernel, by decide +kernel, tb_76⟩
theorem mk_88 : mm_mok 88 mm_m88 := ⟨tb_676, ⟨by decide +kernel, by decide +kernel, by decide +kernel⟩, by decide +kernel, by decide +kernel, by decide +kernel, tb_76⟩
theorem mk_89 : mm_mok 89 mm_m89 := ⟨tb_740, ⟨by decide +kernel, by decide +kernel, by decide +kernel⟩, by decide +kernel, by decide +kernel, by decide +kernel, tb_76⟩
theorem mk_90 : mm_mok 90 mm_m90 := ⟨tb_745, ⟨by decide +kernel, by decide +kernel, by decide +kernel⟩, by decide +kernel, by decide +kernel, by decide +kernel, tb_76⟩
theorem mk_91 : mm_mok 91 mm_m91 := ⟨tb_763, ⟨by decide +kernel, by decide +kernel, by decide +kernel⟩, by decide +kernel, by decide +kernel, by decide +kernel, tb_76⟩
theorem mk_92 : mm_mok 92 mm_m92 := ⟨tb_774, ⟨by decide +kernel, by decide +kernel, by decide +kernel⟩, by decide +kernel, by decide +kernel, by decide +kernel, tb_76⟩
theorem mk_93 : mm_mok 93 mm_m93 := ⟨tb_787, ⟨by decide +kernel, by decide +kernel, by decide +kernel⟩, by decide +kernel, by decide +kernel, by decide +kernel, tb_76⟩
theorem mk_94 : mm_mok 94 mm_m94 := ⟨tb_797, ⟨by decide +kernel, by decide +kernel, by decide +kernel⟩, by decide +kernel, by decide +kernel, by decide +kernel, tb_76⟩
theorem mk_95 : mm_mok 95 mm_m95 := ⟨tb_803, ⟨by decide +kernel, by decide +kernel, by decide +kernel⟩, by decide +kernel, by decide +kernel, by decide +kernel, tb_76⟩
theorem mk_96 : mm_mok 96 mm_m96 := ⟨tb_815, ⟨by decide +kernel, by decide +kernel, by decide +kernel⟩, by decide +kernel, by decide +kernel, by decide +kernel, tb_76⟩
theorem mk_97 : mm_mok 97 mm_m97 := ⟨tb_823, ⟨by decide +kernel, by decide +kernel, by decide +kernel⟩, by decide +kernel, by decide +kernel, by decide +kernel, tb_76⟩
theorem mk_98 : mm_mok 98 mm_m98 := ⟨tb_831, ⟨by decide +kernel, by decide +kernel, by decide +kernel⟩, by decide +kernel, by decide +kernel, by decide +kernel, tb_76⟩
theorem mk_99 : mm_mok 99 mm_m99 := ⟨tb_843, ⟨by decide +kernel, by decide +kernel, by decide +kernel⟩, by decide +kernel, by decide +kernel, by decide +kernel, tb_76⟩
theorem mk_100 : mm_mok 100 mm_m100 := ⟨tb_856, ⟨by decide +kernel, by decide +kernel, by decide +kernel⟩, by decide +kernel, by decide +kernel, by decide +kernel, tb_76⟩
theorem mk_101 : mm_mok 101 mm_m101 := ⟨tb_860, ⟨by decide +kernel, by decide +kernel, by decide +kernel⟩, by decide +kernel, by decide +kernel, by decide +kernel, tb_76⟩
theorem mk_102 : mm_mok 102 mm_m102 := ⟨tb_864, ⟨by decide +kernel, by decide +kernel, by decide +kernel⟩, by decide +kernel, by decide +kernel, by decide +kernel, tb_76⟩
theorem mk_103 : mm_mok 103 mm_m103 := ⟨tb_868, ⟨by decide +kernel, by decide +kernel, by decide +kernel⟩, by decide +kernel, by decide +kernel, by decide +kernel, tb_76⟩
theorem mk_104 : mm_mok 104 mm_m104 := ⟨tb_956, ⟨by decide +kernel, by decide +kernel, by decide +kernel⟩, by decide +kernel, by decide +kernel, by decide +kernel, tb_76⟩
theorem mk_105 : mm_mok 105 mm_m105 := ⟨tb_961, ⟨by decide +kernel, by decide +kernel, by decide +kernel⟩, by decide +kernel, by decide +kernel, by decide +kernel, tb_76⟩
theorem mk_106 : mm_mok 106 mm_m106 := ⟨tb_975, ⟨by decide +kernel, by decide +kernel, by decide +kernel⟩, by decide +kernel, by decide +kernel, by decide +kernel, tb_76⟩
theorem mk_107 : mm_mok 107 mm_m107 := ⟨tb_987, ⟨by decide +kernel, by decide +kernel, by decide +kernel⟩, by decide +kernel, by decide +kernel, by decide +kernel, tb_76⟩
theorem mk_108 : mm_mok 108 mm_m108 := ⟨tb_1000, ⟨by decide +kernel, by decide +kernel, by decide +kernel⟩, by decide +kernel, by decide +kernel, by decide +kernel, tb_76⟩
theorem mk_109 : mm_mok 109 mm_m109 := ⟨tb_1005, ⟨by decide +kernel, by decide +kernel, by decide +kernel⟩, by decide +kernel, by decide +kernel, by decide +kernel, tb_76⟩
theorem mk_110 : mm_mok 110 mm_m110 := ⟨tb_1009, ⟨by decide +kernel, by decide +kernel, by decide +kernel⟩, by decide +kernel, by decide +kernel, by decide +kernel, tb_76⟩
theorem mk_111 : mm_mok 111 mm_m111 := ⟨tb_1013, ⟨by decide +kernel, by decide +kernel, by decide +kernel⟩, by decide +kernel, by decide +kernel, by decide +kernel, tb_76⟩
theorem mk_112 : mm_mok 112 mm_m112 := ⟨tb_1017, ⟨by decide +kernel, by decide +kernel, by decide +kernel⟩, by decide +kernel, by decide +kernel, by decide +kernel, tb_76⟩
theorem mk_113 : mm_mok 113 mm_m113 := ⟨tb_1021, ⟨by decide +kernel, by decide +kernel, by decide +kernel⟩, by decide +kernel, by decide +kernel, by decide +kernel, tb_76⟩
theorem mk_114 : mm_mok 114 mm_m114 := ⟨tb_1025, ⟨by decide +kernel, by decide +kernel, by decide +kernel⟩, by decide +kernel, by decide +kernel, by decide +kernel, tb_76⟩
theorem mk_115 : mm_mok 115 mm_m115 := ⟨tb_1029, ⟨by decide +kernel, by decide +kernel, by decide +kernel⟩, by decide +kernel, by decide +kernel, by decide +kernel, tb_76⟩
theorem mk_116 : mm_mok 116 mm_m116 := ⟨tb_394, ⟨by decide +kernel, by decide +kernel, by decide +kernel⟩, by decide +kernel, by decide +kernel, by decide +kernel, tb_76⟩
theorem mk_117 : mm_mok 117 mm_m117 := ⟨tb_386, ⟨by decide +kernel, by decide +kernel, by decide +kernel⟩, by decide +kernel, by decide +kernel, by decide +kernel, tb_76⟩
theorem mk_118 : mm_mok 118 mm_m118 := ⟨tb_496, ⟨by decide +kernel, by decide +kernel, by decide +kernel⟩, by decide +kernel, by decide +kernel, by decide +kernel, tb_76⟩
theorem mk_119 : mm_mok 119 mm_m119 := ⟨tb_389, ⟨by decide +kernel, by decide +kernel, by decide +kernel⟩, by decide +kernel, by decide +kernel, by decide +kernel, tb_76⟩
theorem mk_120 : mm_mok 120 mm_m120 := ⟨tb_515, ⟨by decide +kernel, by decide +kernel, by decide +kernel⟩, by decide +kernel, by decide +kernel, by decide +kernel, tb_76⟩
theorem mk_121 : mm_mok 121 mm_m121 := ⟨tb_383, ⟨by decide +kernel, by decide +kernel, by decide +kernel⟩, by decide +kernel, by decide +kernel, by decide +kernel, tb_76⟩
theorem mk_122 : mm_mok 122 mm_m122 := ⟨tb_532, ⟨by decide +kernel, by decide +kernel, by decide +kernel⟩, by decide +kernel, by decide +kernel, by decide +kernel, tb_76⟩
theorem mk_123 : mm_mok 123 mm_m123 := ⟨tb_834, ⟨by decide +kernel, by decide +kernel, by decide +kernel⟩, by decide +kernel, by decide +kernel, by decide +kernel, tb_76⟩
theorem mk_124 : mm_mok 124 mm_m124 := ⟨tb_964, ⟨by decide +kernel, by decide +kernel, by decide +kernel⟩, by decide +kernel, by decide +kernel, by decide +kernel, tb_76⟩
theorem mk_125 : mm_mok 125 mm_m125 := ⟨tb_696, ⟨by decide +kernel, by decide +kernel, by decide +kernel⟩, by decide +kernel, by decide +kernel, by decide +kernel, tb_76⟩
theorem mk_126 : mm_mok 126 mm_m126 := ⟨tb_408, ⟨by decide +kernel, by decide +kernel, by decide +kernel⟩, by decide +kernel, by decide +kernel, by decide +kernel, tb_76⟩
theorem mk_127 : mm_mok 127 mm_m127 := ⟨tb_508, ⟨by decide +kernel, by decide +kernel, by decide +kernel⟩, by decide +kernel, by decide +kernel, by decide +kernel, tb_76⟩
theorem mk_128 : mm_mok 128 mm_m128 := ⟨tb_979, ⟨by decide +kernel, by decide +kernel, by decide +kernel⟩, by decide +kernel, by decide +kernel, by decide +kernel, tb_76⟩
theorem mk_129 : mm_mok 129 mm_m129 := ⟨tb_486, ⟨by decide +kernel, by decide +kernel, by decide +kernel⟩, by decide +kernel, by decide +kernel, by decide +kernel, tb_76⟩
theorem mk_130 : mm_mok 130 mm_m130 := ⟨tb_666, ⟨by decide +kernel, by decide +kernel, by decide +kernel⟩, by decide +kernel, by decide +kernel, by decide +kernel, tb_76⟩
theorem mk_131 : mm_mok 131 mm_m131 := ⟨tb_807, ⟨by decide +kernel, by decide +kernel, by decide +kernel⟩, by decide +kernel, by decide +kernel, by decide +kernel, tb_76⟩
theorem mk_132 : mm_mok 132 mm_m132 := ⟨tb_811, ⟨by decide +kernel, by decide +kernel, by decide +kernel⟩, by decide +kernel, by decide +kernel, by decide +kernel, tb_76⟩
theorem mk_133 : mm_mok 133 mm_m133 := ⟨tb_818, ⟨by decide +kernel, by decide +kernel, by decide +kernel⟩, by decide +kernel, by decide +kernel, by decide +kernel, tb_76⟩
theorem mk_134 : mm_mok 134 mm_m134 := ⟨tb_838, ⟨by decide +kernel, by decide +kernel, by decide +kernel⟩, by decide +kernel, by decide +kernel, by decide +kernel, tb_76⟩
theorem mk_135 : mm_mok 135 mm_m135 := ⟨tb_847, ⟨by decide +kernel, by decide +kernel, by decide +kernel⟩, by decide +kernel, by decide +kernel, by decide +kernel, tb_76⟩
theorem mk_136 : mm_mok 136 mm_m136 := ⟨tb_1034, ⟨by decide +kernel, by decide +kernel, by decide +kernel⟩, by decide +kernel, by decide +kernel, by decide +kernel, tb_89⟩
theorem mk_137 : mm_mok 137 mm_m137 := ⟨tb_1108, ⟨by decide +kernel, by decide +kernel, by decide +kernel⟩, by decide +kernel, by decide +kernel, by decide +kernel, tb_89⟩
theorem mk_138 : mm_mok 138 mm_m138 := ⟨tb_1103, ⟨by decide +kernel, by decide +kernel, by decide +kernel⟩, by decide +kernel, by decide +kernel, by decide +kernel, tb_89⟩
theorem mk_139 : mm_mok 139 mm_m139 := ⟨tb_1151, ⟨by decide +kernel, by decide +kernel, by decide +kernel⟩, by decide +kernel, by decide +kernel, by decide +kernel, tb_89⟩
theorem mk_140 : mm_mok 140 mm_m140 := ⟨tb_1348, ⟨by decide +kernel, by decide +kernel, by decide +kernel⟩, by decide +kernel, by decide +kernel, by decide +kernel, tb_89⟩
theorem mk_141 : mm_mok 141 mm_m141 := ⟨tb_1137, ⟨by decide +kernel, by decide +kernel, by decide +kernel⟩, by decide +kernel, by decide +kernel, by decide +kernel, tb_89⟩
theorem mk_142 : mm_mok 142 mm_m142 := ⟨tb_1118, ⟨by decide +kernel, by decide +kernel, by decide +kernel⟩, by decide +kernel, by decide +kernel, by decide +kernel, tb_89⟩
theorem mk_143 : mm_mok 143 mm_m143 := ⟨tb_1190, ⟨by decide +kernel, by decide +kernel, by decide +kernel⟩, by decide +kernel, by decide +kernel, by decide +kernel, tb_89⟩
theorem mk_144 : mm_mok 144 mm_m144 := ⟨tb_1178, ⟨by decide +kernel, by decide +kernel, by decide +kernel⟩, by decide +kernel, by decide +kernel, by decide +kernel, tb_89⟩
theorem mk_145 : mm_mok 145 mm_m145 := ⟨tb_1159, ⟨by decide +kernel, by decide +kernel, by decide +kernel⟩, by decide +kernel, by decide +kernel, by decide +kernel, tb_89⟩
theorem mk_146 : mm_mok 146 mm_m146 := ⟨tb_1122, ⟨by decide +kernel, by decide +kernel, by decide +kernel⟩, by decide +kernel, by decide +kernel, by decide +kernel, tb_89⟩
theorem mk_147 : mm_mok 147 mm_m147 := ⟨tb_1130, ⟨by decide +kernel, by decide +kernel, by decide +kernel⟩, by decide +kernel, by decide +kernel, by decide +kernel, tb_89⟩
theorem mk_148 : mm_mok 148 mm_m148 := ⟨tb_1182, ⟨by decide +kernel, by decide +kernel, by decide +kernel⟩, by decide +kernel, by decide +kernel, by decide +kernel, tb_89⟩
theorem mk_149 : mm_mok 149 mm_m149 := ⟨tb_1126, ⟨by decide +kernel, by decide +kernel, by decide +kernel⟩, by decide +kernel, by decide +kernel, by decide +kernel, tb_89⟩
theorem mk_150 : mm_mok 150 mm_m150 := ⟨tb_1268, ⟨by decide +kernel, by decide +kernel, by decide +kernel⟩, by decide +kernel, by decide +kernel, by decide +kernel, tb_89⟩
theorem mk_151 : mm_mok 151 mm_m151 := ⟨tb_1288, ⟨by decide +kernel, by decide +kernel, by decide +kernel⟩, by decide +kernel, by decide +kernel, by decide +kernel, tb_89⟩
theorem mk_152 : mm_mok 152 mm_m152 := ⟨tb_1284, ⟨by decide +kernel, by decide +kernel, by decide +kernel⟩, by decide +kernel, by decide +kernel, by decide +kernel, tb_89⟩
theorem mk_153 : mm_mok 153 mm_m153 := ⟨tb_1292, ⟨by decide +kernel, by decide +kernel, by decide +kernel⟩, by decide +kernel, by decide +kernel, by decide +kernel, tb_89⟩
theorem mk_154 : mm_mok 154 mm_m154 := ⟨tb_1280, ⟨by decide +kernel, by decide +kernel, by decide +kernel⟩, by decide +kernel, by decide +kernel, by decide +kernel, tb_89⟩
theorem mk_155 : mm_mok 155 mm_m155 := ⟨tb_1134, ⟨by decide +kernel, by decide +kernel, by decide +kernel⟩, by decide +kernel, by decide +kernel, by decide +kernel, tb_89⟩
theorem mk_156 : mm_mok 156 mm_m156 := ⟨tb_1276, ⟨by decide +kernel, by decide +kernel, by decide +kernel⟩, by decide +kernel, by decide +kernel, by decide +kernel, tb_89⟩
theorem mk_157 : mm_mok 157 mm_m157 := ⟨tb_1272, ⟨by decide +kernel, by decide +kernel, by decide +kernel⟩, by decide +kernel, by decide +kernel, by decide +kernel, tb_89⟩
theorem mk_158 : mm_mok 158 mm_m158 := ⟨tb_1264, ⟨by decide +kernel, by decide +kernel, by decide +kernel⟩, by decide +kernel, by decide +kernel, by decide +kernel, tb_89⟩
theorem mk_159 : mm_mok 159 mm_m159 := ⟨tb_1100, ⟨by decide +kernel, by decide +kernel, by decide +kernel⟩, by decide +kernel, by decide +kernel, by decide +kernel, tb_89⟩
theorem mk_160 : mm_mok 160 mm_m160 := ⟨tb_1097, ⟨by decide +kernel, by decide +kernel, by decide +kernel⟩, by decide +kernel, by decide +kernel, by decide +kernel, tb_89⟩
theorem mk_161 : mm_mok 161 mm_m161 := ⟨tb_1114, ⟨by decide +kernel, by decide +kernel, by decide +kernel⟩, by decide +kernel, by decide +kernel, by decide +kernel, tb_89⟩
theorem mk_162 : mm_mok 162 mm_m162 := ⟨tb_1155, ⟨by decide +kernel, by decide +kernel, by decide +kernel⟩, by decide +kernel, by decide +kernel, by decide +kernel, tb_89⟩
theorem mk_163 : mm_mok 163 mm_m163 := ⟨tb_1163, ⟨by decide +kernel, by decide +kernel, by decide +kernel⟩, by decide +kernel, by decide +kernel, by decide +kernel, tb_89⟩
theorem mk_164 : mm_mok 164 mm_m164 := ⟨tb_1170, ⟨by decide +kernel, by decide +kernel, by decide +kernel⟩, by decide +kernel, by decide +kernel, by decide +kernel, tb_89⟩
theorem mk_165 : mm_mok 165 mm_m165 := ⟨tb_1167, ⟨by decide +kernel, by decide +kernel, by decide +kernel⟩, by decide +kernel, by decide +kernel, by decide +kernel, tb_89⟩
theorem mk_166 : mm_mok 166 mm_m166 := ⟨tb_1175, ⟨by decide +kernel, by decide +kernel, by decide +kernel⟩, by decide +kernel, by decide +kernel, by decide +kernel, tb_89⟩
theorem mk_167 : mm_mok 167 mm_m167 := ⟨tb_1186, ⟨by decide +kernel, by decide +kernel, by decide +kernel⟩, by decide +kernel, by decide +kernel, by decide +kernel, tb_89⟩
theorem mk_168 : mm_mok 168 mm_m168 := ⟨tb_1194, ⟨by decide +kernel, by decide +kernel, by decide +kernel⟩, by decide +kernel, by decide +kernel, by decide +kernel, tb_89⟩
theorem mk_169 : mm_mok 169 mm_m169 := ⟨tb_1198, ⟨by decide +kernel, by decide +kernel, by decide +kernel⟩, by decide +kernel, by decide +kernel, by decide +kernel, tb_89⟩
theorem mk_170 : mm_mok 170 mm_m170 := ⟨tb_1203, ⟨by decide +kernel, by decide +kernel, by decide +kernel⟩, by decide +kernel, by decide +kernel, by decide +kernel, tb_89⟩
theorem mk_171 : mm_mok 171 mm_m171 := ⟨tb_1236, ⟨by decide +kernel, by decide +kernel, by decide +kernel⟩, by decide +kernel, by decide +kernel, by decide +kernel, tb_89⟩
theorem mk_172 : mm_mok 172 mm_m172 := ⟨tb_1244, ⟨by decide +kernel, by decide +kernel, by decide +kernel⟩, by decide +kernel, by decide +kernel, by decide +kernel, tb_89⟩
theorem mk_173 : mm_mok 173 mm_m173 := ⟨tb_1240, ⟨by decide +kernel, by decide +kernel, by decide +kernel⟩, by decide +kernel, by decide +kernel, by decide +kernel, tb_89⟩
theorem mk_174 : mm_mok 174 mm_m174 := ⟨tb_1252, ⟨by decide +kernel, by decide +kernel, by decide +kernel⟩, by decide +kernel, by decide +kernel, by decide +kernel, tb_89⟩
theorem mk_175 : mm_mok 175 mm_m175 := ⟨tb_1248, ⟨by decide +kernel, by decide +kernel, by decide +kernel⟩, by decide +kernel, by decide +kernel, by decide +kernel, tb_89⟩
theorem mk_176 : mm_mok 176 mm_m176 := ⟨tb_1232, ⟨by decide +kernel, by decide +kernel, by decide +kernel⟩, by decide +kernel, by decide +kernel, by decide +kernel, tb_89⟩
theorem mk_177 : mm_mok 177 mm_m177 := ⟨tb_1228, ⟨by decide +kernel, by decide +kernel, by decide +kernel⟩, by decide +kernel, by decide +kernel, by decide +kernel, tb_89⟩
theorem mk_178 : mm_mok 178 mm_m178 := ⟨tb_1224, ⟨by decide +kernel, by decide +kernel, by decide +kernel⟩, by decide +kernel, by decide +kernel, by decide +kernel, tb_89⟩
theorem mk_179 : mm_mok 179 mm_m179 := ⟨tb_1220, ⟨by decide +kernel, by decide +kernel, by decide +kernel⟩, by decide +kernel, by decide +kernel, by decide +kernel, tb_89⟩
theorem mk_180 : mm_mok 180 mm_m180 := ⟨tb_1216, ⟨by decide +kernel, by decide +kernel, by decide +kernel⟩, by decide +kernel, by decide +kernel, by decide +kernel, tb_89⟩
theorem mk_181 : mm_mok 181 mm_m181 := ⟨tb_1212, ⟨by decide +kernel, by decide +kernel, by decide +kernel⟩, by decide +kernel, by decide +kernel, by decide +kernel, tb_89⟩
theorem mk_182 : mm_mok 182 mm_m182 := ⟨tb_1208, ⟨by decide +kernel, by decide +kernel, by decide +kernel⟩, by decide +kernel, by decide +kernel, by decide +kernel, tb_89⟩
theorem mk_183 : mm_mok 183 mm_m183 := ⟨tb_1148, ⟨by decide +kernel, by decide +kernel, by decide +kernel⟩, by decide +kernel, by decide +kernel, by decide +kernel, tb_89⟩
theorem mk_184 : mm_mok 184 mm_m184 := ⟨tb_1145, ⟨by decide +kernel, by decide +kernel, by decide +kernel⟩, by decide +kernel, by decide +kernel, by decide +kernel, tb_89⟩
theorem mk_185 : mm_mok 185 mm_m185 := ⟨tb_1141, ⟨by decide +kernel, by decide +kernel, by decide +kernel⟩, by decide +kernel, by decide +kernel, by decide +kernel, tb_89⟩
theorem mk_186 : mm_mok 186 mm_m186 := ⟨tb_1256, ⟨by decide +kernel, by decide +kernel, by decide +kernel⟩, by decide +kernel, by decide +kernel, by decide +kernel, tb_89⟩
theorem mk_187 : mm_mok 187 mm_m187 := ⟨tb_1260, ⟨by decide +kernel, by decide +kernel, by decide +kernel⟩, by decide +kernel, by decide +kernel, by decide +kernel, tb_89⟩
theorem mk_188 : mm_mok 188 mm_m188 := ⟨tb_1296, ⟨by decide +kernel, by decide +kernel, by decide +kernel⟩, by decide +kernel, by decide +kernel, by decide +kernel, tb_89⟩
theorem mk_189 : mm_mok 189 mm_m189 := ⟨tb_1308, ⟨by decide +kernel, by decide +kernel, by decide +kernel⟩, by decide +kernel, by decide +kernel, by decide +kernel, tb_89⟩
theorem mk_190 : mm_mok 190 mm_m190 := ⟨tb_1316, ⟨by decide +kernel, by decide +kernel, by decide +kernel⟩, by decide +kernel, by decide +kernel, by decide +kernel, tb_89⟩
theorem mk_191 : mm_mok 191 mm_m191 := ⟨tb_1312, ⟨by decide +kernel, by decide +kernel, by decide +kernel⟩, by decide +kernel, by decide +kernel, by decide +kernel, tb_89⟩
theorem mk_192 : mm_mok 192 mm_m192 := ⟨tb_1304, ⟨by decide +kernel, by decide +kernel, by decide +kernel⟩, by decide +kernel, by decide +kernel, by decide +kernel, tb_89⟩
theorem mk_193 : mm_mok 193 mm_m193 := ⟨tb_1300, ⟨by decide +kernel, by decide +kernel, by decide +kernel⟩, by decide +kernel, by decide +kernel, by decide +kernel, tb_89⟩
theorem mk_194 : mm_mok 194 mm_m194 := ⟨tb_1328, ⟨by decide +kernel, by decide +kernel, by decide +kernel⟩, by decide +kernel, by decide +kernel, by decide +kernel, tb_89⟩
theorem mk_195 : mm_mok 195 mm_m195 := ⟨tb_1324, ⟨by decide +kernel, by decide +kernel, by decide +kernel⟩, by decide +kernel, by decide +kernel, by decide +kernel, tb_89⟩
theorem mk_196 : mm_mok 196 mm_m196 := ⟨tb_1320, ⟨by decide +kernel, by decide +kernel, by decide +kernel⟩, by decide +kernel, by decide +kernel, by decide +kernel, tb_89⟩
theorem mk_197 : mm_mok 197 mm_m197 := ⟨tb_1336, ⟨by decide +kernel, by decide +kernel, by decide +kernel⟩, by decide +kernel, by decide +kernel, by decide +kernel, tb_89⟩
theorem mk_198 : mm_mok 198 mm_m198 := ⟨tb_1332, ⟨by decide +kernel, by decide +kernel, by decide +kernel⟩, by decide +kernel, by decide +kernel, by decide +kernel, tb_89⟩
theorem mk_199 : mm_mok 199 mm_m199 := ⟨tb_1345, ⟨by decide +kernel, by decide +kernel, by decide +kernel⟩, by decide +kernel, by decide +kernel, by decide +kernel, tb_89⟩
theorem mk_200 : mm_mok 200 mm_m200 := ⟨tb_1352, ⟨by decide +kernel, by decide +kernel, by decide +kernel⟩, by decide +kernel, by decide +kernel, by decide +kernel, tb_89⟩
theorem mk_201 : mm_mok 201 mm_m201 := ⟨tb_1341, ⟨by decide +kernel, by decide +kernel, by decide +kernel⟩, by decide +kernel, by decide +kernel, by decide +kernel, tb_89⟩
theorem mk_202 : mm_mok 202 mm_m202 := ⟨tb_1356, ⟨by decide +kernel, by decide +kernel, by decide +kernel⟩, by decide +kernel, by decide +kernel, by decide +kernel, tb_89⟩
theorem mk_203 : mm_mok 203 mm_m203 := ⟨tb_1361, ⟨by decide +kernel, by decide +kernel, by decide +kernel⟩, by decide +kernel, by decide +kernel, by decide +kernel, tb_89⟩
theorem mk_204 : mm_mok 204 mm_m204 := ⟨tb_1369, ⟨by decide +kernel, by decide +kernel, by decide +kernel⟩, by decide +kernel, by decide +kernel, by decide +kernel, tb_89⟩
theorem mk_205 : mm_mok 205 mm_m205 := ⟨tb_1365, ⟨by decide +kernel, by decide +kernel, by decide +kernel⟩, by decide +kernel, by decide +kernel, by decide +kernel, tb_89⟩
theorem mk_206 : mm_mok 206 mm_m206 := ⟨tb_1377, ⟨by decide +kernel, by decide +kernel, by decide +kernel⟩, by decide +kernel, by decide +kernel, by decide +kernel, tb_89⟩
theorem mk_207 : mm_mok 207 mm_m207 := ⟨tb_1373, ⟨by decide +kernel, by decide +kernel, by decide +kernel⟩, by decide +kernel, by decide +kernel, by decide +kernel, tb_89⟩
theorem mk_208 : mm_mok 208 mm_m208 := ⟨tb_1388, ⟨by decide +kernel, by decide +kernel, by decide +kernel⟩, by decide +kernel, by decide +kernel, by decide +kernel, tb_89⟩
theorem mk_209 : mm_mok 209 mm_m209 := ⟨tb_1381, ⟨by decide +kernel, by decide +kernel, by decide +kernel⟩, by decide +kernel, by decide +kernel, by decide +kernel, tb_89⟩
theorem mk_210 : mm_mok 210 mm_m210 := ⟨tb_1400, ⟨by decide +kernel, by decide +kernel, by decide +kernel⟩, by decide +kernel, by decide +kernel, by decide +kernel, tb_89⟩
theorem mk_211 : mm_mok 211 mm_m211 := ⟨tb_1396, ⟨by decide +kernel, by decide +kernel, by decide +kernel⟩, by decide +kernel, by decide +kernel, by decide +kernel, tb_89⟩
theorem mk_212 : mm_mok 212 mm_m212 := ⟨tb_1392, ⟨by decide +kernel, by decide +kernel, by decide +kernel⟩, by decide +kernel, by decide +kernel, by decide +kernel, tb_89⟩
theorem mk_213 : mm_mok 213 mm_m213 := ⟨tb_1404, ⟨by decide +kernel, by decide +kernel, by decide +kernel⟩, by decide +kernel, by decide +kernel, by decide +kernel, tb_89⟩
theorem mk_214 : mm_mok 214 mm_m214 := ⟨tb_1408, ⟨by decide +kernel, by decide +kernel, by decide +kernel⟩, by decide +kernel, by decide +kernel, by decide +kernel, tb_89⟩
theorem mk_215 : mm_mok 215 mm_m215 := ⟨tb_1412, ⟨by decide +kernel, by decide +kernel, by decide +kernel⟩, by decide +kernel, by decide +kernel, by decide +kernel, tb_89⟩
theorem mk_216 : mm_mok 216 mm_m216 := ⟨tb_1424, ⟨by decide +kernel, by decide +kernel, by decide +kernel⟩, by decide +kernel, by decide +kernel, by decide +kernel, tb_89⟩
theorem mk_217 : mm_mok 217 mm_m217 := ⟨tb_1428, ⟨by decide +kernel, by decide +kernel, by decide +kernel⟩, by decide +kernel, by decide +kernel, by decide +kernel, tb_89⟩
theorem mk_218 : mm_mok 218 mm_m218 := ⟨tb_1420, ⟨by decide +kernel, by decide +kernel, by decide +kernel⟩, by decide +kernel, by decide +kernel, by decide +kernel, tb_89⟩
theorem mk_219 : mm_mok 219 mm_m219 := ⟨tb_1440, ⟨by decide +kernel, by decide +kernel, by decide +kernel⟩, by decide +kernel, by decide +kernel, by decide +kernel, tb_89⟩
theorem mk_220 : mm_mok 220 mm_m220 := ⟨tb_1436, ⟨by decide +kernel, by decide +kernel, by decide +kernel⟩, by decide +kernel, by decide +kernel, by decide +kernel, tb_89⟩
theorem mk_221 : mm_mok 221 mm_m221 := ⟨tb_1432, ⟨by decide +kernel, by decide +kernel, by decide +kernel⟩, by decide +kernel, by decide +kernel, by decide +kernel, tb_89⟩
theorem mk_222 : mm_mok 222 mm_m222 := ⟨tb_1452, ⟨by decide +kernel, by decide +kernel, by decide +kernel⟩, by decide +kernel, by decide +kernel, by decide +kernel, tb_89⟩
theorem mk_223 : mm_mok 223 mm_m223 := ⟨tb_1448, ⟨by decide +kernel, by decide +kernel, by decide +kernel⟩, by decide +kernel, by decide +kernel, by decide +kernel, tb_89⟩
theorem mk_224 : mm_mok 224 mm_m224 := ⟨tb_1444, ⟨by decide +kernel, by decide +kernel, by decide +kernel⟩, by decide +kernel, by decide +kernel, by decide +kernel, tb_89⟩
theorem mk_225 : mm_mok 225 mm_m225 := ⟨tb_1460, ⟨by decide +kernel, by decide +kernel, by decide +kernel⟩, by decide +kernel, by decide +kernel, by decide +kernel, tb_89⟩
theorem mk_226 : mm_mok 226 mm_m226 := ⟨tb_1456, ⟨by decide +kernel, by decide +kernel, by decide +kernel⟩, by decide +kernel, by decide +kernel, by decide +kernel, tb_89⟩
theorem mk_227 : mm_mok 227 mm_m227 := ⟨tb_1416, ⟨by decide +kernel, by decide +kernel, by decide +kernel⟩, by decide +kernel, by decide +kernel, by decide +kernel, tb_89⟩
theorem mk_228 : mm_mok 228 mm_m228 := ⟨tb_1464, ⟨by decide +kernel, by decide +kernel, by decide +kernel⟩, by decide +kernel, by decide +kernel, by decide +kernel, tb_89⟩
theorem mk_229 : mm_mok 229 mm_m229 := ⟨tb_1384, ⟨by decide +kernel, by decide +kernel, by decide +kernel⟩, by decide +kernel, by decide +kernel, by decide +kernel, tb_89⟩
theorem mk_230 : mm_mok 230 mm_m230 := ⟨tb_1468, ⟨by decide +kernel, by decide +kernel, by decide +kernel⟩, by decide +kernel, by decide +kernel, by decide +kernel, tb_89⟩
theorem mk_231 : mm_mok 231 mm_m231 := ⟨tb_1476, ⟨by decide +kernel, by decide +kernel, by decide +kernel⟩, by decide +kernel, by decide +kernel, by decide +kernel, tb_89⟩
theorem mk_232 : mm_mok 232 mm_m232 := ⟨tb_1472, ⟨by decide +kernel, by decide +kernel, by decide +kernel⟩, by decide +kernel, by decide +kernel, by decide +kernel, tb_89⟩
theorem mk_233 : mm_mok 233 mm_m233 := ⟨tb_1484, ⟨by decide +kernel, by decide +kernel, by decide +kernel⟩, by decide +kernel, by decide +kernel, by decide +kernel, tb_89⟩
theorem mk_234 : mm_mok 234 mm_m234 := ⟨tb_1480, ⟨by decide +kernel, by decide +kernel, by decide +kernel⟩, by decide +kernel, by decide +kernel, by decide +kernel, tb_89⟩
theorem mk_235 : mm_mok 235 mm_m235 := ⟨tb_1488, ⟨by decide +kernel, by decide +kernel, by decide +kernel⟩, by decide +kernel, by decide +kernel, by decide +kernel, tb_89⟩
theorem mk_236 : mm_mok 236 mm_m236 := ⟨tb_1492, ⟨by decide +kernel, by decide +kernel, by decide +kernel⟩, by decide +kernel, by decide +kernel, by decide +kernel, tb_89⟩
theorem mk_237 : mm_mok 237 mm_m237 := ⟨tb_1496, ⟨by decide +kernel, by decide +kernel, by decide +kernel⟩, by decide +kernel, by decide +kernel, by decide +kernel, tb_89⟩
theorem mk_238 : mm_mok 238 mm_m238 := ⟨tb_1500, ⟨by decide +kernel, by decide +kernel, by decide +kernel⟩, by decide +kernel, by decide +kernel, by decide +kernel, tb_89⟩
theorem mk_239 : mm_mok 239 mm_m239 := ⟨tb_1504, ⟨by decide +kernel, by decide +kernel, by decide +kernel⟩, by decide +kernel, by decide +kernel, by decide +kernel, tb_89⟩
theorem mk_240 : mm_mok 240 mm_m240 := ⟨tb_1508, ⟨by decide +kernel, by decide +kernel, by decide +kernel⟩, by decide +kernel, by decide +kernel, by decide +kernel, tb_89⟩
theorem mk_241 : mm_mok 241 mm_m241 := ⟨tb_1512, ⟨by decide +kernel, by decide +kernel, by decide +kernel⟩, by decide +kernel, by decide +kernel, by decide +kernel, tb_89⟩
theorem mk_242 : mm_mok 242 mm_m242 := ⟨tb_1516, ⟨by decide +kernel, by decide +kernel, by decide +kernel⟩, by decide +kernel, by decide +kernel, by decide +kernel, tb_89⟩
theorem mk_243 : mm_mok 243 mm_m243 := ⟨tb_582, ⟨by decide +kernel, by decide +kernel, by decide +kernel⟩, by decide +kernel, by decide +kernel, by decide +kernel, tb_92⟩
theorem mk_244 : mm_mok 244 mm_m244 := ⟨tb_568, ⟨by decide +kernel, by decide +kernel, by decide +kernel⟩, by decide +kernel, by decide +kernel, by decide +kernel, tb_92⟩
theorem mk_245 : mm_mok 245 mm_m245 := ⟨tb_572, ⟨by decide +kernel, by decide +kernel, by decide +kernel⟩, by decide +kernel, by decide +kernel, by decide +kernel, tb_92⟩
theorem mk_246 : mm_mok 246 mm_m246 := ⟨tb_586, ⟨by decide +kernel, by decide +kernel, by decide +kernel⟩, by decide +kernel, by decide +kernel, by decide +kernel, tb_92⟩
theorem mk_247 : mm_mok 247 mm_m247 := ⟨tb_576, ⟨by decide +kernel, by decide +kernel, by decide +kernel⟩, by decide +kernel, by decide +kernel, by decide +kernel, tb_92⟩
theorem mk_248 : mm_mok 248 mm_m248 := ⟨tb_592, ⟨by decide +kernel, by decide +kernel, by decide +kernel⟩, by decide +kernel, by decide +kernel, by decide +kernel, tb_93⟩
theorem mk_249 : mm_mok 249 mm_m249 := ⟨tb_589, ⟨by decide +kernel, by decide +kernel, by decide +kernel⟩, by decide +kernel, by decide +kernel, by decide +kernel, tb_93⟩
theorem mk_250 : mm_mok 250 mm_m250 := ⟨tb_597, ⟨by decide +kernel, by decide +kernel, by decide +kernel⟩, by decide +kernel, by decide +kernel, by decide +kernel, tb_93⟩
theorem mk_251 : mm_mok 251 mm_m251 := ⟨tb_419, ⟨by decide +kernel, by decide +kernel, by decide +kernel⟩, by decide +kernel, by decide +kernel, by decide +kernel, tb_90⟩
theorem mk_252 : mm_mok 252 mm_m252 := ⟨tb_971, ⟨by decide +kernel, by decide +kernel, by decide +kernel⟩, by decide +kernel, by decide +kernel, by decide +kernel, tb_97⟩
theorem mm_mall : ∀ mid, 0 < mid → mid < 253 → mm_mok mid (mm_me mid)
  | 0, h, _ => absurd h (Nat.lt_irrefl 0)
  | 1, _, _ => mk_1
  | 2, _, _ => mk_2
  | 3, _, _ => mk_3
  | 4, _, _ => mk_4
  | 5, _, _ => mk_5
  | 6, _, _ => mk_6
  | 7, _, _ => mk_7
  | 8, _, _ => mk_8
  | 9, _, _ => mk_9
  | 10, _, _ => mk_10
  | 11, _, _ => mk_11
  | 12, _, _ => mk_12
  | 13, _, _ => mk_13
  | 14, _, _ => mk_14
  | 15, _, _ => mk_15
  | 16, _, _ => mk_16
  | 17, _, _ => mk_17
  | 18, _, _ => mk_18
  | 19, _, _ => mk_19
  | 20, _, _ => mk_20
  | 21, _, _ => mk_21
  | 22, _, _ => mk_22
  | 23, _, _ => mk_23
  | 24, _, _ => mk_24
  | 25, _, _ => mk_25
  | 26, _, _ => mk_26
  | 27, _, _ => mk_27
  | 28, _, _ => mk_28
  | 29, _, _ => mk_29
  | 30, _, _ => mk_30
  | 31, _, _ => mk_31
  | 32, _, _ => mk_32
  | 33, _, _ => mk_33
  | 34, _, _ => mk_34
  | 35, _, _ => mk_35
  | 36, _, _ => mk_36
  | 37, _, _ => mk_37
  | 38, _, _ => mk_38
  | 39, _, _ => mk_39
  | 40, _, _ => mk_40
  | 41, _, _ => mk_41
  | 42, _, _ => mk_42
  | 43, _, _ => mk_43
  | 44, _, _ => mk_44
  | 45, _, _ => mk_45
  | 46, _, _ => mk_46
  | 47, _, _ => mk_47
  | 48, _, _ => mk_48
  | 49, _, _ => mk_49
  | 50, _, _ => mk_50
  | 51, _, _ => mk_51
  | 52, _, _ => mk_52
  | 53, _, _ => mk_53
  | 54, _, _ => mk_54
  | 55, _, _ => mk_55
  | 56, _, _ => mk_56
  | 57, _, _ => mk_57
  | 58, _, _ => mk_58
  | 59, _, _ => mk_59
  | 60, _, _ => mk_60
  | 61, _, _ => mk_61
  | 62, _, _ => mk_62
  | 63, _, _ => mk_63
  | 64, _, _ => mk_64
  | 65, _, _ => mk_65
  | 66, _, _ => mk_66
  | 67, _, _ => mk_67
  | 68, _, _ => mk_68
  | 69, _, _ => mk_69
  | 70, _, _ => mk_70
  | 71, _, _ => mk_71
  | 72, _, _ => mk_72
  | 73, _, _ => mk_73
  | 74, _, _ => mk_74
  | 75, _, _ => mk_75
  | 76, _, _ => mk_76
  | 77, _, _ => mk_77
  | 78, _, _ => mk_78
  | 79, _, _ => mk_79
  | 80, _, _ => mk_80
  | 81, _, _ => mk_81
  | 82, _, _ => mk_82
  | 83, _, _ => mk_83
  | 84, _, _ => mk_84
  | 85, _, _ => mk_85
  | 86, _, _ => mk_86
  | 87, _, _ => mk_87
  | 88, _, _ => mk_88
  | 89, _, _ => mk_89
  | 90, _, _ => mk_90
  | 91, _, _ => mk_91
  | 92, _, _ => mk_92
  | 93, _, _ => mk_93
  | 94, _, _ => mk_94
  | 95, _, _ => mk_95
  | 96, _, _ => mk_96
  | 97, _, _ => mk_97
  | 98, _, _ => mk_98
  | 99, _, _ => mk_99
  | 100, _, _ => mk_100
  | 101, _, _ => mk_101
  | 102, _, _ => mk_102
  | 103, _, _ => mk_103
  | 104, _, _ => mk_104
  | 105, _, _ => mk_105
  | 106, _, _ => mk_106
  | 107, _, _ => mk_107
  | 108, _, _ => mk_108
  | 109, _, _ => mk_109
  | 110, _, _ => mk_110
  | 111, _, _ => mk_111
  | 112, _, _ => mk_112
  | 113, _, _ => mk_113
  | 114, _, _ => mk_114
  | 115, _, _ => mk_115
  | 116, _, _ => mk_116
  | 117, _, _ => mk_117
  | 118, _, _ => mk_118
  | 119, _, _ => mk_119
  | 120, _, _ => mk_120
  | 121, _, _ => mk_121
  | 122, _, _ => mk_122
  | 123, _, _ => mk_123
  | 124, _, _ => mk_124
  | 125, _, _ => mk_125
  | 126, _, _ => mk_126
  | 127, _, _ => mk_127
  | 128, _, _ => mk_128
  | 129, _, _ => mk_129
  | 130, _, _ => mk_130
  | 131, _, _ => mk_131
  | 132, _, _ => mk_132
  | 133, _, _ => mk_133
  | 134, _, _ => mk_134
  | 135, _, _ => mk_135
  | 136, _, _ => mk_136
  | 137, _, _ => mk_137
  | 138, _, _ => mk_138
  | 139, _, _ => mk_139
  | 140, _, _ => mk_140
  | 141, _, _ => mk_141
  | 142, _, _ => mk_142
  | 143, _, _ => mk_143
  | 144, _, _ => mk_144
  | 145, _, _ => mk_145
  | 146, _, _ => mk_146
  | 147, _, _ => mk_147
  | 148, _, _ => mk_148
  | 149, _, _ => mk_149
  | 150, _, _ => mk_150
  | 151, _, _ => mk_151
  | 152, _, _ => mk_152
  | 153, _, _ => mk_153
  | 154, _, _ => mk_154
  | 155, _, _ => mk_155
  | 156, _, _ => mk_156
  | 157, _, _ => mk_157
  | 158, _, _ => mk_158
  | 159, _, _ => mk_159
  | 160, _, _ => mk_160
  | 161, _, _ => mk_161
  | 162, _, _ => mk_162
  | 163, _, _ => mk_163
  | 164, _, _ => mk_164
  | 165, _, _ => mk_165
  | 166, _, _ => mk_166
  | 167, _, _ => mk_167
  | 168, _, _ => mk_168
  | 169, _, _ => mk_169
  | 170, _, _ => mk_170
  | 171, _, _ => mk_171
  | 172, _, _ => mk_172
  | 173, _, _ => mk_173
  | 174, _, _ => mk_174
  | 175, _, _ => mk_175
  | 176, _, _ => mk_176
  | 177, _, _ => mk_177
  | 178, _, _ => mk_178
  | 179, _, _ => mk_179
  | 180, _, _ => mk_180
  | 181, _, _ => mk_181
  | 182, _, _ => mk_182
  | 183, _, _ => mk_183
  | 184, _, _ => mk_184
  | 185, _, _ => mk_185
  | 186, _, _ => mk_186
  | 187, _, _ => mk_187
  | 188, _, _ => mk_188
  | 189, _, _ => mk_189
  | 190, _, _ => mk_190
  | 191, _, _ => mk_191
  | 192, _, _ => mk_192
  | 193, _, _ => mk_193
  | 194, _, _ => mk_194
  | 195, _, _ => mk_195
  | 196, _, _ => mk_196
  | 197, _, _ => mk_197
  | 198, _, _ => mk_198
  | 199, _, _ => mk_199
  | 200, _, _ => mk_200
  | 201, _, _ => mk_201
  | 202, _, _ => mk_202
  | 203, _, _ => mk_203
  | 204, _, _ => mk_204
  | 205, _, _ => mk_205
  | 206, _, _ => mk_206
  | 207, _, _ => mk_207
  | 208, _, _ => mk_208
  | 209, _, _ => mk_209
  | 210, _, _ => mk_210
  | 211, _, _ => mk_211
  | 212, _, _ => mk_212
  | 213, _, _ => mk_213
  | 214, _, _ => mk_214
  | 215, _, _ => mk_215
  | 216, _, _ => mk_216
  | 217, _, _ => mk_217
  | 218, _, _ => mk_218
  | 219, _, _ => mk_219
  | 220, _, _ => mk_220
  | 221, _, _ => mk_221
  | 222, _, _ => mk_222
  | 223, _, _ => mk_223
  | 224, _, _ => mk_224
  | 225, _, _ => mk_225
  | 226, _, _ => mk_226
  | 227, _, _ => mk_227
  | 228, _, _ => mk_228
  | 229, _, _ => mk_229
  | 230, _, _ => mk_230
  | 231, _, _ => mk_231
  | 232, _, _ => mk_232
  | 233, _, _ => mk_233
  | 234, _, _ => mk_234
  | 235, _, _ => mk_235
  | 236, _, _ => mk_236
  | 237, _, _ => mk_237
  | 238, _, _ => mk_238
  | 239, _, _ => mk_239
  | 240, _, _ => mk_240
  | 241, _, _ => mk_241
  | 242, _, _ => mk_242
  | 243, _, _ => mk_243
  | 244, _, _ => mk_244
  | 245, _, _ => mk_245
  | 246, _, _ => mk_246
  | 247, _, _ => mk_247
  | 248, _, _ => mk_248
  | 249, _, _ => mk_249
  | 250, _, _ => mk_250
  | 251, _, _ => mk_251
  | 252, _, _ => mk_252
  | k + 253, _, h => absurd h (by omega)
theorem fx_0 : mm_fok (0, 11, 100, 0) := ⟨"ChairViews$Bench", (RX0, TX0, 1), rfl, by decide, tb_140, Or.inr tb_141⟩
theorem fx_1 : mm_fok (0, 11, 100, 1) := ⟨"ChairViews$Bench", (RX1, TX1, 1), rfl, by decide, tb_140, Or.inr tb_141⟩
theorem fx_2 : mm_fok (0, 11, 100, 2) := ⟨"ChairViews$Bench", (RX2, TX2, 1), rfl, by decide, tb_140, Or.inr tb_141⟩
theorem fx_3 : mm_fok (0, 11, 100, 3) := ⟨"ChairViews$Bench", (RX3, TX3, 1), rfl, by decide, tb_140, Or.inr tb_141⟩
theorem fx_4 : mm_fok (0, 11, 100, 6) := ⟨"ChairViews$Bench", (RX6, TX6, 1), rfl, by decide, tb_140, Or.inr tb_141⟩
theorem fx_5 : mm_fok (0, 11, 100, 8) := ⟨"ChairViews$Bench", (RX8, TX8, 1), rfl, by decide, tb_140, Or.inr tb_141⟩
theorem fx_6 : mm_fok (0, 11, 100, 10) := ⟨"ChairViews$Bench", (RX10, TX10, 1), rfl, by decide, tb_140, Or.inr tb_141⟩
theorem fx_7 : mm_fok (1, 9, 100, 0) := ⟨"ChairViews$Chair", (RX0, TX0, 1), rfl, by decide, tb_137, Or.inl rfl⟩
theorem fx_8 : mm_fok (1, 9, 100, 1) := ⟨"ChairViews$Chair", (RX1, TX1, 1), rfl, by decide, tb_137, Or.inl rfl⟩
theorem fx_9 : mm_fok (1, 9, 100, 2) := ⟨"ChairViews$Chair", (RX2, TX2, 1), rfl, by decide, tb_137, Or.inl rfl⟩
theorem fx_10 : mm_fok (1, 9, 100, 3) := ⟨"ChairViews$Chair", (RX3, TX3, 1), rfl, by decide, tb_137, Or.inl rfl⟩
theorem fx_11 : mm_fok (1, 9, 100, 6) := ⟨"ChairViews$Chair", (RX6, TX6, 1), rfl, by decide, tb_137, Or.inl rfl⟩
theorem fx_12 : mm_fok (1, 9, 100, 8) := ⟨"ChairViews$Chair", (RX8, TX8, 1), rfl, by decide, tb_137, Or.inl rfl⟩
theorem fx_13 : mm_fok (1, 9, 100, 10) := ⟨"ChairViews$Chair", (RX10, TX10, 1), rfl, by decide, tb_137, Or.inl rfl⟩
theorem fx_14 : mm_fok (2, 15, 100, 0) := ⟨"ChairViews$Crown", (RX0, TX0, 1), rfl, by decide, tb_148, Or.inr tb_149⟩
theorem fx_15 : mm_fok (2, 15, 100, 1) := ⟨"ChairViews$Crown", (RX1, TX1, 1), rfl, by decide, tb_148, Or.inr tb_149⟩
theorem fx_16 : mm_fok (2, 15, 100, 2) := ⟨"ChairViews$Crown", (RX2, TX2, 1), rfl, by decide, tb_148, Or.inr tb_149⟩
theorem fx_17 : mm_fok (2, 15, 100, 3) := ⟨"ChairViews$Crown", (RX3, TX3, 1), rfl, by decide, tb_148, Or.inr tb_149⟩
theorem fx_18 : mm_fok (2, 15, 100, 6) := ⟨"ChairViews$Crown", (RX6, TX6, 1), rfl, by decide, tb_148, Or.inr tb_149⟩
theorem fx_19 : mm_fok (2, 15, 100, 8) := ⟨"ChairViews$Crown", (RX8, TX8, 1), rfl, by decide, tb_148, Or.inr tb_149⟩
theorem fx_20 : mm_fok (2, 15, 100, 10) := ⟨"ChairViews$Crown", (RX10, TX10, 1), rfl, by decide, tb_148, Or.inr tb_149⟩
theorem fx_21 : mm_fok (3, 23, 100, 0) := ⟨"ChairViews$Glued", (RX0, TX0, 1), rfl, by decide, tb_142, Or.inr tb_143⟩
theorem fx_22 : mm_fok (3, 23, 100, 1) := ⟨"ChairViews$Glued", (RX1, TX1, 1), rfl, by decide, tb_142, Or.inr tb_143⟩
theorem fx_23 : mm_fok (3, 23, 100, 2) := ⟨"ChairViews$Glued", (RX2, TX2, 1), rfl, by decide, tb_142, Or.inr tb_143⟩
theorem fx_24 : mm_fok (3, 23, 100, 3) := ⟨"ChairViews$Glued", (RX3, TX3, 1), rfl, by decide, tb_142, Or.inr tb_143⟩
theorem fx_25 : mm_fok (3, 23, 100, 6) := ⟨"ChairViews$Glued", (RX6, TX6, 1), rfl, by decide, tb_142, Or.inr tb_143⟩
theorem fx_26 : mm_fok (3, 23, 100, 8) := ⟨"ChairViews$Glued", (RX8, TX8, 1), rfl, by decide, tb_142, Or.inr tb_143⟩
theorem fx_27 : mm_fok (3, 23, 100, 10) := ⟨"ChairViews$Glued", (RX10, TX10, 1), rfl, by decide, tb_142, Or.inr tb_143⟩
theorem fx_28 : mm_fok (4, 9, 402, 4) := ⟨"ChairViews$House", (RX4, TX4, 18), rfl, by decide, tb_247, Or.inl rfl⟩
theorem fx_29 : mm_fok (4, 15, 403, 4) := ⟨"ChairViews$House", (RX4, TX4, 18), rfl, by decide, tb_249, Or.inl rfl⟩
theorem fx_30 : mm_fok (4, 18, 404, 4) := ⟨"ChairViews$House", (RX4, TX4, 18), rfl, by decide, tb_252, Or.inl rfl⟩
theorem fx_31 : mm_fok (4, 21, 405, 4) := ⟨"ChairViews$House", (RX4, TX4, 18), rfl, by decide, tb_255, Or.inl rfl⟩
theorem fx_32 : mm_fok (4, 24, 406, 4) := ⟨"ChairViews$House", (RX4, TX4, 18), rfl, by decide, tb_257, Or.inl rfl⟩
theorem fx_33 : mm_fok (4, 27, 408, 4) := ⟨"ChairViews$House", (RX4, TX4, 18), rfl, by decide, tb_261, Or.inl rfl⟩
theorem fx_34 : mm_fok (4, 30, 409, 4) := ⟨"ChairViews$House", (RX4, TX4, 18), rfl, by decide, tb_263, Or.inl rfl⟩
theorem fx_35 : mm_fok (4, 33, 410, 4) := ⟨"ChairViews$House", (RX4, TX4, 18), rfl, by decide, tb_265, Or.inl rfl⟩
theorem fx_36 : mm_fok (4, 44, 411, 4) := ⟨"ChairViews$House", (RX4, TX4, 18), rfl, by decide, tb_267, Or.inl rfl⟩
theorem fx_37 : mm_fok (4, 51, 412, 4) := ⟨"ChairViews$House", (RX4, TX4, 18), rfl, by decide, tb_269, Or.inl rfl⟩
theorem fx_38 : mm_fok (4, 59, 413, 4) := ⟨"ChairViews$House", (RX4, TX4, 18), rfl, by decide, tb_271, Or.inl rfl⟩
theorem fx_39 : mm_fok (4, 63, 414, 4) := ⟨"ChairViews$House", (RX4, TX4, 18), rfl, by decide, tb_273, Or.inl rfl⟩
theorem fx_40 : mm_fok (4, 66, 417, 4) := ⟨"ChairViews$House", (RX4, TX4, 18), rfl, by decide, tb_279, Or.inl rfl⟩
theorem fx_41 : mm_fok (4, 70, 400, 4) := ⟨"ChairViews$House", (RX4, TX4, 18), rfl, by decide, tb_244, Or.inl rfl⟩
theorem fx_42 : mm_fok (4, 74, 401, 4) := ⟨"ChairViews$House", (RX4, TX4, 18), rfl, by decide, tb_245, Or.inl rfl⟩
theorem fx_43 : mm_fok (4, 83, 407, 4) := ⟨"ChairViews$House", (RX4, TX4, 18), rfl, by decide, tb_259, Or.inl rfl⟩
theorem fx_44 : mm_fok (4, 86, 900, 9) := ⟨"ChairViews$Text", (RX9, TX9, 4), rfl, by decide, tb_226, Or.inl rfl⟩
theorem fx_45 : mm_fok (4, 93, 415, 4) := ⟨"ChairViews$House", (RX4, TX4, 18), rfl, by decide, tb_275, Or.inl rfl⟩
theorem fx_46 : mm_fok (4, 96, 416, 4) := ⟨"ChairViews$House", (RX4, TX4, 18), rfl, by decide, tb_277, Or.inl rfl⟩
theorem fx_47 : mm_fok (5, 14, 500, 5) := ⟨"ChairViews$Reader", (RX5, TX5, 5), rfl, by decide, tb_327, Or.inl rfl⟩
theorem fx_48 : mm_fok (5, 20, 501, 5) := ⟨"ChairViews$Reader", (RX5, TX5, 5), rfl, by decide, tb_329, Or.inl rfl⟩
theorem fx_49 : mm_fok (5, 25, 502, 5) := ⟨"ChairViews$Reader", (RX5, TX5, 5), rfl, by decide, tb_330, Or.inl rfl⟩
theorem fx_50 : mm_fok (5, 36, 503, 5) := ⟨"ChairViews$Reader", (RX5, TX5, 5), rfl, by decide, tb_331, Or.inl rfl⟩
theorem fx_51 : mm_fok (5, 40, 504, 5) := ⟨"ChairViews$Reader", (RX5, TX5, 5), rfl, by decide, tb_332, Or.inl rfl⟩
theorem fx_52 : mm_fok (5, 46, 702, 7) := ⟨"ChairViews$Row", (RX7, TX7, 3), rfl, by decide, tb_120, Or.inl rfl⟩
theorem fx_53 : mm_fok (6, 9, 404, 4) := ⟨"ChairViews$House", (RX4, TX4, 18), rfl, by decide, tb_253, Or.inl rfl⟩
theorem fx_54 : mm_fok (6, 27, 100, 0) := ⟨"ChairViews$Repaired", (RX0, TX0, 1), rfl, by decide, tb_144, Or.inr tb_145⟩
theorem fx_55 : mm_fok (6, 27, 100, 1) := ⟨"ChairViews$Repaired", (RX1, TX1, 1), rfl, by decide, tb_144, Or.inr tb_145⟩
theorem fx_56 : mm_fok (6, 27, 100, 2) := ⟨"ChairViews$Repaired", (RX2, TX2, 1), rfl, by decide, tb_144, Or.inr tb_145⟩
theorem fx_57 : mm_fok (6, 27, 100, 3) := ⟨"ChairViews$Repaired", (RX3, TX3, 1), rfl, by decide, tb_144, Or.inr tb_145⟩
theorem fx_58 : mm_fok (6, 27, 100, 6) := ⟨"ChairViews$Repaired", (RX6, TX6, 1), rfl, by decide, tb_144, Or.inr tb_145⟩
theorem fx_59 : mm_fok (6, 27, 100, 8) := ⟨"ChairViews$Repaired", (RX8, TX8, 1), rfl, by decide, tb_144, Or.inr tb_145⟩
theorem fx_60 : mm_fok (6, 27, 100, 10) := ⟨"ChairViews$Repaired", (RX10, TX10, 1), rfl, by decide, tb_144, Or.inr tb_145⟩
theorem fx_61 : mm_fok (7, 13, 700, 7) := ⟨"ChairViews$Row", (RX7, TX7, 3), rfl, by decide, tb_115, Or.inl rfl⟩
theorem fx_62 : mm_fok (7, 19, 701, 7) := ⟨"ChairViews$Row", (RX7, TX7, 3), rfl, by decide, tb_116, Or.inl rfl⟩
theorem fx_63 : mm_fok (7, 23, 702, 7) := ⟨"ChairViews$Row", (RX7, TX7, 3), rfl, by decide, tb_118, Or.inl rfl⟩
theorem fx_64 : mm_fok (8, 7, 100, 0) := ⟨"ChairViews$Soaked", (RX0, TX0, 1), rfl, by decide, tb_146, Or.inr tb_147⟩
theorem fx_65 : mm_fok (8, 7, 100, 1) := ⟨"ChairViews$Soaked", (RX1, TX1, 1), rfl, by decide, tb_146, Or.inr tb_147⟩
theorem fx_66 : mm_fok (8, 7, 100, 2) := ⟨"ChairViews$Soaked", (RX2, TX2, 1), rfl, by decide, tb_146, Or.inr tb_147⟩
theorem fx_67 : mm_fok (8, 7, 100, 3) := ⟨"ChairViews$Soaked", (RX3, TX3, 1), rfl, by decide, tb_146, Or.inr tb_147⟩
theorem fx_68 : mm_fok (8, 7, 100, 6) := ⟨"ChairViews$Soaked", (RX6, TX6, 1), rfl, by decide, tb_146, Or.inr tb_147⟩
theorem fx_69 : mm_fok (8, 7, 100, 8) := ⟨"ChairViews$Soaked", (RX8, TX8, 1), rfl, by decide, tb_146, Or.inr tb_147⟩
theorem fx_70 : mm_fok (8, 7, 100, 10) := ⟨"ChairViews$Soaked", (RX10, TX10, 1), rfl, by decide, tb_146, Or.inr tb_147⟩
theorem fx_71 : mm_fok (9, 14, 900, 9) := ⟨"ChairViews$Text", (RX9, TX9, 4), rfl, by decide, tb_225, Or.inl rfl⟩
theorem fx_72 : mm_fok (9, 20, 901, 9) := ⟨"ChairViews$Text", (RX9, TX9, 4), rfl, by decide, tb_228, Or.inl rfl⟩
theorem fx_73 : mm_fok (9, 28, 902, 9) := ⟨"ChairViews$Text", (RX9, TX9, 4), rfl, by decide, tb_229, Or.inl rfl⟩
theorem fx_74 : mm_fok (9, 32, 903, 9) := ⟨"ChairViews$Text", (RX9, TX9, 4), rfl, by decide, tb_230, Or.inl rfl⟩
theorem fx_75 : mm_fok (9, 35, 702, 7) := ⟨"ChairViews$Row", (RX7, TX7, 3), rfl, by decide, tb_119, Or.inl rfl⟩
theorem fx_76 : mm_fok (10, 7, 403, 4) := ⟨"ChairViews$House", (RX4, TX4, 18), rfl, by decide, tb_250, Or.inl rfl⟩
theorem fx_77 : mm_fok (10, 17, 100, 0) := ⟨"ChairViews$Wet", (RX0, TX0, 1), rfl, by decide, tb_138, Or.inr tb_139⟩
theorem fx_78 : mm_fok (10, 17, 100, 1) := ⟨"ChairViews$Wet", (RX1, TX1, 1), rfl, by decide, tb_138, Or.inr tb_139⟩
theorem fx_79 : mm_fok (10, 17, 100, 2) := ⟨"ChairViews$Wet", (RX2, TX2, 1), rfl, by decide, tb_138, Or.inr tb_139⟩
theorem fx_80 : mm_fok (10, 17, 100, 3) := ⟨"ChairViews$Wet", (RX3, TX3, 1), rfl, by decide, tb_138, Or.inr tb_139⟩
theorem fx_81 : mm_fok (10, 17, 100, 6) := ⟨"ChairViews$Wet", (RX6, TX6, 1), rfl, by decide, tb_138, Or.inr tb_139⟩
theorem fx_82 : mm_fok (10, 17, 100, 8) := ⟨"ChairViews$Wet", (RX8, TX8, 1), rfl, by decide, tb_138, Or.inr tb_139⟩
theorem fx_83 : mm_fok (10, 17, 100, 10) := ⟨"ChairViews$Wet", (RX10, TX10, 1), rfl, by decide, tb_138, Or.inr tb_139⟩
theorem fx_84 : mm_fok (11, 14, 1100, 11) := ⟨"ChairViews", (RX11, TX11, 10), rfl, by decide, tb_346, Or.inl rfl⟩
theorem fx_85 : mm_fok (11, 41, 1101, 11) := ⟨"ChairViews", (RX11, TX11, 10), rfl, by decide, tb_347, Or.inl rfl⟩
theorem fx_86 : mm_fok (11, 50, 1102, 11) := ⟨"ChairViews", (RX11, TX11, 10), rfl, by decide, tb_348, Or.inl rfl⟩
theorem fx_87 : mm_fok (11, 54, 1103, 11) := ⟨"ChairViews", (RX11, TX11, 10), rfl, by decide, tb_349, Or.inl rfl⟩
theorem fx_88 : mm_fok (11, 57, 1104, 11) := ⟨"ChairViews", (RX11, TX11, 10), rfl, by decide, tb_350, Or.inl rfl⟩
theorem fx_89 : mm_fok (11, 63, 1105, 11) := ⟨"ChairViews", (RX11, TX11, 10), rfl, by decide, tb_351, Or.inl rfl⟩
theorem fx_90 : mm_fok (11, 67, 1106, 11) := ⟨"ChairViews", (RX11, TX11, 10), rfl, by decide, tb_352, Or.inl rfl⟩
theorem fx_91 : mm_fok (11, 71, 1107, 11) := ⟨"ChairViews", (RX11, TX11, 10), rfl, by decide, tb_353, Or.inl rfl⟩
theorem fx_92 : mm_fok (11, 74, 1108, 11) := ⟨"ChairViews", (RX11, TX11, 10), rfl, by decide, tb_354, Or.inl rfl⟩
theorem fx_93 : mm_fok (11, 90, 401, 4) := ⟨"ChairViews$House", (RX4, TX4, 18), rfl, by decide, tb_246, Or.inl rfl⟩
theorem fx_94 : mm_fok (11, 102, 402, 4) := ⟨"ChairViews$House", (RX4, TX4, 18), rfl, by decide, tb_248, Or.inl rfl⟩
theorem fx_95 : mm_fok (11, 105, 403, 4) := ⟨"ChairViews$House", (RX4, TX4, 18), rfl, by decide, tb_251, Or.inl rfl⟩
theorem fx_96 : mm_fok (11, 108, 404, 4) := ⟨"ChairViews$House", (RX4, TX4, 18), rfl, by decide, tb_254, Or.inl rfl⟩
theorem fx_97 : mm_fok (11, 111, 405, 4) := ⟨"ChairViews$House", (RX4, TX4, 18), rfl, by decide, tb_256, Or.inl rfl⟩
theorem fx_98 : mm_fok (11, 132, 407, 4) := ⟨"ChairViews$House", (RX4, TX4, 18), rfl, by decide, tb_260, Or.inl rfl⟩
theorem fx_99 : mm_fok (11, 141, 408, 4) := ⟨"ChairViews$House", (RX4, TX4, 18), rfl, by decide, tb_262, Or.inl rfl⟩
theorem fx_100 : mm_fok (11, 144, 409, 4) := ⟨"ChairViews$House", (RX4, TX4, 18), rfl, by decide, tb_264, Or.inl rfl⟩
theorem fx_101 : mm_fok (11, 147, 410, 4) := ⟨"ChairViews$House", (RX4, TX4, 18), rfl, by decide, tb_266, Or.inl rfl⟩
theorem fx_102 : mm_fok (11, 154, 413, 4) := ⟨"ChairViews$House", (RX4, TX4, 18), rfl, by decide, tb_272, Or.inl rfl⟩
theorem fx_103 : mm_fok (11, 157, 702, 7) := ⟨"ChairViews$Row", (RX7, TX7, 3), rfl, by decide, tb_121, Or.inl rfl⟩
theorem fx_104 : mm_fok (11, 182, 900, 9) := ⟨"ChairViews$Text", (RX9, TX9, 4), rfl, by decide, tb_227, Or.inl rfl⟩
theorem fx_105 : mm_fok (11, 187, 500, 5) := ⟨"ChairViews$Reader", (RX5, TX5, 5), rfl, by decide, tb_328, Or.inl rfl⟩
theorem fx_106 : mm_fok (11, 219, 416, 4) := ⟨"ChairViews$House", (RX4, TX4, 18), rfl, by decide, tb_278, Or.inl rfl⟩
theorem fx_107 : mm_fok (11, 225, 415, 4) := ⟨"ChairViews$House", (RX4, TX4, 18), rfl, by decide, tb_276, Or.inl rfl⟩
theorem fx_108 : mm_fok (11, 247, 406, 4) := ⟨"ChairViews$House", (RX4, TX4, 18), rfl, by decide, tb_258, Or.inl rfl⟩
theorem fx_109 : mm_fok (11, 253, 701, 7) := ⟨"ChairViews$Row", (RX7, TX7, 3), rfl, by decide, tb_117, Or.inl rfl⟩
theorem fx_110 : mm_fok (11, 263, 417, 4) := ⟨"ChairViews$House", (RX4, TX4, 18), rfl, by decide, tb_280, Or.inl rfl⟩
theorem fx_111 : mm_fok (11, 312, 1109, 11) := ⟨"ChairViews", (RX11, TX11, 10), rfl, by decide, tb_355, Or.inl rfl⟩
theorem fx_112 : mm_fok (11, 315, 414, 4) := ⟨"ChairViews$House", (RX4, TX4, 18), rfl, by decide, tb_274, Or.inl rfl⟩
theorem fx_113 : mm_fok (11, 322, 411, 4) := ⟨"ChairViews$House", (RX4, TX4, 18), rfl, by decide, tb_268, Or.inl rfl⟩
theorem fx_114 : mm_fok (11, 326, 412, 4) := ⟨"ChairViews$House", (RX4, TX4, 18), rfl, by decide, tb_270, Or.inl rfl⟩
theorem fx_115 : mm_fok (12, 9, 1200, 12) := ⟨"ChairViewsModel", (RX12, TX12, 19), rfl, by decide, tb_1036, Or.inl rfl⟩
theorem fx_116 : mm_fok (12, 13, 1201, 12) := ⟨"ChairViewsModel", (RX12, TX12, 19), rfl, by decide, tb_1037, Or.inl rfl⟩
theorem fx_117 : mm_fok (12, 16, 1202, 12) := ⟨"ChairViewsModel", (RX12, TX12, 19), rfl, by decide, tb_1038, Or.inl rfl⟩
theorem fx_118 : mm_fok (12, 19, 1204, 12) := ⟨"ChairViewsModel", (RX12, TX12, 19), rfl, by decide, tb_1040, Or.inl rfl⟩
theorem fx_119 : mm_fok (12, 22, 1205, 12) := ⟨"ChairViewsModel", (RX12, TX12, 19), rfl, by decide, tb_1041, Or.inl rfl⟩
theorem fx_120 : mm_fok (12, 25, 1206, 12) := ⟨"ChairViewsModel", (RX12, TX12, 19), rfl, by decide, tb_1042, Or.inl rfl⟩
theorem fx_121 : mm_fok (12, 28, 1207, 12) := ⟨"ChairViewsModel", (RX12, TX12, 19), rfl, by decide, tb_1043, Or.inl rfl⟩
theorem fx_122 : mm_fok (12, 31, 1208, 12) := ⟨"ChairViewsModel", (RX12, TX12, 19), rfl, by decide, tb_1044, Or.inl rfl⟩
theorem fx_123 : mm_fok (12, 34, 1214, 12) := ⟨"ChairViewsModel", (RX12, TX12, 19), rfl, by decide, tb_1050, Or.inl rfl⟩
theorem fx_124 : mm_fok (12, 37, 1216, 12) := ⟨"ChairViewsModel", (RX12, TX12, 19), rfl, by decide, tb_1052, Or.inl rfl⟩
theorem fx_125 : mm_fok (12, 40, 1217, 12) := ⟨"ChairViewsModel", (RX12, TX12, 19), rfl, by decide, tb_1053, Or.inl rfl⟩
theorem fx_126 : mm_fok (12, 43, 1218, 12) := ⟨"ChairViewsModel", (RX12, TX12, 19), rfl, by decide, tb_1054, Or.inl rfl⟩
theorem fx_127 : mm_fok (12, 128, 1210, 12) := ⟨"ChairViewsModel", (RX12, TX12, 19), rfl, by decide, tb_1046, Or.inl rfl⟩
theorem fx_128 : mm_fok (12, 132, 1209, 12) := ⟨"ChairViewsModel", (RX12, TX12, 19), rfl, by decide, tb_1045, Or.inl rfl⟩
theorem fx_129 : mm_fok (12, 135, 1213, 12) := ⟨"ChairViewsModel", (RX12, TX12, 19), rfl, by decide, tb_1049, Or.inl rfl⟩
theorem fx_130 : mm_fok (12, 141, 1212, 12) := ⟨"ChairViewsModel", (RX12, TX12, 19), rfl, by decide, tb_1048, Or.inl rfl⟩
theorem fx_131 : mm_fok (12, 149, 1211, 12) := ⟨"ChairViewsModel", (RX12, TX12, 19), rfl, by decide, tb_1047, Or.inl rfl⟩
theorem fx_132 : mm_fok (12, 243, 1215, 12) := ⟨"ChairViewsModel", (RX12, TX12, 19), rfl, by decide, tb_1051, Or.inl rfl⟩
theorem fx_133 : mm_fok (12, 286, 1203, 12) := ⟨"ChairViewsModel", (RX12, TX12, 19), rfl, by decide, tb_1039, Or.inl rfl⟩
set_option maxRecDepth 20000 in
theorem mm_fall : ∀ q ∈ mm_FX, mm_fok q := List.forall_mem_cons.mpr ⟨fx_0, List.forall_mem_cons.mpr ⟨fx_1, List.forall_mem_cons.mpr ⟨fx_2, List.forall_mem_cons.mpr ⟨fx_3, List.forall_mem_cons.mpr ⟨fx_4, List.forall_mem_cons.mpr ⟨fx_5, List.forall_mem_cons.mpr ⟨fx_6, List.forall_mem_cons.mpr ⟨fx_7, List.forall_mem_cons.mpr ⟨fx_8, List.forall_mem_cons.mpr ⟨fx_9, List.forall_mem_cons.mpr ⟨fx_10, List.forall_mem_cons.mpr ⟨fx_11, List.forall_mem_cons.mpr ⟨fx_12, List.forall_mem_cons.mpr ⟨fx_13, List.forall_mem_cons.mpr ⟨fx_14, List.forall_mem_cons.mpr ⟨fx_15, List.forall_mem_cons.mpr ⟨fx_16, List.forall_mem_cons.mpr ⟨fx_17, List.forall_mem_cons.mpr ⟨fx_18, List.forall_mem_cons.mpr ⟨fx_19, List.forall_mem_cons.mpr ⟨fx_20, List.forall_mem_cons.mpr ⟨fx_21, List.forall_mem_cons.mpr ⟨fx_22, List.forall_mem_cons.mpr ⟨fx_23, List.forall_mem_cons.mpr ⟨fx_24, List.forall_mem_cons.mpr ⟨fx_25, List.forall_mem_cons.mpr ⟨fx_26, List.forall_mem_cons.mpr ⟨fx_27, List.forall_mem_cons.mpr ⟨fx_28, List.forall_mem_cons.mpr ⟨fx_29, List.forall_mem_cons.mpr ⟨fx_30, List.forall_mem_cons.mpr ⟨fx_31, List.forall_mem_cons.mpr ⟨fx_32, List.forall_mem_cons.mpr ⟨fx_33, List.forall_mem_cons.mpr ⟨fx_34, List.forall_mem_cons.mpr ⟨fx_35, List.forall_mem_cons.mpr ⟨fx_36, List.forall_mem_cons.mpr ⟨fx_37, List.forall_mem_cons.mpr ⟨fx_38, List.forall_mem_cons.mpr ⟨fx_39, List.forall_mem_cons.mpr ⟨fx_40, List.forall_mem_cons.mpr ⟨fx_41, List.forall_mem_cons.mpr ⟨fx_42, List.forall_mem_cons.mpr ⟨fx_43, List.forall_mem_cons.mpr ⟨fx_44, List.forall_mem_cons.mpr ⟨fx_45, List.forall_mem_cons.mpr ⟨fx_46, List.forall_mem_cons.mpr ⟨fx_47, List.forall_mem_cons.mpr ⟨fx_48, List.forall_mem_cons.mpr ⟨fx_49, List.forall_mem_cons.mpr ⟨fx_50, List.forall_mem_cons.mpr ⟨fx_51, List.forall_mem_cons.mpr ⟨fx_52, List.forall_mem_cons.mpr ⟨fx_53, List.forall_mem_cons.mpr ⟨fx_54, List.forall_mem_cons.mpr ⟨fx_55, List.forall_mem_cons.mpr ⟨fx_56, List.forall_mem_cons.mpr ⟨fx_57, List.forall_mem_cons.mpr ⟨fx_58, List.forall_mem_cons.mpr ⟨fx_59, List.forall_mem_cons.mpr ⟨fx_60, List.forall_mem_cons.mpr ⟨fx_61, List.forall_mem_cons.mpr ⟨fx_62, List.forall_mem_cons.mpr ⟨fx_63, List.forall_mem_cons.mpr ⟨fx_64, List.forall_mem_cons.mpr ⟨fx_65, List.forall_mem_cons.mpr ⟨fx_66, List.forall_mem_cons.mpr ⟨fx_67, List.forall_mem_cons.mpr ⟨fx_68, List.forall_mem_cons.mpr ⟨fx_69, List.forall_mem_cons.mpr ⟨fx_70, List.forall_mem_cons.mpr ⟨fx_71, List.forall_mem_cons.mpr ⟨fx_72, List.forall_mem_cons.mpr ⟨fx_73, List.forall_mem_cons.mpr ⟨fx_74, List.forall_mem_cons.mpr ⟨fx_75, List.forall_mem_cons.mpr ⟨fx_76, List.forall_mem_cons.mpr ⟨fx_77, List.forall_mem_cons.mpr ⟨fx_78, List.forall_mem_cons.mpr ⟨fx_79, List.forall_mem_cons.mpr ⟨fx_80, List.forall_mem_cons.mpr ⟨fx_81, List.forall_mem_cons.mpr ⟨fx_82, List.forall_mem_cons.mpr ⟨fx_83, List.forall_mem_cons.mpr ⟨fx_84, List.forall_mem_cons.mpr ⟨fx_85, List.forall_mem_cons.mpr ⟨fx_86, List.forall_mem_cons.mpr ⟨fx_87, List.forall_mem_cons.mpr ⟨fx_88, List.forall_mem_cons.mpr ⟨fx_89, List.forall_mem_cons.mpr ⟨fx_90, List.forall_mem_cons.mpr ⟨fx_91, List.forall_mem_cons.mpr ⟨fx_92, List.forall_mem_cons.mpr ⟨fx_93, List.forall_mem_cons.mpr ⟨fx_94, List.forall_mem_cons.mpr ⟨fx_95, List.forall_mem_cons.mpr ⟨fx_96, List.forall_mem_cons.mpr ⟨fx_97, List.forall_mem_cons.mpr ⟨fx_98, List.forall_mem_cons.mpr ⟨fx_99, List.forall_mem_cons.mpr ⟨fx_100, List.forall_mem_cons.mpr ⟨fx_101, List.forall_mem_cons.mpr ⟨fx_102, List.forall_mem_cons.mpr ⟨fx_103, List.forall_mem_cons.mpr ⟨fx_104, List.forall_mem_cons.mpr ⟨fx_105, List.forall_mem_cons.mpr ⟨fx_106, List.forall_mem_cons.mpr ⟨fx_107, List.forall_mem_cons.mpr ⟨fx_108, List.forall_mem_cons.mpr ⟨fx_109, List.forall_mem_cons.mpr ⟨fx_110, List.forall_mem_cons.mpr ⟨fx_111, List.forall_mem_cons.mpr ⟨fx_112, List.forall_mem_cons.mpr ⟨fx_113, List.forall_mem_cons.mpr ⟨fx_114, List.forall_mem_cons.mpr ⟨fx_115, List.forall_mem_cons.mpr ⟨fx_116, List.forall_mem_cons.mpr ⟨fx_117, List.forall_mem_cons.mpr ⟨fx_118, List.forall_mem_cons.mpr ⟨fx_119, List.forall_mem_cons.mpr ⟨fx_120, List.forall_mem_cons.mpr ⟨fx_121, List.forall_mem_cons.mpr ⟨fx_122, List.forall_mem_cons.mpr ⟨fx_123, List.forall_mem_cons.mpr ⟨fx_124, List.forall_mem_cons.mpr ⟨fx_125, List.forall_mem_cons.mpr ⟨fx_126, List.forall_mem_cons.mpr ⟨fx_127, List.forall_mem_cons.mpr ⟨fx_128, List.forall_mem_cons.mpr ⟨fx_129, List.forall_mem_cons.mpr ⟨fx_130, List.forall_mem_cons.mpr ⟨fx_131, List.forall_mem_cons.mpr ⟨fx_132, List.forall_mem_cons.mpr ⟨fx_133, fun _ h => absurd h List.not_mem_nil⟩⟩⟩⟩⟩⟩⟩⟩⟩⟩⟩⟩⟩⟩⟩⟩⟩⟩⟩⟩⟩⟩⟩⟩⟩⟩⟩⟩⟩⟩⟩⟩⟩⟩⟩⟩⟩⟩⟩⟩⟩⟩⟩⟩⟩⟩⟩⟩⟩⟩⟩⟩⟩⟩⟩⟩⟩⟩⟩⟩⟩⟩⟩⟩⟩⟩⟩⟩⟩⟩⟩⟩⟩⟩⟩⟩⟩⟩⟩⟩⟩⟩⟩⟩⟩⟩⟩⟩⟩⟩⟩⟩⟩⟩⟩⟩⟩⟩⟩⟩⟩⟩⟩⟩⟩⟩⟩⟩⟩⟩⟩⟩⟩⟩⟩⟩⟩⟩⟩⟩⟩⟩⟩⟩⟩⟩⟩⟩⟩⟩⟩⟩⟩⟩
theorem mm_kiall : ∀ q ∈ mm_KI, Cond.constant (mm_cn q.1) q.2.1 q.2.2 ∈ lw_g := List.forall_mem_cons.mpr ⟨tb_783, List.forall_mem_cons.mpr ⟨tb_390, List.forall_mem_cons.mpr ⟨tb_396, List.forall_mem_cons.mpr ⟨tb_489, List.forall_mem_cons.mpr ⟨tb_520, List.forall_mem_cons.mpr ⟨tb_799, List.forall_mem_cons.mpr ⟨tb_395, List.forall_mem_cons.mpr ⟨tb_1109, List.forall_mem_cons.mpr ⟨tb_1104, List.forall_mem_cons.mpr ⟨tb_1110, List.forall_mem_cons.mpr ⟨tb_1171, List.forall_mem_cons.mpr ⟨tb_1199, List.forall_mem_cons.mpr ⟨tb_1337, List.forall_mem_cons.mpr ⟨tb_1357, List.forall_mem_cons.mpr ⟨tb_420, List.forall_mem_cons.mpr ⟨tb_421, List.forall_mem_cons.mpr ⟨tb_422, fun _ h => absurd h List.not_mem_nil⟩⟩⟩⟩⟩⟩⟩⟩⟩⟩⟩⟩⟩⟩⟩⟩⟩
theorem mm_klall : ∀ q ∈ mm_KL, Cond.constantLong (mm_cn q.1) q.2.1 q.2.2 ∈ lw_g := List.forall_mem_cons.mpr ⟨tb_1517, List.forall_mem_cons.mpr ⟨tb_1204, fun _ h => absurd h List.not_mem_nil⟩⟩
theorem mm_ssall : ∀ q ∈ mm_SS, Cond.fieldLink (mm_cn q.1) q.2.1 (mm_sd q.2.2.1).1 (mm_sd q.2.2.1).2.1 (mm_sd q.2.2.1).2.2 ∈ lw_g := List.forall_mem_cons.mpr ⟨tb_209, List.forall_mem_cons.mpr ⟨tb_240, List.forall_mem_cons.mpr ⟨tb_487, List.forall_mem_cons.mpr ⟨tb_577, fun _ h => absurd h List.not_mem_nil⟩⟩⟩⟩
theorem mm_sf5000 : Cond.fieldLink "java/lang/String" 9 "java/lang/String" "value" "[B" ∈ lw_g := tb_1536
theorem mm_sf5001 : Cond.fieldLink "java/lang/String" 15 "java/lang/String" "coder" "B" ∈ lw_g := tb_1535
theorem mm_acall : ∀ q ∈ mm_AC, Cond.methodLink (mm_cn q.1) q.2 ⟨"java/lang/System", "arraycopy", "(Ljava/lang/Object;ILjava/lang/Object;II)V"⟩ ∈ lw_g := List.forall_mem_cons.mpr ⟨tb_792, List.forall_mem_cons.mpr ⟨tb_544, fun _ h => absurd h List.not_mem_nil⟩⟩
theorem mm_acn : Cond.native ⟨"java/lang/System", "arraycopy", "(Ljava/lang/Object;ILjava/lang/Object;II)V"⟩ ∈ lw_g ∧ Cond.static ⟨"java/lang/System", "arraycopy", "(Ljava/lang/Object;ILjava/lang/Object;II)V"⟩ ∈ lw_g ∧ Cond.initialized "java/lang/System" ∈ lw_g := ⟨tb_546, tb_545, tb_91⟩
theorem mm_xmall : ∀ q ∈ mm_XM, Cond.methodLink (mm_cn q.1) q.2 Lib.Math.max.name ∈ lw_g := List.forall_mem_cons.mpr ⟨tb_819, List.forall_mem_cons.mpr ⟨tb_112, List.forall_mem_cons.mpr ⟨tb_447, List.forall_mem_cons.mpr ⟨tb_593, fun _ h => absurd h List.not_mem_nil⟩⟩⟩⟩
theorem mm_xmw : Cond.static Lib.Math.max.name ∈ lw_g ∧ Cond.initialized "java/lang/Math" ∈ lw_g ∧ Cond.code Lib.Math.max.name Lib.Math.max.code 2 (some .int) ∈ lw_g := ⟨tb_113, tb_78, tb_g 114 (by decide +kernel) (by decide +kernel)⟩
theorem mm_xnall : ∀ q ∈ mm_XN, Cond.methodLink (mm_cn q.1) q.2 Lib.Math.min.name ∈ lw_g := List.forall_mem_cons.mpr ⟨tb_1001, List.forall_mem_cons.mpr ⟨tb_543, List.forall_mem_cons.mpr ⟨tb_444, List.forall_mem_cons.mpr ⟨tb_594, fun _ h => absurd h List.not_mem_nil⟩⟩⟩⟩
theorem mm_xnw : Cond.static Lib.Math.min.name ∈ lw_g ∧ Cond.initialized "java/lang/Math" ∈ lw_g ∧ Cond.code Lib.Math.min.name Lib.Math.min.code 2 (some .int) ∈ lw_g := ⟨tb_445, tb_78, tb_g 446 (by decide +kernel) (by decide +kernel)⟩
theorem so_0 : mm_sok (13, 9, 1, 3, [(0, 75)]) := Or.inr (Or.inr (Or.inr (Or.inr rfl)))
theorem so_1 : mm_sok (13, 12, 1, 3, [(0, 136)]) := Or.inr (Or.inr (Or.inr (Or.inr rfl)))
theorem so_2 : mm_sok (13, 13, 3, 1, [(11, 76)]) := Or.inr <| Or.inr <| Or.inl ⟨rfl, List.forall_mem_cons.mpr ⟨⟨by decide, by decide, Or.inl ⟨tb_377, tb_378, tb_379, tb_76, by decide +kernel, by decide +kernel⟩⟩, fun _ h => absurd h List.not_mem_nil⟩⟩
theorem so_3 : mm_sok (13, 17, 3, 1, [(12, 160)]) := Or.inr <| Or.inr <| Or.inl ⟨rfl, List.forall_mem_cons.mpr ⟨⟨by decide, by decide, Or.inl ⟨tb_1094, tb_1095, tb_1096, tb_89, by decide +kernel, by decide +kernel⟩⟩, fun _ h => absurd h List.not_mem_nil⟩⟩
theorem so_4 : mm_sok (13, 18, 3, 1, [(11, 77)]) := Or.inr <| Or.inr <| Or.inl ⟨rfl, List.forall_mem_cons.mpr ⟨⟨by decide, by decide, Or.inl ⟨tb_401, tb_402, tb_403, tb_76, by decide +kernel, by decide +kernel⟩⟩, fun _ h => absurd h List.not_mem_nil⟩⟩
theorem so_5 : mm_sok (13, 21, 3, 1, [(12, 161)]) := Or.inr <| Or.inr <| Or.inl ⟨rfl, List.forall_mem_cons.mpr ⟨⟨by decide, by decide, Or.inl ⟨tb_1111, tb_1112, tb_1113, tb_89, by decide +kernel, by decide +kernel⟩⟩, fun _ h => absurd h List.not_mem_nil⟩⟩
theorem so_6 : mm_sok (13, 22, 4, 1, [(11, 78)]) := Or.inr <| Or.inr <| Or.inl ⟨rfl, List.forall_mem_cons.mpr ⟨⟨by decide, by decide, Or.inl ⟨tb_472, tb_473, tb_474, tb_76, by decide +kernel, by decide +kernel⟩⟩, fun _ h => absurd h List.not_mem_nil⟩⟩
theorem so_7 : mm_sok (13, 26, 4, 1, [(12, 162)]) := Or.inr <| Or.inr <| Or.inl ⟨rfl, List.forall_mem_cons.mpr ⟨⟨by decide, by decide, Or.inl ⟨tb_1152, tb_1153, tb_1154, tb_89, by decide +kernel, by decide +kernel⟩⟩, fun _ h => absurd h List.not_mem_nil⟩⟩
theorem so_8 : mm_sok (13, 27, 3, 1, [(11, 79)]) := Or.inr <| Or.inr <| Or.inl ⟨rfl, List.forall_mem_cons.mpr ⟨⟨by decide, by decide, Or.inl ⟨tb_476, tb_477, tb_478, tb_76, by decide +kernel, by decide +kernel⟩⟩, fun _ h => absurd h List.not_mem_nil⟩⟩
theorem so_9 : mm_sok (13, 30, 3, 1, [(12, 163)]) := Or.inr <| Or.inr <| Or.inl ⟨rfl, List.forall_mem_cons.mpr ⟨⟨by decide, by decide, Or.inl ⟨tb_1160, tb_1161, tb_1162, tb_89, by decide +kernel, by decide +kernel⟩⟩, fun _ h => absurd h List.not_mem_nil⟩⟩
theorem so_10 : mm_sok (13, 31, 3, 1, [(11, 80)]) := Or.inr <| Or.inr <| Or.inl ⟨rfl, List.forall_mem_cons.mpr ⟨⟨by decide, by decide, Or.inl ⟨tb_480, tb_481, tb_482, tb_76, by decide +kernel, by decide +kernel⟩⟩, fun _ h => absurd h List.not_mem_nil⟩⟩
theorem so_11 : mm_sok (13, 34, 3, 1, [(12, 165)]) := Or.inr <| Or.inr <| Or.inl ⟨rfl, List.forall_mem_cons.mpr ⟨⟨by decide, by decide, Or.inl ⟨tb_1164, tb_1165, tb_1166, tb_89, by decide +kernel, by decide +kernel⟩⟩, fun _ h => absurd h List.not_mem_nil⟩⟩
theorem so_12 : mm_sok (13, 35, 2, 1, [(11, 81)]) := Or.inr <| Or.inr <| Or.inl ⟨rfl, List.forall_mem_cons.mpr ⟨⟨by decide, by decide, Or.inl ⟨tb_490, tb_491, tb_492, tb_76, by decide +kernel, by decide +kernel⟩⟩, fun _ h => absurd h List.not_mem_nil⟩⟩
theorem so_13 : mm_sok (13, 39, 2, 1, [(12, 166)]) := Or.inr <| Or.inr <| Or.inl ⟨rfl, List.forall_mem_cons.mpr ⟨⟨by decide, by decide, Or.inl ⟨tb_1172, tb_1173, tb_1174, tb_89, by decide +kernel, by decide +kernel⟩⟩, fun _ h => absurd h List.not_mem_nil⟩⟩
theorem so_14 : mm_sok (13, 40, 3, 1, [(11, 82)]) := Or.inr <| Or.inr <| Or.inl ⟨rfl, List.forall_mem_cons.mpr ⟨⟨by decide, by decide, Or.inl ⟨tb_501, tb_502, tb_503, tb_76, by decide +kernel, by decide +kernel⟩⟩, fun _ h => absurd h List.not_mem_nil⟩⟩
theorem so_15 : mm_sok (13, 43, 3, 1, [(12, 167)]) := Or.inr <| Or.inr <| Or.inl ⟨rfl, List.forall_mem_cons.mpr ⟨⟨by decide, by decide, Or.inl ⟨tb_1183, tb_1184, tb_1185, tb_89, by decide +kernel, by decide +kernel⟩⟩, fun _ h => absurd h List.not_mem_nil⟩⟩
theorem so_16 : mm_sok (13, 44, 4, 1, [(11, 83)]) := Or.inr <| Or.inr <| Or.inl ⟨rfl, List.forall_mem_cons.mpr ⟨⟨by decide, by decide, Or.inl ⟨tb_509, tb_510, tb_511, tb_76, by decide +kernel, by decide +kernel⟩⟩, fun _ h => absurd h List.not_mem_nil⟩⟩
theorem so_17 : mm_sok (13, 47, 4, 1, [(12, 168)]) := Or.inr <| Or.inr <| Or.inl ⟨rfl, List.forall_mem_cons.mpr ⟨⟨by decide, by decide, Or.inl ⟨tb_1191, tb_1192, tb_1193, tb_89, by decide +kernel, by decide +kernel⟩⟩, fun _ h => absurd h List.not_mem_nil⟩⟩
theorem so_18 : mm_sok (13, 48, 3, 1, [(11, 84)]) := Or.inr <| Or.inr <| Or.inl ⟨rfl, List.forall_mem_cons.mpr ⟨⟨by decide, by decide, Or.inl ⟨tb_516, tb_517, tb_518, tb_76, by decide +kernel, by decide +kernel⟩⟩, fun _ h => absurd h List.not_mem_nil⟩⟩
theorem so_19 : mm_sok (13, 51, 3, 1, [(12, 169)]) := Or.inr <| Or.inr <| Or.inl ⟨rfl, List.forall_mem_cons.mpr ⟨⟨by decide, by decide, Or.inl ⟨tb_1195, tb_1196, tb_1197, tb_89, by decide +kernel, by decide +kernel⟩⟩, fun _ h => absurd h List.not_mem_nil⟩⟩
theorem so_20 : mm_sok (13, 54, 3, 1, [(11, 85)]) := Or.inr <| Or.inr <| Or.inl ⟨rfl, List.forall_mem_cons.mpr ⟨⟨by decide, by decide, Or.inl ⟨tb_521, tb_522, tb_523, tb_76, by decide +kernel, by decide +kernel⟩⟩, fun _ h => absurd h List.not_mem_nil⟩⟩
theorem so_21 : mm_sok (13, 58, 3, 1, [(12, 170)]) := Or.inr <| Or.inr <| Or.inl ⟨rfl, List.forall_mem_cons.mpr ⟨⟨by decide, by decide, Or.inl ⟨tb_1200, tb_1201, tb_1202, tb_89, by decide +kernel, by decide +kernel⟩⟩, fun _ h => absurd h List.not_mem_nil⟩⟩
theorem so_22 : mm_sok (13, 59, 2, 1, [(11, 86)]) := Or.inr <| Or.inr <| Or.inl ⟨rfl, List.forall_mem_cons.mpr ⟨⟨by decide, by decide, Or.inl ⟨tb_526, tb_527, tb_528, tb_76, by decide +kernel, by decide +kernel⟩⟩, fun _ h => absurd h List.not_mem_nil⟩⟩
theorem so_23 : mm_sok (13, 62, 2, 1, [(12, 182)]) := Or.inr <| Or.inr <| Or.inl ⟨rfl, List.forall_mem_cons.mpr ⟨⟨by decide, by decide, Or.inl ⟨tb_1205, tb_1206, tb_1207, tb_89, by decide +kernel, by decide +kernel⟩⟩, fun _ h => absurd h List.not_mem_nil⟩⟩
theorem so_24 : mm_sok (13, 63, 5, 1, [(11, 87)]) := Or.inr <| Or.inr <| Or.inl ⟨rfl, List.forall_mem_cons.mpr ⟨⟨by decide, by decide, Or.inl ⟨tb_668, tb_669, tb_670, tb_76, by decide +kernel, by decide +kernel⟩⟩, fun _ h => absurd h List.not_mem_nil⟩⟩
theorem so_25 : mm_sok (13, 67, 5, 1, [(12, 186)]) := Or.inr <| Or.inr <| Or.inl ⟨rfl, List.forall_mem_cons.mpr ⟨⟨by decide, by decide, Or.inl ⟨tb_1253, tb_1254, tb_1255, tb_89, by decide +kernel, by decide +kernel⟩⟩, fun _ h => absurd h List.not_mem_nil⟩⟩
theorem so_26 : mm_sok (13, 68, 3, 1, [(11, 88)]) := Or.inr <| Or.inr <| Or.inl ⟨rfl, List.forall_mem_cons.mpr ⟨⟨by decide, by decide, Or.inl ⟨tb_673, tb_674, tb_675, tb_76, by decide +kernel, by decide +kernel⟩⟩, fun _ h => absurd h List.not_mem_nil⟩⟩
theorem so_27 : mm_sok (13, 71, 3, 1, [(12, 187)]) := Or.inr <| Or.inr <| Or.inl ⟨rfl, List.forall_mem_cons.mpr ⟨⟨by decide, by decide, Or.inl ⟨tb_1257, tb_1258, tb_1259, tb_89, by decide +kernel, by decide +kernel⟩⟩, fun _ h => absurd h List.not_mem_nil⟩⟩
theorem so_28 : mm_sok (13, 72, 3, 1, [(11, 89)]) := Or.inr <| Or.inr <| Or.inl ⟨rfl, List.forall_mem_cons.mpr ⟨⟨by decide, by decide, Or.inl ⟨tb_737, tb_738, tb_739, tb_76, by decide +kernel, by decide +kernel⟩⟩, fun _ h => absurd h List.not_mem_nil⟩⟩
theorem so_29 : mm_sok (13, 75, 3, 1, [(12, 188)]) := Or.inr <| Or.inr <| Or.inl ⟨rfl, List.forall_mem_cons.mpr ⟨⟨by decide, by decide, Or.inl ⟨tb_1293, tb_1294, tb_1295, tb_89, by decide +kernel, by decide +kernel⟩⟩, fun _ h => absurd h List.not_mem_nil⟩⟩
theorem so_30 : mm_sok (13, 76, 1, 1, [(11, 90)]) := Or.inr <| Or.inr <| Or.inl ⟨rfl, List.forall_mem_cons.mpr ⟨⟨by decide, by decide, Or.inl ⟨tb_742, tb_743, tb_744, tb_76, by decide +kernel, by decide +kernel⟩⟩, fun _ h => absurd h List.not_mem_nil⟩⟩
theorem so_31 : mm_sok (13, 80, 1, 1, [(12, 193)]) := Or.inr <| Or.inr <| Or.inl ⟨rfl, List.forall_mem_cons.mpr ⟨⟨by decide, by decide, Or.inl ⟨tb_1297, tb_1298, tb_1299, tb_89, by decide +kernel, by decide +kernel⟩⟩, fun _ h => absurd h List.not_mem_nil⟩⟩
theorem so_32 : mm_sok (13, 81, 2, 1, [(11, 91)]) := Or.inr <| Or.inr <| Or.inl ⟨rfl, List.forall_mem_cons.mpr ⟨⟨by decide, by decide, Or.inl ⟨tb_760, tb_761, tb_762, tb_76, by decide +kernel, by decide +kernel⟩⟩, fun _ h => absurd h List.not_mem_nil⟩⟩
theorem so_33 : mm_sok (13, 84, 2, 1, [(12, 196)]) := Or.inr <| Or.inr <| Or.inl ⟨rfl, List.forall_mem_cons.mpr ⟨⟨by decide, by decide, Or.inl ⟨tb_1317, tb_1318, tb_1319, tb_89, by decide +kernel, by decide +kernel⟩⟩, fun _ h => absurd h List.not_mem_nil⟩⟩
theorem so_34 : mm_sok (13, 85, 2, 1, [(11, 92)]) := Or.inr <| Or.inr <| Or.inl ⟨rfl, List.forall_mem_cons.mpr ⟨⟨by decide, by decide, Or.inl ⟨tb_771, tb_772, tb_773, tb_76, by decide +kernel, by decide +kernel⟩⟩, fun _ h => absurd h List.not_mem_nil⟩⟩
theorem so_35 : mm_sok (13, 88, 2, 1, [(12, 198)]) := Or.inr <| Or.inr <| Or.inl ⟨rfl, List.forall_mem_cons.mpr ⟨⟨by decide, by decide, Or.inl ⟨tb_1329, tb_1330, tb_1331, tb_89, by decide +kernel, by decide +kernel⟩⟩, fun _ h => absurd h List.not_mem_nil⟩⟩
theorem so_36 : mm_sok (13, 89, 3, 1, [(11, 93)]) := Or.inr <| Or.inr <| Or.inl ⟨rfl, List.forall_mem_cons.mpr ⟨⟨by decide, by decide, Or.inl ⟨tb_784, tb_785, tb_786, tb_76, by decide +kernel, by decide +kernel⟩⟩, fun _ h => absurd h List.not_mem_nil⟩⟩
theorem so_37 : mm_sok (13, 92, 3, 1, [(12, 201)]) := Or.inr <| Or.inr <| Or.inl ⟨rfl, List.forall_mem_cons.mpr ⟨⟨by decide, by decide, Or.inl ⟨tb_1338, tb_1339, tb_1340, tb_89, by decide +kernel, by decide +kernel⟩⟩, fun _ h => absurd h List.not_mem_nil⟩⟩
theorem so_38 : mm_sok (13, 93, 2, 1, [(11, 94)]) := Or.inr <| Or.inr <| Or.inl ⟨rfl, List.forall_mem_cons.mpr ⟨⟨by decide, by decide, Or.inl ⟨tb_794, tb_795, tb_796, tb_76, by decide +kernel, by decide +kernel⟩⟩, fun _ h => absurd h List.not_mem_nil⟩⟩
theorem so_39 : mm_sok (13, 96, 2, 1, [(12, 202)]) := Or.inr <| Or.inr <| Or.inl ⟨rfl, List.forall_mem_cons.mpr ⟨⟨by decide, by decide, Or.inl ⟨tb_1353, tb_1354, tb_1355, tb_89, by decide +kernel, by decide +kernel⟩⟩, fun _ h => absurd h List.not_mem_nil⟩⟩
theorem so_40 : mm_sok (13, 97, 2, 1, [(11, 95)]) := Or.inr <| Or.inr <| Or.inl ⟨rfl, List.forall_mem_cons.mpr ⟨⟨by decide, by decide, Or.inl ⟨tb_800, tb_801, tb_802, tb_76, by decide +kernel, by decide +kernel⟩⟩, fun _ h => absurd h List.not_mem_nil⟩⟩
theorem so_41 : mm_sok (13, 100, 2, 1, [(12, 203)]) := Or.inr <| Or.inr <| Or.inl ⟨rfl, List.forall_mem_cons.mpr ⟨⟨by decide, by decide, Or.inl ⟨tb_1358, tb_1359, tb_1360, tb_89, by decide +kernel, by decide +kernel⟩⟩, fun _ h => absurd h List.not_mem_nil⟩⟩
theorem so_42 : mm_sok (13, 101, 2, 1, [(11, 96)]) := Or.inr <| Or.inr <| Or.inl ⟨rfl, List.forall_mem_cons.mpr ⟨⟨by decide, by decide, Or.inl ⟨tb_812, tb_813, tb_814, tb_76, by decide +kernel, by decide +kernel⟩⟩, fun _ h => absurd h List.not_mem_nil⟩⟩
theorem so_43 : mm_sok (13, 104, 2, 1, [(12, 205)]) := Or.inr <| Or.inr <| Or.inl ⟨rfl, List.forall_mem_cons.mpr ⟨⟨by decide, by decide, Or.inl ⟨tb_1362, tb_1363, tb_1364, tb_89, by decide +kernel, by decide +kernel⟩⟩, fun _ h => absurd h List.not_mem_nil⟩⟩
theorem so_44 : mm_sok (13, 105, 2, 1, [(11, 97)]) := Or.inr <| Or.inr <| Or.inl ⟨rfl, List.forall_mem_cons.mpr ⟨⟨by decide, by decide, Or.inl ⟨tb_820, tb_821, tb_822, tb_76, by decide +kernel, by decide +kernel⟩⟩, fun _ h => absurd h List.not_mem_nil⟩⟩
theorem so_45 : mm_sok (13, 108, 2, 1, [(12, 207)]) := Or.inr <| Or.inr <| Or.inl ⟨rfl, List.forall_mem_cons.mpr ⟨⟨by decide, by decide, Or.inl ⟨tb_1370, tb_1371, tb_1372, tb_89, by decide +kernel, by decide +kernel⟩⟩, fun _ h => absurd h List.not_mem_nil⟩⟩
theorem so_46 : mm_sok (13, 109, 3, 1, [(11, 98)]) := Or.inr <| Or.inr <| Or.inl ⟨rfl, List.forall_mem_cons.mpr ⟨⟨by decide, by decide, Or.inl ⟨tb_828, tb_829, tb_830, tb_76, by decide +kernel, by decide +kernel⟩⟩, fun _ h => absurd h List.not_mem_nil⟩⟩
theorem so_47 : mm_sok (13, 112, 3, 1, [(12, 209)]) := Or.inr <| Or.inr <| Or.inl ⟨rfl, List.forall_mem_cons.mpr ⟨⟨by decide, by decide, Or.inl ⟨tb_1378, tb_1379, tb_1380, tb_89, by decide +kernel, by decide +kernel⟩⟩, fun _ h => absurd h List.not_mem_nil⟩⟩
theorem so_48 : mm_sok (13, 113, 2, 1, [(11, 99)]) := Or.inr <| Or.inr <| Or.inl ⟨rfl, List.forall_mem_cons.mpr ⟨⟨by decide, by decide, Or.inl ⟨tb_840, tb_841, tb_842, tb_76, by decide +kernel, by decide +kernel⟩⟩, fun _ h => absurd h List.not_mem_nil⟩⟩
theorem so_49 : mm_sok (13, 116, 2, 1, [(12, 212)]) := Or.inr <| Or.inr <| Or.inl ⟨rfl, List.forall_mem_cons.mpr ⟨⟨by decide, by decide, Or.inl ⟨tb_1389, tb_1390, tb_1391, tb_89, by decide +kernel, by decide +kernel⟩⟩, fun _ h => absurd h List.not_mem_nil⟩⟩
theorem so_50 : mm_sok (13, 117, 3, 1, [(11, 100)]) := Or.inr <| Or.inr <| Or.inl ⟨rfl, List.forall_mem_cons.mpr ⟨⟨by decide, by decide, Or.inl ⟨tb_853, tb_854, tb_855, tb_76, by decide +kernel, by decide +kernel⟩⟩, fun _ h => absurd h List.not_mem_nil⟩⟩
theorem so_51 : mm_sok (13, 120, 3, 1, [(12, 213)]) := Or.inr <| Or.inr <| Or.inl ⟨rfl, List.forall_mem_cons.mpr ⟨⟨by decide, by decide, Or.inl ⟨tb_1401, tb_1402, tb_1403, tb_89, by decide +kernel, by decide +kernel⟩⟩, fun _ h => absurd h List.not_mem_nil⟩⟩
theorem so_52 : mm_sok (13, 121, 1, 1, [(11, 101)]) := Or.inr <| Or.inr <| Or.inl ⟨rfl, List.forall_mem_cons.mpr ⟨⟨by decide, by decide, Or.inl ⟨tb_857, tb_858, tb_859, tb_76, by decide +kernel, by decide +kernel⟩⟩, fun _ h => absurd h List.not_mem_nil⟩⟩
theorem so_53 : mm_sok (13, 124, 1, 1, [(12, 214)]) := Or.inr <| Or.inr <| Or.inl ⟨rfl, List.forall_mem_cons.mpr ⟨⟨by decide, by decide, Or.inl ⟨tb_1405, tb_1406, tb_1407, tb_89, by decide +kernel, by decide +kernel⟩⟩, fun _ h => absurd h List.not_mem_nil⟩⟩
theorem so_54 : mm_sok (13, 125, 2, 1, [(11, 102)]) := Or.inr <| Or.inr <| Or.inl ⟨rfl, List.forall_mem_cons.mpr ⟨⟨by decide, by decide, Or.inl ⟨tb_861, tb_862, tb_863, tb_76, by decide +kernel, by decide +kernel⟩⟩, fun _ h => absurd h List.not_mem_nil⟩⟩
theorem so_55 : mm_sok (13, 128, 2, 1, [(12, 215)]) := Or.inr <| Or.inr <| Or.inl ⟨rfl, List.forall_mem_cons.mpr ⟨⟨by decide, by decide, Or.inl ⟨tb_1409, tb_1410, tb_1411, tb_89, by decide +kernel, by decide +kernel⟩⟩, fun _ h => absurd h List.not_mem_nil⟩⟩
theorem so_56 : mm_sok (13, 129, 4, 1, [(11, 103)]) := Or.inr <| Or.inr <| Or.inl ⟨rfl, List.forall_mem_cons.mpr ⟨⟨by decide, by decide, Or.inl ⟨tb_865, tb_866, tb_867, tb_76, by decide +kernel, by decide +kernel⟩⟩, fun _ h => absurd h List.not_mem_nil⟩⟩
theorem so_57 : mm_sok (13, 132, 4, 1, [(12, 227)]) := Or.inr <| Or.inr <| Or.inl ⟨rfl, List.forall_mem_cons.mpr ⟨⟨by decide, by decide, Or.inl ⟨tb_1413, tb_1414, tb_1415, tb_89, by decide +kernel, by decide +kernel⟩⟩, fun _ h => absurd h List.not_mem_nil⟩⟩
theorem so_58 : mm_sok (13, 133, 2, 1, [(11, 104)]) := Or.inr <| Or.inr <| Or.inl ⟨rfl, List.forall_mem_cons.mpr ⟨⟨by decide, by decide, Or.inl ⟨tb_953, tb_954, tb_955, tb_76, by decide +kernel, by decide +kernel⟩⟩, fun _ h => absurd h List.not_mem_nil⟩⟩
theorem so_59 : mm_sok (13, 136, 2, 1, [(12, 228)]) := Or.inr <| Or.inr <| Or.inl ⟨rfl, List.forall_mem_cons.mpr ⟨⟨by decide, by decide, Or.inl ⟨tb_1461, tb_1462, tb_1463, tb_89, by decide +kernel, by decide +kernel⟩⟩, fun _ h => absurd h List.not_mem_nil⟩⟩
theorem so_60 : mm_sok (13, 137, 4, 1, [(11, 105)]) := Or.inr <| Or.inr <| Or.inl ⟨rfl, List.forall_mem_cons.mpr ⟨⟨by decide, by decide, Or.inl ⟨tb_958, tb_959, tb_960, tb_76, by decide +kernel, by decide +kernel⟩⟩, fun _ h => absurd h List.not_mem_nil⟩⟩
theorem so_61 : mm_sok (13, 140, 4, 1, [(12, 230)]) := Or.inr <| Or.inr <| Or.inl ⟨rfl, List.forall_mem_cons.mpr ⟨⟨by decide, by decide, Or.inl ⟨tb_1465, tb_1466, tb_1467, tb_89, by decide +kernel, by decide +kernel⟩⟩, fun _ h => absurd h List.not_mem_nil⟩⟩
theorem so_62 : mm_sok (13, 141, 4, 1, [(11, 106)]) := Or.inr <| Or.inr <| Or.inl ⟨rfl, List.forall_mem_cons.mpr ⟨⟨by decide, by decide, Or.inl ⟨tb_972, tb_973, tb_974, tb_76, by decide +kernel, by decide +kernel⟩⟩, fun _ h => absurd h List.not_mem_nil⟩⟩
theorem so_63 : mm_sok (13, 144, 4, 1, [(12, 232)]) := Or.inr <| Or.inr <| Or.inl ⟨rfl, List.forall_mem_cons.mpr ⟨⟨by decide, by decide, Or.inl ⟨tb_1469, tb_1470, tb_1471, tb_89, by decide +kernel, by decide +kernel⟩⟩, fun _ h => absurd h List.not_mem_nil⟩⟩
theorem so_64 : mm_sok (13, 145, 6, 1, [(11, 107)]) := Or.inr <| Or.inr <| Or.inl ⟨rfl, List.forall_mem_cons.mpr ⟨⟨by decide, by decide, Or.inl ⟨tb_984, tb_985, tb_986, tb_76, by decide +kernel, by decide +kernel⟩⟩, fun _ h => absurd h List.not_mem_nil⟩⟩
theorem so_65 : mm_sok (13, 149, 6, 1, [(12, 234)]) := Or.inr <| Or.inr <| Or.inl ⟨rfl, List.forall_mem_cons.mpr ⟨⟨by decide, by decide, Or.inl ⟨tb_1477, tb_1478, tb_1479, tb_89, by decide +kernel, by decide +kernel⟩⟩, fun _ h => absurd h List.not_mem_nil⟩⟩
theorem so_66 : mm_sok (13, 150, 2, 1, [(11, 108)]) := Or.inr <| Or.inr <| Or.inl ⟨rfl, List.forall_mem_cons.mpr ⟨⟨by decide, by decide, Or.inl ⟨tb_997, tb_998, tb_999, tb_76, by decide +kernel, by decide +kernel⟩⟩, fun _ h => absurd h List.not_mem_nil⟩⟩
theorem so_67 : mm_sok (13, 153, 2, 1, [(12, 235)]) := Or.inr <| Or.inr <| Or.inl ⟨rfl, List.forall_mem_cons.mpr ⟨⟨by decide, by decide, Or.inl ⟨tb_1485, tb_1486, tb_1487, tb_89, by decide +kernel, by decide +kernel⟩⟩, fun _ h => absurd h List.not_mem_nil⟩⟩
theorem so_68 : mm_sok (13, 154, 2, 1, [(11, 109)]) := Or.inr <| Or.inr <| Or.inl ⟨rfl, List.forall_mem_cons.mpr ⟨⟨by decide, by decide, Or.inl ⟨tb_1002, tb_1003, tb_1004, tb_76, by decide +kernel, by decide +kernel⟩⟩, fun _ h => absurd h List.not_mem_nil⟩⟩
theorem so_69 : mm_sok (13, 157, 2, 1, [(12, 236)]) := Or.inr <| Or.inr <| Or.inl ⟨rfl, List.forall_mem_cons.mpr ⟨⟨by decide, by decide, Or.inl ⟨tb_1489, tb_1490, tb_1491, tb_89, by decide +kernel, by decide +kernel⟩⟩, fun _ h => absurd h List.not_mem_nil⟩⟩
theorem so_70 : mm_sok (13, 158, 1, 1, [(11, 110)]) := Or.inr <| Or.inr <| Or.inl ⟨rfl, List.forall_mem_cons.mpr ⟨⟨by decide, by decide, Or.inl ⟨tb_1006, tb_1007, tb_1008, tb_76, by decide +kernel, by decide +kernel⟩⟩, fun _ h => absurd h List.not_mem_nil⟩⟩
theorem so_71 : mm_sok (13, 161, 1, 1, [(12, 237)]) := Or.inr <| Or.inr <| Or.inl ⟨rfl, List.forall_mem_cons.mpr ⟨⟨by decide, by decide, Or.inl ⟨tb_1493, tb_1494, tb_1495, tb_89, by decide +kernel, by decide +kernel⟩⟩, fun _ h => absurd h List.not_mem_nil⟩⟩
theorem so_72 : mm_sok (13, 162, 1, 1, [(11, 111)]) := Or.inr <| Or.inr <| Or.inl ⟨rfl, List.forall_mem_cons.mpr ⟨⟨by decide, by decide, Or.inl ⟨tb_1010, tb_1011, tb_1012, tb_76, by decide +kernel, by decide +kernel⟩⟩, fun _ h => absurd h List.not_mem_nil⟩⟩
theorem so_73 : mm_sok (13, 165, 1, 1, [(12, 238)]) := Or.inr <| Or.inr <| Or.inl ⟨rfl, List.forall_mem_cons.mpr ⟨⟨by decide, by decide, Or.inl ⟨tb_1497, tb_1498, tb_1499, tb_89, by decide +kernel, by decide +kernel⟩⟩, fun _ h => absurd h List.not_mem_nil⟩⟩
theorem so_74 : mm_sok (13, 166, 2, 1, [(11, 112)]) := Or.inr <| Or.inr <| Or.inl ⟨rfl, List.forall_mem_cons.mpr ⟨⟨by decide, by decide, Or.inl ⟨tb_1014, tb_1015, tb_1016, tb_76, by decide +kernel, by decide +kernel⟩⟩, fun _ h => absurd h List.not_mem_nil⟩⟩
theorem so_75 : mm_sok (13, 169, 2, 1, [(12, 239)]) := Or.inr <| Or.inr <| Or.inl ⟨rfl, List.forall_mem_cons.mpr ⟨⟨by decide, by decide, Or.inl ⟨tb_1501, tb_1502, tb_1503, tb_89, by decide +kernel, by decide +kernel⟩⟩, fun _ h => absurd h List.not_mem_nil⟩⟩
theorem so_76 : mm_sok (13, 170, 1, 1, [(11, 113)]) := Or.inr <| Or.inr <| Or.inl ⟨rfl, List.forall_mem_cons.mpr ⟨⟨by decide, by decide, Or.inl ⟨tb_1018, tb_1019, tb_1020, tb_76, by decide +kernel, by decide +kernel⟩⟩, fun _ h => absurd h List.not_mem_nil⟩⟩
theorem so_77 : mm_sok (13, 173, 1, 1, [(12, 240)]) := Or.inr <| Or.inr <| Or.inl ⟨rfl, List.forall_mem_cons.mpr ⟨⟨by decide, by decide, Or.inl ⟨tb_1505, tb_1506, tb_1507, tb_89, by decide +kernel, by decide +kernel⟩⟩, fun _ h => absurd h List.not_mem_nil⟩⟩
theorem so_78 : mm_sok (13, 174, 2, 1, [(11, 114)]) := Or.inr <| Or.inr <| Or.inl ⟨rfl, List.forall_mem_cons.mpr ⟨⟨by decide, by decide, Or.inl ⟨tb_1022, tb_1023, tb_1024, tb_76, by decide +kernel, by decide +kernel⟩⟩, fun _ h => absurd h List.not_mem_nil⟩⟩
theorem so_79 : mm_sok (13, 177, 2, 1, [(12, 241)]) := Or.inr <| Or.inr <| Or.inl ⟨rfl, List.forall_mem_cons.mpr ⟨⟨by decide, by decide, Or.inl ⟨tb_1509, tb_1510, tb_1511, tb_89, by decide +kernel, by decide +kernel⟩⟩, fun _ h => absurd h List.not_mem_nil⟩⟩
theorem so_80 : mm_sok (13, 178, 2, 1, [(11, 115)]) := Or.inr <| Or.inr <| Or.inl ⟨rfl, List.forall_mem_cons.mpr ⟨⟨by decide, by decide, Or.inl ⟨tb_1026, tb_1027, tb_1028, tb_76, by decide +kernel, by decide +kernel⟩⟩, fun _ h => absurd h List.not_mem_nil⟩⟩
theorem so_81 : mm_sok (13, 181, 2, 1, [(12, 242)]) := Or.inr <| Or.inr <| Or.inl ⟨rfl, List.forall_mem_cons.mpr ⟨⟨by decide, by decide, Or.inl ⟨tb_1513, tb_1514, tb_1515, tb_89, by decide +kernel, by decide +kernel⟩⟩, fun _ h => absurd h List.not_mem_nil⟩⟩
theorem so_82 : mm_sok (0, 1, 2, 3, [(0, 16)]) := Or.inr (Or.inr (Or.inr (Or.inr rfl)))
theorem so_83 : mm_sok (0, 7, 3, 2, [(0, 6)]) := Or.inr <| Or.inr <| Or.inr <| Or.inl ⟨rfl, List.forall_mem_cons.mpr ⟨⟨by decide, by decide, ⟨"ChairViews$Glued", "heft", "(II)I"⟩, tb_459, tb_460, tb_192, Or.inr tb_168, rfl, tb_453, by decide, by decide +kernel⟩, fun _ h => absurd h List.not_mem_nil⟩⟩
theorem so_84 : mm_sok (0, 17, 2, 1, [(7, 57)]) := Or.inr <| Or.inr <| Or.inl ⟨rfl, List.forall_mem_cons.mpr ⟨⟨by decide, by decide, Or.inl ⟨tb_893, tb_218, tb_219, tb_77, by decide +kernel, by decide +kernel⟩⟩, fun _ h => absurd h List.not_mem_nil⟩⟩
theorem so_85 : mm_sok (0, 23, 4, 2, [(0, 18)]) := Or.inr <| Or.inr <| Or.inr <| Or.inl ⟨rfl, List.forall_mem_cons.mpr ⟨⟨by decide, by decide, ⟨"ChairViews$Glued", "weighsVoice", "(III)I"⟩, tb_894, tb_1519, tb_192, Or.inl rfl, rfl, tb_895, by decide, by decide +kernel⟩, fun _ h => absurd h List.not_mem_nil⟩⟩
theorem so_86 : mm_sok (1, 15, 3, 1, [(4, 27)]) := Or.inr <| Or.inr <| Or.inl ⟨rfl, List.forall_mem_cons.mpr ⟨⟨by decide, by decide, Or.inl ⟨tb_728, tb_729, tb_730, tb_86, by decide +kernel, by decide +kernel⟩⟩, fun _ h => absurd h List.not_mem_nil⟩⟩
theorem so_87 : mm_sok (1, 21, 2, 1, [(7, 57)]) := Or.inr <| Or.inr <| Or.inl ⟨rfl, List.forall_mem_cons.mpr ⟨⟨by decide, by decide, Or.inl ⟨tb_885, tb_218, tb_219, tb_77, by decide +kernel, by decide +kernel⟩⟩, fun _ h => absurd h List.not_mem_nil⟩⟩
theorem so_88 : mm_sok (1, 27, 4, 1, [(1, 7), (0, 7), (2, 7), (3, 7), (6, 7), (8, 74), (10, 74)]) := Or.inr <| Or.inr <| Or.inl ⟨rfl, List.forall_mem_cons.mpr ⟨⟨by decide, by decide, Or.inl ⟨tb_912, tb_871, tb_872, tb_79, by decide +kernel, by decide +kernel⟩⟩, List.forall_mem_cons.mpr ⟨⟨by decide, by decide, Or.inr ⟨"ChairViews$Chair", ⟨"ChairViews$Chair", "saysVoice", "(III)I"⟩, tb_912, tb_873, tb_874, tb_871, tb_871, ⟨_, _, _, tb_884⟩, ⟨by decide, by decide⟩, by decide +kernel⟩⟩, List.forall_mem_cons.mpr ⟨⟨by decide, by decide, Or.inr ⟨"ChairViews$Chair", ⟨"ChairViews$Chair", "saysVoice", "(III)I"⟩, tb_912, tb_873, tb_875, tb_871, tb_871, ⟨_, _, _, tb_884⟩, ⟨by decide, by decide⟩, by decide +kernel⟩⟩, List.forall_mem_cons.mpr ⟨⟨by decide, by decide, Or.inr ⟨"ChairViews$Chair", ⟨"ChairViews$Chair", "saysVoice", "(III)I"⟩, tb_912, tb_873, tb_876, tb_871, tb_871, ⟨_, _, _, tb_884⟩, ⟨by decide, by decide⟩, by decide +kernel⟩⟩, List.forall_mem_cons.mpr ⟨⟨by decide, by decide, Or.inr ⟨"ChairViews$Chair", ⟨"ChairViews$Chair", "saysVoice", "(III)I"⟩, tb_912, tb_873, tb_877, tb_871, tb_871, ⟨_, _, _, tb_884⟩, ⟨by decide, by decide⟩, by decide +kernel⟩⟩, List.forall_mem_cons.mpr ⟨⟨by decide, by decide, Or.inr ⟨"ChairViews$Chair", ⟨"ChairViews$Chair", "saysVoice", "(III)I"⟩, tb_912, tb_873, tb_878, tb_879, tb_871, ⟨_, _, _, tb_884⟩, ⟨by decide, by decide⟩, by decide +kernel⟩⟩, List.forall_mem_cons.mpr ⟨⟨by decide, by decide, Or.inr ⟨"ChairViews$Chair", ⟨"ChairViews$Chair", "saysVoice", "(III)I"⟩, tb_912, tb_873, tb_883, tb_879, tb_871, ⟨_, _, _, tb_884⟩, ⟨by decide, by decide⟩, by decide +kernel⟩⟩, fun _ h => absurd h List.not_mem_nil⟩⟩⟩⟩⟩⟩⟩⟩
theorem so_89 : mm_sok (1, 31, 4, 1, [(1, 8), (0, 3), (2, 8), (3, 18), (6, 8), (8, 8), (10, 8)]) := Or.inr <| Or.inr <| Or.inl ⟨rfl, List.forall_mem_cons.mpr ⟨⟨by decide, by decide, Or.inl ⟨tb_951, tb_887, tb_888, tb_79, by decide +kernel, by decide +kernel⟩⟩, List.forall_mem_cons.mpr ⟨⟨by decide, by decide, Or.inr ⟨"ChairViews$Chair", ⟨"ChairViews$Chair", "weighsVoice", "(III)I"⟩, tb_951, tb_889, tb_890, tb_891, tb_887, ⟨_, _, _, tb_911⟩, ⟨by decide, by decide⟩, by decide +kernel⟩⟩, List.forall_mem_cons.mpr ⟨⟨by decide, by decide, Or.inr ⟨"ChairViews$Chair", ⟨"ChairViews$Chair", "weighsVoice", "(III)I"⟩, tb_951, tb_889, tb_906, tb_887, tb_887, ⟨_, _, _, tb_911⟩, ⟨by decide, by decide⟩, by decide +kernel⟩⟩, List.forall_mem_cons.mpr ⟨⟨by decide, by decide, Or.inr ⟨"ChairViews$Chair", ⟨"ChairViews$Chair", "weighsVoice", "(III)I"⟩, tb_951, tb_889, tb_907, tb_895, tb_887, ⟨_, _, _, tb_911⟩, ⟨by decide, by decide⟩, by decide +kernel⟩⟩, List.forall_mem_cons.mpr ⟨⟨by decide, by decide, Or.inr ⟨"ChairViews$Chair", ⟨"ChairViews$Chair", "weighsVoice", "(III)I"⟩, tb_951, tb_889, tb_908, tb_887, tb_887, ⟨_, _, _, tb_911⟩, ⟨by decide, by decide⟩, by decide +kernel⟩⟩, List.forall_mem_cons.mpr ⟨⟨by decide, by decide, Or.inr ⟨"ChairViews$Chair", ⟨"ChairViews$Chair", "weighsVoice", "(III)I"⟩, tb_951, tb_889, tb_909, tb_887, tb_887, ⟨_, _, _, tb_911⟩, ⟨by decide, by decide⟩, by decide +kernel⟩⟩, List.forall_mem_cons.mpr ⟨⟨by decide, by decide, Or.inr ⟨"ChairViews$Chair", ⟨"ChairViews$Chair", "weighsVoice", "(III)I"⟩, tb_951, tb_889, tb_910, tb_887, tb_887, ⟨_, _, _, tb_911⟩, ⟨by decide, by decide⟩, by decide +kernel⟩⟩, fun _ h => absurd h List.not_mem_nil⟩⟩⟩⟩⟩⟩⟩⟩
theorem so_90 : mm_sok (1, 34, 4, 1, [(1, 9), (0, 9), (2, 14), (3, 9), (6, 51), (8, 9), (10, 9)]) := Or.inr <| Or.inr <| Or.inl ⟨rfl, List.forall_mem_cons.mpr ⟨⟨by decide, by decide, Or.inl ⟨tb_952, tb_904, tb_1522, tb_79, by decide +kernel, by decide +kernel⟩⟩, List.forall_mem_cons.mpr ⟨⟨by decide, by decide, Or.inr ⟨"ChairViews$Chair", ⟨"ChairViews$Chair", "creaksVoice", "(III)I"⟩, tb_952, tb_1520, tb_1521, tb_904, tb_904, ⟨_, _, _, tb_905⟩, ⟨by decide, by decide⟩, by decide +kernel⟩⟩, List.forall_mem_cons.mpr ⟨⟨by decide, by decide, Or.inr ⟨"ChairViews$Chair", ⟨"ChairViews$Chair", "creaksVoice", "(III)I"⟩, tb_952, tb_1520, tb_1523, tb_914, tb_904, ⟨_, _, _, tb_905⟩, ⟨by decide, by decide⟩, by decide +kernel⟩⟩, List.forall_mem_cons.mpr ⟨⟨by decide, by decide, Or.inr ⟨"ChairViews$Chair", ⟨"ChairViews$Chair", "creaksVoice", "(III)I"⟩, tb_952, tb_1520, tb_1525, tb_904, tb_904, ⟨_, _, _, tb_905⟩, ⟨by decide, by decide⟩, by decide +kernel⟩⟩, List.forall_mem_cons.mpr ⟨⟨by decide, by decide, Or.inr ⟨"ChairViews$Chair", ⟨"ChairViews$Chair", "creaksVoice", "(III)I"⟩, tb_952, tb_1520, tb_1526, tb_918, tb_904, ⟨_, _, _, tb_905⟩, ⟨by decide, by decide⟩, by decide +kernel⟩⟩, List.forall_mem_cons.mpr ⟨⟨by decide, by decide, Or.inr ⟨"ChairViews$Chair", ⟨"ChairViews$Chair", "creaksVoice", "(III)I"⟩, tb_952, tb_1520, tb_1527, tb_904, tb_904, ⟨_, _, _, tb_905⟩, ⟨by decide, by decide⟩, by decide +kernel⟩⟩, List.forall_mem_cons.mpr ⟨⟨by decide, by decide, Or.inr ⟨"ChairViews$Chair", ⟨"ChairViews$Chair", "creaksVoice", "(III)I"⟩, tb_952, tb_1520, tb_1528, tb_904, tb_904, ⟨_, _, _, tb_905⟩, ⟨by decide, by decide⟩, by decide +kernel⟩⟩, fun _ h => absurd h List.not_mem_nil⟩⟩⟩⟩⟩⟩⟩⟩
theorem so_91 : mm_sok (2, 1, 2, 3, [(0, 49)]) := Or.inr (Or.inr (Or.inr (Or.inr rfl)))
theorem so_92 : mm_sok (2, 7, 5, 2, [(0, 50)]) := Or.inr <| Or.inr <| Or.inr <| Or.inl ⟨rfl, List.forall_mem_cons.mpr ⟨⟨by decide, by decide, ⟨"ChairViews$Repaired", "opinion", "(LChairViews$House;III)I"⟩, tb_713, tb_1518, tb_200, Or.inl rfl, rfl, tb_714, by decide, by decide +kernel⟩, fun _ h => absurd h List.not_mem_nil⟩⟩
theorem so_93 : mm_sok (2, 11, 3, 2, [(0, 6)]) := Or.inr <| Or.inr <| Or.inr <| Or.inl ⟨rfl, List.forall_mem_cons.mpr ⟨⟨by decide, by decide, ⟨"ChairViews$Repaired", "heft", "(II)I"⟩, tb_465, tb_466, tb_200, Or.inr tb_176, rfl, tb_453, by decide, by decide +kernel⟩, fun _ h => absurd h List.not_mem_nil⟩⟩
theorem so_94 : mm_sok (2, 21, 2, 1, [(7, 57)]) := Or.inr <| Or.inr <| Or.inl ⟨rfl, List.forall_mem_cons.mpr ⟨⟨by decide, by decide, Or.inl ⟨tb_916, tb_218, tb_219, tb_77, by decide +kernel, by decide +kernel⟩⟩, fun _ h => absurd h List.not_mem_nil⟩⟩
theorem so_95 : mm_sok (2, 27, 4, 2, [(0, 51)]) := Or.inr <| Or.inr <| Or.inr <| Or.inl ⟨rfl, List.forall_mem_cons.mpr ⟨⟨by decide, by decide, ⟨"ChairViews$Repaired", "creaksVoice", "(III)I"⟩, tb_917, tb_1524, tb_200, Or.inl rfl, rfl, tb_918, by decide, by decide +kernel⟩, fun _ h => absurd h List.not_mem_nil⟩⟩
theorem so_96 : mm_sok (2, 31, 4, 1, [(2, 8)]) := Or.inr <| Or.inr <| Or.inl ⟨rfl, List.forall_mem_cons.mpr ⟨⟨by decide, by decide, Or.inr ⟨"ChairViews$Chair", ⟨"ChairViews$Crown", "weighsVoice", "(III)I"⟩, tb_930, tb_931, tb_933, tb_887, tb_887, ⟨_, _, _, tb_911⟩, ⟨by decide, by decide⟩, by decide +kernel⟩⟩, fun _ h => absurd h List.not_mem_nil⟩⟩
theorem so_97 : mm_sok (2, 34, 4, 2, [(0, 10)]) := Or.inr <| Or.inr <| Or.inr <| Or.inl ⟨rfl, List.forall_mem_cons.mpr ⟨⟨by decide, by decide, ⟨"ChairViews$Repaired", "tellsVoice", "(III)I"⟩, tb_934, tb_935, tb_200, Or.inr tb_176, rfl, tb_923, by decide, by decide +kernel⟩, fun _ h => absurd h List.not_mem_nil⟩⟩
theorem so_98 : mm_sok (3, 1, 2, 3, [(0, 4)]) := Or.inr (Or.inr (Or.inr (Or.inr rfl)))
theorem so_99 : mm_sok (3, 7, 2, 1, [(4, 26)]) := Or.inr <| Or.inr <| Or.inl ⟨rfl, List.forall_mem_cons.mpr ⟨⟨by decide, by decide, Or.inl ⟨tb_704, tb_705, tb_706, tb_86, by decide +kernel, by decide +kernel⟩⟩, fun _ h => absurd h List.not_mem_nil⟩⟩
theorem so_100 : mm_sok (3, 13, 2, 5, [(0, 125)]) := Or.inr <| Or.inl ⟨rfl, List.forall_mem_cons.mpr ⟨⟨by decide, by decide, by decide, rfl, tb_695, by decide +kernel⟩, fun _ h => absurd h List.not_mem_nil⟩⟩
theorem so_101 : mm_sok (3, 19, 5, 2, [(0, 5)]) := Or.inr <| Or.inr <| Or.inr <| Or.inl ⟨rfl, List.forall_mem_cons.mpr ⟨⟨by decide, by decide, ⟨"ChairViews$Chair", "opinion", "(LChairViews$House;III)I"⟩, tb_709, tb_700, tb_168, Or.inl rfl, rfl, tb_698, by decide, by decide +kernel⟩, fun _ h => absurd h List.not_mem_nil⟩⟩
theorem so_102 : mm_sok (3, 29, 2, 1, [(7, 57)]) := Or.inr <| Or.inr <| Or.inl ⟨rfl, List.forall_mem_cons.mpr ⟨⟨by decide, by decide, Or.inl ⟨tb_897, tb_218, tb_219, tb_77, by decide +kernel, by decide +kernel⟩⟩, fun _ h => absurd h List.not_mem_nil⟩⟩
theorem so_103 : mm_sok (3, 35, 4, 2, [(0, 8)]) := Or.inr <| Or.inr <| Or.inr <| Or.inl ⟨rfl, List.forall_mem_cons.mpr ⟨⟨by decide, by decide, ⟨"ChairViews$Chair", "weighsVoice", "(III)I"⟩, tb_898, tb_889, tb_168, Or.inl rfl, rfl, tb_887, by decide, by decide +kernel⟩, fun _ h => absurd h List.not_mem_nil⟩⟩
theorem so_104 : mm_sok (3, 39, 4, 1, [(0, 9), (3, 9)]) := Or.inr <| Or.inr <| Or.inl ⟨rfl, List.forall_mem_cons.mpr ⟨⟨by decide, by decide, Or.inr ⟨"ChairViews$Chair", ⟨"ChairViews$Glued", "creaksVoice", "(III)I"⟩, tb_899, tb_900, tb_902, tb_904, tb_904, ⟨_, _, _, tb_905⟩, ⟨by decide, by decide⟩, by decide +kernel⟩⟩, List.forall_mem_cons.mpr ⟨⟨by decide, by decide, Or.inr ⟨"ChairViews$Chair", ⟨"ChairViews$Glued", "creaksVoice", "(III)I"⟩, tb_899, tb_900, tb_903, tb_904, tb_904, ⟨_, _, _, tb_905⟩, ⟨by decide, by decide⟩, by decide +kernel⟩⟩, fun _ h => absurd h List.not_mem_nil⟩⟩⟩
theorem so_105 : mm_sok (4, 41, 4, 3, [(0, 67)]) := Or.inr (Or.inr (Or.inr (Or.inr rfl)))
theorem so_106 : mm_sok (4, 56, 3, 3, [(0, 52)]) := Or.inr (Or.inr (Or.inr (Or.inr rfl)))
theorem so_107 : mm_sok (4, 89, 2, 1, [(7, 61)]) := Or.inr <| Or.inr <| Or.inl ⟨rfl, List.forall_mem_cons.mpr ⟨⟨by decide, by decide, Or.inl ⟨tb_793, tb_540, tb_541, tb_77, by decide +kernel, by decide +kernel⟩⟩, fun _ h => absurd h List.not_mem_nil⟩⟩
theorem so_108 : mm_sok (4, 99, 2, 5, [(0, 125)]) := Or.inr <| Or.inl ⟨rfl, List.forall_mem_cons.mpr ⟨⟨by decide, by decide, by decide, rfl, tb_695, by decide +kernel⟩, fun _ h => absurd h List.not_mem_nil⟩⟩
theorem so_109 : mm_sok (4, 103, 1, 0, [(0, 251)]) := Or.inl ⟨rfl, List.forall_mem_cons.mpr ⟨fun _ => ⟨by decide, by decide, tb_417, tb_418, by decide +kernel⟩, fun _ h => absurd h List.not_mem_nil⟩⟩
theorem so_110 : mm_sok (4, 109, 4, 1, [(9, 68)]) := Or.inr <| Or.inr <| Or.inl ⟨rfl, List.forall_mem_cons.mpr ⟨⟨by decide, by decide, Or.inl ⟨tb_423, tb_424, tb_425, tb_87, by decide +kernel, by decide +kernel⟩⟩, fun _ h => absurd h List.not_mem_nil⟩⟩
theorem so_111 : mm_sok (4, 113, 2, 1, [(4, 23)]) := Or.inr <| Or.inr <| Or.inl ⟨rfl, List.forall_mem_cons.mpr ⟨⟨by decide, by decide, Or.inl ⟨tb_448, tb_449, tb_450, tb_86, by decide +kernel, by decide +kernel⟩⟩, fun _ h => absurd h List.not_mem_nil⟩⟩
theorem so_112 : mm_sok (4, 117, 3, 1, [(1, 6), (0, 2), (2, 13), (3, 6), (6, 6), (8, 6), (10, 6)]) := Or.inr <| Or.inr <| Or.inl ⟨rfl, List.forall_mem_cons.mpr ⟨⟨by decide, by decide, Or.inl ⟨tb_452, tb_453, tb_454, tb_79, by decide +kernel, by decide +kernel⟩⟩, List.forall_mem_cons.mpr ⟨⟨by decide, by decide, Or.inr ⟨"ChairViews$Chair", ⟨"ChairViews$Chair", "heft", "(II)I"⟩, tb_452, tb_455, tb_456, tb_457, tb_453, ⟨_, _, _, tb_471⟩, ⟨by decide, by decide⟩, by decide +kernel⟩⟩, List.forall_mem_cons.mpr ⟨⟨by decide, by decide, Or.inr ⟨"ChairViews$Chair", ⟨"ChairViews$Chair", "heft", "(II)I"⟩, tb_452, tb_455, tb_462, tb_463, tb_453, ⟨_, _, _, tb_471⟩, ⟨by decide, by decide⟩, by decide +kernel⟩⟩, List.forall_mem_cons.mpr ⟨⟨by decide, by decide, Or.inr ⟨"ChairViews$Chair", ⟨"ChairViews$Chair", "heft", "(II)I"⟩, tb_452, tb_455, tb_467, tb_453, tb_453, ⟨_, _, _, tb_471⟩, ⟨by decide, by decide⟩, by decide +kernel⟩⟩, List.forall_mem_cons.mpr ⟨⟨by decide, by decide, Or.inr ⟨"ChairViews$Chair", ⟨"ChairViews$Chair", "heft", "(II)I"⟩, tb_452, tb_455, tb_468, tb_453, tb_453, ⟨_, _, _, tb_471⟩, ⟨by decide, by decide⟩, by decide +kernel⟩⟩, List.forall_mem_cons.mpr ⟨⟨by decide, by decide, Or.inr ⟨"ChairViews$Chair", ⟨"ChairViews$Chair", "heft", "(II)I"⟩, tb_452, tb_455, tb_469, tb_453, tb_453, ⟨_, _, _, tb_471⟩, ⟨by decide, by decide⟩, by decide +kernel⟩⟩, List.forall_mem_cons.mpr ⟨⟨by decide, by decide, Or.inr ⟨"ChairViews$Chair", ⟨"ChairViews$Chair", "heft", "(II)I"⟩, tb_452, tb_455, tb_470, tb_453, tb_453, ⟨_, _, _, tb_471⟩, ⟨by decide, by decide⟩, by decide +kernel⟩⟩, fun _ h => absurd h List.not_mem_nil⟩⟩⟩⟩⟩⟩⟩⟩
theorem so_113 : mm_sok (4, 123, 2, 1, [(4, 28)]) := Or.inr <| Or.inr <| Or.inl ⟨rfl, List.forall_mem_cons.mpr ⟨⟨by decide, by decide, Or.inl ⟨tb_681, tb_414, tb_415, tb_86, by decide +kernel, by decide +kernel⟩⟩, fun _ h => absurd h List.not_mem_nil⟩⟩
theorem so_114 : mm_sok (4, 126, 5, 1, [(1, 5), (0, 17), (2, 12), (3, 17), (6, 50), (8, 65), (10, 73)]) := Or.inr <| Or.inr <| Or.inl ⟨rfl, List.forall_mem_cons.mpr ⟨⟨by decide, by decide, Or.inl ⟨tb_697, tb_698, tb_699, tb_79, by decide +kernel, by decide +kernel⟩⟩, List.forall_mem_cons.mpr ⟨⟨by decide, by decide, Or.inr ⟨"ChairViews$Chair", ⟨"ChairViews$Chair", "opinion", "(LChairViews$House;III)I"⟩, tb_697, tb_700, tb_701, tb_702, tb_698, ⟨_, _, _, tb_727⟩, ⟨by decide, by decide⟩, by decide +kernel⟩⟩, List.forall_mem_cons.mpr ⟨⟨by decide, by decide, Or.inr ⟨"ChairViews$Chair", ⟨"ChairViews$Chair", "opinion", "(LChairViews$House;III)I"⟩, tb_697, tb_700, tb_710, tb_711, tb_698, ⟨_, _, _, tb_727⟩, ⟨by decide, by decide⟩, by decide +kernel⟩⟩, List.forall_mem_cons.mpr ⟨⟨by decide, by decide, Or.inr ⟨"ChairViews$Chair", ⟨"ChairViews$Chair", "opinion", "(LChairViews$House;III)I"⟩, tb_697, tb_700, tb_718, tb_702, tb_698, ⟨_, _, _, tb_727⟩, ⟨by decide, by decide⟩, by decide +kernel⟩⟩, List.forall_mem_cons.mpr ⟨⟨by decide, by decide, Or.inr ⟨"ChairViews$Chair", ⟨"ChairViews$Chair", "opinion", "(LChairViews$House;III)I"⟩, tb_697, tb_700, tb_719, tb_714, tb_698, ⟨_, _, _, tb_727⟩, ⟨by decide, by decide⟩, by decide +kernel⟩⟩, List.forall_mem_cons.mpr ⟨⟨by decide, by decide, Or.inr ⟨"ChairViews$Chair", ⟨"ChairViews$Chair", "opinion", "(LChairViews$House;III)I"⟩, tb_697, tb_700, tb_720, tb_721, tb_698, ⟨_, _, _, tb_727⟩, ⟨by decide, by decide⟩, by decide +kernel⟩⟩, List.forall_mem_cons.mpr ⟨⟨by decide, by decide, Or.inr ⟨"ChairViews$Chair", ⟨"ChairViews$Chair", "opinion", "(LChairViews$House;III)I"⟩, tb_697, tb_700, tb_723, tb_724, tb_698, ⟨_, _, _, tb_727⟩, ⟨by decide, by decide⟩, by decide +kernel⟩⟩, fun _ h => absurd h List.not_mem_nil⟩⟩⟩⟩⟩⟩⟩⟩
theorem so_115 : mm_sok (4, 130, 1, 1, [(4, 25)]) := Or.inr <| Or.inr <| Or.inl ⟨rfl, List.forall_mem_cons.mpr ⟨⟨by decide, by decide, Or.inl ⟨tb_686, tb_687, tb_688, tb_86, by decide +kernel, by decide +kernel⟩⟩, fun _ h => absurd h List.not_mem_nil⟩⟩
theorem so_116 : mm_sok (4, 134, 4, 1, [(4, 31)]) := Or.inr <| Or.inr <| Or.inl ⟨rfl, List.forall_mem_cons.mpr ⟨⟨by decide, by decide, Or.inl ⟨tb_690, tb_691, tb_692, tb_86, by decide +kernel, by decide +kernel⟩⟩, fun _ h => absurd h List.not_mem_nil⟩⟩
theorem so_117 : mm_sok (4, 137, 2, 1, [(4, 35)]) := Or.inr <| Or.inr <| Or.inl ⟨rfl, List.forall_mem_cons.mpr ⟨⟨by decide, by decide, Or.inl ⟨tb_750, tb_752, tb_10, tb_86, by decide +kernel, by decide +kernel⟩⟩, fun _ h => absurd h List.not_mem_nil⟩⟩
theorem so_118 : mm_sok (4, 140, 3, 1, [(4, 36)]) := Or.inr <| Or.inr <| Or.inl ⟨rfl, List.forall_mem_cons.mpr ⟨⟨by decide, by decide, Or.inl ⟨tb_754, tb_756, tb_11, tb_86, by decide +kernel, by decide +kernel⟩⟩, fun _ h => absurd h List.not_mem_nil⟩⟩
theorem so_119 : mm_sok (4, 143, 3, 1, [(4, 27)]) := Or.inr <| Or.inr <| Or.inl ⟨rfl, List.forall_mem_cons.mpr ⟨⟨by decide, by decide, Or.inl ⟨tb_758, tb_729, tb_730, tb_86, by decide +kernel, by decide +kernel⟩⟩, fun _ h => absurd h List.not_mem_nil⟩⟩
theorem so_120 : mm_sok (4, 146, 1, 1, [(4, 34)]) := Or.inr <| Or.inr <| Or.inl ⟨rfl, List.forall_mem_cons.mpr ⟨⟨by decide, by decide, Or.inl ⟨tb_768, tb_747, tb_748, tb_86, by decide +kernel, by decide +kernel⟩⟩, fun _ h => absurd h List.not_mem_nil⟩⟩
theorem so_121 : mm_sok (4, 149, 1, 1, [(4, 29)]) := Or.inr <| Or.inr <| Or.inl ⟨rfl, List.forall_mem_cons.mpr ⟨⟨by decide, by decide, Or.inl ⟨tb_769, tb_678, tb_679, tb_86, by decide +kernel, by decide +kernel⟩⟩, fun _ h => absurd h List.not_mem_nil⟩⟩
theorem so_122 : mm_sok (4, 152, 3, 1, [(4, 33)]) := Or.inr <| Or.inr <| Or.inl ⟨rfl, List.forall_mem_cons.mpr ⟨⟨by decide, by decide, Or.inl ⟨tb_770, tb_734, tb_735, tb_86, by decide +kernel, by decide +kernel⟩⟩, fun _ h => absurd h List.not_mem_nil⟩⟩
theorem so_123 : mm_sok (4, 155, 1, 1, [(4, 39)]) := Or.inr <| Or.inr <| Or.inl ⟨rfl, List.forall_mem_cons.mpr ⟨⟨by decide, by decide, Or.inl ⟨tb_779, tb_781, tb_12, tb_86, by decide +kernel, by decide +kernel⟩⟩, fun _ h => absurd h List.not_mem_nil⟩⟩
theorem so_124 : mm_sok (5, 11, 3, 3, [(0, 52)]) := Or.inr (Or.inr (Or.inr (Or.inr rfl)))
theorem so_125 : mm_sok (5, 29, 2, 1, [(7, 61)]) := Or.inr <| Or.inr <| Or.inl ⟨rfl, List.forall_mem_cons.mpr ⟨⟨by decide, by decide, Or.inl ⟨tb_539, tb_540, tb_541, tb_77, by decide +kernel, by decide +kernel⟩⟩, fun _ h => absurd h List.not_mem_nil⟩⟩
theorem so_126 : mm_sok (5, 33, 1, 1, [(7, 59)]) := Or.inr <| Or.inr <| Or.inl ⟨rfl, List.forall_mem_cons.mpr ⟨⟨by decide, by decide, Or.inl ⟨tb_547, tb_548, tb_549, tb_77, by decide +kernel, by decide +kernel⟩⟩, fun _ h => absurd h List.not_mem_nil⟩⟩
theorem so_127 : mm_sok (5, 43, 3, 1, [(5, 43)]) := Or.inr <| Or.inr <| Or.inl ⟨rfl, List.forall_mem_cons.mpr ⟨⟨by decide, by decide, Or.inl ⟨tb_551, tb_553, tb_4, tb_88, by decide +kernel, by decide +kernel⟩⟩, fun _ h => absurd h List.not_mem_nil⟩⟩
theorem so_128 : mm_sok (5, 49, 2, 1, [(7, 53)]) := Or.inr <| Or.inr <| Or.inl ⟨rfl, List.forall_mem_cons.mpr ⟨⟨by decide, by decide, Or.inl ⟨tb_563, tb_432, tb_433, tb_77, by decide +kernel, by decide +kernel⟩⟩, fun _ h => absurd h List.not_mem_nil⟩⟩
theorem so_129 : mm_sok (5, 53, 2, 1, [(7, 55)]) := Or.inr <| Or.inr <| Or.inl ⟨rfl, List.forall_mem_cons.mpr ⟨⟨by decide, by decide, Or.inl ⟨tb_564, tb_428, tb_429, tb_77, by decide +kernel, by decide +kernel⟩⟩, fun _ h => absurd h List.not_mem_nil⟩⟩
theorem so_130 : mm_sok (5, 57, 2, 1, [(5, 45)]) := Or.inr <| Or.inr <| Or.inl ⟨rfl, List.forall_mem_cons.mpr ⟨⟨by decide, by decide, Or.inl ⟨tb_555, tb_557, tb_5, tb_88, by decide +kernel, by decide +kernel⟩⟩, fun _ h => absurd h List.not_mem_nil⟩⟩
theorem so_131 : mm_sok (5, 61, 1, 1, [(5, 42)]) := Or.inr <| Or.inr <| Or.inl ⟨rfl, List.forall_mem_cons.mpr ⟨⟨by decide, by decide, Or.inl ⟨tb_559, tb_561, tb_6, tb_88, by decide +kernel, by decide +kernel⟩⟩, fun _ h => absurd h List.not_mem_nil⟩⟩
theorem so_132 : mm_sok (5, 65, 1, 0, [(0, 44)]) := Or.inl ⟨rfl, List.forall_mem_cons.mpr ⟨fun _ => ⟨by decide, by decide, tb_659, tb_660, by decide +kernel⟩, fun _ h => absurd h List.not_mem_nil⟩⟩
theorem so_133 : mm_sok (5, 68, 2, 1, [(7, 57)]) := Or.inr <| Or.inr <| Or.inl ⟨rfl, List.forall_mem_cons.mpr ⟨⟨by decide, by decide, Or.inl ⟨tb_654, tb_218, tb_219, tb_77, by decide +kernel, by decide +kernel⟩⟩, fun _ h => absurd h List.not_mem_nil⟩⟩
theorem so_134 : mm_sok (5, 71, 2, 1, [(50, 244)]) := Or.inr <| Or.inr <| Or.inl ⟨rfl, List.forall_mem_cons.mpr ⟨⟨by decide, by decide, Or.inl ⟨tb_565, tb_566, tb_567, tb_92, by decide +kernel, by decide +kernel⟩⟩, fun _ h => absurd h List.not_mem_nil⟩⟩
theorem so_135 : mm_sok (5, 76, 1, 0, [(0, 48)]) := Or.inl ⟨rfl, List.forall_mem_cons.mpr ⟨fun _ => ⟨by decide, by decide, tb_647, tb_648, by decide +kernel⟩, fun _ h => absurd h List.not_mem_nil⟩⟩
theorem so_136 : mm_sok (5, 79, 1, 1, [(5, 46)]) := Or.inr <| Or.inr <| Or.inl ⟨rfl, List.forall_mem_cons.mpr ⟨⟨by decide, by decide, Or.inl ⟨tb_650, tb_652, tb_7, tb_88, by decide +kernel, by decide +kernel⟩⟩, fun _ h => absurd h List.not_mem_nil⟩⟩
theorem so_137 : mm_sok (5, 84, 1, 1, [(5, 47)]) := Or.inr <| Or.inr <| Or.inl ⟨rfl, List.forall_mem_cons.mpr ⟨⟨by decide, by decide, Or.inl ⟨tb_655, tb_657, tb_8, tb_88, by decide +kernel, by decide +kernel⟩⟩, fun _ h => absurd h List.not_mem_nil⟩⟩
theorem so_138 : mm_sok (6, 3, 2, 3, [(0, 4)]) := Or.inr (Or.inr (Or.inr (Or.inr rfl)))
theorem so_139 : mm_sok (6, 15, 1, 0, [(0, 251)]) := Or.inl ⟨rfl, List.forall_mem_cons.mpr ⟨fun _ => ⟨by decide, by decide, tb_716, tb_418, by decide +kernel⟩, fun _ h => absurd h List.not_mem_nil⟩⟩
theorem so_140 : mm_sok (6, 23, 5, 2, [(0, 5)]) := Or.inr <| Or.inr <| Or.inr <| Or.inl ⟨rfl, List.forall_mem_cons.mpr ⟨⟨by decide, by decide, ⟨"ChairViews$Chair", "opinion", "(LChairViews$House;III)I"⟩, tb_717, tb_700, tb_176, Or.inl rfl, rfl, tb_698, by decide, by decide +kernel⟩, fun _ h => absurd h List.not_mem_nil⟩⟩
theorem so_141 : mm_sok (6, 31, 2, 1, [(7, 57)]) := Or.inr <| Or.inr <| Or.inl ⟨rfl, List.forall_mem_cons.mpr ⟨⟨by decide, by decide, Or.inl ⟨tb_920, tb_218, tb_219, tb_77, by decide +kernel, by decide +kernel⟩⟩, fun _ h => absurd h List.not_mem_nil⟩⟩
theorem so_142 : mm_sok (6, 37, 4, 2, [(0, 9)]) := Or.inr <| Or.inr <| Or.inr <| Or.inl ⟨rfl, List.forall_mem_cons.mpr ⟨⟨by decide, by decide, ⟨"ChairViews$Chair", "creaksVoice", "(III)I"⟩, tb_921, tb_1520, tb_176, Or.inl rfl, rfl, tb_904, by decide, by decide +kernel⟩, fun _ h => absurd h List.not_mem_nil⟩⟩
theorem so_143 : mm_sok (7, 26, 2, 1, [(7, 53)]) := Or.inr <| Or.inr <| Or.inl ⟨rfl, List.forall_mem_cons.mpr ⟨⟨by decide, by decide, Or.inl ⟨tb_431, tb_432, tb_433, tb_77, by decide +kernel, by decide +kernel⟩⟩, fun _ h => absurd h List.not_mem_nil⟩⟩
theorem so_144 : mm_sok (7, 30, 2, 1, [(7, 63)]) := Or.inr <| Or.inr <| Or.inl ⟨rfl, List.forall_mem_cons.mpr ⟨⟨by decide, by decide, Or.inl ⟨tb_221, tb_223, tb_0, tb_77, by decide +kernel, by decide +kernel⟩⟩, fun _ h => absurd h List.not_mem_nil⟩⟩
theorem so_145 : mm_sok (7, 34, 2, 1, [(7, 57)]) := Or.inr <| Or.inr <| Or.inl ⟨rfl, List.forall_mem_cons.mpr ⟨⟨by decide, by decide, Or.inl ⟨tb_852, tb_218, tb_219, tb_77, by decide +kernel, by decide +kernel⟩⟩, fun _ h => absurd h List.not_mem_nil⟩⟩
theorem so_146 : mm_sok (7, 41, 2, 0, [(0, 252)]) := Or.inl ⟨rfl, List.forall_mem_cons.mpr ⟨fun _ => ⟨by decide, by decide, tb_969, tb_970, by decide +kernel⟩, fun _ h => absurd h List.not_mem_nil⟩⟩
theorem so_147 : mm_sok (7, 53, 3, 1, [(7, 54)]) := Or.inr <| Or.inr <| Or.inl ⟨rfl, List.forall_mem_cons.mpr ⟨⟨by decide, by decide, Or.inl ⟨tb_996, tb_989, tb_990, tb_77, by decide +kernel, by decide +kernel⟩⟩, fun _ h => absurd h List.not_mem_nil⟩⟩
theorem so_148 : mm_sok (8, 1, 2, 3, [(0, 72)]) := Or.inr (Or.inr (Or.inr (Or.inr rfl)))
theorem so_149 : mm_sok (8, 13, 2, 1, [(7, 57)]) := Or.inr <| Or.inr <| Or.inl ⟨rfl, List.forall_mem_cons.mpr ⟨⟨by decide, by decide, Or.inl ⟨tb_942, tb_218, tb_219, tb_77, by decide +kernel, by decide +kernel⟩⟩, fun _ h => absurd h List.not_mem_nil⟩⟩
theorem so_150 : mm_sok (8, 19, 4, 2, [(0, 10)]) := Or.inr <| Or.inr <| Or.inr <| Or.inl ⟨rfl, List.forall_mem_cons.mpr ⟨⟨by decide, by decide, ⟨"ChairViews$Wet", "tellsVoice", "(III)I"⟩, tb_943, tb_944, tb_184, Or.inr tb_160, rfl, tb_923, by decide, by decide +kernel⟩, fun _ h => absurd h List.not_mem_nil⟩⟩
theorem so_151 : mm_sok (8, 23, 4, 1, [(8, 74)]) := Or.inr <| Or.inr <| Or.inl ⟨rfl, List.forall_mem_cons.mpr ⟨⟨by decide, by decide, Or.inr ⟨"ChairViews$Wet", ⟨"ChairViews$Soaked", "saysVoice", "(III)I"⟩, tb_945, tb_946, tb_948, tb_879, tb_879, ⟨_, _, _, tb_880⟩, ⟨by decide, by decide⟩, by decide +kernel⟩⟩, fun _ h => absurd h List.not_mem_nil⟩⟩
theorem so_152 : mm_sok (9, 11, 3, 3, [(0, 52)]) := Or.inr (Or.inr (Or.inr (Or.inr rfl)))
theorem so_153 : mm_sok (9, 24, 2, 1, [(7, 57)]) := Or.inr <| Or.inr <| Or.inl ⟨rfl, List.forall_mem_cons.mpr ⟨⟨by decide, by decide, Or.inl ⟨tb_217, tb_218, tb_219, tb_77, by decide +kernel, by decide +kernel⟩⟩, fun _ h => absurd h List.not_mem_nil⟩⟩
theorem so_154 : mm_sok (9, 38, 2, 1, [(7, 55)]) := Or.inr <| Or.inr <| Or.inl ⟨rfl, List.forall_mem_cons.mpr ⟨⟨by decide, by decide, Or.inl ⟨tb_427, tb_428, tb_429, tb_77, by decide +kernel, by decide +kernel⟩⟩, fun _ h => absurd h List.not_mem_nil⟩⟩
theorem so_155 : mm_sok (9, 42, 4, 0, [(0, 69)]) := Or.inl ⟨rfl, List.forall_mem_cons.mpr ⟨fun _ => ⟨by decide, by decide, tb_435, tb_436, by decide +kernel⟩, fun _ h => absurd h List.not_mem_nil⟩⟩
theorem so_156 : mm_sok (9, 46, 1, 0, [(0, 71)]) := Or.inl ⟨rfl, List.forall_mem_cons.mpr ⟨fun _ => ⟨by decide, by decide, tb_438, tb_439, by decide +kernel⟩, fun _ h => absurd h List.not_mem_nil⟩⟩
theorem so_157 : mm_sok (9, 50, 3, 0, [(0, 70)]) := Or.inl ⟨rfl, List.forall_mem_cons.mpr ⟨fun _ => ⟨by decide, by decide, tb_441, tb_442, by decide +kernel⟩, fun _ h => absurd h List.not_mem_nil⟩⟩
theorem so_158 : mm_sok (10, 1, 2, 3, [(0, 4)]) := Or.inr (Or.inr (Or.inr (Or.inr rfl)))
theorem so_159 : mm_sok (10, 13, 5, 2, [(0, 5)]) := Or.inr <| Or.inr <| Or.inr <| Or.inl ⟨rfl, List.forall_mem_cons.mpr ⟨⟨by decide, by decide, ⟨"ChairViews$Chair", "opinion", "(LChairViews$House;III)I"⟩, tb_726, tb_700, tb_160, Or.inl rfl, rfl, tb_698, by decide, by decide +kernel⟩, fun _ h => absurd h List.not_mem_nil⟩⟩
theorem so_160 : mm_sok (10, 23, 2, 1, [(7, 57)]) := Or.inr <| Or.inr <| Or.inl ⟨rfl, List.forall_mem_cons.mpr ⟨⟨by decide, by decide, Or.inl ⟨tb_881, tb_218, tb_219, tb_77, by decide +kernel, by decide +kernel⟩⟩, fun _ h => absurd h List.not_mem_nil⟩⟩
theorem so_161 : mm_sok (10, 29, 4, 2, [(0, 7)]) := Or.inr <| Or.inr <| Or.inr <| Or.inl ⟨rfl, List.forall_mem_cons.mpr ⟨⟨by decide, by decide, ⟨"ChairViews$Chair", "saysVoice", "(III)I"⟩, tb_882, tb_873, tb_160, Or.inl rfl, rfl, tb_871, by decide, by decide +kernel⟩, fun _ h => absurd h List.not_mem_nil⟩⟩
theorem so_162 : mm_sok (11, 11, 3, 3, [(0, 52)]) := Or.inr (Or.inr (Or.inr (Or.inr rfl)))
theorem so_163 : mm_sok (11, 20, 2, 3, [(0, 4)]) := Or.inr (Or.inr (Or.inr (Or.inr rfl)))
theorem so_164 : mm_sok (11, 25, 2, 3, [(0, 72)]) := Or.inr (Or.inr (Or.inr (Or.inr rfl)))
theorem so_165 : mm_sok (11, 28, 2, 3, [(0, 16)]) := Or.inr (Or.inr (Or.inr (Or.inr rfl)))
theorem so_166 : mm_sok (11, 31, 2, 3, [(0, 49)]) := Or.inr (Or.inr (Or.inr (Or.inr rfl)))
theorem so_167 : mm_sok (11, 34, 2, 3, [(0, 64)]) := Or.inr (Or.inr (Or.inr (Or.inr rfl)))
theorem so_168 : mm_sok (11, 37, 2, 3, [(0, 1)]) := Or.inr (Or.inr (Or.inr (Or.inr rfl)))
theorem so_169 : mm_sok (11, 40, 2, 3, [(0, 11)]) := Or.inr (Or.inr (Or.inr (Or.inr rfl)))
theorem so_170 : mm_sok (11, 47, 2, 3, [(0, 19)]) := Or.inr (Or.inr (Or.inr (Or.inr rfl)))
theorem so_171 : mm_sok (11, 62, 1, 3, [(0, 40)]) := Or.inr (Or.inr (Or.inr (Or.inr rfl)))
theorem so_172 : mm_sok (11, 78, 1, 0, [(0, 121)]) := Or.inl ⟨rfl, List.forall_mem_cons.mpr ⟨fun _ => ⟨by decide, by decide, tb_381, tb_382, by decide +kernel⟩, fun _ h => absurd h List.not_mem_nil⟩⟩
theorem so_173 : mm_sok (11, 82, 1, 0, [(0, 119)]) := Or.inl ⟨rfl, List.forall_mem_cons.mpr ⟨fun _ => ⟨by decide, by decide, tb_387, tb_388, by decide +kernel⟩, fun _ h => absurd h List.not_mem_nil⟩⟩
theorem so_174 : mm_sok (11, 86, 2, 1, [(11, 116)]) := Or.inr <| Or.inr <| Or.inl ⟨rfl, List.forall_mem_cons.mpr ⟨⟨by decide, by decide, Or.inl ⟨tb_391, tb_393, tb_1, tb_76, by decide +kernel, by decide +kernel⟩⟩, fun _ h => absurd h List.not_mem_nil⟩⟩
theorem so_175 : mm_sok (11, 95, 3, 1, [(4, 21)]) := Or.inr <| Or.inr <| Or.inl ⟨rfl, List.forall_mem_cons.mpr ⟨⟨by decide, by decide, Or.inl ⟨tb_397, tb_398, tb_399, tb_86, by decide +kernel, by decide +kernel⟩⟩, fun _ h => absurd h List.not_mem_nil⟩⟩
theorem so_176 : mm_sok (11, 99, 2, 1, [(11, 126)]) := Or.inr <| Or.inr <| Or.inl ⟨rfl, List.forall_mem_cons.mpr ⟨⟨by decide, by decide, Or.inl ⟨tb_405, tb_407, tb_2, tb_76, by decide +kernel, by decide +kernel⟩⟩, fun _ h => absurd h List.not_mem_nil⟩⟩
theorem so_177 : mm_sok (11, 114, 2, 1, [(4, 24)]) := Or.inr <| Or.inr <| Or.inl ⟨rfl, List.forall_mem_cons.mpr ⟨⟨by decide, by decide, Or.inl ⟨tb_409, tb_410, tb_411, tb_86, by decide +kernel, by decide +kernel⟩⟩, fun _ h => absurd h List.not_mem_nil⟩⟩
theorem so_178 : mm_sok (11, 117, 2, 1, [(4, 28)]) := Or.inr <| Or.inr <| Or.inl ⟨rfl, List.forall_mem_cons.mpr ⟨⟨by decide, by decide, Or.inl ⟨tb_413, tb_414, tb_415, tb_86, by decide +kernel, by decide +kernel⟩⟩, fun _ h => absurd h List.not_mem_nil⟩⟩
theorem so_179 : mm_sok (11, 120, 3, 0, [(0, 117)]) := Or.inl ⟨rfl, List.forall_mem_cons.mpr ⟨fun _ => ⟨by decide, by decide, tb_384, tb_385, by decide +kernel⟩, fun _ h => absurd h List.not_mem_nil⟩⟩
theorem so_180 : mm_sok (11, 124, 2, 0, [(0, 129)]) := Or.inl ⟨rfl, List.forall_mem_cons.mpr ⟨fun _ => ⟨by decide, by decide, tb_484, tb_485, by decide +kernel⟩, fun _ h => absurd h List.not_mem_nil⟩⟩
theorem so_181 : mm_sok (11, 129, 1, 0, [(0, 118)]) := Or.inl ⟨rfl, List.forall_mem_cons.mpr ⟨fun _ => ⟨by decide, by decide, tb_494, tb_495, by decide +kernel⟩, fun _ h => absurd h List.not_mem_nil⟩⟩
theorem so_182 : mm_sok (11, 135, 2, 1, [(4, 22)]) := Or.inr <| Or.inr <| Or.inl ⟨rfl, List.forall_mem_cons.mpr ⟨⟨by decide, by decide, Or.inl ⟨tb_497, tb_498, tb_499, tb_86, by decide +kernel, by decide +kernel⟩⟩, fun _ h => absurd h List.not_mem_nil⟩⟩
theorem so_183 : mm_sok (11, 138, 2, 1, [(11, 127)]) := Or.inr <| Or.inr <| Or.inl ⟨rfl, List.forall_mem_cons.mpr ⟨⟨by decide, by decide, Or.inl ⟨tb_505, tb_507, tb_3, tb_76, by decide +kernel, by decide +kernel⟩⟩, fun _ h => absurd h List.not_mem_nil⟩⟩
theorem so_184 : mm_sok (11, 150, 1, 0, [(0, 120)]) := Or.inl ⟨rfl, List.forall_mem_cons.mpr ⟨fun _ => ⟨by decide, by decide, tb_513, tb_514, by decide +kernel⟩, fun _ h => absurd h List.not_mem_nil⟩⟩
theorem so_185 : mm_sok (11, 160, 2, 1, [(7, 57)]) := Or.inr <| Or.inr <| Or.inl ⟨rfl, List.forall_mem_cons.mpr ⟨⟨by decide, by decide, Or.inl ⟨tb_525, tb_218, tb_219, tb_77, by decide +kernel, by decide +kernel⟩⟩, fun _ h => absurd h List.not_mem_nil⟩⟩
theorem so_186 : mm_sok (11, 164, 1, 0, [(0, 122)]) := Or.inl ⟨rfl, List.forall_mem_cons.mpr ⟨fun _ => ⟨by decide, by decide, tb_530, tb_531, by decide +kernel⟩, fun _ h => absurd h List.not_mem_nil⟩⟩
theorem so_187 : mm_sok (11, 171, 3, 1, [(5, 41)]) := Or.inr <| Or.inr <| Or.inl ⟨rfl, List.forall_mem_cons.mpr ⟨⟨by decide, by decide, Or.inl ⟨tb_535, tb_536, tb_537, tb_88, by decide +kernel, by decide +kernel⟩⟩, fun _ h => absurd h List.not_mem_nil⟩⟩
theorem so_188 : mm_sok (11, 175, 1, 1, [(7, 59)]) := Or.inr <| Or.inr <| Or.inl ⟨rfl, List.forall_mem_cons.mpr ⟨⟨by decide, by decide, Or.inl ⟨tb_662, tb_548, tb_549, tb_77, by decide +kernel, by decide +kernel⟩⟩, fun _ h => absurd h List.not_mem_nil⟩⟩
theorem so_189 : mm_sok (11, 178, 2, 1, [(11, 130)]) := Or.inr <| Or.inr <| Or.inl ⟨rfl, List.forall_mem_cons.mpr ⟨⟨by decide, by decide, Or.inl ⟨tb_663, tb_665, tb_9, tb_76, by decide +kernel, by decide +kernel⟩⟩, fun _ h => absurd h List.not_mem_nil⟩⟩
theorem so_190 : mm_sok (11, 188, 2, 1, [(7, 61)]) := Or.inr <| Or.inr <| Or.inl ⟨rfl, List.forall_mem_cons.mpr ⟨⟨by decide, by decide, Or.inl ⟨tb_667, tb_540, tb_541, tb_77, by decide +kernel, by decide +kernel⟩⟩, fun _ h => absurd h List.not_mem_nil⟩⟩
theorem so_191 : mm_sok (11, 191, 4, 1, [(9, 68)]) := Or.inr <| Or.inr <| Or.inl ⟨rfl, List.forall_mem_cons.mpr ⟨⟨by decide, by decide, Or.inl ⟨tb_672, tb_424, tb_425, tb_87, by decide +kernel, by decide +kernel⟩⟩, fun _ h => absurd h List.not_mem_nil⟩⟩
theorem so_192 : mm_sok (11, 195, 1, 1, [(4, 29)]) := Or.inr <| Or.inr <| Or.inl ⟨rfl, List.forall_mem_cons.mpr ⟨⟨by decide, by decide, Or.inl ⟨tb_677, tb_678, tb_679, tb_86, by decide +kernel, by decide +kernel⟩⟩, fun _ h => absurd h List.not_mem_nil⟩⟩
theorem so_193 : mm_sok (11, 198, 3, 1, [(4, 32)]) := Or.inr <| Or.inr <| Or.inl ⟨rfl, List.forall_mem_cons.mpr ⟨⟨by decide, by decide, Or.inl ⟨tb_682, tb_683, tb_684, tb_86, by decide +kernel, by decide +kernel⟩⟩, fun _ h => absurd h List.not_mem_nil⟩⟩
theorem so_194 : mm_sok (11, 201, 1, 1, [(4, 25)]) := Or.inr <| Or.inr <| Or.inl ⟨rfl, List.forall_mem_cons.mpr ⟨⟨by decide, by decide, Or.inl ⟨tb_732, tb_687, tb_688, tb_86, by decide +kernel, by decide +kernel⟩⟩, fun _ h => absurd h List.not_mem_nil⟩⟩
theorem so_195 : mm_sok (11, 205, 3, 1, [(4, 33)]) := Or.inr <| Or.inr <| Or.inl ⟨rfl, List.forall_mem_cons.mpr ⟨⟨by decide, by decide, Or.inl ⟨tb_733, tb_734, tb_735, tb_86, by decide +kernel, by decide +kernel⟩⟩, fun _ h => absurd h List.not_mem_nil⟩⟩
theorem so_196 : mm_sok (11, 208, 4, 1, [(4, 31)]) := Or.inr <| Or.inr <| Or.inl ⟨rfl, List.forall_mem_cons.mpr ⟨⟨by decide, by decide, Or.inl ⟨tb_741, tb_691, tb_692, tb_86, by decide +kernel, by decide +kernel⟩⟩, fun _ h => absurd h List.not_mem_nil⟩⟩
theorem so_197 : mm_sok (11, 211, 1, 1, [(4, 34)]) := Or.inr <| Or.inr <| Or.inl ⟨rfl, List.forall_mem_cons.mpr ⟨⟨by decide, by decide, Or.inl ⟨tb_746, tb_747, tb_748, tb_86, by decide +kernel, by decide +kernel⟩⟩, fun _ h => absurd h List.not_mem_nil⟩⟩
theorem so_198 : mm_sok (11, 214, 1, 0, [(0, 251)]) := Or.inl ⟨rfl, List.forall_mem_cons.mpr ⟨fun _ => ⟨by decide, by decide, tb_759, tb_418, by decide +kernel⟩, fun _ h => absurd h List.not_mem_nil⟩⟩
theorem so_199 : mm_sok (11, 222, 1, 1, [(4, 37)]) := Or.inr <| Or.inr <| Or.inl ⟨rfl, List.forall_mem_cons.mpr ⟨⟨by decide, by decide, Or.inl ⟨tb_764, tb_765, tb_766, tb_86, by decide +kernel, by decide +kernel⟩⟩, fun _ h => absurd h List.not_mem_nil⟩⟩
theorem so_200 : mm_sok (11, 228, 1, 1, [(4, 38)]) := Or.inr <| Or.inr <| Or.inl ⟨rfl, List.forall_mem_cons.mpr ⟨⟨by decide, by decide, Or.inl ⟨tb_775, tb_776, tb_777, tb_86, by decide +kernel, by decide +kernel⟩⟩, fun _ h => absurd h List.not_mem_nil⟩⟩
theorem so_201 : mm_sok (11, 231, 2, 1, [(4, 20)]) := Or.inr <| Or.inr <| Or.inl ⟨rfl, List.forall_mem_cons.mpr ⟨⟨by decide, by decide, Or.inl ⟨tb_788, tb_789, tb_790, tb_86, by decide +kernel, by decide +kernel⟩⟩, fun _ h => absurd h List.not_mem_nil⟩⟩
theorem so_202 : mm_sok (11, 234, 2, 0, [(0, 125)]) := Or.inl ⟨rfl, List.forall_mem_cons.mpr ⟨fun _ => ⟨by decide, by decide, tb_798, tb_695, by decide +kernel⟩, fun _ h => absurd h List.not_mem_nil⟩⟩
theorem so_203 : mm_sok (11, 238, 3, 1, [(11, 131)]) := Or.inr <| Or.inr <| Or.inl ⟨rfl, List.forall_mem_cons.mpr ⟨⟨by decide, by decide, Or.inl ⟨tb_804, tb_806, tb_13, tb_76, by decide +kernel, by decide +kernel⟩⟩, fun _ h => absurd h List.not_mem_nil⟩⟩
theorem so_204 : mm_sok (11, 241, 2, 0, [(0, 133)]) := Or.inl ⟨rfl, List.forall_mem_cons.mpr ⟨fun _ => ⟨by decide, by decide, tb_816, tb_817, by decide +kernel⟩, fun _ h => absurd h List.not_mem_nil⟩⟩
theorem so_205 : mm_sok (11, 244, 2, 1, [(4, 30)]) := Or.inr <| Or.inr <| Or.inl ⟨rfl, List.forall_mem_cons.mpr ⟨⟨by decide, by decide, Or.inl ⟨tb_824, tb_825, tb_826, tb_86, by decide +kernel, by decide +kernel⟩⟩, fun _ h => absurd h List.not_mem_nil⟩⟩
theorem so_206 : mm_sok (11, 250, 1, 0, [(0, 123)]) := Or.inl ⟨rfl, List.forall_mem_cons.mpr ⟨fun _ => ⟨by decide, by decide, tb_832, tb_833, by decide +kernel⟩, fun _ h => absurd h List.not_mem_nil⟩⟩
theorem so_207 : mm_sok (11, 256, 3, 1, [(11, 134)]) := Or.inr <| Or.inr <| Or.inl ⟨rfl, List.forall_mem_cons.mpr ⟨⟨by decide, by decide, Or.inl ⟨tb_835, tb_837, tb_15, tb_76, by decide +kernel, by decide +kernel⟩⟩, fun _ h => absurd h List.not_mem_nil⟩⟩
theorem so_208 : mm_sok (11, 260, 3, 1, [(11, 135)]) := Or.inr <| Or.inr <| Or.inl ⟨rfl, List.forall_mem_cons.mpr ⟨⟨by decide, by decide, Or.inl ⟨tb_844, tb_846, tb_16, tb_76, by decide +kernel, by decide +kernel⟩⟩, fun _ h => absurd h List.not_mem_nil⟩⟩
theorem so_209 : mm_sok (11, 266, 2, 1, [(4, 23)]) := Or.inr <| Or.inr <| Or.inl ⟨rfl, List.forall_mem_cons.mpr ⟨⟨by decide, by decide, Or.inl ⟨tb_869, tb_449, tb_450, tb_86, by decide +kernel, by decide +kernel⟩⟩, fun _ h => absurd h List.not_mem_nil⟩⟩
theorem so_210 : mm_sok (11, 270, 4, 1, [(1, 7), (0, 7), (2, 7), (3, 7), (6, 7), (8, 74), (10, 74)]) := Or.inr <| Or.inr <| Or.inl ⟨rfl, List.forall_mem_cons.mpr ⟨⟨by decide, by decide, Or.inl ⟨tb_870, tb_871, tb_872, tb_79, by decide +kernel, by decide +kernel⟩⟩, List.forall_mem_cons.mpr ⟨⟨by decide, by decide, Or.inr ⟨"ChairViews$Chair", ⟨"ChairViews$Chair", "saysVoice", "(III)I"⟩, tb_870, tb_873, tb_874, tb_871, tb_871, ⟨_, _, _, tb_884⟩, ⟨by decide, by decide⟩, by decide +kernel⟩⟩, List.forall_mem_cons.mpr ⟨⟨by decide, by decide, Or.inr ⟨"ChairViews$Chair", ⟨"ChairViews$Chair", "saysVoice", "(III)I"⟩, tb_870, tb_873, tb_875, tb_871, tb_871, ⟨_, _, _, tb_884⟩, ⟨by decide, by decide⟩, by decide +kernel⟩⟩, List.forall_mem_cons.mpr ⟨⟨by decide, by decide, Or.inr ⟨"ChairViews$Chair", ⟨"ChairViews$Chair", "saysVoice", "(III)I"⟩, tb_870, tb_873, tb_876, tb_871, tb_871, ⟨_, _, _, tb_884⟩, ⟨by decide, by decide⟩, by decide +kernel⟩⟩, List.forall_mem_cons.mpr ⟨⟨by decide, by decide, Or.inr ⟨"ChairViews$Chair", ⟨"ChairViews$Chair", "saysVoice", "(III)I"⟩, tb_870, tb_873, tb_877, tb_871, tb_871, ⟨_, _, _, tb_884⟩, ⟨by decide, by decide⟩, by decide +kernel⟩⟩, List.forall_mem_cons.mpr ⟨⟨by decide, by decide, Or.inr ⟨"ChairViews$Chair", ⟨"ChairViews$Chair", "saysVoice", "(III)I"⟩, tb_870, tb_873, tb_878, tb_879, tb_871, ⟨_, _, _, tb_884⟩, ⟨by decide, by decide⟩, by decide +kernel⟩⟩, List.forall_mem_cons.mpr ⟨⟨by decide, by decide, Or.inr ⟨"ChairViews$Chair", ⟨"ChairViews$Chair", "saysVoice", "(III)I"⟩, tb_870, tb_873, tb_883, tb_879, tb_871, ⟨_, _, _, tb_884⟩, ⟨by decide, by decide⟩, by decide +kernel⟩⟩, fun _ h => absurd h List.not_mem_nil⟩⟩⟩⟩⟩⟩⟩⟩
theorem so_211 : mm_sok (11, 273, 4, 1, [(1, 8), (0, 3), (2, 8), (3, 18), (6, 8), (8, 8), (10, 8)]) := Or.inr <| Or.inr <| Or.inl ⟨rfl, List.forall_mem_cons.mpr ⟨⟨by decide, by decide, Or.inl ⟨tb_886, tb_887, tb_888, tb_79, by decide +kernel, by decide +kernel⟩⟩, List.forall_mem_cons.mpr ⟨⟨by decide, by decide, Or.inr ⟨"ChairViews$Chair", ⟨"ChairViews$Chair", "weighsVoice", "(III)I"⟩, tb_886, tb_889, tb_890, tb_891, tb_887, ⟨_, _, _, tb_911⟩, ⟨by decide, by decide⟩, by decide +kernel⟩⟩, List.forall_mem_cons.mpr ⟨⟨by decide, by decide, Or.inr ⟨"ChairViews$Chair", ⟨"ChairViews$Chair", "weighsVoice", "(III)I"⟩, tb_886, tb_889, tb_906, tb_887, tb_887, ⟨_, _, _, tb_911⟩, ⟨by decide, by decide⟩, by decide +kernel⟩⟩, List.forall_mem_cons.mpr ⟨⟨by decide, by decide, Or.inr ⟨"ChairViews$Chair", ⟨"ChairViews$Chair", "weighsVoice", "(III)I"⟩, tb_886, tb_889, tb_907, tb_895, tb_887, ⟨_, _, _, tb_911⟩, ⟨by decide, by decide⟩, by decide +kernel⟩⟩, List.forall_mem_cons.mpr ⟨⟨by decide, by decide, Or.inr ⟨"ChairViews$Chair", ⟨"ChairViews$Chair", "weighsVoice", "(III)I"⟩, tb_886, tb_889, tb_908, tb_887, tb_887, ⟨_, _, _, tb_911⟩, ⟨by decide, by decide⟩, by decide +kernel⟩⟩, List.forall_mem_cons.mpr ⟨⟨by decide, by decide, Or.inr ⟨"ChairViews$Chair", ⟨"ChairViews$Chair", "weighsVoice", "(III)I"⟩, tb_886, tb_889, tb_909, tb_887, tb_887, ⟨_, _, _, tb_911⟩, ⟨by decide, by decide⟩, by decide +kernel⟩⟩, List.forall_mem_cons.mpr ⟨⟨by decide, by decide, Or.inr ⟨"ChairViews$Chair", ⟨"ChairViews$Chair", "weighsVoice", "(III)I"⟩, tb_886, tb_889, tb_910, tb_887, tb_887, ⟨_, _, _, tb_911⟩, ⟨by decide, by decide⟩, by decide +kernel⟩⟩, fun _ h => absurd h List.not_mem_nil⟩⟩⟩⟩⟩⟩⟩⟩
theorem so_212 : mm_sok (11, 276, 4, 1, [(1, 9), (0, 9), (2, 14), (3, 9), (6, 51), (8, 9), (10, 9)]) := Or.inr <| Or.inr <| Or.inl ⟨rfl, List.forall_mem_cons.mpr ⟨⟨by decide, by decide, Or.inl ⟨tb_913, tb_904, tb_1522, tb_79, by decide +kernel, by decide +kernel⟩⟩, List.forall_mem_cons.mpr ⟨⟨by decide, by decide, Or.inr ⟨"ChairViews$Chair", ⟨"ChairViews$Chair", "creaksVoice", "(III)I"⟩, tb_913, tb_1520, tb_1521, tb_904, tb_904, ⟨_, _, _, tb_905⟩, ⟨by decide, by decide⟩, by decide +kernel⟩⟩, List.forall_mem_cons.mpr ⟨⟨by decide, by decide, Or.inr ⟨"ChairViews$Chair", ⟨"ChairViews$Chair", "creaksVoice", "(III)I"⟩, tb_913, tb_1520, tb_1523, tb_914, tb_904, ⟨_, _, _, tb_905⟩, ⟨by decide, by decide⟩, by decide +kernel⟩⟩, List.forall_mem_cons.mpr ⟨⟨by decide, by decide, Or.inr ⟨"ChairViews$Chair", ⟨"ChairViews$Chair", "creaksVoice", "(III)I"⟩, tb_913, tb_1520, tb_1525, tb_904, tb_904, ⟨_, _, _, tb_905⟩, ⟨by decide, by decide⟩, by decide +kernel⟩⟩, List.forall_mem_cons.mpr ⟨⟨by decide, by decide, Or.inr ⟨"ChairViews$Chair", ⟨"ChairViews$Chair", "creaksVoice", "(III)I"⟩, tb_913, tb_1520, tb_1526, tb_918, tb_904, ⟨_, _, _, tb_905⟩, ⟨by decide, by decide⟩, by decide +kernel⟩⟩, List.forall_mem_cons.mpr ⟨⟨by decide, by decide, Or.inr ⟨"ChairViews$Chair", ⟨"ChairViews$Chair", "creaksVoice", "(III)I"⟩, tb_913, tb_1520, tb_1527, tb_904, tb_904, ⟨_, _, _, tb_905⟩, ⟨by decide, by decide⟩, by decide +kernel⟩⟩, List.forall_mem_cons.mpr ⟨⟨by decide, by decide, Or.inr ⟨"ChairViews$Chair", ⟨"ChairViews$Chair", "creaksVoice", "(III)I"⟩, tb_913, tb_1520, tb_1528, tb_904, tb_904, ⟨_, _, _, tb_905⟩, ⟨by decide, by decide⟩, by decide +kernel⟩⟩, fun _ h => absurd h List.not_mem_nil⟩⟩⟩⟩⟩⟩⟩⟩
theorem so_213 : mm_sok (11, 279, 4, 1, [(1, 10), (0, 10), (2, 15), (3, 10), (6, 10), (8, 66), (10, 10)]) := Or.inr <| Or.inr <| Or.inl ⟨rfl, List.forall_mem_cons.mpr ⟨⟨by decide, by decide, Or.inl ⟨tb_922, tb_923, tb_924, tb_79, by decide +kernel, by decide +kernel⟩⟩, List.forall_mem_cons.mpr ⟨⟨by decide, by decide, Or.inr ⟨"ChairViews$Chair", ⟨"ChairViews$Chair", "tellsVoice", "(III)I"⟩, tb_922, tb_925, tb_926, tb_923, tb_923, ⟨_, _, _, tb_950⟩, ⟨by decide, by decide⟩, by decide +kernel⟩⟩, List.forall_mem_cons.mpr ⟨⟨by decide, by decide, Or.inr ⟨"ChairViews$Chair", ⟨"ChairViews$Chair", "tellsVoice", "(III)I"⟩, tb_922, tb_925, tb_927, tb_928, tb_923, ⟨_, _, _, tb_950⟩, ⟨by decide, by decide⟩, by decide +kernel⟩⟩, List.forall_mem_cons.mpr ⟨⟨by decide, by decide, Or.inr ⟨"ChairViews$Chair", ⟨"ChairViews$Chair", "tellsVoice", "(III)I"⟩, tb_922, tb_925, tb_937, tb_923, tb_923, ⟨_, _, _, tb_950⟩, ⟨by decide, by decide⟩, by decide +kernel⟩⟩, List.forall_mem_cons.mpr ⟨⟨by decide, by decide, Or.inr ⟨"ChairViews$Chair", ⟨"ChairViews$Chair", "tellsVoice", "(III)I"⟩, tb_922, tb_925, tb_938, tb_923, tb_923, ⟨_, _, _, tb_950⟩, ⟨by decide, by decide⟩, by decide +kernel⟩⟩, List.forall_mem_cons.mpr ⟨⟨by decide, by decide, Or.inr ⟨"ChairViews$Chair", ⟨"ChairViews$Chair", "tellsVoice", "(III)I"⟩, tb_922, tb_925, tb_939, tb_940, tb_923, ⟨_, _, _, tb_950⟩, ⟨by decide, by decide⟩, by decide +kernel⟩⟩, List.forall_mem_cons.mpr ⟨⟨by decide, by decide, Or.inr ⟨"ChairViews$Chair", ⟨"ChairViews$Chair", "tellsVoice", "(III)I"⟩, tb_922, tb_925, tb_949, tb_923, tb_923, ⟨_, _, _, tb_950⟩, ⟨by decide, by decide⟩, by decide +kernel⟩⟩, fun _ h => absurd h List.not_mem_nil⟩⟩⟩⟩⟩⟩⟩⟩
theorem so_214 : mm_sok (11, 282, 2, 1, [(7, 53)]) := Or.inr <| Or.inr <| Or.inl ⟨rfl, List.forall_mem_cons.mpr ⟨⟨by decide, by decide, Or.inl ⟨tb_957, tb_432, tb_433, tb_77, by decide +kernel, by decide +kernel⟩⟩, fun _ h => absurd h List.not_mem_nil⟩⟩
theorem so_215 : mm_sok (11, 285, 2, 1, [(7, 55)]) := Or.inr <| Or.inr <| Or.inl ⟨rfl, List.forall_mem_cons.mpr ⟨⟨by decide, by decide, Or.inl ⟨tb_839, tb_428, tb_429, tb_77, by decide +kernel, by decide +kernel⟩⟩, fun _ h => absurd h List.not_mem_nil⟩⟩
theorem so_216 : mm_sok (11, 288, 1, 0, [(0, 124)]) := Or.inl ⟨rfl, List.forall_mem_cons.mpr ⟨fun _ => ⟨by decide, by decide, tb_962, tb_963, by decide +kernel⟩, fun _ h => absurd h List.not_mem_nil⟩⟩
theorem so_217 : mm_sok (11, 291, 3, 1, [(7, 60)]) := Or.inr <| Or.inr <| Or.inl ⟨rfl, List.forall_mem_cons.mpr ⟨⟨by decide, by decide, Or.inl ⟨tb_965, tb_966, tb_967, tb_77, by decide +kernel, by decide +kernel⟩⟩, fun _ h => absurd h List.not_mem_nil⟩⟩
theorem so_218 : mm_sok (11, 294, 2, 1, [(11, 128)]) := Or.inr <| Or.inr <| Or.inl ⟨rfl, List.forall_mem_cons.mpr ⟨⟨by decide, by decide, Or.inl ⟨tb_976, tb_978, tb_17, tb_76, by decide +kernel, by decide +kernel⟩⟩, fun _ h => absurd h List.not_mem_nil⟩⟩
theorem so_219 : mm_sok (11, 297, 3, 1, [(7, 56)]) := Or.inr <| Or.inr <| Or.inl ⟨rfl, List.forall_mem_cons.mpr ⟨⟨by decide, by decide, Or.inl ⟨tb_980, tb_981, tb_982, tb_77, by decide +kernel, by decide +kernel⟩⟩, fun _ h => absurd h List.not_mem_nil⟩⟩
theorem so_220 : mm_sok (11, 300, 3, 1, [(7, 54)]) := Or.inr <| Or.inr <| Or.inl ⟨rfl, List.forall_mem_cons.mpr ⟨⟨by decide, by decide, Or.inl ⟨tb_988, tb_989, tb_990, tb_77, by decide +kernel, by decide +kernel⟩⟩, fun _ h => absurd h List.not_mem_nil⟩⟩
theorem so_221 : mm_sok (11, 303, 5, 1, [(7, 62)]) := Or.inr <| Or.inr <| Or.inl ⟨rfl, List.forall_mem_cons.mpr ⟨⟨by decide, by decide, Or.inl ⟨tb_992, tb_993, tb_994, tb_77, by decide +kernel, by decide +kernel⟩⟩, fun _ h => absurd h List.not_mem_nil⟩⟩
theorem so_222 : mm_sok (11, 329, 3, 1, [(11, 132)]) := Or.inr <| Or.inr <| Or.inl ⟨rfl, List.forall_mem_cons.mpr ⟨⟨by decide, by decide, Or.inl ⟨tb_808, tb_810, tb_14, tb_76, by decide +kernel, by decide +kernel⟩⟩, fun _ h => absurd h List.not_mem_nil⟩⟩
theorem so_223 : mm_sok (11, 335, 2, 1, [(7, 58)]) := Or.inr <| Or.inr <| Or.inl ⟨rfl, List.forall_mem_cons.mpr ⟨⟨by decide, by decide, Or.inl ⟨tb_848, tb_849, tb_850, tb_77, by decide +kernel, by decide +kernel⟩⟩, fun _ h => absurd h List.not_mem_nil⟩⟩
theorem so_224 : mm_sok (12, 47, 3, 0, [(0, 138)]) := Or.inl ⟨rfl, List.forall_mem_cons.mpr ⟨fun _ => ⟨by decide, by decide, tb_1101, tb_1102, by decide +kernel⟩, fun _ h => absurd h List.not_mem_nil⟩⟩
theorem so_225 : mm_sok (12, 51, 3, 1, [(12, 147)]) := Or.inr <| Or.inr <| Or.inl ⟨rfl, List.forall_mem_cons.mpr ⟨⟨by decide, by decide, Or.inl ⟨tb_1127, tb_1129, tb_22, tb_89, by decide +kernel, by decide +kernel⟩⟩, fun _ h => absurd h List.not_mem_nil⟩⟩
theorem so_226 : mm_sok (12, 55, 3, 1, [(12, 146)]) := Or.inr <| Or.inr <| Or.inl ⟨rfl, List.forall_mem_cons.mpr ⟨⟨by decide, by decide, Or.inl ⟨tb_1119, tb_1121, tb_20, tb_89, by decide +kernel, by decide +kernel⟩⟩, fun _ h => absurd h List.not_mem_nil⟩⟩
theorem so_227 : mm_sok (12, 58, 3, 1, [(12, 151)]) := Or.inr <| Or.inr <| Or.inl ⟨rfl, List.forall_mem_cons.mpr ⟨⟨by decide, by decide, Or.inl ⟨tb_1285, tb_1287, tb_46, tb_89, by decide +kernel, by decide +kernel⟩⟩, fun _ h => absurd h List.not_mem_nil⟩⟩
theorem so_228 : mm_sok (12, 62, 1, 0, [(0, 141)]) := Or.inl ⟨rfl, List.forall_mem_cons.mpr ⟨fun _ => ⟨by decide, by decide, tb_1135, tb_1136, by decide +kernel⟩, fun _ h => absurd h List.not_mem_nil⟩⟩
theorem so_229 : mm_sok (12, 66, 3, 1, [(12, 152)]) := Or.inr <| Or.inr <| Or.inl ⟨rfl, List.forall_mem_cons.mpr ⟨⟨by decide, by decide, Or.inl ⟨tb_1281, tb_1283, tb_45, tb_89, by decide +kernel, by decide +kernel⟩⟩, fun _ h => absurd h List.not_mem_nil⟩⟩
theorem so_230 : mm_sok (12, 69, 3, 1, [(12, 153)]) := Or.inr <| Or.inr <| Or.inl ⟨rfl, List.forall_mem_cons.mpr ⟨⟨by decide, by decide, Or.inl ⟨tb_1289, tb_1291, tb_47, tb_89, by decide +kernel, by decide +kernel⟩⟩, fun _ h => absurd h List.not_mem_nil⟩⟩
theorem so_231 : mm_sok (12, 72, 5, 1, [(12, 185)]) := Or.inr <| Or.inr <| Or.inl ⟨rfl, List.forall_mem_cons.mpr ⟨⟨by decide, by decide, Or.inl ⟨tb_1138, tb_1140, tb_24, tb_89, by decide +kernel, by decide +kernel⟩⟩, fun _ h => absurd h List.not_mem_nil⟩⟩
theorem so_232 : mm_sok (12, 76, 4, 1, [(12, 154)]) := Or.inr <| Or.inr <| Or.inl ⟨rfl, List.forall_mem_cons.mpr ⟨⟨by decide, by decide, Or.inl ⟨tb_1277, tb_1279, tb_44, tb_89, by decide +kernel, by decide +kernel⟩⟩, fun _ h => absurd h List.not_mem_nil⟩⟩
theorem so_233 : mm_sok (12, 80, 2, 1, [(12, 155)]) := Or.inr <| Or.inr <| Or.inl ⟨rfl, List.forall_mem_cons.mpr ⟨⟨by decide, by decide, Or.inl ⟨tb_1131, tb_1133, tb_23, tb_89, by decide +kernel, by decide +kernel⟩⟩, fun _ h => absurd h List.not_mem_nil⟩⟩
theorem so_234 : mm_sok (12, 83, 4, 1, [(12, 156)]) := Or.inr <| Or.inr <| Or.inl ⟨rfl, List.forall_mem_cons.mpr ⟨⟨by decide, by decide, Or.inl ⟨tb_1273, tb_1275, tb_43, tb_89, by decide +kernel, by decide +kernel⟩⟩, fun _ h => absurd h List.not_mem_nil⟩⟩
theorem so_235 : mm_sok (12, 86, 1, 1, [(12, 150)]) := Or.inr <| Or.inr <| Or.inl ⟨rfl, List.forall_mem_cons.mpr ⟨⟨by decide, by decide, Or.inl ⟨tb_1265, tb_1267, tb_41, tb_89, by decide +kernel, by decide +kernel⟩⟩, fun _ h => absurd h List.not_mem_nil⟩⟩
theorem so_236 : mm_sok (12, 90, 3, 1, [(12, 157)]) := Or.inr <| Or.inr <| Or.inl ⟨rfl, List.forall_mem_cons.mpr ⟨⟨by decide, by decide, Or.inl ⟨tb_1269, tb_1271, tb_42, tb_89, by decide +kernel, by decide +kernel⟩⟩, fun _ h => absurd h List.not_mem_nil⟩⟩
theorem so_237 : mm_sok (12, 93, 1, 0, [(0, 159)]) := Or.inl ⟨rfl, List.forall_mem_cons.mpr ⟨fun _ => ⟨by decide, by decide, tb_1098, tb_1099, by decide +kernel⟩, fun _ h => absurd h List.not_mem_nil⟩⟩
theorem so_238 : mm_sok (12, 98, 2, 1, [(12, 137)]) := Or.inr <| Or.inr <| Or.inl ⟨rfl, List.forall_mem_cons.mpr ⟨⟨by decide, by decide, Or.inl ⟨tb_1105, tb_1107, tb_18, tb_89, by decide +kernel, by decide +kernel⟩⟩, fun _ h => absurd h List.not_mem_nil⟩⟩
theorem so_239 : mm_sok (12, 102, 2, 1, [(12, 142)]) := Or.inr <| Or.inr <| Or.inl ⟨rfl, List.forall_mem_cons.mpr ⟨⟨by decide, by decide, Or.inl ⟨tb_1115, tb_1117, tb_19, tb_89, by decide +kernel, by decide +kernel⟩⟩, fun _ h => absurd h List.not_mem_nil⟩⟩
theorem so_240 : mm_sok (12, 105, 2, 1, [(12, 149)]) := Or.inr <| Or.inr <| Or.inl ⟨rfl, List.forall_mem_cons.mpr ⟨⟨by decide, by decide, Or.inl ⟨tb_1123, tb_1125, tb_21, tb_89, by decide +kernel, by decide +kernel⟩⟩, fun _ h => absurd h List.not_mem_nil⟩⟩
theorem so_241 : mm_sok (12, 108, 3, 1, [(12, 145)]) := Or.inr <| Or.inr <| Or.inl ⟨rfl, List.forall_mem_cons.mpr ⟨⟨by decide, by decide, Or.inl ⟨tb_1156, tb_1158, tb_26, tb_89, by decide +kernel, by decide +kernel⟩⟩, fun _ h => absurd h List.not_mem_nil⟩⟩
theorem so_242 : mm_sok (12, 111, 2, 0, [(0, 164)]) := Or.inl ⟨rfl, List.forall_mem_cons.mpr ⟨fun _ => ⟨by decide, by decide, tb_1168, tb_1169, by decide +kernel⟩, fun _ h => absurd h List.not_mem_nil⟩⟩
theorem so_243 : mm_sok (12, 115, 1, 0, [(0, 144)]) := Or.inl ⟨rfl, List.forall_mem_cons.mpr ⟨fun _ => ⟨by decide, by decide, tb_1176, tb_1177, by decide +kernel⟩, fun _ h => absurd h List.not_mem_nil⟩⟩
theorem so_244 : mm_sok (12, 118, 4, 1, [(12, 148)]) := Or.inr <| Or.inr <| Or.inl ⟨rfl, List.forall_mem_cons.mpr ⟨⟨by decide, by decide, Or.inl ⟨tb_1179, tb_1181, tb_27, tb_89, by decide +kernel, by decide +kernel⟩⟩, fun _ h => absurd h List.not_mem_nil⟩⟩
theorem so_245 : mm_sok (12, 122, 2, 1, [(12, 143)]) := Or.inr <| Or.inr <| Or.inl ⟨rfl, List.forall_mem_cons.mpr ⟨⟨by decide, by decide, Or.inl ⟨tb_1187, tb_1189, tb_28, tb_89, by decide +kernel, by decide +kernel⟩⟩, fun _ h => absurd h List.not_mem_nil⟩⟩
theorem so_246 : mm_sok (12, 138, 1, 1, [(12, 171)]) := Or.inr <| Or.inr <| Or.inl ⟨rfl, List.forall_mem_cons.mpr ⟨⟨by decide, by decide, Or.inl ⟨tb_1233, tb_1235, tb_35, tb_89, by decide +kernel, by decide +kernel⟩⟩, fun _ h => absurd h List.not_mem_nil⟩⟩
theorem so_247 : mm_sok (12, 145, 3, 1, [(12, 172)]) := Or.inr <| Or.inr <| Or.inl ⟨rfl, List.forall_mem_cons.mpr ⟨⟨by decide, by decide, Or.inl ⟨tb_1241, tb_1243, tb_37, tb_89, by decide +kernel, by decide +kernel⟩⟩, fun _ h => absurd h List.not_mem_nil⟩⟩
theorem so_248 : mm_sok (12, 152, 1, 1, [(12, 176)]) := Or.inr <| Or.inr <| Or.inl ⟨rfl, List.forall_mem_cons.mpr ⟨⟨by decide, by decide, Or.inl ⟨tb_1229, tb_1231, tb_34, tb_89, by decide +kernel, by decide +kernel⟩⟩, fun _ h => absurd h List.not_mem_nil⟩⟩
theorem so_249 : mm_sok (12, 155, 1, 1, [(12, 181)]) := Or.inr <| Or.inr <| Or.inl ⟨rfl, List.forall_mem_cons.mpr ⟨⟨by decide, by decide, Or.inl ⟨tb_1209, tb_1211, tb_29, tb_89, by decide +kernel, by decide +kernel⟩⟩, fun _ h => absurd h List.not_mem_nil⟩⟩
theorem so_250 : mm_sok (12, 158, 2, 1, [(12, 173)]) := Or.inr <| Or.inr <| Or.inl ⟨rfl, List.forall_mem_cons.mpr ⟨⟨by decide, by decide, Or.inl ⟨tb_1237, tb_1239, tb_36, tb_89, by decide +kernel, by decide +kernel⟩⟩, fun _ h => absurd h List.not_mem_nil⟩⟩
theorem so_251 : mm_sok (12, 161, 2, 1, [(12, 175)]) := Or.inr <| Or.inr <| Or.inl ⟨rfl, List.forall_mem_cons.mpr ⟨⟨by decide, by decide, Or.inl ⟨tb_1245, tb_1247, tb_38, tb_89, by decide +kernel, by decide +kernel⟩⟩, fun _ h => absurd h List.not_mem_nil⟩⟩
theorem so_252 : mm_sok (12, 165, 1, 1, [(12, 174)]) := Or.inr <| Or.inr <| Or.inl ⟨rfl, List.forall_mem_cons.mpr ⟨⟨by decide, by decide, Or.inl ⟨tb_1249, tb_1251, tb_39, tb_89, by decide +kernel, by decide +kernel⟩⟩, fun _ h => absurd h List.not_mem_nil⟩⟩
theorem so_253 : mm_sok (12, 168, 1, 1, [(12, 177)]) := Or.inr <| Or.inr <| Or.inl ⟨rfl, List.forall_mem_cons.mpr ⟨⟨by decide, by decide, Or.inl ⟨tb_1225, tb_1227, tb_33, tb_89, by decide +kernel, by decide +kernel⟩⟩, fun _ h => absurd h List.not_mem_nil⟩⟩
theorem so_254 : mm_sok (12, 171, 1, 1, [(12, 178)]) := Or.inr <| Or.inr <| Or.inl ⟨rfl, List.forall_mem_cons.mpr ⟨⟨by decide, by decide, Or.inl ⟨tb_1221, tb_1223, tb_32, tb_89, by decide +kernel, by decide +kernel⟩⟩, fun _ h => absurd h List.not_mem_nil⟩⟩
theorem so_255 : mm_sok (12, 174, 1, 1, [(12, 179)]) := Or.inr <| Or.inr <| Or.inl ⟨rfl, List.forall_mem_cons.mpr ⟨⟨by decide, by decide, Or.inl ⟨tb_1217, tb_1219, tb_31, tb_89, by decide +kernel, by decide +kernel⟩⟩, fun _ h => absurd h List.not_mem_nil⟩⟩
theorem so_256 : mm_sok (12, 177, 1, 1, [(12, 180)]) := Or.inr <| Or.inr <| Or.inl ⟨rfl, List.forall_mem_cons.mpr ⟨⟨by decide, by decide, Or.inl ⟨tb_1213, tb_1215, tb_30, tb_89, by decide +kernel, by decide +kernel⟩⟩, fun _ h => absurd h List.not_mem_nil⟩⟩
theorem so_257 : mm_sok (12, 180, 3, 0, [(0, 183)]) := Or.inl ⟨rfl, List.forall_mem_cons.mpr ⟨fun _ => ⟨by decide, by decide, tb_1146, tb_1147, by decide +kernel⟩, fun _ h => absurd h List.not_mem_nil⟩⟩
theorem so_258 : mm_sok (12, 183, 2, 1, [(12, 184)]) := Or.inr <| Or.inr <| Or.inl ⟨rfl, List.forall_mem_cons.mpr ⟨⟨by decide, by decide, Or.inl ⟨tb_1142, tb_1144, tb_25, tb_89, by decide +kernel, by decide +kernel⟩⟩, fun _ h => absurd h List.not_mem_nil⟩⟩
theorem so_259 : mm_sok (12, 186, 3, 0, [(0, 139)]) := Or.inl ⟨rfl, List.forall_mem_cons.mpr ⟨fun _ => ⟨by decide, by decide, tb_1149, tb_1150, by decide +kernel⟩, fun _ h => absurd h List.not_mem_nil⟩⟩
theorem so_260 : mm_sok (12, 189, 2, 1, [(12, 158)]) := Or.inr <| Or.inr <| Or.inl ⟨rfl, List.forall_mem_cons.mpr ⟨⟨by decide, by decide, Or.inl ⟨tb_1261, tb_1263, tb_40, tb_89, by decide +kernel, by decide +kernel⟩⟩, fun _ h => absurd h List.not_mem_nil⟩⟩
theorem so_261 : mm_sok (12, 192, 3, 1, [(12, 190)]) := Or.inr <| Or.inr <| Or.inl ⟨rfl, List.forall_mem_cons.mpr ⟨⟨by decide, by decide, Or.inl ⟨tb_1313, tb_1315, tb_51, tb_89, by decide +kernel, by decide +kernel⟩⟩, fun _ h => absurd h List.not_mem_nil⟩⟩
theorem so_262 : mm_sok (12, 195, 2, 1, [(12, 189)]) := Or.inr <| Or.inr <| Or.inl ⟨rfl, List.forall_mem_cons.mpr ⟨⟨by decide, by decide, Or.inl ⟨tb_1305, tb_1307, tb_49, tb_89, by decide +kernel, by decide +kernel⟩⟩, fun _ h => absurd h List.not_mem_nil⟩⟩
theorem so_263 : mm_sok (12, 198, 3, 1, [(12, 191)]) := Or.inr <| Or.inr <| Or.inl ⟨rfl, List.forall_mem_cons.mpr ⟨⟨by decide, by decide, Or.inl ⟨tb_1309, tb_1311, tb_50, tb_89, by decide +kernel, by decide +kernel⟩⟩, fun _ h => absurd h List.not_mem_nil⟩⟩
theorem so_264 : mm_sok (12, 201, 1, 1, [(12, 192)]) := Or.inr <| Or.inr <| Or.inl ⟨rfl, List.forall_mem_cons.mpr ⟨⟨by decide, by decide, Or.inl ⟨tb_1301, tb_1303, tb_48, tb_89, by decide +kernel, by decide +kernel⟩⟩, fun _ h => absurd h List.not_mem_nil⟩⟩
theorem so_265 : mm_sok (12, 204, 1, 1, [(12, 194)]) := Or.inr <| Or.inr <| Or.inl ⟨rfl, List.forall_mem_cons.mpr ⟨⟨by decide, by decide, Or.inl ⟨tb_1325, tb_1327, tb_53, tb_89, by decide +kernel, by decide +kernel⟩⟩, fun _ h => absurd h List.not_mem_nil⟩⟩
theorem so_266 : mm_sok (12, 207, 2, 1, [(12, 195)]) := Or.inr <| Or.inr <| Or.inl ⟨rfl, List.forall_mem_cons.mpr ⟨⟨by decide, by decide, Or.inl ⟨tb_1321, tb_1323, tb_52, tb_89, by decide +kernel, by decide +kernel⟩⟩, fun _ h => absurd h List.not_mem_nil⟩⟩
theorem so_267 : mm_sok (12, 211, 1, 1, [(12, 197)]) := Or.inr <| Or.inr <| Or.inl ⟨rfl, List.forall_mem_cons.mpr ⟨⟨by decide, by decide, Or.inl ⟨tb_1333, tb_1335, tb_54, tb_89, by decide +kernel, by decide +kernel⟩⟩, fun _ h => absurd h List.not_mem_nil⟩⟩
theorem so_268 : mm_sok (12, 214, 2, 0, [(0, 140)]) := Or.inl ⟨rfl, List.forall_mem_cons.mpr ⟨fun _ => ⟨by decide, by decide, tb_1346, tb_1347, by decide +kernel⟩, fun _ h => absurd h List.not_mem_nil⟩⟩
theorem so_269 : mm_sok (12, 218, 1, 1, [(12, 199)]) := Or.inr <| Or.inr <| Or.inl ⟨rfl, List.forall_mem_cons.mpr ⟨⟨by decide, by decide, Or.inl ⟨tb_1342, tb_1344, tb_55, tb_89, by decide +kernel, by decide +kernel⟩⟩, fun _ h => absurd h List.not_mem_nil⟩⟩
theorem so_270 : mm_sok (12, 221, 1, 1, [(12, 200)]) := Or.inr <| Or.inr <| Or.inl ⟨rfl, List.forall_mem_cons.mpr ⟨⟨by decide, by decide, Or.inl ⟨tb_1349, tb_1351, tb_56, tb_89, by decide +kernel, by decide +kernel⟩⟩, fun _ h => absurd h List.not_mem_nil⟩⟩
theorem so_271 : mm_sok (12, 225, 3, 1, [(12, 204)]) := Or.inr <| Or.inr <| Or.inl ⟨rfl, List.forall_mem_cons.mpr ⟨⟨by decide, by decide, Or.inl ⟨tb_1366, tb_1368, tb_57, tb_89, by decide +kernel, by decide +kernel⟩⟩, fun _ h => absurd h List.not_mem_nil⟩⟩
theorem so_272 : mm_sok (12, 228, 2, 1, [(12, 206)]) := Or.inr <| Or.inr <| Or.inl ⟨rfl, List.forall_mem_cons.mpr ⟨⟨by decide, by decide, Or.inl ⟨tb_1374, tb_1376, tb_58, tb_89, by decide +kernel, by decide +kernel⟩⟩, fun _ h => absurd h List.not_mem_nil⟩⟩
theorem so_273 : mm_sok (12, 231, 1, 0, [(0, 229)]) := Or.inl ⟨rfl, List.forall_mem_cons.mpr ⟨fun _ => ⟨by decide, by decide, tb_1382, tb_1383, by decide +kernel⟩, fun _ h => absurd h List.not_mem_nil⟩⟩
theorem so_274 : mm_sok (12, 234, 3, 1, [(12, 208)]) := Or.inr <| Or.inr <| Or.inl ⟨rfl, List.forall_mem_cons.mpr ⟨⟨by decide, by decide, Or.inl ⟨tb_1385, tb_1387, tb_59, tb_89, by decide +kernel, by decide +kernel⟩⟩, fun _ h => absurd h List.not_mem_nil⟩⟩
theorem so_275 : mm_sok (12, 237, 4, 1, [(12, 210)]) := Or.inr <| Or.inr <| Or.inl ⟨rfl, List.forall_mem_cons.mpr ⟨⟨by decide, by decide, Or.inl ⟨tb_1397, tb_1399, tb_61, tb_89, by decide +kernel, by decide +kernel⟩⟩, fun _ h => absurd h List.not_mem_nil⟩⟩
theorem so_276 : mm_sok (12, 240, 2, 1, [(12, 211)]) := Or.inr <| Or.inr <| Or.inl ⟨rfl, List.forall_mem_cons.mpr ⟨⟨by decide, by decide, Or.inl ⟨tb_1393, tb_1395, tb_60, tb_89, by decide +kernel, by decide +kernel⟩⟩, fun _ h => absurd h List.not_mem_nil⟩⟩
theorem so_277 : mm_sok (12, 246, 2, 1, [(12, 216)]) := Or.inr <| Or.inr <| Or.inl ⟨rfl, List.forall_mem_cons.mpr ⟨⟨by decide, by decide, Or.inl ⟨tb_1421, tb_1423, tb_63, tb_89, by decide +kernel, by decide +kernel⟩⟩, fun _ h => absurd h List.not_mem_nil⟩⟩
theorem so_278 : mm_sok (12, 249, 3, 1, [(12, 217)]) := Or.inr <| Or.inr <| Or.inl ⟨rfl, List.forall_mem_cons.mpr ⟨⟨by decide, by decide, Or.inl ⟨tb_1425, tb_1427, tb_64, tb_89, by decide +kernel, by decide +kernel⟩⟩, fun _ h => absurd h List.not_mem_nil⟩⟩
theorem so_279 : mm_sok (12, 252, 3, 1, [(12, 218)]) := Or.inr <| Or.inr <| Or.inl ⟨rfl, List.forall_mem_cons.mpr ⟨⟨by decide, by decide, Or.inl ⟨tb_1417, tb_1419, tb_62, tb_89, by decide +kernel, by decide +kernel⟩⟩, fun _ h => absurd h List.not_mem_nil⟩⟩
theorem so_280 : mm_sok (12, 255, 3, 1, [(12, 219)]) := Or.inr <| Or.inr <| Or.inl ⟨rfl, List.forall_mem_cons.mpr ⟨⟨by decide, by decide, Or.inl ⟨tb_1437, tb_1439, tb_67, tb_89, by decide +kernel, by decide +kernel⟩⟩, fun _ h => absurd h List.not_mem_nil⟩⟩
theorem so_281 : mm_sok (12, 258, 3, 1, [(12, 224)]) := Or.inr <| Or.inr <| Or.inl ⟨rfl, List.forall_mem_cons.mpr ⟨⟨by decide, by decide, Or.inl ⟨tb_1441, tb_1443, tb_68, tb_89, by decide +kernel, by decide +kernel⟩⟩, fun _ h => absurd h List.not_mem_nil⟩⟩
theorem so_282 : mm_sok (12, 261, 3, 1, [(12, 220)]) := Or.inr <| Or.inr <| Or.inl ⟨rfl, List.forall_mem_cons.mpr ⟨⟨by decide, by decide, Or.inl ⟨tb_1433, tb_1435, tb_66, tb_89, by decide +kernel, by decide +kernel⟩⟩, fun _ h => absurd h List.not_mem_nil⟩⟩
theorem so_283 : mm_sok (12, 264, 3, 1, [(12, 222)]) := Or.inr <| Or.inr <| Or.inl ⟨rfl, List.forall_mem_cons.mpr ⟨⟨by decide, by decide, Or.inl ⟨tb_1449, tb_1451, tb_70, tb_89, by decide +kernel, by decide +kernel⟩⟩, fun _ h => absurd h List.not_mem_nil⟩⟩
theorem so_284 : mm_sok (12, 267, 3, 1, [(12, 223)]) := Or.inr <| Or.inr <| Or.inl ⟨rfl, List.forall_mem_cons.mpr ⟨⟨by decide, by decide, Or.inl ⟨tb_1445, tb_1447, tb_69, tb_89, by decide +kernel, by decide +kernel⟩⟩, fun _ h => absurd h List.not_mem_nil⟩⟩
theorem so_285 : mm_sok (12, 270, 3, 1, [(12, 221)]) := Or.inr <| Or.inr <| Or.inl ⟨rfl, List.forall_mem_cons.mpr ⟨⟨by decide, by decide, Or.inl ⟨tb_1429, tb_1431, tb_65, tb_89, by decide +kernel, by decide +kernel⟩⟩, fun _ h => absurd h List.not_mem_nil⟩⟩
theorem so_286 : mm_sok (12, 273, 3, 1, [(12, 225)]) := Or.inr <| Or.inr <| Or.inl ⟨rfl, List.forall_mem_cons.mpr ⟨⟨by decide, by decide, Or.inl ⟨tb_1457, tb_1459, tb_72, tb_89, by decide +kernel, by decide +kernel⟩⟩, fun _ h => absurd h List.not_mem_nil⟩⟩
theorem so_287 : mm_sok (12, 276, 3, 1, [(12, 226)]) := Or.inr <| Or.inr <| Or.inl ⟨rfl, List.forall_mem_cons.mpr ⟨⟨by decide, by decide, Or.inl ⟨tb_1453, tb_1455, tb_71, tb_89, by decide +kernel, by decide +kernel⟩⟩, fun _ h => absurd h List.not_mem_nil⟩⟩
theorem so_288 : mm_sok (12, 279, 2, 1, [(12, 231)]) := Or.inr <| Or.inr <| Or.inl ⟨rfl, List.forall_mem_cons.mpr ⟨⟨by decide, by decide, Or.inl ⟨tb_1473, tb_1475, tb_73, tb_89, by decide +kernel, by decide +kernel⟩⟩, fun _ h => absurd h List.not_mem_nil⟩⟩
theorem so_289 : mm_sok (12, 282, 6, 1, [(12, 233)]) := Or.inr <| Or.inr <| Or.inl ⟨rfl, List.forall_mem_cons.mpr ⟨⟨by decide, by decide, Or.inl ⟨tb_1481, tb_1483, tb_74, tb_89, by decide +kernel, by decide +kernel⟩⟩, fun _ h => absurd h List.not_mem_nil⟩⟩
theorem so_290 : mm_sok (14, 335, 1, 1, [(50, 246)]) := Or.inr <| Or.inr <| Or.inl ⟨rfl, List.forall_mem_cons.mpr ⟨⟨by decide, by decide, Or.inl ⟨tb_583, tb_584, tb_585, tb_92, by decide +kernel, by decide +kernel⟩⟩, fun _ h => absurd h List.not_mem_nil⟩⟩
theorem so_291 : mm_sok (14, 633, 3, 1, [(50, 245)]) := Or.inr <| Or.inr <| Or.inl ⟨rfl, List.forall_mem_cons.mpr ⟨⟨by decide, by decide, Or.inl ⟨tb_569, tb_570, tb_571, tb_92, by decide +kernel, by decide +kernel⟩⟩, fun _ h => absurd h List.not_mem_nil⟩⟩
theorem so_292 : mm_sok (14, 492, 1, 1, [(50, 247)]) := Or.inr <| Or.inr <| Or.inl ⟨rfl, List.forall_mem_cons.mpr ⟨⟨by decide, by decide, Or.inl ⟨tb_573, tb_574, tb_575, tb_92, by decide +kernel, by decide +kernel⟩⟩, fun _ h => absurd h List.not_mem_nil⟩⟩
theorem so_293 : mm_sok (14, 505, 1, 1, [(50, 243)]) := Or.inr <| Or.inr <| Or.inl ⟨rfl, List.forall_mem_cons.mpr ⟨⟨by decide, by decide, Or.inl ⟨tb_579, tb_580, tb_581, tb_92, by decide +kernel, by decide +kernel⟩⟩, fun _ h => absurd h List.not_mem_nil⟩⟩
theorem so_294 : mm_sok (14, 637, 4, 0, [(0, 249)]) := Or.inl ⟨rfl, List.forall_mem_cons.mpr ⟨fun _ => ⟨by decide, by decide, tb_587, tb_588, by decide +kernel⟩, fun _ h => absurd h List.not_mem_nil⟩⟩
theorem so_295 : mm_sok (15, 88, 1, 0, [(0, 248)]) := Or.inl ⟨rfl, List.forall_mem_cons.mpr ⟨fun _ => ⟨by decide, by decide, tb_590, tb_591, by decide +kernel⟩, fun _ h => absurd h List.not_mem_nil⟩⟩
theorem so_296 : mm_sok (15, 95, 4, 0, [(0, 250)]) := Or.inl ⟨rfl, List.forall_mem_cons.mpr ⟨fun _ => ⟨by decide, by decide, tb_595, tb_596, by decide +kernel⟩, fun _ h => absurd h List.not_mem_nil⟩⟩
set_option maxRecDepth 20000 in
theorem mm_sall : ∀ q ∈ mm_CZ, mm_sok q := List.forall_mem_cons.mpr ⟨so_0, List.forall_mem_cons.mpr ⟨so_1, List.forall_mem_cons.mpr ⟨so_2, List.forall_mem_cons.mpr ⟨so_3, List.forall_mem_cons.mpr ⟨so_4, List.forall_mem_cons.mpr ⟨so_5, List.forall_mem_cons.mpr ⟨so_6, List.forall_mem_cons.mpr ⟨so_7, List.forall_mem_cons.mpr ⟨so_8, List.forall_mem_cons.mpr ⟨so_9, List.forall_mem_cons.mpr ⟨so_10, List.forall_mem_cons.mpr ⟨so_11, List.forall_mem_cons.mpr ⟨so_12, List.forall_mem_cons.mpr ⟨so_13, List.forall_mem_cons.mpr ⟨so_14, List.forall_mem_cons.mpr ⟨so_15, List.forall_mem_cons.mpr ⟨so_16, List.forall_mem_cons.mpr ⟨so_17, List.forall_mem_cons.mpr ⟨so_18, List.forall_mem_cons.mpr ⟨so_19, List.forall_mem_cons.mpr ⟨so_20, List.forall_mem_cons.mpr ⟨so_21, List.forall_mem_cons.mpr ⟨so_22, List.forall_mem_cons.mpr ⟨so_23, List.forall_mem_cons.mpr ⟨so_24, List.forall_mem_cons.mpr ⟨so_25, List.forall_mem_cons.mpr ⟨so_26, List.forall_mem_cons.mpr ⟨so_27, List.forall_mem_cons.mpr ⟨so_28, List.forall_mem_cons.mpr ⟨so_29, List.forall_mem_cons.mpr ⟨so_30, List.forall_mem_cons.mpr ⟨so_31, List.forall_mem_cons.mpr ⟨so_32, List.forall_mem_cons.mpr ⟨so_33, List.forall_mem_cons.mpr ⟨so_34, List.forall_mem_cons.mpr ⟨so_35, List.forall_mem_cons.mpr ⟨so_36, List.forall_mem_cons.mpr ⟨so_37, List.forall_mem_cons.mpr ⟨so_38, List.forall_mem_cons.mpr ⟨so_39, List.forall_mem_cons.mpr ⟨so_40, List.forall_mem_cons.mpr ⟨so_41, List.forall_mem_cons.mpr ⟨so_42, List.forall_mem_cons.mpr ⟨so_43, List.forall_mem_cons.mpr ⟨so_44, List.forall_mem_cons.mpr ⟨so_45, List.forall_mem_cons.mpr ⟨so_46, List.forall_mem_cons.mpr ⟨so_47, List.forall_mem_cons.mpr ⟨so_48, List.forall_mem_cons.mpr ⟨so_49, List.forall_mem_cons.mpr ⟨so_50, List.forall_mem_cons.mpr ⟨so_51, List.forall_mem_cons.mpr ⟨so_52, List.forall_mem_cons.mpr ⟨so_53, List.forall_mem_cons.mpr ⟨so_54, List.forall_mem_cons.mpr ⟨so_55, List.forall_mem_cons.mpr ⟨so_56, List.forall_mem_cons.mpr ⟨so_57, List.forall_mem_cons.mpr ⟨so_58, List.forall_mem_cons.mpr ⟨so_59, List.forall_mem_cons.mpr ⟨so_60, List.forall_mem_cons.mpr ⟨so_61, List.forall_mem_cons.mpr ⟨so_62, List.forall_mem_cons.mpr ⟨so_63, List.forall_mem_cons.mpr ⟨so_64, List.forall_mem_cons.mpr ⟨so_65, List.forall_mem_cons.mpr ⟨so_66, List.forall_mem_cons.mpr ⟨so_67, List.forall_mem_cons.mpr ⟨so_68, List.forall_mem_cons.mpr ⟨so_69, List.forall_mem_cons.mpr ⟨so_70, List.forall_mem_cons.mpr ⟨so_71, List.forall_mem_cons.mpr ⟨so_72, List.forall_mem_cons.mpr ⟨so_73, List.forall_mem_cons.mpr ⟨so_74, List.forall_mem_cons.mpr ⟨so_75, List.forall_mem_cons.mpr ⟨so_76, List.forall_mem_cons.mpr ⟨so_77, List.forall_mem_cons.mpr ⟨so_78, List.forall_mem_cons.mpr ⟨so_79, List.forall_mem_cons.mpr ⟨so_80, List.forall_mem_cons.mpr ⟨so_81, List.forall_mem_cons.mpr ⟨so_82, List.forall_mem_cons.mpr ⟨so_83, List.forall_mem_cons.mpr ⟨so_84, List.forall_mem_cons.mpr ⟨so_85, List.forall_mem_cons.mpr ⟨so_86, List.forall_mem_cons.mpr ⟨so_87, List.forall_mem_cons.mpr ⟨so_88, List.forall_mem_cons.mpr ⟨so_89, List.forall_mem_cons.mpr ⟨so_90, List.forall_mem_cons.mpr ⟨so_91, List.forall_mem_cons.mpr ⟨so_92, List.forall_mem_cons.mpr ⟨so_93, List.forall_mem_cons.mpr ⟨so_94, List.forall_mem_cons.mpr ⟨so_95, List.forall_mem_cons.mpr ⟨so_96, List.forall_mem_cons.mpr ⟨so_97, List.forall_mem_cons.mpr ⟨so_98, List.forall_mem_cons.mpr ⟨so_99, List.forall_mem_cons.mpr ⟨so_100, List.forall_mem_cons.mpr ⟨so_101, List.forall_mem_cons.mpr ⟨so_102, List.forall_mem_cons.mpr ⟨so_103, List.forall_mem_cons.mpr ⟨so_104, List.forall_mem_cons.mpr ⟨so_105, List.forall_mem_cons.mpr ⟨so_106, List.forall_mem_cons.mpr ⟨so_107, List.forall_mem_cons.mpr ⟨so_108, List.forall_mem_cons.mpr ⟨so_109, List.forall_mem_cons.mpr ⟨so_110, List.forall_mem_cons.mpr ⟨so_111, List.forall_mem_cons.mpr ⟨so_112, List.forall_mem_cons.mpr ⟨so_113, List.forall_mem_cons.mpr ⟨so_114, List.forall_mem_cons.mpr ⟨so_115, List.forall_mem_cons.mpr ⟨so_116, List.forall_mem_cons.mpr ⟨so_117, List.forall_mem_cons.mpr ⟨so_118, List.forall_mem_cons.mpr ⟨so_119, List.forall_mem_cons.mpr ⟨so_120, List.forall_mem_cons.mpr ⟨so_121, List.forall_mem_cons.mpr ⟨so_122, List.forall_mem_cons.mpr ⟨so_123, List.forall_mem_cons.mpr ⟨so_124, List.forall_mem_cons.mpr ⟨so_125, List.forall_mem_cons.mpr ⟨so_126, List.forall_mem_cons.mpr ⟨so_127, List.forall_mem_cons.mpr ⟨so_128, List.forall_mem_cons.mpr ⟨so_129, List.forall_mem_cons.mpr ⟨so_130, List.forall_mem_cons.mpr ⟨so_131, List.forall_mem_cons.mpr ⟨so_132, List.forall_mem_cons.mpr ⟨so_133, List.forall_mem_cons.mpr ⟨so_134, List.forall_mem_cons.mpr ⟨so_135, List.forall_mem_cons.mpr ⟨so_136, List.forall_mem_cons.mpr ⟨so_137, List.forall_mem_cons.mpr ⟨so_138, List.forall_mem_cons.mpr ⟨so_139, List.forall_mem_cons.mpr ⟨so_140, List.forall_mem_cons.mpr ⟨so_141, List.forall_mem_cons.mpr ⟨so_142, List.forall_mem_cons.mpr ⟨so_143, List.forall_mem_cons.mpr ⟨so_144, List.forall_mem_cons.mpr ⟨so_145, List.forall_mem_cons.mpr ⟨so_146, List.forall_mem_cons.mpr ⟨so_147, List.forall_mem_cons.mpr ⟨so_148, List.forall_mem_cons.mpr ⟨so_149, List.forall_mem_cons.mpr ⟨so_150, List.forall_mem_cons.mpr ⟨so_151, List.forall_mem_cons.mpr ⟨so_152, List.forall_mem_cons.mpr ⟨so_153, List.forall_mem_cons.mpr ⟨so_154, List.forall_mem_cons.mpr ⟨so_155, List.forall_mem_cons.mpr ⟨so_156, List.forall_mem_cons.mpr ⟨so_157, List.forall_mem_cons.mpr ⟨so_158, List.forall_mem_cons.mpr ⟨so_159, List.forall_mem_cons.mpr ⟨so_160, List.forall_mem_cons.mpr ⟨so_161, List.forall_mem_cons.mpr ⟨so_162, List.forall_mem_cons.mpr ⟨so_163, List.forall_mem_cons.mpr ⟨so_164, List.forall_mem_cons.mpr ⟨so_165, List.forall_mem_cons.mpr ⟨so_166, List.forall_mem_cons.mpr ⟨so_167, List.forall_mem_cons.mpr ⟨so_168, List.forall_mem_cons.mpr ⟨so_169, List.forall_mem_cons.mpr ⟨so_170, List.forall_mem_cons.mpr ⟨so_171, List.forall_mem_cons.mpr ⟨so_172, List.forall_mem_cons.mpr ⟨so_173, List.forall_mem_cons.mpr ⟨so_174, List.forall_mem_cons.mpr ⟨so_175, List.forall_mem_cons.mpr ⟨so_176, List.forall_mem_cons.mpr ⟨so_177, List.forall_mem_cons.mpr ⟨so_178, List.forall_mem_cons.mpr ⟨so_179, List.forall_mem_cons.mpr ⟨so_180, List.forall_mem_cons.mpr ⟨so_181, List.forall_mem_cons.mpr ⟨so_182, List.forall_mem_cons.mpr ⟨so_183, List.forall_mem_cons.mpr ⟨so_184, List.forall_mem_cons.mpr ⟨so_185, List.forall_mem_cons.mpr ⟨so_186, List.forall_mem_cons.mpr ⟨so_187, List.forall_mem_cons.mpr ⟨so_188, List.forall_mem_cons.mpr ⟨so_189, List.forall_mem_cons.mpr ⟨so_190, List.forall_mem_cons.mpr ⟨so_191, List.forall_mem_cons.mpr ⟨so_192, List.forall_mem_cons.mpr ⟨so_193, List.forall_mem_cons.mpr ⟨so_194, List.forall_mem_cons.mpr ⟨so_195, List.forall_mem_cons.mpr ⟨so_196, List.forall_mem_cons.mpr ⟨so_197, List.forall_mem_cons.mpr ⟨so_198, List.forall_mem_cons.mpr ⟨so_199, List.forall_mem_cons.mpr ⟨so_200, List.forall_mem_cons.mpr ⟨so_201, List.forall_mem_cons.mpr ⟨so_202, List.forall_mem_cons.mpr ⟨so_203, List.forall_mem_cons.mpr ⟨so_204, List.forall_mem_cons.mpr ⟨so_205, List.forall_mem_cons.mpr ⟨so_206, List.forall_mem_cons.mpr ⟨so_207, List.forall_mem_cons.mpr ⟨so_208, List.forall_mem_cons.mpr ⟨so_209, List.forall_mem_cons.mpr ⟨so_210, List.forall_mem_cons.mpr ⟨so_211, List.forall_mem_cons.mpr ⟨so_212, List.forall_mem_cons.mpr ⟨so_213, List.forall_mem_cons.mpr ⟨so_214, List.forall_mem_cons.mpr ⟨so_215, List.forall_mem_cons.mpr ⟨so_216, List.forall_mem_cons.mpr ⟨so_217, List.forall_mem_cons.mpr ⟨so_218, List.forall_mem_cons.mpr ⟨so_219, List.forall_mem_cons.mpr ⟨so_220, List.forall_mem_cons.mpr ⟨so_221, List.forall_mem_cons.mpr ⟨so_222, List.forall_mem_cons.mpr ⟨so_223, List.forall_mem_cons.mpr ⟨so_224, List.forall_mem_cons.mpr ⟨so_225, List.forall_mem_cons.mpr ⟨so_226, List.forall_mem_cons.mpr ⟨so_227, List.forall_mem_cons.mpr ⟨so_228, List.forall_mem_cons.mpr ⟨so_229, List.forall_mem_cons.mpr ⟨so_230, List.forall_mem_cons.mpr ⟨so_231, List.forall_mem_cons.mpr ⟨so_232, List.forall_mem_cons.mpr ⟨so_233, List.forall_mem_cons.mpr ⟨so_234, List.forall_mem_cons.mpr ⟨so_235, List.forall_mem_cons.mpr ⟨so_236, List.forall_mem_cons.mpr ⟨so_237, List.forall_mem_cons.mpr ⟨so_238, List.forall_mem_cons.mpr ⟨so_239, List.forall_mem_cons.mpr ⟨so_240, List.forall_mem_cons.mpr ⟨so_241, List.forall_mem_cons.mpr ⟨so_242, List.forall_mem_cons.mpr ⟨so_243, List.forall_mem_cons.mpr ⟨so_244, List.forall_mem_cons.mpr ⟨so_245, List.forall_mem_cons.mpr ⟨so_246, List.forall_mem_cons.mpr ⟨so_247, List.forall_mem_cons.mpr ⟨so_248, List.forall_mem_cons.mpr ⟨so_249, List.forall_mem_cons.mpr ⟨so_250, List.forall_mem_cons.mpr ⟨so_251, List.forall_mem_cons.mpr ⟨so_252, List.forall_mem_cons.mpr ⟨so_253, List.forall_mem_cons.mpr ⟨so_254, List.forall_mem_cons.mpr ⟨so_255, List.forall_mem_cons.mpr ⟨so_256, List.forall_mem_cons.mpr ⟨so_257, List.forall_mem_cons.mpr ⟨so_258, List.forall_mem_cons.mpr ⟨so_259, List.forall_mem_cons.mpr ⟨so_260, List.forall_mem_cons.mpr ⟨so_261, List.forall_mem_cons.mpr ⟨so_262, List.forall_mem_cons.mpr ⟨so_263, List.forall_mem_cons.mpr ⟨so_264, List.forall_mem_cons.mpr ⟨so_265, List.forall_mem_cons.mpr ⟨so_266, List.forall_mem_cons.mpr ⟨so_267, List.forall_mem_cons.mpr ⟨so_268, List.forall_mem_cons.mpr ⟨so_269, List.forall_mem_cons.mpr ⟨so_270, List.forall_mem_cons.mpr ⟨so_271, List.forall_mem_cons.mpr ⟨so_272, List.forall_mem_cons.mpr ⟨so_273, List.forall_mem_cons.mpr ⟨so_274, List.forall_mem_cons.mpr ⟨so_275, List.forall_mem_cons.mpr ⟨so_276, List.forall_mem_cons.mpr ⟨so_277, List.forall_mem_cons.mpr ⟨so_278, List.forall_mem_cons.mpr ⟨so_279, List.forall_mem_cons.mpr ⟨so_280, List.forall_mem_cons.mpr ⟨so_281, List.forall_mem_cons.mpr ⟨so_282, List.forall_mem_cons.mpr ⟨so_283, List.forall_mem_cons.mpr ⟨so_284, List.forall_mem_cons.mpr ⟨so_285, List.forall_mem_cons.mpr ⟨so_286, List.forall_mem_cons.mpr ⟨so_287, List.forall_mem_cons.mpr ⟨so_288, List.forall_mem_cons.mpr ⟨so_289, List.forall_mem_cons.mpr ⟨so_290, List.forall_mem_cons.mpr ⟨so_291, List.forall_mem_cons.mpr ⟨so_292, List.forall_mem_cons.mpr ⟨so_293, List.forall_mem_cons.mpr ⟨so_294, List.forall_mem_cons.mpr ⟨so_295, List.forall_mem_cons.mpr ⟨so_296, fun _ h => absurd h List.not_mem_nil⟩⟩⟩⟩⟩⟩⟩⟩⟩⟩⟩⟩⟩⟩⟩⟩⟩⟩⟩⟩⟩⟩⟩⟩⟩⟩⟩⟩⟩⟩⟩⟩⟩⟩⟩⟩⟩⟩⟩⟩⟩⟩⟩⟩⟩⟩⟩⟩⟩⟩⟩⟩⟩⟩⟩⟩⟩⟩⟩⟩⟩⟩⟩⟩⟩⟩⟩⟩⟩⟩⟩⟩⟩⟩⟩⟩⟩⟩⟩⟩⟩⟩⟩⟩⟩⟩⟩⟩⟩⟩⟩⟩⟩⟩⟩⟩⟩⟩⟩⟩⟩⟩⟩⟩⟩⟩⟩⟩⟩⟩⟩⟩⟩⟩⟩⟩⟩⟩⟩⟩⟩⟩⟩⟩⟩⟩⟩⟩⟩⟩⟩⟩⟩⟩⟩⟩⟩⟩⟩⟩⟩⟩⟩⟩⟩⟩⟩⟩⟩⟩⟩⟩⟩⟩⟩⟩⟩⟩⟩⟩⟩⟩⟩⟩⟩⟩⟩⟩⟩⟩⟩⟩⟩⟩⟩⟩⟩⟩⟩⟩⟩⟩⟩⟩⟩⟩⟩⟩⟩⟩⟩⟩⟩⟩⟩⟩⟩⟩⟩⟩⟩⟩⟩⟩⟩⟩⟩⟩⟩⟩⟩⟩⟩⟩⟩⟩⟩⟩⟩⟩⟩⟩⟩⟩⟩⟩⟩⟩⟩⟩⟩⟩⟩⟩⟩⟩⟩⟩⟩⟩⟩⟩⟩⟩⟩⟩⟩⟩⟩⟩⟩⟩⟩⟩⟩⟩⟩⟩⟩⟩⟩⟩⟩⟩⟩⟩⟩⟩⟩⟩⟩⟩⟩⟩⟩⟩⟩⟩⟩⟩⟩⟩⟩⟩⟩⟩⟩⟩⟩⟩⟩⟩⟩⟩⟩⟩⟩
theorem mm_csz : mm_CS = mm_CZ.map (fun q => q.2.2) := by decide +kernel
