/-! by program (wip/p1): words, classes, methods -/
theorem wd_1_58 : Cond.methodLink "SyntaxForge$Bytes" 3 ⟨"java/lang/Object", "<init>", "()V"⟩ ∈ tw_tbl := tw_t1 (List.mem_of_getElem? (i := 58) rfl) rfl
theorem wd_1_51 : Cond.instanceMethod ⟨"java/lang/Object", "<init>", "()V"⟩ ∈ tw_tbl := tw_t1 (List.mem_of_getElem? (i := 51) rfl) rfl
theorem wd_1_52 : Cond.code ⟨"java/lang/Object", "<init>", "()V"⟩ object_method_1_code 1 none ∈ tw_tbl := tw_t1 (List.mem_of_getElem? (i := 52) rfl) rfl
theorem wd_1_80 : Cond.arrayClass .byte ∈ tw_tbl := tw_t1 (List.mem_of_getElem? (i := 80) rfl) rfl
theorem wd_1_59 : Cond.fieldLink "SyntaxForge$Bytes" 9 "SyntaxForge$Bytes" "at" "[B" ∈ tw_tbl := tw_t1 (List.mem_of_getElem? (i := 59) rfl) rfl
theorem wd_1_64 : Cond.fieldLink "SyntaxForge$Bytes" 15 "SyntaxForge$Bytes" "length" "I" ∈ tw_tbl := tw_t1 (List.mem_of_getElem? (i := 64) rfl) rfl
theorem wd_1_98 : Cond.methodLink "java/util/AbstractCollection" 1 ⟨"java/lang/Object", "<init>", "()V"⟩ ∈ tw_tbl := tw_t1 (List.mem_of_getElem? (i := 98) rfl) rfl
theorem wd_1_4 : Cond.initialized "java/util/AbstractCollection" ∈ tw_tbl := tw_t1 (List.mem_of_getElem? (i := 4) rfl) rfl
theorem wd_1_95 : Cond.methodLink "java/util/AbstractList" 1 ⟨"java/util/AbstractCollection", "<init>", "()V"⟩ ∈ tw_tbl := tw_t1 (List.mem_of_getElem? (i := 95) rfl) rfl
theorem wd_1_96 : Cond.instanceMethod ⟨"java/util/AbstractCollection", "<init>", "()V"⟩ ∈ tw_tbl := tw_t1 (List.mem_of_getElem? (i := 96) rfl) rfl
theorem wd_1_103 : Cond.fieldLink "java/util/AbstractList" 7 "java/util/AbstractList" "modCount" "I" ∈ tw_tbl := tw_t1 (List.mem_of_getElem? (i := 103) rfl) rfl
theorem wd_1_5 : Cond.initialized "java/util/AbstractList" ∈ tw_tbl := tw_t1 (List.mem_of_getElem? (i := 5) rfl) rfl
theorem wd_1_92 : Cond.methodLink "java/util/ArrayList" 1 ⟨"java/util/AbstractList", "<init>", "()V"⟩ ∈ tw_tbl := tw_t1 (List.mem_of_getElem? (i := 92) rfl) rfl
theorem wd_1_93 : Cond.instanceMethod ⟨"java/util/AbstractList", "<init>", "()V"⟩ ∈ tw_tbl := tw_t1 (List.mem_of_getElem? (i := 93) rfl) rfl
theorem wd_1_99 : Cond.fieldLink "java/util/ArrayList" 39 "java/util/ArrayList" "DEFAULTCAPACITY_EMPTY_ELEMENTDATA" "[Ljava/lang/Object;" ∈ tw_tbl := tw_t1 (List.mem_of_getElem? (i := 99) rfl) rfl
theorem wd_1_101 : Cond.fieldLink "java/util/ArrayList" 9 "java/util/ArrayList" "elementData" "[Ljava/lang/Object;" ∈ tw_tbl := tw_t1 (List.mem_of_getElem? (i := 101) rfl) rfl
theorem wd_1_118 : Cond.methodLink "SyntaxForge$Values" 3 ⟨"java/lang/Object", "<init>", "()V"⟩ ∈ tw_tbl := tw_t1 (List.mem_of_getElem? (i := 118) rfl) rfl
theorem wd_1_119 : Cond.classLink "SyntaxForge$Values" 9 "java/util/ArrayList" ∈ tw_tbl := tw_t1 (List.mem_of_getElem? (i := 119) rfl) rfl
theorem wd_1_88 : Cond.instantiable "java/util/ArrayList" 3 ∈ tw_tbl := tw_t1 (List.mem_of_getElem? (i := 88) rfl) rfl
theorem wd_1_6 : Cond.initialized "java/util/ArrayList" ∈ tw_tbl := tw_t1 (List.mem_of_getElem? (i := 6) rfl) rfl
theorem wd_1_120 : Cond.methodLink "SyntaxForge$Values" 11 ⟨"java/util/ArrayList", "<init>", "()V"⟩ ∈ tw_tbl := tw_t1 (List.mem_of_getElem? (i := 120) rfl) rfl
theorem wd_1_90 : Cond.instanceMethod ⟨"java/util/ArrayList", "<init>", "()V"⟩ ∈ tw_tbl := tw_t1 (List.mem_of_getElem? (i := 90) rfl) rfl
theorem wd_1_123 : Cond.fieldLink "SyntaxForge$Values" 12 "SyntaxForge$Values" "all" "Ljava/util/ArrayList;" ∈ tw_tbl := tw_t1 (List.mem_of_getElem? (i := 123) rfl) rfl
theorem wd_1_121 : Cond.classLink "SyntaxForge$Values" 18 "SyntaxForge$Bytes" ∈ tw_tbl := tw_t1 (List.mem_of_getElem? (i := 121) rfl) rfl
theorem wd_1_54 : Cond.instantiable "SyntaxForge$Bytes" 2 ∈ tw_tbl := tw_t1 (List.mem_of_getElem? (i := 54) rfl) rfl
theorem wd_1_2 : Cond.initialized "SyntaxForge$Bytes" ∈ tw_tbl := tw_t1 (List.mem_of_getElem? (i := 2) rfl) rfl
theorem wd_1_122 : Cond.methodLink "SyntaxForge$Values" 20 ⟨"SyntaxForge$Bytes", "<init>", "(I)V"⟩ ∈ tw_tbl := tw_t1 (List.mem_of_getElem? (i := 122) rfl) rfl
theorem wd_1_56 : Cond.instanceMethod ⟨"SyntaxForge$Bytes", "<init>", "(I)V"⟩ ∈ tw_tbl := tw_t1 (List.mem_of_getElem? (i := 56) rfl) rfl
theorem wd_1_126 : Cond.fieldLink "SyntaxForge$Values" 23 "SyntaxForge$Values" "data" "LSyntaxForge$Bytes;" ∈ tw_tbl := tw_t1 (List.mem_of_getElem? (i := 126) rfl) rfl
theorem wd_1_132 : Cond.fieldLink "SyntaxForge$Values" 27 "SyntaxForge$Values" "used" "I" ∈ tw_tbl := tw_t1 (List.mem_of_getElem? (i := 132) rfl) rfl
theorem wd_2_156 : Cond.methodLink "SyntaxForge$Der" 3 ⟨"java/lang/Object", "<init>", "()V"⟩ ∈ tw_tbl := tw_t2 (List.mem_of_getElem? (i := 156) rfl) rfl
theorem wd_2_157 : Cond.classLink "SyntaxForge$Der" 9 "SyntaxForge$Value" ∈ tw_tbl := tw_t2 (List.mem_of_getElem? (i := 157) rfl) rfl
theorem wd_2_158 : Cond.fieldLink "SyntaxForge$Der" 11 "SyntaxForge$Der" "row" "[LSyntaxForge$Value;" ∈ tw_tbl := tw_t2 (List.mem_of_getElem? (i := 158) rfl) rfl
theorem wd_2_159 : Cond.fieldLink "SyntaxForge$Der" 17 "SyntaxForge$Der" "merged" "[LSyntaxForge$Value;" ∈ tw_tbl := tw_t2 (List.mem_of_getElem? (i := 159) rfl) rfl
theorem wd_2_80 : Cond.arrayClass .int ∈ tw_tbl := tw_t2 (List.mem_of_getElem? (i := 80) rfl) rfl
theorem wd_2_160 : Cond.fieldLink "SyntaxForge$Der" 20 "SyntaxForge$Der" "widths" "[I" ∈ tw_tbl := tw_t2 (List.mem_of_getElem? (i := 160) rfl) rfl
theorem wd_2_173 : Cond.methodLink "SyntaxForge$BerReader" 3 ⟨"java/lang/Object", "<init>", "()V"⟩ ∈ tw_tbl := tw_t2 (List.mem_of_getElem? (i := 173) rfl) rfl
theorem wd_2_174 : Cond.fieldLink "SyntaxForge$BerReader" 9 "SyntaxForge$BerReader" "values" "LSyntaxForge$Values;" ∈ tw_tbl := tw_t2 (List.mem_of_getElem? (i := 174) rfl) rfl
theorem wd_2_175 : Cond.fieldLink "SyntaxForge$BerReader" 15 "SyntaxForge$BerReader" "order" "LSyntaxForge$Der;" ∈ tw_tbl := tw_t2 (List.mem_of_getElem? (i := 175) rfl) rfl
theorem wd_2_176 : Cond.fieldLink "SyntaxForge$BerReader" 19 "SyntaxForge$BerReader" "ends" "[I" ∈ tw_tbl := tw_t2 (List.mem_of_getElem? (i := 176) rfl) rfl
theorem wd_2_177 : Cond.fieldLink "SyntaxForge$BerReader" 23 "SyntaxForge$BerReader" "limits" "[I" ∈ tw_tbl := tw_t2 (List.mem_of_getElem? (i := 177) rfl) rfl
theorem wd_2_213 : Cond.methodLink "SyntaxForge$PerWriter" 3 ⟨"java/lang/Object", "<init>", "()V"⟩ ∈ tw_tbl := tw_t2 (List.mem_of_getElem? (i := 213) rfl) rfl
theorem wd_2_226 : Cond.methodLink "SyntaxForge$PerReader" 3 ⟨"java/lang/Object", "<init>", "()V"⟩ ∈ tw_tbl := tw_t2 (List.mem_of_getElem? (i := 226) rfl) rfl
theorem wd_2_227 : Cond.fieldLink "SyntaxForge$PerReader" 9 "SyntaxForge$PerReader" "values" "LSyntaxForge$Values;" ∈ tw_tbl := tw_t2 (List.mem_of_getElem? (i := 227) rfl) rfl
theorem wd_2_87 : Cond.methodLink "SyntaxForge$Scanner" 1 ⟨"java/lang/Object", "<init>", "()V"⟩ ∈ tw_tbl := tw_t2 (List.mem_of_getElem? (i := 87) rfl) rfl
theorem wd_2_88 : Cond.fieldLink "SyntaxForge$Scanner" 7 "SyntaxForge$Scanner" "kinds" "[I" ∈ tw_tbl := tw_t2 (List.mem_of_getElem? (i := 88) rfl) rfl
theorem wd_2_90 : Cond.fieldLink "SyntaxForge$Scanner" 13 "SyntaxForge$Scanner" "places" "[I" ∈ tw_tbl := tw_t2 (List.mem_of_getElem? (i := 90) rfl) rfl
theorem wd_2_81 : Cond.arrayClass .long ∈ tw_tbl := tw_t2 (List.mem_of_getElem? (i := 81) rfl) rfl
theorem wd_2_92 : Cond.fieldLink "SyntaxForge$Scanner" 16 "SyntaxForge$Scanner" "numbers" "[J" ∈ tw_tbl := tw_t2 (List.mem_of_getElem? (i := 92) rfl) rfl
theorem wd_2_96 : Cond.fieldLink "SyntaxForge$Scanner" 20 "SyntaxForge$Scanner" "told" "I" ∈ tw_tbl := tw_t2 (List.mem_of_getElem? (i := 96) rfl) rfl
theorem wd_2_124 : Cond.methodLink "SyntaxForge$Parser" 3 ⟨"java/lang/Object", "<init>", "()V"⟩ ∈ tw_tbl := tw_t2 (List.mem_of_getElem? (i := 124) rfl) rfl
theorem wd_2_127 : Cond.fieldLink "SyntaxForge$Parser" 9 "SyntaxForge$Parser" "scanner" "LSyntaxForge$Scanner;" ∈ tw_tbl := tw_t2 (List.mem_of_getElem? (i := 127) rfl) rfl
theorem wd_2_125 : Cond.classLink "SyntaxForge$Parser" 15 "SyntaxForge$Value" ∈ tw_tbl := tw_t2 (List.mem_of_getElem? (i := 125) rfl) rfl
theorem wd_2_128 : Cond.fieldLink "SyntaxForge$Parser" 17 "SyntaxForge$Parser" "unended" "[LSyntaxForge$Value;" ∈ tw_tbl := tw_t2 (List.mem_of_getElem? (i := 128) rfl) rfl
theorem wd_1_105 : Cond.sameField "java/util/ArrayList" "java/util/AbstractList" "modCount" "I" ∈ tw_tbl := tw_t1 (List.mem_of_getElem? (i := 105) rfl) rfl
theorem wd_1_104 : Cond.fieldLink "java/util/ArrayList" 63 "java/util/ArrayList" "modCount" "I" ∈ tw_tbl := tw_t1 (List.mem_of_getElem? (i := 104) rfl) rfl
theorem wd_1_102 : Cond.fieldLink "java/util/ArrayList" 48 "java/util/ArrayList" "size" "I" ∈ tw_tbl := tw_t1 (List.mem_of_getElem? (i := 102) rfl) rfl
theorem wd_1_66 : Cond.fieldLink "SyntaxForge$Values" 31 "SyntaxForge$Bytes" "length" "I" ∈ tw_tbl := tw_t1 (List.mem_of_getElem? (i := 66) rfl) rfl
theorem wd_2_33 : Cond.fieldLink "SyntaxForge$Schema" 68 "SyntaxForge$Schema" "lengths" "[I" ∈ tw_tbl := tw_t2 (List.mem_of_getElem? (i := 33) rfl) rfl
theorem wd_2_30 : Cond.fieldLink "SyntaxForge$Schema" 58 "SyntaxForge$Schema" "letters" "LSyntaxForge$Bytes;" ∈ tw_tbl := tw_t2 (List.mem_of_getElem? (i := 30) rfl) rfl
theorem wd_2_32 : Cond.fieldLink "SyntaxForge$Schema" 65 "SyntaxForge$Schema" "starts" "[I" ∈ tw_tbl := tw_t2 (List.mem_of_getElem? (i := 32) rfl) rfl
theorem wd_1_235 : Cond.methodLink "SyntaxForge$Schema" 115 ⟨"SyntaxForge$Bytes", "get", "(I)I"⟩ ∈ tw_tbl := tw_t1 (List.mem_of_getElem? (i := 235) rfl) rfl
theorem wd_1_236 : Cond.instanceMethod ⟨"SyntaxForge$Bytes", "get", "(I)I"⟩ ∈ tw_tbl := tw_t1 (List.mem_of_getElem? (i := 236) rfl) rfl
theorem wd_1_237 : Cond.selects "SyntaxForge$Bytes" ⟨"SyntaxForge$Bytes", "get", "(I)I"⟩ ⟨"SyntaxForge$Bytes", "get", "(I)I"⟩ ∈ tw_tbl := tw_t1 (List.mem_of_getElem? (i := 237) rfl) rfl
theorem wd_2_36 : Cond.fieldLink "SyntaxForge$Schema" 112 "SyntaxForge$Schema" "symbols" "I" ∈ tw_tbl := tw_t2 (List.mem_of_getElem? (i := 36) rfl) rfl
theorem wd_1_70 : Cond.fieldLink "SyntaxForge$Schema" 109 "SyntaxForge$Bytes" "length" "I" ∈ tw_tbl := tw_t1 (List.mem_of_getElem? (i := 70) rfl) rfl
theorem wd_2_34 : Cond.fieldLink "SyntaxForge$Schema" 71 "SyntaxForge$Schema" "nexts" "[I" ∈ tw_tbl := tw_t2 (List.mem_of_getElem? (i := 34) rfl) rfl
theorem wd_2_31 : Cond.fieldLink "SyntaxForge$Schema" 61 "SyntaxForge$Schema" "buckets" "[I" ∈ tw_tbl := tw_t2 (List.mem_of_getElem? (i := 31) rfl) rfl
theorem wd_2_35 : Cond.fieldLink "SyntaxForge$Schema" 74 "SyntaxForge$Schema" "owners" "[I" ∈ tw_tbl := tw_t2 (List.mem_of_getElem? (i := 35) rfl) rfl
theorem wd_1_196 : Cond.methodLink "SyntaxForge$Schema" 55 ⟨"SyntaxForge$Bytes", "put", "(I)V"⟩ ∈ tw_tbl := tw_t1 (List.mem_of_getElem? (i := 196) rfl) rfl
theorem wd_1_197 : Cond.instanceMethod ⟨"SyntaxForge$Bytes", "put", "(I)V"⟩ ∈ tw_tbl := tw_t1 (List.mem_of_getElem? (i := 197) rfl) rfl
theorem wd_1_198 : Cond.selects "SyntaxForge$Bytes" ⟨"SyntaxForge$Bytes", "put", "(I)V"⟩ ⟨"SyntaxForge$Bytes", "put", "(I)V"⟩ ∈ tw_tbl := tw_t1 (List.mem_of_getElem? (i := 198) rfl) rfl
theorem wd_1_3 : Cond.initialized "SyntaxForge$Schema" ∈ tw_tbl := tw_t1 (List.mem_of_getElem? (i := 3) rfl) rfl
theorem wd_2_7 : Cond.methodLink "SyntaxForge$Schema" 127 ⟨"SyntaxForge$Schema", "added", "(LSyntaxForge$Bytes;III)I"⟩ ∈ tw_tbl := tw_t2 (List.mem_of_getElem? (i := 7) rfl) rfl
theorem wd_2_9 : Cond.instanceMethod ⟨"SyntaxForge$Schema", "added", "(LSyntaxForge$Bytes;III)I"⟩ ∈ tw_tbl := tw_t2 (List.mem_of_getElem? (i := 9) rfl) rfl
theorem wp_1_2 : Cond.selects "SyntaxForge$Schema" ⟨"SyntaxForge$Schema", "added", "(LSyntaxForge$Bytes;III)I"⟩ ⟨"SyntaxForge$Schema", "added", "(LSyntaxForge$Bytes;III)I"⟩ ∈ tw_tbl := tw_p1 (q := (⟨"SyntaxForge$Schema", "added", "(LSyntaxForge$Bytes;III)I"⟩, 19)) (List.mem_of_getElem? (i := 2) rfl)
theorem wd_2_3 : Cond.methodLink "SyntaxForge$Schema" 123 ⟨"SyntaxForge$Schema", "isName", "(ILSyntaxForge$Bytes;I)Z"⟩ ∈ tw_tbl := tw_t2 (List.mem_of_getElem? (i := 3) rfl) rfl
theorem wd_2_5 : Cond.instanceMethod ⟨"SyntaxForge$Schema", "isName", "(ILSyntaxForge$Bytes;I)Z"⟩ ∈ tw_tbl := tw_t2 (List.mem_of_getElem? (i := 5) rfl) rfl
theorem wp_1_1 : Cond.selects "SyntaxForge$Schema" ⟨"SyntaxForge$Schema", "isName", "(ILSyntaxForge$Bytes;I)Z"⟩ ⟨"SyntaxForge$Schema", "isName", "(ILSyntaxForge$Bytes;I)Z"⟩ ∈ tw_tbl := tw_p1 (q := (⟨"SyntaxForge$Schema", "isName", "(ILSyntaxForge$Bytes;I)Z"⟩, 19)) (List.mem_of_getElem? (i := 1) rfl)
theorem wd_1_75 : Cond.lays "SyntaxForge$Bytes" "SyntaxForge$Bytes" "at" "[B" ∈ tw_tbl := tw_t1 (List.mem_of_getElem? (i := 75) rfl) rfl
theorem wd_1_77 : Cond.lays "SyntaxForge$Bytes" "SyntaxForge$Bytes" "length" "I" ∈ tw_tbl := tw_t1 (List.mem_of_getElem? (i := 77) rfl) rfl
theorem wd_1_106 : Cond.lays "java/util/ArrayList" "java/util/ArrayList" "elementData" "[Ljava/lang/Object;" ∈ tw_tbl := tw_t1 (List.mem_of_getElem? (i := 106) rfl) rfl
theorem wd_1_108 : Cond.lays "java/util/ArrayList" "java/util/ArrayList" "size" "I" ∈ tw_tbl := tw_t1 (List.mem_of_getElem? (i := 108) rfl) rfl
theorem wd_1_110 : Cond.lays "java/util/ArrayList" "java/util/AbstractList" "modCount" "I" ∈ tw_tbl := tw_t1 (List.mem_of_getElem? (i := 110) rfl) rfl
theorem wd_1_138 : Cond.laysFinal "SyntaxForge$Values" "SyntaxForge$Values" "all" "Ljava/util/ArrayList;" ∈ tw_tbl := tw_t1 (List.mem_of_getElem? (i := 138) rfl) rfl
theorem wd_1_140 : Cond.laysFinal "SyntaxForge$Values" "SyntaxForge$Values" "data" "LSyntaxForge$Bytes;" ∈ tw_tbl := tw_t1 (List.mem_of_getElem? (i := 140) rfl) rfl
theorem wd_1_142 : Cond.lays "SyntaxForge$Values" "SyntaxForge$Values" "used" "I" ∈ tw_tbl := tw_t1 (List.mem_of_getElem? (i := 142) rfl) rfl
theorem wd_2_41 : Cond.laysFinal "SyntaxForge$Schema" "SyntaxForge$Schema" "assigned" "Ljava/util/ArrayList;" ∈ tw_tbl := tw_t2 (List.mem_of_getElem? (i := 41) rfl) rfl
theorem wd_2_43 : Cond.laysFinal "SyntaxForge$Schema" "SyntaxForge$Schema" "defaults" "LSyntaxForge$Values;" ∈ tw_tbl := tw_t2 (List.mem_of_getElem? (i := 43) rfl) rfl
theorem wd_2_45 : Cond.lays "SyntaxForge$Schema" "SyntaxForge$Schema" "mode" "I" ∈ tw_tbl := tw_t2 (List.mem_of_getElem? (i := 45) rfl) rfl
theorem wd_2_47 : Cond.lays "SyntaxForge$Schema" "SyntaxForge$Schema" "broken" "Z" ∈ tw_tbl := tw_t2 (List.mem_of_getElem? (i := 47) rfl) rfl
theorem wd_2_49 : Cond.laysFinal "SyntaxForge$Schema" "SyntaxForge$Schema" "types" "Ljava/util/ArrayList;" ∈ tw_tbl := tw_t2 (List.mem_of_getElem? (i := 49) rfl) rfl
theorem wd_2_51 : Cond.laysFinal "SyntaxForge$Schema" "SyntaxForge$Schema" "standards" "Ljava/util/ArrayList;" ∈ tw_tbl := tw_t2 (List.mem_of_getElem? (i := 51) rfl) rfl
theorem wd_2_53 : Cond.laysFinal "SyntaxForge$Schema" "SyntaxForge$Schema" "path" "Ljava/util/ArrayList;" ∈ tw_tbl := tw_t2 (List.mem_of_getElem? (i := 53) rfl) rfl
theorem wd_2_55 : Cond.laysFinal "SyntaxForge$Schema" "SyntaxForge$Schema" "words" "LSyntaxForge$Bytes;" ∈ tw_tbl := tw_t2 (List.mem_of_getElem? (i := 55) rfl) rfl
theorem wd_2_57 : Cond.laysFinal "SyntaxForge$Schema" "SyntaxForge$Schema" "letters" "LSyntaxForge$Bytes;" ∈ tw_tbl := tw_t2 (List.mem_of_getElem? (i := 57) rfl) rfl
theorem wd_2_59 : Cond.laysFinal "SyntaxForge$Schema" "SyntaxForge$Schema" "buckets" "[I" ∈ tw_tbl := tw_t2 (List.mem_of_getElem? (i := 59) rfl) rfl
theorem wd_2_61 : Cond.lays "SyntaxForge$Schema" "SyntaxForge$Schema" "starts" "[I" ∈ tw_tbl := tw_t2 (List.mem_of_getElem? (i := 61) rfl) rfl
theorem wd_2_63 : Cond.lays "SyntaxForge$Schema" "SyntaxForge$Schema" "lengths" "[I" ∈ tw_tbl := tw_t2 (List.mem_of_getElem? (i := 63) rfl) rfl
theorem wd_2_65 : Cond.lays "SyntaxForge$Schema" "SyntaxForge$Schema" "nexts" "[I" ∈ tw_tbl := tw_t2 (List.mem_of_getElem? (i := 65) rfl) rfl
theorem wd_2_67 : Cond.lays "SyntaxForge$Schema" "SyntaxForge$Schema" "owners" "[I" ∈ tw_tbl := tw_t2 (List.mem_of_getElem? (i := 67) rfl) rfl
theorem wd_2_69 : Cond.lays "SyntaxForge$Schema" "SyntaxForge$Schema" "symbols" "I" ∈ tw_tbl := tw_t2 (List.mem_of_getElem? (i := 69) rfl) rfl
theorem wd_2_71 : Cond.lays "SyntaxForge$Schema" "SyntaxForge$Schema" "steps" "[I" ∈ tw_tbl := tw_t2 (List.mem_of_getElem? (i := 71) rfl) rfl
theorem wd_2_73 : Cond.lays "SyntaxForge$Schema" "SyntaxForge$Schema" "keys" "[J" ∈ tw_tbl := tw_t2 (List.mem_of_getElem? (i := 73) rfl) rfl
theorem wd_2_75 : Cond.lays "SyntaxForge$Schema" "SyntaxForge$Schema" "stamps" "[I" ∈ tw_tbl := tw_t2 (List.mem_of_getElem? (i := 75) rfl) rfl
theorem wd_2_77 : Cond.lays "SyntaxForge$Schema" "SyntaxForge$Schema" "stamp" "I" ∈ tw_tbl := tw_t2 (List.mem_of_getElem? (i := 77) rfl) rfl
theorem wd_2_102 : Cond.lays "SyntaxForge$Scanner" "SyntaxForge$Scanner" "kinds" "[I" ∈ tw_tbl := tw_t2 (List.mem_of_getElem? (i := 102) rfl) rfl
theorem wd_2_104 : Cond.lays "SyntaxForge$Scanner" "SyntaxForge$Scanner" "places" "[I" ∈ tw_tbl := tw_t2 (List.mem_of_getElem? (i := 104) rfl) rfl
theorem wd_2_106 : Cond.lays "SyntaxForge$Scanner" "SyntaxForge$Scanner" "numbers" "[J" ∈ tw_tbl := tw_t2 (List.mem_of_getElem? (i := 106) rfl) rfl
theorem wd_2_108 : Cond.lays "SyntaxForge$Scanner" "SyntaxForge$Scanner" "count" "I" ∈ tw_tbl := tw_t2 (List.mem_of_getElem? (i := 108) rfl) rfl
theorem wd_2_110 : Cond.lays "SyntaxForge$Scanner" "SyntaxForge$Scanner" "told" "I" ∈ tw_tbl := tw_t2 (List.mem_of_getElem? (i := 110) rfl) rfl
theorem wd_2_112 : Cond.lays "SyntaxForge$Scanner" "SyntaxForge$Scanner" "tape" "LSyntaxForge$Bytes;" ∈ tw_tbl := tw_t2 (List.mem_of_getElem? (i := 112) rfl) rfl
theorem wd_2_114 : Cond.lays "SyntaxForge$Scanner" "SyntaxForge$Scanner" "names" "LSyntaxForge$Schema;" ∈ tw_tbl := tw_t2 (List.mem_of_getElem? (i := 114) rfl) rfl
theorem wd_2_116 : Cond.lays "SyntaxForge$Scanner" "SyntaxForge$Scanner" "adding" "Z" ∈ tw_tbl := tw_t2 (List.mem_of_getElem? (i := 116) rfl) rfl
theorem wd_2_134 : Cond.laysFinal "SyntaxForge$Parser" "SyntaxForge$Parser" "scanner" "LSyntaxForge$Scanner;" ∈ tw_tbl := tw_t2 (List.mem_of_getElem? (i := 134) rfl) rfl
theorem wd_2_136 : Cond.laysFinal "SyntaxForge$Parser" "SyntaxForge$Parser" "unended" "[LSyntaxForge$Value;" ∈ tw_tbl := tw_t2 (List.mem_of_getElem? (i := 136) rfl) rfl
theorem wd_2_138 : Cond.lays "SyntaxForge$Parser" "SyntaxForge$Parser" "tape" "LSyntaxForge$Bytes;" ∈ tw_tbl := tw_t2 (List.mem_of_getElem? (i := 138) rfl) rfl
theorem wd_2_140 : Cond.lays "SyntaxForge$Parser" "SyntaxForge$Parser" "schema" "LSyntaxForge$Schema;" ∈ tw_tbl := tw_t2 (List.mem_of_getElem? (i := 140) rfl) rfl
theorem wd_2_142 : Cond.lays "SyntaxForge$Parser" "SyntaxForge$Parser" "values" "LSyntaxForge$Values;" ∈ tw_tbl := tw_t2 (List.mem_of_getElem? (i := 142) rfl) rfl
theorem wd_2_144 : Cond.lays "SyntaxForge$Parser" "SyntaxForge$Parser" "at" "I" ∈ tw_tbl := tw_t2 (List.mem_of_getElem? (i := 144) rfl) rfl
theorem wd_2_146 : Cond.lays "SyntaxForge$Parser" "SyntaxForge$Parser" "label" "I" ∈ tw_tbl := tw_t2 (List.mem_of_getElem? (i := 146) rfl) rfl
theorem wd_2_161 : Cond.lays "SyntaxForge$Der" "SyntaxForge$Der" "row" "[LSyntaxForge$Value;" ∈ tw_tbl := tw_t2 (List.mem_of_getElem? (i := 161) rfl) rfl
theorem wd_2_163 : Cond.lays "SyntaxForge$Der" "SyntaxForge$Der" "merged" "[LSyntaxForge$Value;" ∈ tw_tbl := tw_t2 (List.mem_of_getElem? (i := 163) rfl) rfl
theorem wd_2_165 : Cond.lays "SyntaxForge$Der" "SyntaxForge$Der" "widths" "[I" ∈ tw_tbl := tw_t2 (List.mem_of_getElem? (i := 165) rfl) rfl
theorem wd_2_185 : Cond.laysFinal "SyntaxForge$BerReader" "SyntaxForge$BerReader" "values" "LSyntaxForge$Values;" ∈ tw_tbl := tw_t2 (List.mem_of_getElem? (i := 185) rfl) rfl
theorem wd_2_187 : Cond.laysFinal "SyntaxForge$BerReader" "SyntaxForge$BerReader" "order" "LSyntaxForge$Der;" ∈ tw_tbl := tw_t2 (List.mem_of_getElem? (i := 187) rfl) rfl
theorem wd_2_189 : Cond.laysFinal "SyntaxForge$BerReader" "SyntaxForge$BerReader" "ends" "[I" ∈ tw_tbl := tw_t2 (List.mem_of_getElem? (i := 189) rfl) rfl
theorem wd_2_191 : Cond.laysFinal "SyntaxForge$BerReader" "SyntaxForge$BerReader" "limits" "[I" ∈ tw_tbl := tw_t2 (List.mem_of_getElem? (i := 191) rfl) rfl
theorem wd_2_193 : Cond.lays "SyntaxForge$BerReader" "SyntaxForge$BerReader" "in" "LSyntaxForge$Bytes;" ∈ tw_tbl := tw_t2 (List.mem_of_getElem? (i := 193) rfl) rfl
theorem wd_2_195 : Cond.lays "SyntaxForge$BerReader" "SyntaxForge$BerReader" "schema" "LSyntaxForge$Schema;" ∈ tw_tbl := tw_t2 (List.mem_of_getElem? (i := 195) rfl) rfl
theorem wd_2_197 : Cond.lays "SyntaxForge$BerReader" "SyntaxForge$BerReader" "strict" "Z" ∈ tw_tbl := tw_t2 (List.mem_of_getElem? (i := 197) rfl) rfl
theorem wd_2_199 : Cond.lays "SyntaxForge$BerReader" "SyntaxForge$BerReader" "at" "I" ∈ tw_tbl := tw_t2 (List.mem_of_getElem? (i := 199) rfl) rfl
theorem wd_2_201 : Cond.lays "SyntaxForge$BerReader" "SyntaxForge$BerReader" "tag" "J" ∈ tw_tbl := tw_t2 (List.mem_of_getElem? (i := 201) rfl) rfl
theorem wd_2_203 : Cond.lays "SyntaxForge$BerReader" "SyntaxForge$BerReader" "constructed" "Z" ∈ tw_tbl := tw_t2 (List.mem_of_getElem? (i := 203) rfl) rfl
theorem wd_2_205 : Cond.lays "SyntaxForge$BerReader" "SyntaxForge$BerReader" "stop" "I" ∈ tw_tbl := tw_t2 (List.mem_of_getElem? (i := 205) rfl) rfl
theorem wd_2_216 : Cond.lays "SyntaxForge$PerWriter" "SyntaxForge$PerWriter" "out" "LSyntaxForge$Bytes;" ∈ tw_tbl := tw_t2 (List.mem_of_getElem? (i := 216) rfl) rfl
theorem wd_2_218 : Cond.lays "SyntaxForge$PerWriter" "SyntaxForge$PerWriter" "at" "I" ∈ tw_tbl := tw_t2 (List.mem_of_getElem? (i := 218) rfl) rfl
theorem wd_2_233 : Cond.laysFinal "SyntaxForge$PerReader" "SyntaxForge$PerReader" "values" "LSyntaxForge$Values;" ∈ tw_tbl := tw_t2 (List.mem_of_getElem? (i := 233) rfl) rfl
theorem wd_2_235 : Cond.lays "SyntaxForge$PerReader" "SyntaxForge$PerReader" "in" "LSyntaxForge$Bytes;" ∈ tw_tbl := tw_t2 (List.mem_of_getElem? (i := 235) rfl) rfl
theorem wd_2_237 : Cond.lays "SyntaxForge$PerReader" "SyntaxForge$PerReader" "at" "I" ∈ tw_tbl := tw_t2 (List.mem_of_getElem? (i := 237) rfl) rfl
theorem wd_2_239 : Cond.lays "SyntaxForge$PerReader" "SyntaxForge$PerReader" "limit" "I" ∈ tw_tbl := tw_t2 (List.mem_of_getElem? (i := 239) rfl) rfl
theorem wd_3_1 : Cond.lays "SyntaxForge$PerReader" "SyntaxForge$PerReader" "listed" "I" ∈ tw_tbl := tw_t3 (List.mem_of_getElem? (i := 1) rfl) rfl
theorem wd_3_3 : Cond.lays "SyntaxForge$PerReader" "SyntaxForge$PerReader" "strange" "I" ∈ tw_tbl := tw_t3 (List.mem_of_getElem? (i := 3) rfl) rfl
theorem wd_3_20 : Cond.lays "SyntaxForge" "SyntaxForge" "tape" "LSyntaxForge$Bytes;" ∈ tw_tbl := tw_t3 (List.mem_of_getElem? (i := 20) rfl) rfl
theorem wd_3_22 : Cond.lays "SyntaxForge" "SyntaxForge" "taken" "LSyntaxForge$Bytes;" ∈ tw_tbl := tw_t3 (List.mem_of_getElem? (i := 22) rfl) rfl
theorem wd_3_24 : Cond.lays "SyntaxForge" "SyntaxForge" "result" "LSyntaxForge$Bytes;" ∈ tw_tbl := tw_t3 (List.mem_of_getElem? (i := 24) rfl) rfl
theorem wd_3_26 : Cond.lays "SyntaxForge" "SyntaxForge" "out" "LSyntaxForge$Bytes;" ∈ tw_tbl := tw_t3 (List.mem_of_getElem? (i := 26) rfl) rfl
theorem wd_3_28 : Cond.lays "SyntaxForge" "SyntaxForge" "hasText" "Z" ∈ tw_tbl := tw_t3 (List.mem_of_getElem? (i := 28) rfl) rfl
theorem wd_3_30 : Cond.lays "SyntaxForge" "SyntaxForge" "schema" "LSyntaxForge$Schema;" ∈ tw_tbl := tw_t3 (List.mem_of_getElem? (i := 30) rfl) rfl
theorem wd_3_32 : Cond.lays "SyntaxForge" "SyntaxForge" "spare" "LSyntaxForge$Schema;" ∈ tw_tbl := tw_t3 (List.mem_of_getElem? (i := 32) rfl) rfl
theorem wd_3_34 : Cond.laysFinal "SyntaxForge" "SyntaxForge" "scanner" "LSyntaxForge$Scanner;" ∈ tw_tbl := tw_t3 (List.mem_of_getElem? (i := 34) rfl) rfl
theorem wd_3_36 : Cond.laysFinal "SyntaxForge" "SyntaxForge" "parser" "LSyntaxForge$Parser;" ∈ tw_tbl := tw_t3 (List.mem_of_getElem? (i := 36) rfl) rfl
theorem wd_3_38 : Cond.laysFinal "SyntaxForge" "SyntaxForge" "values" "LSyntaxForge$Values;" ∈ tw_tbl := tw_t3 (List.mem_of_getElem? (i := 38) rfl) rfl
theorem wd_3_40 : Cond.laysFinal "SyntaxForge" "SyntaxForge" "der" "LSyntaxForge$Der;" ∈ tw_tbl := tw_t3 (List.mem_of_getElem? (i := 40) rfl) rfl
theorem wd_3_42 : Cond.laysFinal "SyntaxForge" "SyntaxForge" "berReader" "LSyntaxForge$BerReader;" ∈ tw_tbl := tw_t3 (List.mem_of_getElem? (i := 42) rfl) rfl
theorem wd_3_44 : Cond.laysFinal "SyntaxForge" "SyntaxForge" "perWriter" "LSyntaxForge$PerWriter;" ∈ tw_tbl := tw_t3 (List.mem_of_getElem? (i := 44) rfl) rfl
theorem wd_3_46 : Cond.laysFinal "SyntaxForge" "SyntaxForge" "perReader" "LSyntaxForge$PerReader;" ∈ tw_tbl := tw_t3 (List.mem_of_getElem? (i := 46) rfl) rfl
theorem wd_10_100 : Cond.lays "SyntaxForgeModel" "SyntaxForgeModel" "failed" "I" ∈ tw_tbl := tw_t10 (List.mem_of_getElem? (i := 100) rfl) rfl
theorem wd_10_102 : Cond.laysFinal "SyntaxForgeModel" "SyntaxForgeModel" "tape" "[B" ∈ tw_tbl := tw_t10 (List.mem_of_getElem? (i := 102) rfl) rfl
theorem wd_10_104 : Cond.lays "SyntaxForgeModel" "SyntaxForgeModel" "taped" "I" ∈ tw_tbl := tw_t10 (List.mem_of_getElem? (i := 104) rfl) rfl
theorem wd_10_106 : Cond.laysFinal "SyntaxForgeModel" "SyntaxForgeModel" "result" "[B" ∈ tw_tbl := tw_t10 (List.mem_of_getElem? (i := 106) rfl) rfl
theorem wd_10_108 : Cond.lays "SyntaxForgeModel" "SyntaxForgeModel" "size" "I" ∈ tw_tbl := tw_t10 (List.mem_of_getElem? (i := 108) rfl) rfl
theorem wd_10_110 : Cond.lays "SyntaxForgeModel" "SyntaxForgeModel" "place" "I" ∈ tw_tbl := tw_t10 (List.mem_of_getElem? (i := 110) rfl) rfl
theorem wd_10_112 : Cond.laysFinal "SyntaxForgeModel" "SyntaxForgeModel" "signs" "[Ljava/lang/String;" ∈ tw_tbl := tw_t10 (List.mem_of_getElem? (i := 112) rfl) rfl
theorem wd_10_114 : Cond.laysFinal "SyntaxForgeModel" "SyntaxForgeModel" "keptWords" "[Ljava/lang/String;" ∈ tw_tbl := tw_t10 (List.mem_of_getElem? (i := 114) rfl) rfl
theorem wd_10_116 : Cond.lays "SyntaxForgeModel" "SyntaxForgeModel" "token" "I" ∈ tw_tbl := tw_t10 (List.mem_of_getElem? (i := 116) rfl) rfl
theorem wd_10_118 : Cond.lays "SyntaxForgeModel" "SyntaxForgeModel" "from" "I" ∈ tw_tbl := tw_t10 (List.mem_of_getElem? (i := 118) rfl) rfl
theorem wd_10_120 : Cond.lays "SyntaxForgeModel" "SyntaxForgeModel" "to" "I" ∈ tw_tbl := tw_t10 (List.mem_of_getElem? (i := 120) rfl) rfl
theorem wd_10_122 : Cond.lays "SyntaxForgeModel" "SyntaxForgeModel" "number" "J" ∈ tw_tbl := tw_t10 (List.mem_of_getElem? (i := 122) rfl) rfl
theorem wd_10_124 : Cond.lays "SyntaxForgeModel" "SyntaxForgeModel" "word" "Ljava/lang/String;" ∈ tw_tbl := tw_t10 (List.mem_of_getElem? (i := 124) rfl) rfl
theorem wd_10_126 : Cond.lays "SyntaxForgeModel" "SyntaxForgeModel" "at" "I" ∈ tw_tbl := tw_t10 (List.mem_of_getElem? (i := 126) rfl) rfl
theorem wd_10_128 : Cond.lays "SyntaxForgeModel" "SyntaxForgeModel" "valuesOpen" "I" ∈ tw_tbl := tw_t10 (List.mem_of_getElem? (i := 128) rfl) rfl
theorem wd_10_130 : Cond.lays "SyntaxForgeModel" "SyntaxForgeModel" "typesOpen" "I" ∈ tw_tbl := tw_t10 (List.mem_of_getElem? (i := 130) rfl) rfl
theorem wd_10_132 : Cond.laysFinal "SyntaxForgeModel" "SyntaxForgeModel" "spelled" "LSyntaxForgeModel$Chars;" ∈ tw_tbl := tw_t10 (List.mem_of_getElem? (i := 132) rfl) rfl
theorem wd_10_134 : Cond.laysFinal "SyntaxForgeModel" "SyntaxForgeModel" "pieced" "LSyntaxForgeModel$Chars;" ∈ tw_tbl := tw_t10 (List.mem_of_getElem? (i := 134) rfl) rfl
theorem wd_10_136 : Cond.laysFinal "SyntaxForgeModel" "SyntaxForgeModel" "hexes" "LSyntaxForgeModel$Chars;" ∈ tw_tbl := tw_t10 (List.mem_of_getElem? (i := 136) rfl) rfl
theorem wd_10_138 : Cond.lays "SyntaxForgeModel" "SyntaxForgeModel" "words" "[Ljava/lang/String;" ∈ tw_tbl := tw_t10 (List.mem_of_getElem? (i := 138) rfl) rfl
theorem wd_10_140 : Cond.lays "SyntaxForgeModel" "SyntaxForgeModel" "nextWords" "[I" ∈ tw_tbl := tw_t10 (List.mem_of_getElem? (i := 140) rfl) rfl
theorem wd_10_142 : Cond.laysFinal "SyntaxForgeModel" "SyntaxForgeModel" "firstWords" "[I" ∈ tw_tbl := tw_t10 (List.mem_of_getElem? (i := 142) rfl) rfl
theorem wd_10_144 : Cond.lays "SyntaxForgeModel" "SyntaxForgeModel" "wordCount" "I" ∈ tw_tbl := tw_t10 (List.mem_of_getElem? (i := 144) rfl) rfl
theorem wd_10_146 : Cond.lays "SyntaxForgeModel" "SyntaxForgeModel" "pool" "[LSyntaxForgeModel$Value;" ∈ tw_tbl := tw_t10 (List.mem_of_getElem? (i := 146) rfl) rfl
theorem wd_10_148 : Cond.lays "SyntaxForgeModel" "SyntaxForgeModel" "pooled" "I" ∈ tw_tbl := tw_t10 (List.mem_of_getElem? (i := 148) rfl) rfl
theorem wd_10_150 : Cond.lays "SyntaxForgeModel" "SyntaxForgeModel" "pooling" "Z" ∈ tw_tbl := tw_t10 (List.mem_of_getElem? (i := 150) rfl) rfl
theorem wd_10_152 : Cond.lays "SyntaxForgeModel" "SyntaxForgeModel" "module" "LSyntaxForgeModel$Module;" ∈ tw_tbl := tw_t10 (List.mem_of_getElem? (i := 152) rfl) rfl
theorem wd_10_154 : Cond.lays "SyntaxForgeModel" "SyntaxForgeModel" "reading" "LSyntaxForgeModel$Module;" ∈ tw_tbl := tw_t10 (List.mem_of_getElem? (i := 154) rfl) rfl
theorem wd_10_156 : Cond.lays "SyntaxForgeModel" "SyntaxForgeModel" "chain" "[LSyntaxForgeModel$Type;" ∈ tw_tbl := tw_t10 (List.mem_of_getElem? (i := 156) rfl) rfl
theorem wd_10_158 : Cond.lays "SyntaxForgeModel" "SyntaxForgeModel" "waiting" "[LSyntaxForgeModel$Type;" ∈ tw_tbl := tw_t10 (List.mem_of_getElem? (i := 158) rfl) rfl
theorem wd_10_160 : Cond.lays "SyntaxForgeModel" "SyntaxForgeModel" "stamp" "I" ∈ tw_tbl := tw_t10 (List.mem_of_getElem? (i := 160) rfl) rfl
theorem wd_10_162 : Cond.lays "SyntaxForgeModel" "SyntaxForgeModel" "settledNow" "Z" ∈ tw_tbl := tw_t10 (List.mem_of_getElem? (i := 162) rfl) rfl
theorem wd_10_164 : Cond.laysFinal "SyntaxForgeModel" "SyntaxForgeModel" "back" "[B" ∈ tw_tbl := tw_t10 (List.mem_of_getElem? (i := 164) rfl) rfl
theorem wd_10_166 : Cond.laysFinal "SyntaxForgeModel" "SyntaxForgeModel" "spare" "[B" ∈ tw_tbl := tw_t10 (List.mem_of_getElem? (i := 166) rfl) rfl
theorem wd_10_168 : Cond.lays "SyntaxForgeModel" "SyntaxForgeModel" "pos" "I" ∈ tw_tbl := tw_t10 (List.mem_of_getElem? (i := 168) rfl) rfl
theorem wd_10_170 : Cond.laysFinal "SyntaxForgeModel" "SyntaxForgeModel" "packed" "[B" ∈ tw_tbl := tw_t10 (List.mem_of_getElem? (i := 170) rfl) rfl
theorem wd_10_172 : Cond.lays "SyntaxForgeModel" "SyntaxForgeModel" "bits" "I" ∈ tw_tbl := tw_t10 (List.mem_of_getElem? (i := 172) rfl) rfl
theorem wd_10_174 : Cond.lays "SyntaxForgeModel" "SyntaxForgeModel" "in" "I" ∈ tw_tbl := tw_t10 (List.mem_of_getElem? (i := 174) rfl) rfl
theorem wd_10_176 : Cond.lays "SyntaxForgeModel" "SyntaxForgeModel" "end" "I" ∈ tw_tbl := tw_t10 (List.mem_of_getElem? (i := 176) rfl) rfl
theorem wd_10_178 : Cond.lays "SyntaxForgeModel" "SyntaxForgeModel" "strict" "Z" ∈ tw_tbl := tw_t10 (List.mem_of_getElem? (i := 178) rfl) rfl
theorem wd_10_180 : Cond.lays "SyntaxForgeModel" "SyntaxForgeModel" "within" "I" ∈ tw_tbl := tw_t10 (List.mem_of_getElem? (i := 180) rfl) rfl
theorem wd_10_182 : Cond.lays "SyntaxForgeModel" "SyntaxForgeModel" "gotTag" "J" ∈ tw_tbl := tw_t10 (List.mem_of_getElem? (i := 182) rfl) rfl
theorem wd_10_184 : Cond.lays "SyntaxForgeModel" "SyntaxForgeModel" "gotMany" "Z" ∈ tw_tbl := tw_t10 (List.mem_of_getElem? (i := 184) rfl) rfl
theorem wd_10_186 : Cond.lays "SyntaxForgeModel" "SyntaxForgeModel" "gotStop" "I" ∈ tw_tbl := tw_t10 (List.mem_of_getElem? (i := 186) rfl) rfl
theorem wd_10_188 : Cond.lays "SyntaxForgeModel" "SyntaxForgeModel" "closed" "Z" ∈ tw_tbl := tw_t10 (List.mem_of_getElem? (i := 188) rfl) rfl
theorem wd_10_190 : Cond.lays "SyntaxForgeModel" "SyntaxForgeModel" "bit" "J" ∈ tw_tbl := tw_t10 (List.mem_of_getElem? (i := 190) rfl) rfl
theorem wd_10_192 : Cond.lays "SyntaxForgeModel" "SyntaxForgeModel" "bitEnd" "J" ∈ tw_tbl := tw_t10 (List.mem_of_getElem? (i := 192) rfl) rfl
theorem wd_10_194 : Cond.laysFinal "SyntaxForgeModel" "SyntaxForgeModel" "theres" "[[Z" ∈ tw_tbl := tw_t10 (List.mem_of_getElem? (i := 194) rfl) rfl
theorem wd_10_196 : Cond.lays "SyntaxForgeModel" "SyntaxForgeModel" "goesOn" "Z" ∈ tw_tbl := tw_t10 (List.mem_of_getElem? (i := 196) rfl) rfl
theorem wd_10_198 : Cond.lays "SyntaxForgeModel" "SyntaxForgeModel" "lastPortion" "I" ∈ tw_tbl := tw_t10 (List.mem_of_getElem? (i := 198) rfl) rfl
theorem wd_10_200 : Cond.lays "SyntaxForgeModel" "SyntaxForgeModel" "begun" "I" ∈ tw_tbl := tw_t10 (List.mem_of_getElem? (i := 200) rfl) rfl
theorem wd_10_202 : Cond.lays "SyntaxForgeModel" "SyntaxForgeModel" "gathered" "J" ∈ tw_tbl := tw_t10 (List.mem_of_getElem? (i := 202) rfl) rfl
theorem wd_10_204 : Cond.lays "SyntaxForgeModel" "SyntaxForgeModel" "gatheredSize" "I" ∈ tw_tbl := tw_t10 (List.mem_of_getElem? (i := 204) rfl) rfl
theorem wd_10_34 : Cond.lays "SyntaxForgeModel$Chars" "SyntaxForgeModel$Chars" "row" "[C" ∈ tw_tbl := tw_t10 (List.mem_of_getElem? (i := 34) rfl) rfl
theorem wd_10_36 : Cond.lays "SyntaxForgeModel$Chars" "SyntaxForgeModel$Chars" "n" "I" ∈ tw_tbl := tw_t10 (List.mem_of_getElem? (i := 36) rfl) rfl
def R_Bytes : String := "SyntaxForge$Bytes"
def F_Bytes : u_T := fun k => match k with
  | 0 => ("SyntaxForge$Bytes", "at", "[B", false)
  | _ => ("SyntaxForge$Bytes", "length", "I", false)
def t_Bytes : Nat → FieldType := fun k => match k with
  | 0 => .array .byte
  | _ => .int
theorem n_Bytes : ∀ a, a < 2 → ∀ b, b < 2 → a ≠ b → (F_Bytes a).2.1 ≠ (F_Bytes b).2.1 := by decide +kernel
theorem t_Bytes_ok : ∀ k, k < 2 → parseFieldDescriptor (F_Bytes k).2.2.1 = some (t_Bytes k) := by decide +kernel
def R_AL : String := "java/util/ArrayList"
def F_AL : u_T := fun k => match k with
  | 0 => ("java/util/ArrayList", "elementData", "[Ljava/lang/Object;", false)
  | 1 => ("java/util/ArrayList", "size", "I", false)
  | _ => ("java/util/AbstractList", "modCount", "I", false)
def t_AL : Nat → FieldType := fun k => match k with
  | 0 => .array (.object "java/lang/Object")
  | 1 => .int
  | _ => .int
theorem n_AL : ∀ a, a < 3 → ∀ b, b < 3 → a ≠ b → (F_AL a).2.1 ≠ (F_AL b).2.1 := by decide +kernel
theorem t_AL_ok : ∀ k, k < 3 → parseFieldDescriptor (F_AL k).2.2.1 = some (t_AL k) := by decide +kernel
def R_Values : String := "SyntaxForge$Values"
def F_Values : u_T := fun k => match k with
  | 0 => ("SyntaxForge$Values", "all", "Ljava/util/ArrayList;", true)
  | 1 => ("SyntaxForge$Values", "data", "LSyntaxForge$Bytes;", true)
  | _ => ("SyntaxForge$Values", "used", "I", false)
def t_Values : Nat → FieldType := fun k => match k with
  | 0 => .object "java/util/ArrayList"
  | 1 => .object "SyntaxForge$Bytes"
  | _ => .int
theorem n_Values : ∀ a, a < 3 → ∀ b, b < 3 → a ≠ b → (F_Values a).2.1 ≠ (F_Values b).2.1 := by decide +kernel
theorem t_Values_ok : ∀ k, k < 3 → parseFieldDescriptor (F_Values k).2.2.1 = some (t_Values k) := by decide +kernel
def R_Schema : String := "SyntaxForge$Schema"
def F_Schema : u_T := fun k => match k with
  | 0 => ("SyntaxForge$Schema", "assigned", "Ljava/util/ArrayList;", true)
  | 1 => ("SyntaxForge$Schema", "defaults", "LSyntaxForge$Values;", true)
  | 2 => ("SyntaxForge$Schema", "mode", "I", false)
  | 3 => ("SyntaxForge$Schema", "broken", "Z", false)
  | 4 => ("SyntaxForge$Schema", "types", "Ljava/util/ArrayList;", true)
  | 5 => ("SyntaxForge$Schema", "standards", "Ljava/util/ArrayList;", true)
  | 6 => ("SyntaxForge$Schema", "path", "Ljava/util/ArrayList;", true)
  | 7 => ("SyntaxForge$Schema", "words", "LSyntaxForge$Bytes;", true)
  | 8 => ("SyntaxForge$Schema", "letters", "LSyntaxForge$Bytes;", true)
  | 9 => ("SyntaxForge$Schema", "buckets", "[I", true)
  | 10 => ("SyntaxForge$Schema", "starts", "[I", false)
  | 11 => ("SyntaxForge$Schema", "lengths", "[I", false)
  | 12 => ("SyntaxForge$Schema", "nexts", "[I", false)
  | 13 => ("SyntaxForge$Schema", "owners", "[I", false)
  | 14 => ("SyntaxForge$Schema", "symbols", "I", false)
  | 15 => ("SyntaxForge$Schema", "steps", "[I", false)
  | 16 => ("SyntaxForge$Schema", "keys", "[J", false)
  | 17 => ("SyntaxForge$Schema", "stamps", "[I", false)
  | _ => ("SyntaxForge$Schema", "stamp", "I", false)
def t_Schema : Nat → FieldType := fun k => match k with
  | 0 => .object "java/util/ArrayList"
  | 1 => .object "SyntaxForge$Values"
  | 2 => .int
  | 3 => .boolean
  | 4 => .object "java/util/ArrayList"
  | 5 => .object "java/util/ArrayList"
  | 6 => .object "java/util/ArrayList"
  | 7 => .object "SyntaxForge$Bytes"
  | 8 => .object "SyntaxForge$Bytes"
  | 9 => .array .int
  | 10 => .array .int
  | 11 => .array .int
  | 12 => .array .int
  | 13 => .array .int
  | 14 => .int
  | 15 => .array .int
  | 16 => .array .long
  | 17 => .array .int
  | _ => .int
theorem n_Schema : ∀ a, a < 19 → ∀ b, b < 19 → a ≠ b → (F_Schema a).2.1 ≠ (F_Schema b).2.1 := by decide +kernel
theorem t_Schema_ok : ∀ k, k < 19 → parseFieldDescriptor (F_Schema k).2.2.1 = some (t_Schema k) := by decide +kernel
def R_Scanner : String := "SyntaxForge$Scanner"
def F_Scanner : u_T := fun k => match k with
  | 0 => ("SyntaxForge$Scanner", "kinds", "[I", false)
  | 1 => ("SyntaxForge$Scanner", "places", "[I", false)
  | 2 => ("SyntaxForge$Scanner", "numbers", "[J", false)
  | 3 => ("SyntaxForge$Scanner", "count", "I", false)
  | 4 => ("SyntaxForge$Scanner", "told", "I", false)
  | 5 => ("SyntaxForge$Scanner", "tape", "LSyntaxForge$Bytes;", false)
  | 6 => ("SyntaxForge$Scanner", "names", "LSyntaxForge$Schema;", false)
  | _ => ("SyntaxForge$Scanner", "adding", "Z", false)
def t_Scanner : Nat → FieldType := fun k => match k with
  | 0 => .array .int
  | 1 => .array .int
  | 2 => .array .long
  | 3 => .int
  | 4 => .int
  | 5 => .object "SyntaxForge$Bytes"
  | 6 => .object "SyntaxForge$Schema"
  | _ => .boolean
theorem n_Scanner : ∀ a, a < 8 → ∀ b, b < 8 → a ≠ b → (F_Scanner a).2.1 ≠ (F_Scanner b).2.1 := by decide +kernel
theorem t_Scanner_ok : ∀ k, k < 8 → parseFieldDescriptor (F_Scanner k).2.2.1 = some (t_Scanner k) := by decide +kernel
def R_Parser : String := "SyntaxForge$Parser"
def F_Parser : u_T := fun k => match k with
  | 0 => ("SyntaxForge$Parser", "scanner", "LSyntaxForge$Scanner;", true)
  | 1 => ("SyntaxForge$Parser", "unended", "[LSyntaxForge$Value;", true)
  | 2 => ("SyntaxForge$Parser", "tape", "LSyntaxForge$Bytes;", false)
  | 3 => ("SyntaxForge$Parser", "schema", "LSyntaxForge$Schema;", false)
  | 4 => ("SyntaxForge$Parser", "values", "LSyntaxForge$Values;", false)
  | 5 => ("SyntaxForge$Parser", "at", "I", false)
  | _ => ("SyntaxForge$Parser", "label", "I", false)
def t_Parser : Nat → FieldType := fun k => match k with
  | 0 => .object "SyntaxForge$Scanner"
  | 1 => .array (.object "SyntaxForge$Value")
  | 2 => .object "SyntaxForge$Bytes"
  | 3 => .object "SyntaxForge$Schema"
  | 4 => .object "SyntaxForge$Values"
  | 5 => .int
  | _ => .int
theorem n_Parser : ∀ a, a < 7 → ∀ b, b < 7 → a ≠ b → (F_Parser a).2.1 ≠ (F_Parser b).2.1 := by decide +kernel
theorem t_Parser_ok : ∀ k, k < 7 → parseFieldDescriptor (F_Parser k).2.2.1 = some (t_Parser k) := by decide +kernel
def R_Der : String := "SyntaxForge$Der"
def F_Der : u_T := fun k => match k with
  | 0 => ("SyntaxForge$Der", "row", "[LSyntaxForge$Value;", false)
  | 1 => ("SyntaxForge$Der", "merged", "[LSyntaxForge$Value;", false)
  | _ => ("SyntaxForge$Der", "widths", "[I", false)
def t_Der : Nat → FieldType := fun k => match k with
  | 0 => .array (.object "SyntaxForge$Value")
  | 1 => .array (.object "SyntaxForge$Value")
  | _ => .array .int
theorem n_Der : ∀ a, a < 3 → ∀ b, b < 3 → a ≠ b → (F_Der a).2.1 ≠ (F_Der b).2.1 := by decide +kernel
theorem t_Der_ok : ∀ k, k < 3 → parseFieldDescriptor (F_Der k).2.2.1 = some (t_Der k) := by decide +kernel
def R_Ber : String := "SyntaxForge$BerReader"
def F_Ber : u_T := fun k => match k with
  | 0 => ("SyntaxForge$BerReader", "values", "LSyntaxForge$Values;", true)
  | 1 => ("SyntaxForge$BerReader", "order", "LSyntaxForge$Der;", true)
  | 2 => ("SyntaxForge$BerReader", "ends", "[I", true)
  | 3 => ("SyntaxForge$BerReader", "limits", "[I", true)
  | 4 => ("SyntaxForge$BerReader", "in", "LSyntaxForge$Bytes;", false)
  | 5 => ("SyntaxForge$BerReader", "schema", "LSyntaxForge$Schema;", false)
  | 6 => ("SyntaxForge$BerReader", "strict", "Z", false)
  | 7 => ("SyntaxForge$BerReader", "at", "I", false)
  | 8 => ("SyntaxForge$BerReader", "tag", "J", false)
  | 9 => ("SyntaxForge$BerReader", "constructed", "Z", false)
  | _ => ("SyntaxForge$BerReader", "stop", "I", false)
def t_Ber : Nat → FieldType := fun k => match k with
  | 0 => .object "SyntaxForge$Values"
  | 1 => .object "SyntaxForge$Der"
  | 2 => .array .int
  | 3 => .array .int
  | 4 => .object "SyntaxForge$Bytes"
  | 5 => .object "SyntaxForge$Schema"
  | 6 => .boolean
  | 7 => .int
  | 8 => .long
  | 9 => .boolean
  | _ => .int
theorem n_Ber : ∀ a, a < 11 → ∀ b, b < 11 → a ≠ b → (F_Ber a).2.1 ≠ (F_Ber b).2.1 := by decide +kernel
theorem t_Ber_ok : ∀ k, k < 11 → parseFieldDescriptor (F_Ber k).2.2.1 = some (t_Ber k) := by decide +kernel
def R_PerW : String := "SyntaxForge$PerWriter"
def F_PerW : u_T := fun k => match k with
  | 0 => ("SyntaxForge$PerWriter", "out", "LSyntaxForge$Bytes;", false)
  | _ => ("SyntaxForge$PerWriter", "at", "I", false)
def t_PerW : Nat → FieldType := fun k => match k with
  | 0 => .object "SyntaxForge$Bytes"
  | _ => .int
theorem n_PerW : ∀ a, a < 2 → ∀ b, b < 2 → a ≠ b → (F_PerW a).2.1 ≠ (F_PerW b).2.1 := by decide +kernel
theorem t_PerW_ok : ∀ k, k < 2 → parseFieldDescriptor (F_PerW k).2.2.1 = some (t_PerW k) := by decide +kernel
def R_PerR : String := "SyntaxForge$PerReader"
def F_PerR : u_T := fun k => match k with
  | 0 => ("SyntaxForge$PerReader", "values", "LSyntaxForge$Values;", true)
  | 1 => ("SyntaxForge$PerReader", "in", "LSyntaxForge$Bytes;", false)
  | 2 => ("SyntaxForge$PerReader", "at", "I", false)
  | 3 => ("SyntaxForge$PerReader", "limit", "I", false)
  | 4 => ("SyntaxForge$PerReader", "listed", "I", false)
  | _ => ("SyntaxForge$PerReader", "strange", "I", false)
def t_PerR : Nat → FieldType := fun k => match k with
  | 0 => .object "SyntaxForge$Values"
  | 1 => .object "SyntaxForge$Bytes"
  | 2 => .int
  | 3 => .int
  | 4 => .int
  | _ => .int
theorem n_PerR : ∀ a, a < 6 → ∀ b, b < 6 → a ≠ b → (F_PerR a).2.1 ≠ (F_PerR b).2.1 := by decide +kernel
theorem t_PerR_ok : ∀ k, k < 6 → parseFieldDescriptor (F_PerR k).2.2.1 = some (t_PerR k) := by decide +kernel
def R_SF : String := "SyntaxForge"
def F_SF : u_T := fun k => match k with
  | 0 => ("SyntaxForge", "tape", "LSyntaxForge$Bytes;", false)
  | 1 => ("SyntaxForge", "taken", "LSyntaxForge$Bytes;", false)
  | 2 => ("SyntaxForge", "result", "LSyntaxForge$Bytes;", false)
  | 3 => ("SyntaxForge", "out", "LSyntaxForge$Bytes;", false)
  | 4 => ("SyntaxForge", "hasText", "Z", false)
  | 5 => ("SyntaxForge", "schema", "LSyntaxForge$Schema;", false)
  | 6 => ("SyntaxForge", "spare", "LSyntaxForge$Schema;", false)
  | 7 => ("SyntaxForge", "scanner", "LSyntaxForge$Scanner;", true)
  | 8 => ("SyntaxForge", "parser", "LSyntaxForge$Parser;", true)
  | 9 => ("SyntaxForge", "values", "LSyntaxForge$Values;", true)
  | 10 => ("SyntaxForge", "der", "LSyntaxForge$Der;", true)
  | 11 => ("SyntaxForge", "berReader", "LSyntaxForge$BerReader;", true)
  | 12 => ("SyntaxForge", "perWriter", "LSyntaxForge$PerWriter;", true)
  | _ => ("SyntaxForge", "perReader", "LSyntaxForge$PerReader;", true)
def t_SF : Nat → FieldType := fun k => match k with
  | 0 => .object "SyntaxForge$Bytes"
  | 1 => .object "SyntaxForge$Bytes"
  | 2 => .object "SyntaxForge$Bytes"
  | 3 => .object "SyntaxForge$Bytes"
  | 4 => .boolean
  | 5 => .object "SyntaxForge$Schema"
  | 6 => .object "SyntaxForge$Schema"
  | 7 => .object "SyntaxForge$Scanner"
  | 8 => .object "SyntaxForge$Parser"
  | 9 => .object "SyntaxForge$Values"
  | 10 => .object "SyntaxForge$Der"
  | 11 => .object "SyntaxForge$BerReader"
  | 12 => .object "SyntaxForge$PerWriter"
  | _ => .object "SyntaxForge$PerReader"
theorem n_SF : ∀ a, a < 14 → ∀ b, b < 14 → a ≠ b → (F_SF a).2.1 ≠ (F_SF b).2.1 := by decide +kernel
theorem t_SF_ok : ∀ k, k < 14 → parseFieldDescriptor (F_SF k).2.2.1 = some (t_SF k) := by decide +kernel
def R_Mo : String := "SyntaxForgeModel"
def F_Mo : u_T := fun k => match k with
  | 0 => ("SyntaxForgeModel", "failed", "I", false)
  | 1 => ("SyntaxForgeModel", "tape", "[B", true)
  | 2 => ("SyntaxForgeModel", "taped", "I", false)
  | 3 => ("SyntaxForgeModel", "result", "[B", true)
  | 4 => ("SyntaxForgeModel", "size", "I", false)
  | 5 => ("SyntaxForgeModel", "place", "I", false)
  | 6 => ("SyntaxForgeModel", "signs", "[Ljava/lang/String;", true)
  | 7 => ("SyntaxForgeModel", "keptWords", "[Ljava/lang/String;", true)
  | 8 => ("SyntaxForgeModel", "token", "I", false)
  | 9 => ("SyntaxForgeModel", "from", "I", false)
  | 10 => ("SyntaxForgeModel", "to", "I", false)
  | 11 => ("SyntaxForgeModel", "number", "J", false)
  | 12 => ("SyntaxForgeModel", "word", "Ljava/lang/String;", false)
  | 13 => ("SyntaxForgeModel", "at", "I", false)
  | 14 => ("SyntaxForgeModel", "valuesOpen", "I", false)
  | 15 => ("SyntaxForgeModel", "typesOpen", "I", false)
  | 16 => ("SyntaxForgeModel", "spelled", "LSyntaxForgeModel$Chars;", true)
  | 17 => ("SyntaxForgeModel", "pieced", "LSyntaxForgeModel$Chars;", true)
  | 18 => ("SyntaxForgeModel", "hexes", "LSyntaxForgeModel$Chars;", true)
  | 19 => ("SyntaxForgeModel", "words", "[Ljava/lang/String;", false)
  | 20 => ("SyntaxForgeModel", "nextWords", "[I", false)
  | 21 => ("SyntaxForgeModel", "firstWords", "[I", true)
  | 22 => ("SyntaxForgeModel", "wordCount", "I", false)
  | 23 => ("SyntaxForgeModel", "pool", "[LSyntaxForgeModel$Value;", false)
  | 24 => ("SyntaxForgeModel", "pooled", "I", false)
  | 25 => ("SyntaxForgeModel", "pooling", "Z", false)
  | 26 => ("SyntaxForgeModel", "module", "LSyntaxForgeModel$Module;", false)
  | 27 => ("SyntaxForgeModel", "reading", "LSyntaxForgeModel$Module;", false)
  | 28 => ("SyntaxForgeModel", "chain", "[LSyntaxForgeModel$Type;", false)
  | 29 => ("SyntaxForgeModel", "waiting", "[LSyntaxForgeModel$Type;", false)
  | 30 => ("SyntaxForgeModel", "stamp", "I", false)
  | 31 => ("SyntaxForgeModel", "settledNow", "Z", false)
  | 32 => ("SyntaxForgeModel", "back", "[B", true)
  | 33 => ("SyntaxForgeModel", "spare", "[B", true)
  | 34 => ("SyntaxForgeModel", "pos", "I", false)
  | 35 => ("SyntaxForgeModel", "packed", "[B", true)
  | 36 => ("SyntaxForgeModel", "bits", "I", false)
  | 37 => ("SyntaxForgeModel", "in", "I", false)
  | 38 => ("SyntaxForgeModel", "end", "I", false)
  | 39 => ("SyntaxForgeModel", "strict", "Z", false)
  | 40 => ("SyntaxForgeModel", "within", "I", false)
  | 41 => ("SyntaxForgeModel", "gotTag", "J", false)
  | 42 => ("SyntaxForgeModel", "gotMany", "Z", false)
  | 43 => ("SyntaxForgeModel", "gotStop", "I", false)
  | 44 => ("SyntaxForgeModel", "closed", "Z", false)
  | 45 => ("SyntaxForgeModel", "bit", "J", false)
  | 46 => ("SyntaxForgeModel", "bitEnd", "J", false)
  | 47 => ("SyntaxForgeModel", "theres", "[[Z", true)
  | 48 => ("SyntaxForgeModel", "goesOn", "Z", false)
  | 49 => ("SyntaxForgeModel", "lastPortion", "I", false)
  | 50 => ("SyntaxForgeModel", "begun", "I", false)
  | 51 => ("SyntaxForgeModel", "gathered", "J", false)
  | _ => ("SyntaxForgeModel", "gatheredSize", "I", false)
def t_Mo : Nat → FieldType := fun k => match k with
  | 0 => .int
  | 1 => .array .byte
  | 2 => .int
  | 3 => .array .byte
  | 4 => .int
  | 5 => .int
  | 6 => .array (.object "java/lang/String")
  | 7 => .array (.object "java/lang/String")
  | 8 => .int
  | 9 => .int
  | 10 => .int
  | 11 => .long
  | 12 => .object "java/lang/String"
  | 13 => .int
  | 14 => .int
  | 15 => .int
  | 16 => .object "SyntaxForgeModel$Chars"
  | 17 => .object "SyntaxForgeModel$Chars"
  | 18 => .object "SyntaxForgeModel$Chars"
  | 19 => .array (.object "java/lang/String")
  | 20 => .array .int
  | 21 => .array .int
  | 22 => .int
  | 23 => .array (.object "SyntaxForgeModel$Value")
  | 24 => .int
  | 25 => .boolean
  | 26 => .object "SyntaxForgeModel$Module"
  | 27 => .object "SyntaxForgeModel$Module"
  | 28 => .array (.object "SyntaxForgeModel$Type")
  | 29 => .array (.object "SyntaxForgeModel$Type")
  | 30 => .int
  | 31 => .boolean
  | 32 => .array .byte
  | 33 => .array .byte
  | 34 => .int
  | 35 => .array .byte
  | 36 => .int
  | 37 => .int
  | 38 => .int
  | 39 => .boolean
  | 40 => .int
  | 41 => .long
  | 42 => .boolean
  | 43 => .int
  | 44 => .boolean
  | 45 => .long
  | 46 => .long
  | 47 => .array (.array .boolean)
  | 48 => .boolean
  | 49 => .int
  | 50 => .int
  | 51 => .long
  | _ => .int
theorem n_Mo : ∀ a, a < 53 → ∀ b, b < 53 → a ≠ b → (F_Mo a).2.1 ≠ (F_Mo b).2.1 := by decide +kernel
theorem t_Mo_ok : ∀ k, k < 53 → parseFieldDescriptor (F_Mo k).2.2.1 = some (t_Mo k) := by decide +kernel
def R_Chars : String := "SyntaxForgeModel$Chars"
def F_Chars : u_T := fun k => match k with
  | 0 => ("SyntaxForgeModel$Chars", "row", "[C", false)
  | _ => ("SyntaxForgeModel$Chars", "n", "I", false)
def t_Chars : Nat → FieldType := fun k => match k with
  | 0 => .array .char
  | _ => .int
theorem n_Chars : ∀ a, a < 2 → ∀ b, b < 2 → a ≠ b → (F_Chars a).2.1 ≠ (F_Chars b).2.1 := by decide +kernel
theorem t_Chars_ok : ∀ k, k < 2 → parseFieldDescriptor (F_Chars k).2.2.1 = some (t_Chars k) := by decide +kernel
theorem i_Bytes : ∀ w ∈ u_ws R_Bytes F_Bytes 2, w ∈ tw_tbl := by
  show ∀ w ∈ [Cond.lays "SyntaxForge$Bytes" "SyntaxForge$Bytes" "at" "[B", Cond.lays "SyntaxForge$Bytes" "SyntaxForge$Bytes" "length" "I"], w ∈ tw_tbl
  exact List.forall_mem_cons.mpr ⟨wd_1_75, List.forall_mem_cons.mpr ⟨wd_1_77, fun _ h => absurd h List.not_mem_nil⟩⟩
theorem i_AL : ∀ w ∈ u_ws R_AL F_AL 3, w ∈ tw_tbl := by
  show ∀ w ∈ [Cond.lays "java/util/ArrayList" "java/util/ArrayList" "elementData" "[Ljava/lang/Object;", Cond.lays "java/util/ArrayList" "java/util/ArrayList" "size" "I", Cond.lays "java/util/ArrayList" "java/util/AbstractList" "modCount" "I"], w ∈ tw_tbl
  exact List.forall_mem_cons.mpr ⟨wd_1_106, List.forall_mem_cons.mpr ⟨wd_1_108, List.forall_mem_cons.mpr ⟨wd_1_110, fun _ h => absurd h List.not_mem_nil⟩⟩⟩
theorem i_Values : ∀ w ∈ u_ws R_Values F_Values 3, w ∈ tw_tbl := by
  show ∀ w ∈ [Cond.laysFinal "SyntaxForge$Values" "SyntaxForge$Values" "all" "Ljava/util/ArrayList;", Cond.laysFinal "SyntaxForge$Values" "SyntaxForge$Values" "data" "LSyntaxForge$Bytes;", Cond.lays "SyntaxForge$Values" "SyntaxForge$Values" "used" "I"], w ∈ tw_tbl
  exact List.forall_mem_cons.mpr ⟨wd_1_138, List.forall_mem_cons.mpr ⟨wd_1_140, List.forall_mem_cons.mpr ⟨wd_1_142, fun _ h => absurd h List.not_mem_nil⟩⟩⟩
theorem i_Schema : ∀ w ∈ u_ws R_Schema F_Schema 19, w ∈ tw_tbl := by
  show ∀ w ∈ [Cond.laysFinal "SyntaxForge$Schema" "SyntaxForge$Schema" "assigned" "Ljava/util/ArrayList;", Cond.laysFinal "SyntaxForge$Schema" "SyntaxForge$Schema" "defaults" "LSyntaxForge$Values;", Cond.lays "SyntaxForge$Schema" "SyntaxForge$Schema" "mode" "I", Cond.lays "SyntaxForge$Schema" "SyntaxForge$Schema" "broken" "Z", Cond.laysFinal "SyntaxForge$Schema" "SyntaxForge$Schema" "types" "Ljava/util/ArrayList;", Cond.laysFinal "SyntaxForge$Schema" "SyntaxForge$Schema" "standards" "Ljava/util/ArrayList;", Cond.laysFinal "SyntaxForge$Schema" "SyntaxForge$Schema" "path" "Ljava/util/ArrayList;", Cond.laysFinal "SyntaxForge$Schema" "SyntaxForge$Schema" "words" "LSyntaxForge$Bytes;", Cond.laysFinal "SyntaxForge$Schema" "SyntaxForge$Schema" "letters" "LSyntaxForge$Bytes;", Cond.laysFinal "SyntaxForge$Schema" "SyntaxForge$Schema" "buckets" "[I", Cond.lays "SyntaxForge$Schema" "SyntaxForge$Schema" "starts" "[I", Cond.lays "SyntaxForge$Schema" "SyntaxForge$Schema" "lengths" "[I", Cond.lays "SyntaxForge$Schema" "SyntaxForge$Schema" "nexts" "[I", Cond.lays "SyntaxForge$Schema" "SyntaxForge$Schema" "owners" "[I", Cond.lays "SyntaxForge$Schema" "SyntaxForge$Schema" "symbols" "I", Cond.lays "SyntaxForge$Schema" "SyntaxForge$Schema" "steps" "[I", Cond.lays "SyntaxForge$Schema" "SyntaxForge$Schema" "keys" "[J", Cond.lays "SyntaxForge$Schema" "SyntaxForge$Schema" "stamps" "[I", Cond.lays "SyntaxForge$Schema" "SyntaxForge$Schema" "stamp" "I"], w ∈ tw_tbl
  exact List.forall_mem_cons.mpr ⟨wd_2_41, List.forall_mem_cons.mpr ⟨wd_2_43, List.forall_mem_cons.mpr ⟨wd_2_45, List.forall_mem_cons.mpr ⟨wd_2_47, List.forall_mem_cons.mpr ⟨wd_2_49, List.forall_mem_cons.mpr ⟨wd_2_51, List.forall_mem_cons.mpr ⟨wd_2_53, List.forall_mem_cons.mpr ⟨wd_2_55, List.forall_mem_cons.mpr ⟨wd_2_57, List.forall_mem_cons.mpr ⟨wd_2_59, List.forall_mem_cons.mpr ⟨wd_2_61, List.forall_mem_cons.mpr ⟨wd_2_63, List.forall_mem_cons.mpr ⟨wd_2_65, List.forall_mem_cons.mpr ⟨wd_2_67, List.forall_mem_cons.mpr ⟨wd_2_69, List.forall_mem_cons.mpr ⟨wd_2_71, List.forall_mem_cons.mpr ⟨wd_2_73, List.forall_mem_cons.mpr ⟨wd_2_75, List.forall_mem_cons.mpr ⟨wd_2_77, fun _ h => absurd h List.not_mem_nil⟩⟩⟩⟩⟩⟩⟩⟩⟩⟩⟩⟩⟩⟩⟩⟩⟩⟩⟩
theorem i_Scanner : ∀ w ∈ u_ws R_Scanner F_Scanner 8, w ∈ tw_tbl := by
  show ∀ w ∈ [Cond.lays "SyntaxForge$Scanner" "SyntaxForge$Scanner" "kinds" "[I", Cond.lays "SyntaxForge$Scanner" "SyntaxForge$Scanner" "places" "[I", Cond.lays "SyntaxForge$Scanner" "SyntaxForge$Scanner" "numbers" "[J", Cond.lays "SyntaxForge$Scanner" "SyntaxForge$Scanner" "count" "I", Cond.lays "SyntaxForge$Scanner" "SyntaxForge$Scanner" "told" "I", Cond.lays "SyntaxForge$Scanner" "SyntaxForge$Scanner" "tape" "LSyntaxForge$Bytes;", Cond.lays "SyntaxForge$Scanner" "SyntaxForge$Scanner" "names" "LSyntaxForge$Schema;", Cond.lays "SyntaxForge$Scanner" "SyntaxForge$Scanner" "adding" "Z"], w ∈ tw_tbl
  exact List.forall_mem_cons.mpr ⟨wd_2_102, List.forall_mem_cons.mpr ⟨wd_2_104, List.forall_mem_cons.mpr ⟨wd_2_106, List.forall_mem_cons.mpr ⟨wd_2_108, List.forall_mem_cons.mpr ⟨wd_2_110, List.forall_mem_cons.mpr ⟨wd_2_112, List.forall_mem_cons.mpr ⟨wd_2_114, List.forall_mem_cons.mpr ⟨wd_2_116, fun _ h => absurd h List.not_mem_nil⟩⟩⟩⟩⟩⟩⟩⟩
theorem i_Parser : ∀ w ∈ u_ws R_Parser F_Parser 7, w ∈ tw_tbl := by
  show ∀ w ∈ [Cond.laysFinal "SyntaxForge$Parser" "SyntaxForge$Parser" "scanner" "LSyntaxForge$Scanner;", Cond.laysFinal "SyntaxForge$Parser" "SyntaxForge$Parser" "unended" "[LSyntaxForge$Value;", Cond.lays "SyntaxForge$Parser" "SyntaxForge$Parser" "tape" "LSyntaxForge$Bytes;", Cond.lays "SyntaxForge$Parser" "SyntaxForge$Parser" "schema" "LSyntaxForge$Schema;", Cond.lays "SyntaxForge$Parser" "SyntaxForge$Parser" "values" "LSyntaxForge$Values;", Cond.lays "SyntaxForge$Parser" "SyntaxForge$Parser" "at" "I", Cond.lays "SyntaxForge$Parser" "SyntaxForge$Parser" "label" "I"], w ∈ tw_tbl
  exact List.forall_mem_cons.mpr ⟨wd_2_134, List.forall_mem_cons.mpr ⟨wd_2_136, List.forall_mem_cons.mpr ⟨wd_2_138, List.forall_mem_cons.mpr ⟨wd_2_140, List.forall_mem_cons.mpr ⟨wd_2_142, List.forall_mem_cons.mpr ⟨wd_2_144, List.forall_mem_cons.mpr ⟨wd_2_146, fun _ h => absurd h List.not_mem_nil⟩⟩⟩⟩⟩⟩⟩
theorem i_Der : ∀ w ∈ u_ws R_Der F_Der 3, w ∈ tw_tbl := by
  show ∀ w ∈ [Cond.lays "SyntaxForge$Der" "SyntaxForge$Der" "row" "[LSyntaxForge$Value;", Cond.lays "SyntaxForge$Der" "SyntaxForge$Der" "merged" "[LSyntaxForge$Value;", Cond.lays "SyntaxForge$Der" "SyntaxForge$Der" "widths" "[I"], w ∈ tw_tbl
  exact List.forall_mem_cons.mpr ⟨wd_2_161, List.forall_mem_cons.mpr ⟨wd_2_163, List.forall_mem_cons.mpr ⟨wd_2_165, fun _ h => absurd h List.not_mem_nil⟩⟩⟩
theorem i_Ber : ∀ w ∈ u_ws R_Ber F_Ber 11, w ∈ tw_tbl := by
  show ∀ w ∈ [Cond.laysFinal "SyntaxForge$BerReader" "SyntaxForge$BerReader" "values" "LSyntaxForge$Values;", Cond.laysFinal "SyntaxForge$BerReader" "SyntaxForge$BerReader" "order" "LSyntaxForge$Der;", Cond.laysFinal "SyntaxForge$BerReader" "SyntaxForge$BerReader" "ends" "[I", Cond.laysFinal "SyntaxForge$BerReader" "SyntaxForge$BerReader" "limits" "[I", Cond.lays "SyntaxForge$BerReader" "SyntaxForge$BerReader" "in" "LSyntaxForge$Bytes;", Cond.lays "SyntaxForge$BerReader" "SyntaxForge$BerReader" "schema" "LSyntaxForge$Schema;", Cond.lays "SyntaxForge$BerReader" "SyntaxForge$BerReader" "strict" "Z", Cond.lays "SyntaxForge$BerReader" "SyntaxForge$BerReader" "at" "I", Cond.lays "SyntaxForge$BerReader" "SyntaxForge$BerReader" "tag" "J", Cond.lays "SyntaxForge$BerReader" "SyntaxForge$BerReader" "constructed" "Z", Cond.lays "SyntaxForge$BerReader" "SyntaxForge$BerReader" "stop" "I"], w ∈ tw_tbl
  exact List.forall_mem_cons.mpr ⟨wd_2_185, List.forall_mem_cons.mpr ⟨wd_2_187, List.forall_mem_cons.mpr ⟨wd_2_189, List.forall_mem_cons.mpr ⟨wd_2_191, List.forall_mem_cons.mpr ⟨wd_2_193, List.forall_mem_cons.mpr ⟨wd_2_195, List.forall_mem_cons.mpr ⟨wd_2_197, List.forall_mem_cons.mpr ⟨wd_2_199, List.forall_mem_cons.mpr ⟨wd_2_201, List.forall_mem_cons.mpr ⟨wd_2_203, List.forall_mem_cons.mpr ⟨wd_2_205, fun _ h => absurd h List.not_mem_nil⟩⟩⟩⟩⟩⟩⟩⟩⟩⟩⟩
theorem i_PerW : ∀ w ∈ u_ws R_PerW F_PerW 2, w ∈ tw_tbl := by
  show ∀ w ∈ [Cond.lays "SyntaxForge$PerWriter" "SyntaxForge$PerWriter" "out" "LSyntaxForge$Bytes;", Cond.lays "SyntaxForge$PerWriter" "SyntaxForge$PerWriter" "at" "I"], w ∈ tw_tbl
  exact List.forall_mem_cons.mpr ⟨wd_2_216, List.forall_mem_cons.mpr ⟨wd_2_218, fun _ h => absurd h List.not_mem_nil⟩⟩
theorem i_PerR : ∀ w ∈ u_ws R_PerR F_PerR 6, w ∈ tw_tbl := by
  show ∀ w ∈ [Cond.laysFinal "SyntaxForge$PerReader" "SyntaxForge$PerReader" "values" "LSyntaxForge$Values;", Cond.lays "SyntaxForge$PerReader" "SyntaxForge$PerReader" "in" "LSyntaxForge$Bytes;", Cond.lays "SyntaxForge$PerReader" "SyntaxForge$PerReader" "at" "I", Cond.lays "SyntaxForge$PerReader" "SyntaxForge$PerReader" "limit" "I", Cond.lays "SyntaxForge$PerReader" "SyntaxForge$PerReader" "listed" "I", Cond.lays "SyntaxForge$PerReader" "SyntaxForge$PerReader" "strange" "I"], w ∈ tw_tbl
  exact List.forall_mem_cons.mpr ⟨wd_2_233, List.forall_mem_cons.mpr ⟨wd_2_235, List.forall_mem_cons.mpr ⟨wd_2_237, List.forall_mem_cons.mpr ⟨wd_2_239, List.forall_mem_cons.mpr ⟨wd_3_1, List.forall_mem_cons.mpr ⟨wd_3_3, fun _ h => absurd h List.not_mem_nil⟩⟩⟩⟩⟩⟩
theorem i_SF : ∀ w ∈ u_ws R_SF F_SF 14, w ∈ tw_tbl := by
  show ∀ w ∈ [Cond.lays "SyntaxForge" "SyntaxForge" "tape" "LSyntaxForge$Bytes;", Cond.lays "SyntaxForge" "SyntaxForge" "taken" "LSyntaxForge$Bytes;", Cond.lays "SyntaxForge" "SyntaxForge" "result" "LSyntaxForge$Bytes;", Cond.lays "SyntaxForge" "SyntaxForge" "out" "LSyntaxForge$Bytes;", Cond.lays "SyntaxForge" "SyntaxForge" "hasText" "Z", Cond.lays "SyntaxForge" "SyntaxForge" "schema" "LSyntaxForge$Schema;", Cond.lays "SyntaxForge" "SyntaxForge" "spare" "LSyntaxForge$Schema;", Cond.laysFinal "SyntaxForge" "SyntaxForge" "scanner" "LSyntaxForge$Scanner;", Cond.laysFinal "SyntaxForge" "SyntaxForge" "parser" "LSyntaxForge$Parser;", Cond.laysFinal "SyntaxForge" "SyntaxForge" "values" "LSyntaxForge$Values;", Cond.laysFinal "SyntaxForge" "SyntaxForge" "der" "LSyntaxForge$Der;", Cond.laysFinal "SyntaxForge" "SyntaxForge" "berReader" "LSyntaxForge$BerReader;", Cond.laysFinal "SyntaxForge" "SyntaxForge" "perWriter" "LSyntaxForge$PerWriter;", Cond.laysFinal "SyntaxForge" "SyntaxForge" "perReader" "LSyntaxForge$PerReader;"], w ∈ tw_tbl
  exact List.forall_mem_cons.mpr ⟨wd_3_20, List.forall_mem_cons.mpr ⟨wd_3_22, List.forall_mem_cons.mpr ⟨wd_3_24, List.forall_mem_cons.mpr ⟨wd_3_26, List.forall_mem_cons.mpr ⟨wd_3_28, List.forall_mem_cons.mpr ⟨wd_3_30, List.forall_mem_cons.mpr ⟨wd_3_32, List.forall_mem_cons.mpr ⟨wd_3_34, List.forall_mem_cons.mpr ⟨wd_3_36, List.forall_mem_cons.mpr ⟨wd_3_38, List.forall_mem_cons.mpr ⟨wd_3_40, List.forall_mem_cons.mpr ⟨wd_3_42, List.forall_mem_cons.mpr ⟨wd_3_44, List.forall_mem_cons.mpr ⟨wd_3_46, fun _ h => absurd h List.not_mem_nil⟩⟩⟩⟩⟩⟩⟩⟩⟩⟩⟩⟩⟩⟩
theorem i_Mo : ∀ w ∈ u_ws R_Mo F_Mo 53, w ∈ tw_tbl := by
  show ∀ w ∈ [Cond.lays "SyntaxForgeModel" "SyntaxForgeModel" "failed" "I", Cond.laysFinal "SyntaxForgeModel" "SyntaxForgeModel" "tape" "[B", Cond.lays "SyntaxForgeModel" "SyntaxForgeModel" "taped" "I", Cond.laysFinal "SyntaxForgeModel" "SyntaxForgeModel" "result" "[B", Cond.lays "SyntaxForgeModel" "SyntaxForgeModel" "size" "I", Cond.lays "SyntaxForgeModel" "SyntaxForgeModel" "place" "I", Cond.laysFinal "SyntaxForgeModel" "SyntaxForgeModel" "signs" "[Ljava/lang/String;", Cond.laysFinal "SyntaxForgeModel" "SyntaxForgeModel" "keptWords" "[Ljava/lang/String;", Cond.lays "SyntaxForgeModel" "SyntaxForgeModel" "token" "I", Cond.lays "SyntaxForgeModel" "SyntaxForgeModel" "from" "I", Cond.lays "SyntaxForgeModel" "SyntaxForgeModel" "to" "I", Cond.lays "SyntaxForgeModel" "SyntaxForgeModel" "number" "J", Cond.lays "SyntaxForgeModel" "SyntaxForgeModel" "word" "Ljava/lang/String;", Cond.lays "SyntaxForgeModel" "SyntaxForgeModel" "at" "I", Cond.lays "SyntaxForgeModel" "SyntaxForgeModel" "valuesOpen" "I", Cond.lays "SyntaxForgeModel" "SyntaxForgeModel" "typesOpen" "I", Cond.laysFinal "SyntaxForgeModel" "SyntaxForgeModel" "spelled" "LSyntaxForgeModel$Chars;", Cond.laysFinal "SyntaxForgeModel" "SyntaxForgeModel" "pieced" "LSyntaxForgeModel$Chars;", Cond.laysFinal "SyntaxForgeModel" "SyntaxForgeModel" "hexes" "LSyntaxForgeModel$Chars;", Cond.lays "SyntaxForgeModel" "SyntaxForgeModel" "words" "[Ljava/lang/String;", Cond.lays "SyntaxForgeModel" "SyntaxForgeModel" "nextWords" "[I", Cond.laysFinal "SyntaxForgeModel" "SyntaxForgeModel" "firstWords" "[I", Cond.lays "SyntaxForgeModel" "SyntaxForgeModel" "wordCount" "I", Cond.lays "SyntaxForgeModel" "SyntaxForgeModel" "pool" "[LSyntaxForgeModel$Value;", Cond.lays "SyntaxForgeModel" "SyntaxForgeModel" "pooled" "I", Cond.lays "SyntaxForgeModel" "SyntaxForgeModel" "pooling" "Z", Cond.lays "SyntaxForgeModel" "SyntaxForgeModel" "module" "LSyntaxForgeModel$Module;", Cond.lays "SyntaxForgeModel" "SyntaxForgeModel" "reading" "LSyntaxForgeModel$Module;", Cond.lays "SyntaxForgeModel" "SyntaxForgeModel" "chain" "[LSyntaxForgeModel$Type;", Cond.lays "SyntaxForgeModel" "SyntaxForgeModel" "waiting" "[LSyntaxForgeModel$Type;", Cond.lays "SyntaxForgeModel" "SyntaxForgeModel" "stamp" "I", Cond.lays "SyntaxForgeModel" "SyntaxForgeModel" "settledNow" "Z", Cond.laysFinal "SyntaxForgeModel" "SyntaxForgeModel" "back" "[B", Cond.laysFinal "SyntaxForgeModel" "SyntaxForgeModel" "spare" "[B", Cond.lays "SyntaxForgeModel" "SyntaxForgeModel" "pos" "I", Cond.laysFinal "SyntaxForgeModel" "SyntaxForgeModel" "packed" "[B", Cond.lays "SyntaxForgeModel" "SyntaxForgeModel" "bits" "I", Cond.lays "SyntaxForgeModel" "SyntaxForgeModel" "in" "I", Cond.lays "SyntaxForgeModel" "SyntaxForgeModel" "end" "I", Cond.lays "SyntaxForgeModel" "SyntaxForgeModel" "strict" "Z", Cond.lays "SyntaxForgeModel" "SyntaxForgeModel" "within" "I", Cond.lays "SyntaxForgeModel" "SyntaxForgeModel" "gotTag" "J", Cond.lays "SyntaxForgeModel" "SyntaxForgeModel" "gotMany" "Z", Cond.lays "SyntaxForgeModel" "SyntaxForgeModel" "gotStop" "I", Cond.lays "SyntaxForgeModel" "SyntaxForgeModel" "closed" "Z", Cond.lays "SyntaxForgeModel" "SyntaxForgeModel" "bit" "J", Cond.lays "SyntaxForgeModel" "SyntaxForgeModel" "bitEnd" "J", Cond.laysFinal "SyntaxForgeModel" "SyntaxForgeModel" "theres" "[[Z", Cond.lays "SyntaxForgeModel" "SyntaxForgeModel" "goesOn" "Z", Cond.lays "SyntaxForgeModel" "SyntaxForgeModel" "lastPortion" "I", Cond.lays "SyntaxForgeModel" "SyntaxForgeModel" "begun" "I", Cond.lays "SyntaxForgeModel" "SyntaxForgeModel" "gathered" "J", Cond.lays "SyntaxForgeModel" "SyntaxForgeModel" "gatheredSize" "I"], w ∈ tw_tbl
  exact List.forall_mem_cons.mpr ⟨wd_10_100, List.forall_mem_cons.mpr ⟨wd_10_102, List.forall_mem_cons.mpr ⟨wd_10_104, List.forall_mem_cons.mpr ⟨wd_10_106, List.forall_mem_cons.mpr ⟨wd_10_108, List.forall_mem_cons.mpr ⟨wd_10_110, List.forall_mem_cons.mpr ⟨wd_10_112, List.forall_mem_cons.mpr ⟨wd_10_114, List.forall_mem_cons.mpr ⟨wd_10_116, List.forall_mem_cons.mpr ⟨wd_10_118, List.forall_mem_cons.mpr ⟨wd_10_120, List.forall_mem_cons.mpr ⟨wd_10_122, List.forall_mem_cons.mpr ⟨wd_10_124, List.forall_mem_cons.mpr ⟨wd_10_126, List.forall_mem_cons.mpr ⟨wd_10_128, List.forall_mem_cons.mpr ⟨wd_10_130, List.forall_mem_cons.mpr ⟨wd_10_132, List.forall_mem_cons.mpr ⟨wd_10_134, List.forall_mem_cons.mpr ⟨wd_10_136, List.forall_mem_cons.mpr ⟨wd_10_138, List.forall_mem_cons.mpr ⟨wd_10_140, List.forall_mem_cons.mpr ⟨wd_10_142, List.forall_mem_cons.mpr ⟨wd_10_144, List.forall_mem_cons.mpr ⟨wd_10_146, List.forall_mem_cons.mpr ⟨wd_10_148, List.forall_mem_cons.mpr ⟨wd_10_150, List.forall_mem_cons.mpr ⟨wd_10_152, List.forall_mem_cons.mpr ⟨wd_10_154, List.forall_mem_cons.mpr ⟨wd_10_156, List.forall_mem_cons.mpr ⟨wd_10_158, List.forall_mem_cons.mpr ⟨wd_10_160, List.forall_mem_cons.mpr ⟨wd_10_162, List.forall_mem_cons.mpr ⟨wd_10_164, List.forall_mem_cons.mpr ⟨wd_10_166, List.forall_mem_cons.mpr ⟨wd_10_168, List.forall_mem_cons.mpr ⟨wd_10_170, List.forall_mem_cons.mpr ⟨wd_10_172, List.forall_mem_cons.mpr ⟨wd_10_174, List.forall_mem_cons.mpr ⟨wd_10_176, List.forall_mem_cons.mpr ⟨wd_10_178, List.forall_mem_cons.mpr ⟨wd_10_180, List.forall_mem_cons.mpr ⟨wd_10_182, List.forall_mem_cons.mpr ⟨wd_10_184, List.forall_mem_cons.mpr ⟨wd_10_186, List.forall_mem_cons.mpr ⟨wd_10_188, List.forall_mem_cons.mpr ⟨wd_10_190, List.forall_mem_cons.mpr ⟨wd_10_192, List.forall_mem_cons.mpr ⟨wd_10_194, List.forall_mem_cons.mpr ⟨wd_10_196, List.forall_mem_cons.mpr ⟨wd_10_198, List.forall_mem_cons.mpr ⟨wd_10_200, List.forall_mem_cons.mpr ⟨wd_10_202, List.forall_mem_cons.mpr ⟨wd_10_204, fun _ h => absurd h List.not_mem_nil⟩⟩⟩⟩⟩⟩⟩⟩⟩⟩⟩⟩⟩⟩⟩⟩⟩⟩⟩⟩⟩⟩⟩⟩⟩⟩⟩⟩⟩⟩⟩⟩⟩⟩⟩⟩⟩⟩⟩⟩⟩⟩⟩⟩⟩⟩⟩⟩⟩⟩⟩⟩⟩
theorem i_Chars : ∀ w ∈ u_ws R_Chars F_Chars 2, w ∈ tw_tbl := by
  show ∀ w ∈ [Cond.lays "SyntaxForgeModel$Chars" "SyntaxForgeModel$Chars" "row" "[C", Cond.lays "SyntaxForgeModel$Chars" "SyntaxForgeModel$Chars" "n" "I"], w ∈ tw_tbl
  exact List.forall_mem_cons.mpr ⟨wd_10_34, List.forall_mem_cons.mpr ⟨wd_10_36, fun _ h => absurd h List.not_mem_nil⟩⟩
abbrev classes : List vw_C := [(R_Bytes, F_Bytes, 2), (R_AL, F_AL, 3), (R_Values, F_Values, 3), (R_Schema, F_Schema, 19), (R_Scanner, F_Scanner, 8), (R_Parser, F_Parser, 7), (R_Der, F_Der, 3), (R_Ber, F_Ber, 11), (R_PerW, F_PerW, 2), (R_PerR, F_PerR, 6), (R_SF, F_SF, 14), (R_Mo, F_Mo, 53), (R_Chars, F_Chars, 2)]
def R_AbL : String := "java/util/AbstractList"
def R_AbC : String := "java/util/AbstractCollection"
def R_Obj : String := "java/lang/Object"
def R_Arrs : String := "java/util/Arrays"
def R_Str : String := "java/lang/String"
def R_Lat : String := "java/lang/StringLatin1"
def R_Prec : String := "jdk/internal/util/Preconditions"
def y_Bytes_init : MethodName := ⟨"SyntaxForge$Bytes", "<init>", "(I)V"⟩
abbrev b_Bytes_init : ByteArray := prog_3_method_1_code
abbrev cd_Bytes_init : Cond := .code y_Bytes_init b_Bytes_init 2 none
abbrev ws_Bytes_init : List Cond := cd_Bytes_init :: tw_tbl
theorem k_Bytes_init : cd_Bytes_init ∈ tw_tbl := tw_t1 (List.mem_of_getElem? (i := 57) rfl) rfl
theorem d_Bytes_init_0 : decode b_Bytes_init 0 = .ok (.aload_n 0, 1) := by decide +kernel
theorem d_Bytes_init_1 : decode b_Bytes_init 1 = .ok (.invokespecial 3, 3) := by decide +kernel
theorem d_Bytes_init_4 : decode b_Bytes_init 4 = .ok (.aload_n 0, 1) := by decide +kernel
theorem d_Bytes_init_5 : decode b_Bytes_init 5 = .ok (.iload_n 1, 1) := by decide +kernel
theorem d_Bytes_init_6 : decode b_Bytes_init 6 = .ok (.newarray .byte, 2) := by decide +kernel
theorem d_Bytes_init_8 : decode b_Bytes_init 8 = .ok (.putfield 9, 3) := by decide +kernel
theorem d_Bytes_init_11 : decode b_Bytes_init 11 = .ok (.aload_n 0, 1) := by decide +kernel
theorem d_Bytes_init_12 : decode b_Bytes_init 12 = .ok (.iconst 0, 1) := by decide +kernel
theorem d_Bytes_init_13 : decode b_Bytes_init 13 = .ok (.putfield 15, 3) := by decide +kernel
theorem d_Bytes_init_16 : decode b_Bytes_init 16 = .ok (.return_, 1) := by decide +kernel
def y_AbC_init : MethodName := ⟨"java/util/AbstractCollection", "<init>", "()V"⟩
abbrev b_AbC_init : ByteArray := prog_42_method_1_code
abbrev cd_AbC_init : Cond := .code y_AbC_init b_AbC_init 1 none
abbrev ws_AbC_init : List Cond := cd_AbC_init :: tw_tbl
theorem k_AbC_init : cd_AbC_init ∈ tw_tbl := tw_t1 (List.mem_of_getElem? (i := 97) rfl) rfl
theorem d_AbC_init_0 : decode b_AbC_init 0 = .ok (.aload_n 0, 1) := by decide +kernel
theorem d_AbC_init_1 : decode b_AbC_init 1 = .ok (.invokespecial 1, 3) := by decide +kernel
theorem d_AbC_init_4 : decode b_AbC_init 4 = .ok (.return_, 1) := by decide +kernel
def y_AbL_init : MethodName := ⟨"java/util/AbstractList", "<init>", "()V"⟩
abbrev b_AbL_init : ByteArray := prog_43_method_1_code
abbrev cd_AbL_init : Cond := .code y_AbL_init b_AbL_init 1 none
abbrev ws_AbL_init : List Cond := cd_AbL_init :: tw_tbl
theorem k_AbL_init : cd_AbL_init ∈ tw_tbl := tw_t1 (List.mem_of_getElem? (i := 94) rfl) rfl
theorem d_AbL_init_0 : decode b_AbL_init 0 = .ok (.aload_n 0, 1) := by decide +kernel
theorem d_AbL_init_1 : decode b_AbL_init 1 = .ok (.invokespecial 1, 3) := by decide +kernel
theorem d_AbL_init_4 : decode b_AbL_init 4 = .ok (.aload_n 0, 1) := by decide +kernel
theorem d_AbL_init_5 : decode b_AbL_init 5 = .ok (.iconst 0, 1) := by decide +kernel
theorem d_AbL_init_6 : decode b_AbL_init 6 = .ok (.putfield 7, 3) := by decide +kernel
theorem d_AbL_init_9 : decode b_AbL_init 9 = .ok (.return_, 1) := by decide +kernel
def y_AL_init : MethodName := ⟨"java/util/ArrayList", "<init>", "()V"⟩
abbrev b_AL_init : ByteArray := prog_44_method_2_code
abbrev cd_AL_init : Cond := .code y_AL_init b_AL_init 1 none
abbrev ws_AL_init : List Cond := cd_AL_init :: tw_tbl
theorem k_AL_init : cd_AL_init ∈ tw_tbl := tw_t1 (List.mem_of_getElem? (i := 91) rfl) rfl
theorem d_AL_init_0 : decode b_AL_init 0 = .ok (.aload_n 0, 1) := by decide +kernel
theorem d_AL_init_1 : decode b_AL_init 1 = .ok (.invokespecial 1, 3) := by decide +kernel
theorem d_AL_init_4 : decode b_AL_init 4 = .ok (.aload_n 0, 1) := by decide +kernel
theorem d_AL_init_5 : decode b_AL_init 5 = .ok (.getstatic 39, 3) := by decide +kernel
theorem d_AL_init_8 : decode b_AL_init 8 = .ok (.putfield 9, 3) := by decide +kernel
theorem d_AL_init_11 : decode b_AL_init 11 = .ok (.return_, 1) := by decide +kernel
def y_Values_init : MethodName := ⟨"SyntaxForge$Values", "<init>", "()V"⟩
abbrev b_Values_init : ByteArray := prog_13_method_1_code
abbrev cd_Values_init : Cond := .code y_Values_init b_Values_init 1 none
abbrev ws_Values_init : List Cond := cd_Values_init :: tw_tbl
theorem k_Values_init : cd_Values_init ∈ tw_tbl := tw_t1 (List.mem_of_getElem? (i := 117) rfl) rfl
theorem d_Values_init_0 : decode b_Values_init 0 = .ok (.aload_n 0, 1) := by decide +kernel
theorem d_Values_init_1 : decode b_Values_init 1 = .ok (.invokespecial 3, 3) := by decide +kernel
theorem d_Values_init_4 : decode b_Values_init 4 = .ok (.aload_n 0, 1) := by decide +kernel
theorem d_Values_init_5 : decode b_Values_init 5 = .ok (.new 9, 3) := by decide +kernel
theorem d_Values_init_8 : decode b_Values_init 8 = .ok (.dup, 1) := by decide +kernel
theorem d_Values_init_9 : decode b_Values_init 9 = .ok (.invokespecial 11, 3) := by decide +kernel
theorem d_Values_init_12 : decode b_Values_init 12 = .ok (.putfield 12, 3) := by decide +kernel
theorem d_Values_init_15 : decode b_Values_init 15 = .ok (.aload_n 0, 1) := by decide +kernel
theorem d_Values_init_16 : decode b_Values_init 16 = .ok (.new 18, 3) := by decide +kernel
theorem d_Values_init_19 : decode b_Values_init 19 = .ok (.dup, 1) := by decide +kernel
theorem d_Values_init_20 : decode b_Values_init 20 = .ok (.bipush 64, 2) := by decide +kernel
theorem d_Values_init_22 : decode b_Values_init 22 = .ok (.invokespecial 20, 3) := by decide +kernel
theorem d_Values_init_25 : decode b_Values_init 25 = .ok (.putfield 23, 3) := by decide +kernel
theorem d_Values_init_28 : decode b_Values_init 28 = .ok (.aload_n 0, 1) := by decide +kernel
theorem d_Values_init_29 : decode b_Values_init 29 = .ok (.iconst 0, 1) := by decide +kernel
theorem d_Values_init_30 : decode b_Values_init 30 = .ok (.putfield 27, 3) := by decide +kernel
theorem d_Values_init_33 : decode b_Values_init 33 = .ok (.return_, 1) := by decide +kernel
def y_Der_init : MethodName := ⟨"SyntaxForge$Der", "<init>", "()V"⟩
abbrev b_Der_init : ByteArray := prog_4_method_1_code
abbrev cd_Der_init : Cond := .code y_Der_init b_Der_init 1 none
abbrev ws_Der_init : List Cond := cd_Der_init :: tw_tbl
theorem k_Der_init : cd_Der_init ∈ tw_tbl := tw_t2 (List.mem_of_getElem? (i := 155) rfl) rfl
theorem d_Der_init_0 : decode b_Der_init 0 = .ok (.aload_n 0, 1) := by decide +kernel
theorem d_Der_init_1 : decode b_Der_init 1 = .ok (.invokespecial 3, 3) := by decide +kernel
theorem d_Der_init_4 : decode b_Der_init 4 = .ok (.aload_n 0, 1) := by decide +kernel
theorem d_Der_init_5 : decode b_Der_init 5 = .ok (.bipush 16, 2) := by decide +kernel
theorem d_Der_init_7 : decode b_Der_init 7 = .ok (.anewarray 9, 3) := by decide +kernel
theorem d_Der_init_10 : decode b_Der_init 10 = .ok (.putfield 11, 3) := by decide +kernel
theorem d_Der_init_13 : decode b_Der_init 13 = .ok (.aload_n 0, 1) := by decide +kernel
theorem d_Der_init_14 : decode b_Der_init 14 = .ok (.bipush 16, 2) := by decide +kernel
theorem d_Der_init_16 : decode b_Der_init 16 = .ok (.anewarray 9, 3) := by decide +kernel
theorem d_Der_init_19 : decode b_Der_init 19 = .ok (.putfield 17, 3) := by decide +kernel
theorem d_Der_init_22 : decode b_Der_init 22 = .ok (.aload_n 0, 1) := by decide +kernel
theorem d_Der_init_23 : decode b_Der_init 23 = .ok (.bipush 16, 2) := by decide +kernel
theorem d_Der_init_25 : decode b_Der_init 25 = .ok (.newarray .int, 2) := by decide +kernel
theorem d_Der_init_27 : decode b_Der_init 27 = .ok (.putfield 20, 3) := by decide +kernel
theorem d_Der_init_30 : decode b_Der_init 30 = .ok (.return_, 1) := by decide +kernel
def y_Ber_init : MethodName := ⟨"SyntaxForge$BerReader", "<init>", "(LSyntaxForge$Values;LSyntaxForge$Der;)V"⟩
abbrev b_Ber_init : ByteArray := prog_2_method_1_code
abbrev cd_Ber_init : Cond := .code y_Ber_init b_Ber_init 3 none
abbrev ws_Ber_init : List Cond := cd_Ber_init :: tw_tbl
theorem k_Ber_init : cd_Ber_init ∈ tw_tbl := tw_t2 (List.mem_of_getElem? (i := 172) rfl) rfl
theorem d_Ber_init_0 : decode b_Ber_init 0 = .ok (.aload_n 0, 1) := by decide +kernel
theorem d_Ber_init_1 : decode b_Ber_init 1 = .ok (.invokespecial 3, 3) := by decide +kernel
theorem d_Ber_init_4 : decode b_Ber_init 4 = .ok (.aload_n 0, 1) := by decide +kernel
theorem d_Ber_init_5 : decode b_Ber_init 5 = .ok (.aload_n 1, 1) := by decide +kernel
theorem d_Ber_init_6 : decode b_Ber_init 6 = .ok (.putfield 9, 3) := by decide +kernel
theorem d_Ber_init_9 : decode b_Ber_init 9 = .ok (.aload_n 0, 1) := by decide +kernel
theorem d_Ber_init_10 : decode b_Ber_init 10 = .ok (.aload_n 2, 1) := by decide +kernel
theorem d_Ber_init_11 : decode b_Ber_init 11 = .ok (.putfield 15, 3) := by decide +kernel
theorem d_Ber_init_14 : decode b_Ber_init 14 = .ok (.aload_n 0, 1) := by decide +kernel
theorem d_Ber_init_15 : decode b_Ber_init 15 = .ok (.bipush 61, 2) := by decide +kernel
theorem d_Ber_init_17 : decode b_Ber_init 17 = .ok (.newarray .int, 2) := by decide +kernel
theorem d_Ber_init_19 : decode b_Ber_init 19 = .ok (.putfield 19, 3) := by decide +kernel
theorem d_Ber_init_22 : decode b_Ber_init 22 = .ok (.aload_n 0, 1) := by decide +kernel
theorem d_Ber_init_23 : decode b_Ber_init 23 = .ok (.bipush 61, 2) := by decide +kernel
theorem d_Ber_init_25 : decode b_Ber_init 25 = .ok (.newarray .int, 2) := by decide +kernel
theorem d_Ber_init_27 : decode b_Ber_init 27 = .ok (.putfield 23, 3) := by decide +kernel
theorem d_Ber_init_30 : decode b_Ber_init 30 = .ok (.return_, 1) := by decide +kernel
def y_PerW_init : MethodName := ⟨"SyntaxForge$PerWriter", "<init>", "()V"⟩
abbrev b_PerW_init : ByteArray := prog_8_method_1_code
abbrev cd_PerW_init : Cond := .code y_PerW_init b_PerW_init 1 none
abbrev ws_PerW_init : List Cond := cd_PerW_init :: tw_tbl
theorem k_PerW_init : cd_PerW_init ∈ tw_tbl := tw_t2 (List.mem_of_getElem? (i := 212) rfl) rfl
theorem d_PerW_init_0 : decode b_PerW_init 0 = .ok (.aload_n 0, 1) := by decide +kernel
theorem d_PerW_init_1 : decode b_PerW_init 1 = .ok (.invokespecial 3, 3) := by decide +kernel
theorem d_PerW_init_4 : decode b_PerW_init 4 = .ok (.return_, 1) := by decide +kernel
def y_PerR_init : MethodName := ⟨"SyntaxForge$PerReader", "<init>", "(LSyntaxForge$Values;)V"⟩
abbrev b_PerR_init : ByteArray := prog_7_method_1_code
abbrev cd_PerR_init : Cond := .code y_PerR_init b_PerR_init 2 none
abbrev ws_PerR_init : List Cond := cd_PerR_init :: tw_tbl
theorem k_PerR_init : cd_PerR_init ∈ tw_tbl := tw_t2 (List.mem_of_getElem? (i := 225) rfl) rfl
theorem d_PerR_init_0 : decode b_PerR_init 0 = .ok (.aload_n 0, 1) := by decide +kernel
theorem d_PerR_init_1 : decode b_PerR_init 1 = .ok (.invokespecial 3, 3) := by decide +kernel
theorem d_PerR_init_4 : decode b_PerR_init 4 = .ok (.aload_n 0, 1) := by decide +kernel
theorem d_PerR_init_5 : decode b_PerR_init 5 = .ok (.aload_n 1, 1) := by decide +kernel
theorem d_PerR_init_6 : decode b_PerR_init 6 = .ok (.putfield 9, 3) := by decide +kernel
theorem d_PerR_init_9 : decode b_PerR_init 9 = .ok (.return_, 1) := by decide +kernel
def y_Scanner_init : MethodName := ⟨"SyntaxForge$Scanner", "<init>", "()V"⟩
abbrev b_Scanner_init : ByteArray := prog_9_method_1_code
abbrev cd_Scanner_init : Cond := .code y_Scanner_init b_Scanner_init 1 none
abbrev ws_Scanner_init : List Cond := cd_Scanner_init :: tw_tbl
theorem k_Scanner_init : cd_Scanner_init ∈ tw_tbl := tw_t2 (List.mem_of_getElem? (i := 86) rfl) rfl
theorem d_Scanner_init_0 : decode b_Scanner_init 0 = .ok (.aload_n 0, 1) := by decide +kernel
theorem d_Scanner_init_1 : decode b_Scanner_init 1 = .ok (.invokespecial 1, 3) := by decide +kernel
theorem d_Scanner_init_4 : decode b_Scanner_init 4 = .ok (.aload_n 0, 1) := by decide +kernel
theorem d_Scanner_init_5 : decode b_Scanner_init 5 = .ok (.bipush 64, 2) := by decide +kernel
theorem d_Scanner_init_7 : decode b_Scanner_init 7 = .ok (.newarray .int, 2) := by decide +kernel
theorem d_Scanner_init_9 : decode b_Scanner_init 9 = .ok (.putfield 7, 3) := by decide +kernel
theorem d_Scanner_init_12 : decode b_Scanner_init 12 = .ok (.aload_n 0, 1) := by decide +kernel
theorem d_Scanner_init_13 : decode b_Scanner_init 13 = .ok (.bipush 64, 2) := by decide +kernel
theorem d_Scanner_init_15 : decode b_Scanner_init 15 = .ok (.newarray .int, 2) := by decide +kernel
theorem d_Scanner_init_17 : decode b_Scanner_init 17 = .ok (.putfield 13, 3) := by decide +kernel
theorem d_Scanner_init_20 : decode b_Scanner_init 20 = .ok (.aload_n 0, 1) := by decide +kernel
theorem d_Scanner_init_21 : decode b_Scanner_init 21 = .ok (.bipush 64, 2) := by decide +kernel
theorem d_Scanner_init_23 : decode b_Scanner_init 23 = .ok (.newarray .long, 2) := by decide +kernel
theorem d_Scanner_init_25 : decode b_Scanner_init 25 = .ok (.putfield 16, 3) := by decide +kernel
theorem d_Scanner_init_28 : decode b_Scanner_init 28 = .ok (.aload_n 0, 1) := by decide +kernel
theorem d_Scanner_init_29 : decode b_Scanner_init 29 = .ok (.iconst (-1), 1) := by decide +kernel
theorem d_Scanner_init_30 : decode b_Scanner_init 30 = .ok (.putfield 20, 3) := by decide +kernel
theorem d_Scanner_init_33 : decode b_Scanner_init 33 = .ok (.return_, 1) := by decide +kernel
def y_Parser_init : MethodName := ⟨"SyntaxForge$Parser", "<init>", "(LSyntaxForge$Scanner;)V"⟩
abbrev b_Parser_init : ByteArray := prog_6_method_1_code
abbrev cd_Parser_init : Cond := .code y_Parser_init b_Parser_init 2 none
abbrev ws_Parser_init : List Cond := cd_Parser_init :: tw_tbl
theorem k_Parser_init : cd_Parser_init ∈ tw_tbl := tw_t2 (List.mem_of_getElem? (i := 123) rfl) rfl
theorem d_Parser_init_0 : decode b_Parser_init 0 = .ok (.aload_n 0, 1) := by decide +kernel
theorem d_Parser_init_1 : decode b_Parser_init 1 = .ok (.invokespecial 3, 3) := by decide +kernel
theorem d_Parser_init_4 : decode b_Parser_init 4 = .ok (.aload_n 0, 1) := by decide +kernel
theorem d_Parser_init_5 : decode b_Parser_init 5 = .ok (.aload_n 1, 1) := by decide +kernel
theorem d_Parser_init_6 : decode b_Parser_init 6 = .ok (.putfield 9, 3) := by decide +kernel
theorem d_Parser_init_9 : decode b_Parser_init 9 = .ok (.aload_n 0, 1) := by decide +kernel
theorem d_Parser_init_10 : decode b_Parser_init 10 = .ok (.bipush 60, 2) := by decide +kernel
theorem d_Parser_init_12 : decode b_Parser_init 12 = .ok (.anewarray 15, 3) := by decide +kernel
theorem d_Parser_init_15 : decode b_Parser_init 15 = .ok (.putfield 17, 3) := by decide +kernel
theorem d_Parser_init_18 : decode b_Parser_init 18 = .ok (.return_, 1) := by decide +kernel
def y_Bytes_put : MethodName := ⟨"SyntaxForge$Bytes", "put", "(I)V"⟩
abbrev b_Bytes_put : ByteArray := prog_3_method_2_code
abbrev cd_Bytes_put : Cond := .code y_Bytes_put b_Bytes_put 2 none
abbrev ws_Bytes_put : List Cond := cd_Bytes_put :: tw_tbl
theorem k_Bytes_put : cd_Bytes_put ∈ tw_tbl := tw_t1 (List.mem_of_getElem? (i := 199) rfl) rfl
theorem d_Bytes_put_0 : decode b_Bytes_put 0 = .ok (.aload_n 0, 1) := by decide +kernel
theorem d_Bytes_put_1 : decode b_Bytes_put 1 = .ok (.getfield 15, 3) := by decide +kernel
theorem d_Bytes_put_4 : decode b_Bytes_put 4 = .ok (.aload_n 0, 1) := by decide +kernel
theorem d_Bytes_put_5 : decode b_Bytes_put 5 = .ok (.getfield 9, 3) := by decide +kernel
theorem d_Bytes_put_8 : decode b_Bytes_put 8 = .ok (.arraylength, 1) := by decide +kernel
theorem d_Bytes_put_9 : decode b_Bytes_put 9 = .ok (.if_icmp .lt 24, 3) := by decide +kernel
theorem d_Bytes_put_12 : decode b_Bytes_put 12 = .ok (.aload_n 0, 1) := by decide +kernel
theorem d_Bytes_put_13 : decode b_Bytes_put 13 = .ok (.aload_n 0, 1) := by decide +kernel
theorem d_Bytes_put_14 : decode b_Bytes_put 14 = .ok (.getfield 9, 3) := by decide +kernel
theorem d_Bytes_put_17 : decode b_Bytes_put 17 = .ok (.iconst 2, 1) := by decide +kernel
theorem d_Bytes_put_18 : decode b_Bytes_put 18 = .ok (.aload_n 0, 1) := by decide +kernel
theorem d_Bytes_put_19 : decode b_Bytes_put 19 = .ok (.getfield 9, 3) := by decide +kernel
theorem d_Bytes_put_22 : decode b_Bytes_put 22 = .ok (.arraylength, 1) := by decide +kernel
theorem d_Bytes_put_23 : decode b_Bytes_put 23 = .ok (.imul, 1) := by decide +kernel
theorem d_Bytes_put_24 : decode b_Bytes_put 24 = .ok (.bipush 16, 2) := by decide +kernel
theorem d_Bytes_put_26 : decode b_Bytes_put 26 = .ok (.iadd, 1) := by decide +kernel
theorem d_Bytes_put_27 : decode b_Bytes_put 27 = .ok (.invokestatic 19, 3) := by decide +kernel
theorem d_Bytes_put_30 : decode b_Bytes_put 30 = .ok (.putfield 9, 3) := by decide +kernel
theorem d_Bytes_put_33 : decode b_Bytes_put 33 = .ok (.aload_n 0, 1) := by decide +kernel
theorem d_Bytes_put_34 : decode b_Bytes_put 34 = .ok (.getfield 9, 3) := by decide +kernel
theorem d_Bytes_put_37 : decode b_Bytes_put 37 = .ok (.aload_n 0, 1) := by decide +kernel
theorem d_Bytes_put_38 : decode b_Bytes_put 38 = .ok (.getfield 15, 3) := by decide +kernel
theorem d_Bytes_put_41 : decode b_Bytes_put 41 = .ok (.iload_n 1, 1) := by decide +kernel
theorem d_Bytes_put_42 : decode b_Bytes_put 42 = .ok (.i2b, 1) := by decide +kernel
theorem d_Bytes_put_43 : decode b_Bytes_put 43 = .ok (.bastore, 1) := by decide +kernel
theorem d_Bytes_put_44 : decode b_Bytes_put 44 = .ok (.aload_n 0, 1) := by decide +kernel
theorem d_Bytes_put_45 : decode b_Bytes_put 45 = .ok (.dup, 1) := by decide +kernel
theorem d_Bytes_put_46 : decode b_Bytes_put 46 = .ok (.getfield 15, 3) := by decide +kernel
theorem d_Bytes_put_49 : decode b_Bytes_put 49 = .ok (.iconst 1, 1) := by decide +kernel
theorem d_Bytes_put_50 : decode b_Bytes_put 50 = .ok (.iadd, 1) := by decide +kernel
theorem d_Bytes_put_51 : decode b_Bytes_put 51 = .ok (.putfield 15, 3) := by decide +kernel
theorem d_Bytes_put_54 : decode b_Bytes_put 54 = .ok (.return_, 1) := by decide +kernel
def y_Bytes_get : MethodName := ⟨"SyntaxForge$Bytes", "get", "(I)I"⟩
abbrev b_Bytes_get : ByteArray := prog_3_method_6_code
abbrev cd_Bytes_get : Cond := .code y_Bytes_get b_Bytes_get 2 (some .int)
abbrev ws_Bytes_get : List Cond := cd_Bytes_get :: tw_tbl
theorem k_Bytes_get : cd_Bytes_get ∈ tw_tbl := tw_t1 (List.mem_of_getElem? (i := 238) rfl) rfl
theorem d_Bytes_get_0 : decode b_Bytes_get 0 = .ok (.iload_n 1, 1) := by decide +kernel
theorem d_Bytes_get_1 : decode b_Bytes_get 1 = .ok (.ifCond .lt 33, 3) := by decide +kernel
theorem d_Bytes_get_4 : decode b_Bytes_get 4 = .ok (.iload_n 1, 1) := by decide +kernel
theorem d_Bytes_get_5 : decode b_Bytes_get 5 = .ok (.aload_n 0, 1) := by decide +kernel
theorem d_Bytes_get_6 : decode b_Bytes_get 6 = .ok (.getfield 15, 3) := by decide +kernel
theorem d_Bytes_get_9 : decode b_Bytes_get 9 = .ok (.if_icmp .ge 25, 3) := by decide +kernel
theorem d_Bytes_get_12 : decode b_Bytes_get 12 = .ok (.iload_n 1, 1) := by decide +kernel
theorem d_Bytes_get_13 : decode b_Bytes_get 13 = .ok (.aload_n 0, 1) := by decide +kernel
theorem d_Bytes_get_14 : decode b_Bytes_get 14 = .ok (.getfield 9, 3) := by decide +kernel
theorem d_Bytes_get_17 : decode b_Bytes_get 17 = .ok (.arraylength, 1) := by decide +kernel
theorem d_Bytes_get_18 : decode b_Bytes_get 18 = .ok (.if_icmp .ge 16, 3) := by decide +kernel
theorem d_Bytes_get_21 : decode b_Bytes_get 21 = .ok (.aload_n 0, 1) := by decide +kernel
theorem d_Bytes_get_22 : decode b_Bytes_get 22 = .ok (.getfield 9, 3) := by decide +kernel
theorem d_Bytes_get_25 : decode b_Bytes_get 25 = .ok (.iload_n 1, 1) := by decide +kernel
theorem d_Bytes_get_26 : decode b_Bytes_get 26 = .ok (.baload, 1) := by decide +kernel
theorem d_Bytes_get_27 : decode b_Bytes_get 27 = .ok (.sipush 255, 3) := by decide +kernel
theorem d_Bytes_get_30 : decode b_Bytes_get 30 = .ok (.iand, 1) := by decide +kernel
theorem d_Bytes_get_31 : decode b_Bytes_get 31 = .ok (.goto 4, 3) := by decide +kernel
theorem d_Bytes_get_34 : decode b_Bytes_get 34 = .ok (.iconst (-1), 1) := by decide +kernel
theorem d_Bytes_get_35 : decode b_Bytes_get 35 = .ok (.ireturn, 1) := by decide +kernel
def y_AL_clear : MethodName := ⟨"java/util/ArrayList", "clear", "()V"⟩
abbrev b_AL_clear : ByteArray := prog_44_method_40_code
abbrev cd_AL_clear : Cond := .code y_AL_clear b_AL_clear 4 none
abbrev ws_AL_clear : List Cond := cd_AL_clear :: tw_tbl
theorem k_AL_clear : cd_AL_clear ∈ tw_tbl := tw_t1 (List.mem_of_getElem? (i := 223) rfl) rfl
theorem d_AL_clear_0 : decode b_AL_clear 0 = .ok (.aload_n 0, 1) := by decide +kernel
theorem d_AL_clear_1 : decode b_AL_clear 1 = .ok (.dup, 1) := by decide +kernel
theorem d_AL_clear_2 : decode b_AL_clear 2 = .ok (.getfield 63, 3) := by decide +kernel
theorem d_AL_clear_5 : decode b_AL_clear 5 = .ok (.iconst 1, 1) := by decide +kernel
theorem d_AL_clear_6 : decode b_AL_clear 6 = .ok (.iadd, 1) := by decide +kernel
theorem d_AL_clear_7 : decode b_AL_clear 7 = .ok (.putfield 63, 3) := by decide +kernel
theorem d_AL_clear_10 : decode b_AL_clear 10 = .ok (.aload_n 0, 1) := by decide +kernel
theorem d_AL_clear_11 : decode b_AL_clear 11 = .ok (.getfield 9, 3) := by decide +kernel
theorem d_AL_clear_14 : decode b_AL_clear 14 = .ok (.astore_n 1, 1) := by decide +kernel
theorem d_AL_clear_15 : decode b_AL_clear 15 = .ok (.aload_n 0, 1) := by decide +kernel
theorem d_AL_clear_16 : decode b_AL_clear 16 = .ok (.getfield 48, 3) := by decide +kernel
theorem d_AL_clear_19 : decode b_AL_clear 19 = .ok (.istore_n 2, 1) := by decide +kernel
theorem d_AL_clear_20 : decode b_AL_clear 20 = .ok (.aload_n 0, 1) := by decide +kernel
theorem d_AL_clear_21 : decode b_AL_clear 21 = .ok (.iconst 0, 1) := by decide +kernel
theorem d_AL_clear_22 : decode b_AL_clear 22 = .ok (.dup_x1, 1) := by decide +kernel
theorem d_AL_clear_23 : decode b_AL_clear 23 = .ok (.putfield 48, 3) := by decide +kernel
theorem d_AL_clear_26 : decode b_AL_clear 26 = .ok (.istore_n 3, 1) := by decide +kernel
theorem d_AL_clear_27 : decode b_AL_clear 27 = .ok (.iload_n 3, 1) := by decide +kernel
theorem d_AL_clear_28 : decode b_AL_clear 28 = .ok (.iload_n 2, 1) := by decide +kernel
theorem d_AL_clear_29 : decode b_AL_clear 29 = .ok (.if_icmp .ge 13, 3) := by decide +kernel
theorem d_AL_clear_32 : decode b_AL_clear 32 = .ok (.aload_n 1, 1) := by decide +kernel
theorem d_AL_clear_33 : decode b_AL_clear 33 = .ok (.iload_n 3, 1) := by decide +kernel
theorem d_AL_clear_34 : decode b_AL_clear 34 = .ok (.aconst_null, 1) := by decide +kernel
theorem d_AL_clear_35 : decode b_AL_clear 35 = .ok (.aastore, 1) := by decide +kernel
theorem d_AL_clear_36 : decode b_AL_clear 36 = .ok (.iinc 3 1, 3) := by decide +kernel
theorem d_AL_clear_39 : decode b_AL_clear 39 = .ok (.goto (-12), 3) := by decide +kernel
theorem d_AL_clear_42 : decode b_AL_clear 42 = .ok (.return_, 1) := by decide +kernel
def y_Values_clear : MethodName := ⟨"SyntaxForge$Values", "clear", "()V"⟩
abbrev b_Values_clear : ByteArray := prog_13_method_2_code
abbrev cd_Values_clear : Cond := .code y_Values_clear b_Values_clear 1 none
abbrev ws_Values_clear : List Cond := cd_Values_clear :: tw_tbl
theorem k_Values_clear : cd_Values_clear ∈ tw_tbl := tw_t1 (List.mem_of_getElem? (i := 227) rfl) rfl
theorem d_Values_clear_0 : decode b_Values_clear 0 = .ok (.aload_n 0, 1) := by decide +kernel
theorem d_Values_clear_1 : decode b_Values_clear 1 = .ok (.iconst 0, 1) := by decide +kernel
theorem d_Values_clear_2 : decode b_Values_clear 2 = .ok (.putfield 27, 3) := by decide +kernel
theorem d_Values_clear_5 : decode b_Values_clear 5 = .ok (.aload_n 0, 1) := by decide +kernel
theorem d_Values_clear_6 : decode b_Values_clear 6 = .ok (.getfield 23, 3) := by decide +kernel
theorem d_Values_clear_9 : decode b_Values_clear 9 = .ok (.iconst 0, 1) := by decide +kernel
theorem d_Values_clear_10 : decode b_Values_clear 10 = .ok (.putfield 31, 3) := by decide +kernel
theorem d_Values_clear_13 : decode b_Values_clear 13 = .ok (.return_, 1) := by decide +kernel
def y_Arrs_fill : MethodName := ⟨"java/util/Arrays", "fill", "([II)V"⟩
abbrev b_Arrs_fill : ByteArray := prog_45_method_103_code
abbrev cd_Arrs_fill : Cond := .code y_Arrs_fill b_Arrs_fill 4 none
abbrev ws_Arrs_fill : List Cond := cd_Arrs_fill :: tw_tbl
theorem k_Arrs_fill : cd_Arrs_fill ∈ tw_tbl := tw_t1 (List.mem_of_getElem? (i := 234) rfl) rfl
theorem d_Arrs_fill_0 : decode b_Arrs_fill 0 = .ok (.iconst 0, 1) := by decide +kernel
theorem d_Arrs_fill_1 : decode b_Arrs_fill 1 = .ok (.istore_n 2, 1) := by decide +kernel
theorem d_Arrs_fill_2 : decode b_Arrs_fill 2 = .ok (.aload_n 0, 1) := by decide +kernel
theorem d_Arrs_fill_3 : decode b_Arrs_fill 3 = .ok (.arraylength, 1) := by decide +kernel
theorem d_Arrs_fill_4 : decode b_Arrs_fill 4 = .ok (.istore_n 3, 1) := by decide +kernel
theorem d_Arrs_fill_5 : decode b_Arrs_fill 5 = .ok (.iload_n 2, 1) := by decide +kernel
theorem d_Arrs_fill_6 : decode b_Arrs_fill 6 = .ok (.iload_n 3, 1) := by decide +kernel
theorem d_Arrs_fill_7 : decode b_Arrs_fill 7 = .ok (.if_icmp .ge 13, 3) := by decide +kernel
theorem d_Arrs_fill_10 : decode b_Arrs_fill 10 = .ok (.aload_n 0, 1) := by decide +kernel
theorem d_Arrs_fill_11 : decode b_Arrs_fill 11 = .ok (.iload_n 2, 1) := by decide +kernel
theorem d_Arrs_fill_12 : decode b_Arrs_fill 12 = .ok (.iload_n 1, 1) := by decide +kernel
theorem d_Arrs_fill_13 : decode b_Arrs_fill 13 = .ok (.iastore, 1) := by decide +kernel
theorem d_Arrs_fill_14 : decode b_Arrs_fill 14 = .ok (.iinc 2 1, 3) := by decide +kernel
theorem d_Arrs_fill_17 : decode b_Arrs_fill 17 = .ok (.goto (-12), 3) := by decide +kernel
theorem d_Arrs_fill_20 : decode b_Arrs_fill 20 = .ok (.return_, 1) := by decide +kernel
def y_Schema_isName : MethodName := ⟨"SyntaxForge$Schema", "isName", "(ILSyntaxForge$Bytes;I)Z"⟩
abbrev b_Schema_isName : ByteArray := prog_10_method_6_code
abbrev cd_Schema_isName : Cond := .code y_Schema_isName b_Schema_isName 5 (some .boolean)
abbrev ws_Schema_isName : List Cond := cd_Schema_isName :: tw_tbl
theorem k_Schema_isName : cd_Schema_isName ∈ tw_tbl := tw_t2 (List.mem_of_getElem? (i := 6) rfl) rfl
theorem d_Schema_isName_0 : decode b_Schema_isName 0 = .ok (.iconst 0, 1) := by decide +kernel
theorem d_Schema_isName_1 : decode b_Schema_isName 1 = .ok (.istore 4, 2) := by decide +kernel
theorem d_Schema_isName_3 : decode b_Schema_isName 3 = .ok (.iload 4, 2) := by decide +kernel
theorem d_Schema_isName_5 : decode b_Schema_isName 5 = .ok (.aload_n 0, 1) := by decide +kernel
theorem d_Schema_isName_6 : decode b_Schema_isName 6 = .ok (.getfield 68, 3) := by decide +kernel
theorem d_Schema_isName_9 : decode b_Schema_isName 9 = .ok (.iload_n 1, 1) := by decide +kernel
theorem d_Schema_isName_10 : decode b_Schema_isName 10 = .ok (.iaload, 1) := by decide +kernel
theorem d_Schema_isName_11 : decode b_Schema_isName 11 = .ok (.if_icmp .ge 38, 3) := by decide +kernel
theorem d_Schema_isName_14 : decode b_Schema_isName 14 = .ok (.aload_n 0, 1) := by decide +kernel
theorem d_Schema_isName_15 : decode b_Schema_isName 15 = .ok (.getfield 58, 3) := by decide +kernel
theorem d_Schema_isName_18 : decode b_Schema_isName 18 = .ok (.aload_n 0, 1) := by decide +kernel
theorem d_Schema_isName_19 : decode b_Schema_isName 19 = .ok (.getfield 65, 3) := by decide +kernel
theorem d_Schema_isName_22 : decode b_Schema_isName 22 = .ok (.iload_n 1, 1) := by decide +kernel
theorem d_Schema_isName_23 : decode b_Schema_isName 23 = .ok (.iaload, 1) := by decide +kernel
theorem d_Schema_isName_24 : decode b_Schema_isName 24 = .ok (.iload 4, 2) := by decide +kernel
theorem d_Schema_isName_26 : decode b_Schema_isName 26 = .ok (.iadd, 1) := by decide +kernel
theorem d_Schema_isName_27 : decode b_Schema_isName 27 = .ok (.invokevirtual 115, 3) := by decide +kernel
theorem d_Schema_isName_30 : decode b_Schema_isName 30 = .ok (.aload_n 2, 1) := by decide +kernel
theorem d_Schema_isName_31 : decode b_Schema_isName 31 = .ok (.iload_n 3, 1) := by decide +kernel
theorem d_Schema_isName_32 : decode b_Schema_isName 32 = .ok (.iload 4, 2) := by decide +kernel
theorem d_Schema_isName_34 : decode b_Schema_isName 34 = .ok (.iadd, 1) := by decide +kernel
theorem d_Schema_isName_35 : decode b_Schema_isName 35 = .ok (.invokevirtual 115, 3) := by decide +kernel
theorem d_Schema_isName_38 : decode b_Schema_isName 38 = .ok (.if_icmp .eq 5, 3) := by decide +kernel
theorem d_Schema_isName_41 : decode b_Schema_isName 41 = .ok (.iconst 0, 1) := by decide +kernel
theorem d_Schema_isName_42 : decode b_Schema_isName 42 = .ok (.ireturn, 1) := by decide +kernel
theorem d_Schema_isName_43 : decode b_Schema_isName 43 = .ok (.iinc 4 1, 3) := by decide +kernel
theorem d_Schema_isName_46 : decode b_Schema_isName 46 = .ok (.goto (-43), 3) := by decide +kernel
theorem d_Schema_isName_49 : decode b_Schema_isName 49 = .ok (.iconst 1, 1) := by decide +kernel
theorem d_Schema_isName_50 : decode b_Schema_isName 50 = .ok (.ireturn, 1) := by decide +kernel
def y_Schema_added : MethodName := ⟨"SyntaxForge$Schema", "added", "(LSyntaxForge$Bytes;III)I"⟩
abbrev b_Schema_added : ByteArray := prog_10_method_7_code
abbrev cd_Schema_added : Cond := .code y_Schema_added b_Schema_added 6 (some .int)
abbrev ws_Schema_added : List Cond := cd_Schema_added :: tw_tbl
theorem k_Schema_added : cd_Schema_added ∈ tw_tbl := tw_t2 (List.mem_of_getElem? (i := 10) rfl) rfl
theorem d_Schema_added_0 : decode b_Schema_added 0 = .ok (.aload_n 0, 1) := by decide +kernel
theorem d_Schema_added_1 : decode b_Schema_added 1 = .ok (.getfield 112, 3) := by decide +kernel
theorem d_Schema_added_4 : decode b_Schema_added 4 = .ok (.aload_n 0, 1) := by decide +kernel
theorem d_Schema_added_5 : decode b_Schema_added 5 = .ok (.getfield 65, 3) := by decide +kernel
theorem d_Schema_added_8 : decode b_Schema_added 8 = .ok (.arraylength, 1) := by decide +kernel
theorem d_Schema_added_9 : decode b_Schema_added 9 = .ok (.if_icmp .lt 71, 3) := by decide +kernel
theorem d_Schema_added_12 : decode b_Schema_added 12 = .ok (.aload_n 0, 1) := by decide +kernel
theorem d_Schema_added_13 : decode b_Schema_added 13 = .ok (.aload_n 0, 1) := by decide +kernel
theorem d_Schema_added_14 : decode b_Schema_added 14 = .ok (.getfield 65, 3) := by decide +kernel
theorem d_Schema_added_17 : decode b_Schema_added 17 = .ok (.iconst 2, 1) := by decide +kernel
theorem d_Schema_added_18 : decode b_Schema_added 18 = .ok (.aload_n 0, 1) := by decide +kernel
theorem d_Schema_added_19 : decode b_Schema_added 19 = .ok (.getfield 112, 3) := by decide +kernel
theorem d_Schema_added_22 : decode b_Schema_added 22 = .ok (.imul, 1) := by decide +kernel
theorem d_Schema_added_23 : decode b_Schema_added 23 = .ok (.invokestatic 131, 3) := by decide +kernel
theorem d_Schema_added_26 : decode b_Schema_added 26 = .ok (.putfield 65, 3) := by decide +kernel
theorem d_Schema_added_29 : decode b_Schema_added 29 = .ok (.aload_n 0, 1) := by decide +kernel
theorem d_Schema_added_30 : decode b_Schema_added 30 = .ok (.aload_n 0, 1) := by decide +kernel
theorem d_Schema_added_31 : decode b_Schema_added 31 = .ok (.getfield 68, 3) := by decide +kernel
theorem d_Schema_added_34 : decode b_Schema_added 34 = .ok (.iconst 2, 1) := by decide +kernel
theorem d_Schema_added_35 : decode b_Schema_added 35 = .ok (.aload_n 0, 1) := by decide +kernel
theorem d_Schema_added_36 : decode b_Schema_added 36 = .ok (.getfield 112, 3) := by decide +kernel
theorem d_Schema_added_39 : decode b_Schema_added 39 = .ok (.imul, 1) := by decide +kernel
theorem d_Schema_added_40 : decode b_Schema_added 40 = .ok (.invokestatic 131, 3) := by decide +kernel
theorem d_Schema_added_43 : decode b_Schema_added 43 = .ok (.putfield 68, 3) := by decide +kernel
theorem d_Schema_added_46 : decode b_Schema_added 46 = .ok (.aload_n 0, 1) := by decide +kernel
theorem d_Schema_added_47 : decode b_Schema_added 47 = .ok (.aload_n 0, 1) := by decide +kernel
theorem d_Schema_added_48 : decode b_Schema_added 48 = .ok (.getfield 71, 3) := by decide +kernel
theorem d_Schema_added_51 : decode b_Schema_added 51 = .ok (.iconst 2, 1) := by decide +kernel
theorem d_Schema_added_52 : decode b_Schema_added 52 = .ok (.aload_n 0, 1) := by decide +kernel
theorem d_Schema_added_53 : decode b_Schema_added 53 = .ok (.getfield 112, 3) := by decide +kernel
theorem d_Schema_added_56 : decode b_Schema_added 56 = .ok (.imul, 1) := by decide +kernel
theorem d_Schema_added_57 : decode b_Schema_added 57 = .ok (.invokestatic 131, 3) := by decide +kernel
theorem d_Schema_added_60 : decode b_Schema_added 60 = .ok (.putfield 71, 3) := by decide +kernel
theorem d_Schema_added_63 : decode b_Schema_added 63 = .ok (.aload_n 0, 1) := by decide +kernel
theorem d_Schema_added_64 : decode b_Schema_added 64 = .ok (.aload_n 0, 1) := by decide +kernel
theorem d_Schema_added_65 : decode b_Schema_added 65 = .ok (.getfield 74, 3) := by decide +kernel
theorem d_Schema_added_68 : decode b_Schema_added 68 = .ok (.iconst 2, 1) := by decide +kernel
theorem d_Schema_added_69 : decode b_Schema_added 69 = .ok (.aload_n 0, 1) := by decide +kernel
theorem d_Schema_added_70 : decode b_Schema_added 70 = .ok (.getfield 112, 3) := by decide +kernel
theorem d_Schema_added_73 : decode b_Schema_added 73 = .ok (.imul, 1) := by decide +kernel
theorem d_Schema_added_74 : decode b_Schema_added 74 = .ok (.invokestatic 131, 3) := by decide +kernel
theorem d_Schema_added_77 : decode b_Schema_added 77 = .ok (.putfield 74, 3) := by decide +kernel
theorem d_Schema_added_80 : decode b_Schema_added 80 = .ok (.aload_n 0, 1) := by decide +kernel
theorem d_Schema_added_81 : decode b_Schema_added 81 = .ok (.getfield 65, 3) := by decide +kernel
theorem d_Schema_added_84 : decode b_Schema_added 84 = .ok (.aload_n 0, 1) := by decide +kernel
theorem d_Schema_added_85 : decode b_Schema_added 85 = .ok (.getfield 112, 3) := by decide +kernel
theorem d_Schema_added_88 : decode b_Schema_added 88 = .ok (.aload_n 0, 1) := by decide +kernel
theorem d_Schema_added_89 : decode b_Schema_added 89 = .ok (.getfield 58, 3) := by decide +kernel
theorem d_Schema_added_92 : decode b_Schema_added 92 = .ok (.getfield 109, 3) := by decide +kernel
theorem d_Schema_added_95 : decode b_Schema_added 95 = .ok (.iastore, 1) := by decide +kernel
theorem d_Schema_added_96 : decode b_Schema_added 96 = .ok (.aload_n 0, 1) := by decide +kernel
theorem d_Schema_added_97 : decode b_Schema_added 97 = .ok (.getfield 68, 3) := by decide +kernel
theorem d_Schema_added_100 : decode b_Schema_added 100 = .ok (.aload_n 0, 1) := by decide +kernel
theorem d_Schema_added_101 : decode b_Schema_added 101 = .ok (.getfield 112, 3) := by decide +kernel
theorem d_Schema_added_104 : decode b_Schema_added 104 = .ok (.iload_n 3, 1) := by decide +kernel
theorem d_Schema_added_105 : decode b_Schema_added 105 = .ok (.iastore, 1) := by decide +kernel
theorem d_Schema_added_106 : decode b_Schema_added 106 = .ok (.aload_n 0, 1) := by decide +kernel
theorem d_Schema_added_107 : decode b_Schema_added 107 = .ok (.getfield 71, 3) := by decide +kernel
theorem d_Schema_added_110 : decode b_Schema_added 110 = .ok (.aload_n 0, 1) := by decide +kernel
theorem d_Schema_added_111 : decode b_Schema_added 111 = .ok (.getfield 112, 3) := by decide +kernel
theorem d_Schema_added_114 : decode b_Schema_added 114 = .ok (.aload_n 0, 1) := by decide +kernel
theorem d_Schema_added_115 : decode b_Schema_added 115 = .ok (.getfield 61, 3) := by decide +kernel
theorem d_Schema_added_118 : decode b_Schema_added 118 = .ok (.iload 4, 2) := by decide +kernel
theorem d_Schema_added_120 : decode b_Schema_added 120 = .ok (.iaload, 1) := by decide +kernel
theorem d_Schema_added_121 : decode b_Schema_added 121 = .ok (.iastore, 1) := by decide +kernel
theorem d_Schema_added_122 : decode b_Schema_added 122 = .ok (.aload_n 0, 1) := by decide +kernel
theorem d_Schema_added_123 : decode b_Schema_added 123 = .ok (.getfield 74, 3) := by decide +kernel
theorem d_Schema_added_126 : decode b_Schema_added 126 = .ok (.aload_n 0, 1) := by decide +kernel
theorem d_Schema_added_127 : decode b_Schema_added 127 = .ok (.getfield 112, 3) := by decide +kernel
theorem d_Schema_added_130 : decode b_Schema_added 130 = .ok (.iconst (-1), 1) := by decide +kernel
theorem d_Schema_added_131 : decode b_Schema_added 131 = .ok (.iastore, 1) := by decide +kernel
theorem d_Schema_added_132 : decode b_Schema_added 132 = .ok (.aload_n 0, 1) := by decide +kernel
theorem d_Schema_added_133 : decode b_Schema_added 133 = .ok (.getfield 61, 3) := by decide +kernel
theorem d_Schema_added_136 : decode b_Schema_added 136 = .ok (.iload 4, 2) := by decide +kernel
theorem d_Schema_added_138 : decode b_Schema_added 138 = .ok (.aload_n 0, 1) := by decide +kernel
theorem d_Schema_added_139 : decode b_Schema_added 139 = .ok (.getfield 112, 3) := by decide +kernel
theorem d_Schema_added_142 : decode b_Schema_added 142 = .ok (.iastore, 1) := by decide +kernel
theorem d_Schema_added_143 : decode b_Schema_added 143 = .ok (.iconst 0, 1) := by decide +kernel
theorem d_Schema_added_144 : decode b_Schema_added 144 = .ok (.istore 5, 2) := by decide +kernel
theorem d_Schema_added_146 : decode b_Schema_added 146 = .ok (.iload 5, 2) := by decide +kernel
theorem d_Schema_added_148 : decode b_Schema_added 148 = .ok (.iload_n 3, 1) := by decide +kernel
theorem d_Schema_added_149 : decode b_Schema_added 149 = .ok (.if_icmp .ge 24, 3) := by decide +kernel
theorem d_Schema_added_152 : decode b_Schema_added 152 = .ok (.aload_n 0, 1) := by decide +kernel
theorem d_Schema_added_153 : decode b_Schema_added 153 = .ok (.getfield 58, 3) := by decide +kernel
theorem d_Schema_added_156 : decode b_Schema_added 156 = .ok (.aload_n 1, 1) := by decide +kernel
theorem d_Schema_added_157 : decode b_Schema_added 157 = .ok (.iload_n 2, 1) := by decide +kernel
theorem d_Schema_added_158 : decode b_Schema_added 158 = .ok (.iload 5, 2) := by decide +kernel
theorem d_Schema_added_160 : decode b_Schema_added 160 = .ok (.iadd, 1) := by decide +kernel
theorem d_Schema_added_161 : decode b_Schema_added 161 = .ok (.invokevirtual 115, 3) := by decide +kernel
theorem d_Schema_added_164 : decode b_Schema_added 164 = .ok (.invokevirtual 55, 3) := by decide +kernel
theorem d_Schema_added_167 : decode b_Schema_added 167 = .ok (.iinc 5 1, 3) := by decide +kernel
theorem d_Schema_added_170 : decode b_Schema_added 170 = .ok (.goto (-24), 3) := by decide +kernel
theorem d_Schema_added_173 : decode b_Schema_added 173 = .ok (.aload_n 0, 1) := by decide +kernel
theorem d_Schema_added_174 : decode b_Schema_added 174 = .ok (.dup, 1) := by decide +kernel
theorem d_Schema_added_175 : decode b_Schema_added 175 = .ok (.getfield 112, 3) := by decide +kernel
theorem d_Schema_added_178 : decode b_Schema_added 178 = .ok (.iconst 1, 1) := by decide +kernel
theorem d_Schema_added_179 : decode b_Schema_added 179 = .ok (.iadd, 1) := by decide +kernel
theorem d_Schema_added_180 : decode b_Schema_added 180 = .ok (.putfield 112, 3) := by decide +kernel
theorem d_Schema_added_183 : decode b_Schema_added 183 = .ok (.aload_n 0, 1) := by decide +kernel
theorem d_Schema_added_184 : decode b_Schema_added 184 = .ok (.getfield 112, 3) := by decide +kernel
theorem d_Schema_added_187 : decode b_Schema_added 187 = .ok (.iconst 1, 1) := by decide +kernel
theorem d_Schema_added_188 : decode b_Schema_added 188 = .ok (.isub, 1) := by decide +kernel
theorem d_Schema_added_189 : decode b_Schema_added 189 = .ok (.ireturn, 1) := by decide +kernel
def y_Schema_symbol : MethodName := ⟨"SyntaxForge$Schema", "symbol", "(LSyntaxForge$Bytes;IIZ)I"⟩
abbrev b_Schema_symbol : ByteArray := prog_10_method_5_code
abbrev cd_Schema_symbol : Cond := .code y_Schema_symbol b_Schema_symbol 8 (some .int)
abbrev ws_Schema_symbol : List Cond := cd_Schema_symbol :: tw_tbl
theorem k_Schema_symbol : cd_Schema_symbol ∈ tw_tbl := tw_t2 (List.mem_of_getElem? (i := 2) rfl) rfl
theorem d_Schema_symbol_0 : decode b_Schema_symbol 0 = .ok (.iload_n 3, 1) := by decide +kernel
theorem d_Schema_symbol_1 : decode b_Schema_symbol 1 = .ok (.istore 5, 2) := by decide +kernel
theorem d_Schema_symbol_3 : decode b_Schema_symbol 3 = .ok (.iconst 0, 1) := by decide +kernel
theorem d_Schema_symbol_4 : decode b_Schema_symbol 4 = .ok (.istore 6, 2) := by decide +kernel
theorem d_Schema_symbol_6 : decode b_Schema_symbol 6 = .ok (.iload 6, 2) := by decide +kernel
theorem d_Schema_symbol_8 : decode b_Schema_symbol 8 = .ok (.iload_n 3, 1) := by decide +kernel
theorem d_Schema_symbol_9 : decode b_Schema_symbol 9 = .ok (.if_icmp .ge 25, 3) := by decide +kernel
theorem d_Schema_symbol_12 : decode b_Schema_symbol 12 = .ok (.bipush 31, 2) := by decide +kernel
theorem d_Schema_symbol_14 : decode b_Schema_symbol 14 = .ok (.iload 5, 2) := by decide +kernel
theorem d_Schema_symbol_16 : decode b_Schema_symbol 16 = .ok (.imul, 1) := by decide +kernel
theorem d_Schema_symbol_17 : decode b_Schema_symbol 17 = .ok (.aload_n 1, 1) := by decide +kernel
theorem d_Schema_symbol_18 : decode b_Schema_symbol 18 = .ok (.iload_n 2, 1) := by decide +kernel
theorem d_Schema_symbol_19 : decode b_Schema_symbol 19 = .ok (.iload 6, 2) := by decide +kernel
theorem d_Schema_symbol_21 : decode b_Schema_symbol 21 = .ok (.iadd, 1) := by decide +kernel
theorem d_Schema_symbol_22 : decode b_Schema_symbol 22 = .ok (.invokevirtual 115, 3) := by decide +kernel
theorem d_Schema_symbol_25 : decode b_Schema_symbol 25 = .ok (.iadd, 1) := by decide +kernel
theorem d_Schema_symbol_26 : decode b_Schema_symbol 26 = .ok (.istore 5, 2) := by decide +kernel
theorem d_Schema_symbol_28 : decode b_Schema_symbol 28 = .ok (.iinc 6 1, 3) := by decide +kernel
theorem d_Schema_symbol_31 : decode b_Schema_symbol 31 = .ok (.goto (-25), 3) := by decide +kernel
theorem d_Schema_symbol_34 : decode b_Schema_symbol 34 = .ok (.iload 5, 2) := by decide +kernel
theorem d_Schema_symbol_36 : decode b_Schema_symbol 36 = .ok (.iload 5, 2) := by decide +kernel
theorem d_Schema_symbol_38 : decode b_Schema_symbol 38 = .ok (.bipush 8, 2) := by decide +kernel
theorem d_Schema_symbol_40 : decode b_Schema_symbol 40 = .ok (.iushr, 1) := by decide +kernel
theorem d_Schema_symbol_41 : decode b_Schema_symbol 41 = .ok (.ixor, 1) := by decide +kernel
theorem d_Schema_symbol_42 : decode b_Schema_symbol 42 = .ok (.sipush 255, 3) := by decide +kernel
theorem d_Schema_symbol_45 : decode b_Schema_symbol 45 = .ok (.iand, 1) := by decide +kernel
theorem d_Schema_symbol_46 : decode b_Schema_symbol 46 = .ok (.istore 6, 2) := by decide +kernel
theorem d_Schema_symbol_48 : decode b_Schema_symbol 48 = .ok (.aload_n 0, 1) := by decide +kernel
theorem d_Schema_symbol_49 : decode b_Schema_symbol 49 = .ok (.getfield 61, 3) := by decide +kernel
theorem d_Schema_symbol_52 : decode b_Schema_symbol 52 = .ok (.iload 6, 2) := by decide +kernel
theorem d_Schema_symbol_54 : decode b_Schema_symbol 54 = .ok (.iaload, 1) := by decide +kernel
theorem d_Schema_symbol_55 : decode b_Schema_symbol 55 = .ok (.istore 7, 2) := by decide +kernel
theorem d_Schema_symbol_57 : decode b_Schema_symbol 57 = .ok (.iload 7, 2) := by decide +kernel
theorem d_Schema_symbol_59 : decode b_Schema_symbol 59 = .ok (.ifCond .lt 40, 3) := by decide +kernel
theorem d_Schema_symbol_62 : decode b_Schema_symbol 62 = .ok (.aload_n 0, 1) := by decide +kernel
theorem d_Schema_symbol_63 : decode b_Schema_symbol 63 = .ok (.getfield 68, 3) := by decide +kernel
theorem d_Schema_symbol_66 : decode b_Schema_symbol 66 = .ok (.iload 7, 2) := by decide +kernel
theorem d_Schema_symbol_68 : decode b_Schema_symbol 68 = .ok (.iaload, 1) := by decide +kernel
theorem d_Schema_symbol_69 : decode b_Schema_symbol 69 = .ok (.iload_n 3, 1) := by decide +kernel
theorem d_Schema_symbol_70 : decode b_Schema_symbol 70 = .ok (.if_icmp .ne 17, 3) := by decide +kernel
theorem d_Schema_symbol_73 : decode b_Schema_symbol 73 = .ok (.aload_n 0, 1) := by decide +kernel
theorem d_Schema_symbol_74 : decode b_Schema_symbol 74 = .ok (.iload 7, 2) := by decide +kernel
theorem d_Schema_symbol_76 : decode b_Schema_symbol 76 = .ok (.aload_n 1, 1) := by decide +kernel
theorem d_Schema_symbol_77 : decode b_Schema_symbol 77 = .ok (.iload_n 2, 1) := by decide +kernel
theorem d_Schema_symbol_78 : decode b_Schema_symbol 78 = .ok (.invokevirtual 123, 3) := by decide +kernel
theorem d_Schema_symbol_81 : decode b_Schema_symbol 81 = .ok (.ifCond .eq 6, 3) := by decide +kernel
theorem d_Schema_symbol_84 : decode b_Schema_symbol 84 = .ok (.iload 7, 2) := by decide +kernel
theorem d_Schema_symbol_86 : decode b_Schema_symbol 86 = .ok (.ireturn, 1) := by decide +kernel
theorem d_Schema_symbol_87 : decode b_Schema_symbol 87 = .ok (.aload_n 0, 1) := by decide +kernel
theorem d_Schema_symbol_88 : decode b_Schema_symbol 88 = .ok (.getfield 71, 3) := by decide +kernel
theorem d_Schema_symbol_91 : decode b_Schema_symbol 91 = .ok (.iload 7, 2) := by decide +kernel
theorem d_Schema_symbol_93 : decode b_Schema_symbol 93 = .ok (.iaload, 1) := by decide +kernel
theorem d_Schema_symbol_94 : decode b_Schema_symbol 94 = .ok (.istore 7, 2) := by decide +kernel
theorem d_Schema_symbol_96 : decode b_Schema_symbol 96 = .ok (.goto (-39), 3) := by decide +kernel
theorem d_Schema_symbol_99 : decode b_Schema_symbol 99 = .ok (.iload 4, 2) := by decide +kernel
theorem d_Schema_symbol_101 : decode b_Schema_symbol 101 = .ok (.ifCond .eq 15, 3) := by decide +kernel
theorem d_Schema_symbol_104 : decode b_Schema_symbol 104 = .ok (.aload_n 0, 1) := by decide +kernel
theorem d_Schema_symbol_105 : decode b_Schema_symbol 105 = .ok (.aload_n 1, 1) := by decide +kernel
theorem d_Schema_symbol_106 : decode b_Schema_symbol 106 = .ok (.iload_n 2, 1) := by decide +kernel
theorem d_Schema_symbol_107 : decode b_Schema_symbol 107 = .ok (.iload_n 3, 1) := by decide +kernel
theorem d_Schema_symbol_108 : decode b_Schema_symbol 108 = .ok (.iload 6, 2) := by decide +kernel
theorem d_Schema_symbol_110 : decode b_Schema_symbol 110 = .ok (.invokevirtual 127, 3) := by decide +kernel
theorem d_Schema_symbol_113 : decode b_Schema_symbol 113 = .ok (.goto 4, 3) := by decide +kernel
theorem d_Schema_symbol_116 : decode b_Schema_symbol 116 = .ok (.iconst (-1), 1) := by decide +kernel
theorem d_Schema_symbol_117 : decode b_Schema_symbol 117 = .ok (.ireturn, 1) := by decide +kernel
