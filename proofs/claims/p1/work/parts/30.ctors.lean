/-! by program (wip/p1) -/
theorem wd_1_58 : Cond.methodLink "SyntaxForge$Bytes" 3 ⟨"java/lang/Object", "<init>", "()V"⟩ ∈ tw_tbl := tw_t1 (List.mem_of_getElem? (i := 58) rfl) rfl
theorem wd_1_51 : Cond.instanceMethod ⟨"java/lang/Object", "<init>", "()V"⟩ ∈ tw_tbl := tw_t1 (List.mem_of_getElem? (i := 51) rfl) rfl
theorem wd_1_52 : Cond.code ⟨"java/lang/Object", "<init>", "()V"⟩ object_method_1_code 1 none ∈ tw_tbl := tw_t1 (List.mem_of_getElem? (i := 52) rfl) rfl
theorem wd_1_80 : Cond.arrayClass .byte ∈ tw_tbl := tw_t1 (List.mem_of_getElem? (i := 80) rfl) rfl
theorem wd_1_59 : Cond.fieldLink "SyntaxForge$Bytes" 9 "SyntaxForge$Bytes" "at" "[B" ∈ tw_tbl := tw_t1 (List.mem_of_getElem? (i := 59) rfl) rfl
theorem wd_1_64 : Cond.fieldLink "SyntaxForge$Bytes" 15 "SyntaxForge$Bytes" "length" "I" ∈ tw_tbl := tw_t1 (List.mem_of_getElem? (i := 64) rfl) rfl
theorem wd_1_98 : Cond.methodLink "java/util/AbstractCollection" 1 ⟨"java/lang/Object", "<init>", "()V"⟩ ∈ tw_tbl := tw_t1 (List.mem_of_getElem? (i := 98) rfl) rfl
theorem wd_1_4 : Cond.initialized "java/util/AbstractCollection" ∈ tw_tbl := tw_t1 (List.mem_of_getElem? (i := 4) rfl) rfl
theorem wd_1_95 : Cond.methodLink "java/util/AbstractList" 1 ⟨"java/util/AbstractCollection", "<init>", "()V"⟩ ∈ tw_tbl := tw_t1 (List.mem_of_getElem? (i := 95) rfl) rfl
theorem wd_1_96 : Cond.instanceMethod ⟨"java/util/AbstractCollection", "<init>", "()V"⟩ ∈ tw_tbl := tw_t1 (List.mem_of_getElem? (i := 96) rfl) rfl
theorem wd_1_103 : Cond.fieldLink "java/util/AbstractList" 7 "java/util/AbstractList" "modCount" "I" ∈ tw_tbl := tw_t1 (List.mem_of_getElem? (i := 103) rfl) rfl
theorem wd_1_5 : Cond.initialized "java/util/AbstractList" ∈ tw_tbl := tw_t1 (List.mem_of_getElem? (i := 5) rfl) rfl
theorem wd_1_92 : Cond.methodLink "java/util/ArrayList" 1 ⟨"java/util/AbstractList", "<init>", "()V"⟩ ∈ tw_tbl := tw_t1 (List.mem_of_getElem? (i := 92) rfl) rfl
theorem wd_1_93 : Cond.instanceMethod ⟨"java/util/AbstractList", "<init>", "()V"⟩ ∈ tw_tbl := tw_t1 (List.mem_of_getElem? (i := 93) rfl) rfl
theorem wd_1_99 : Cond.fieldLink "java/util/ArrayList" 39 "java/util/ArrayList" "DEFAULTCAPACITY_EMPTY_ELEMENTDATA" "[Ljava/lang/Object;" ∈ tw_tbl := tw_t1 (List.mem_of_getElem? (i := 99) rfl) rfl
theorem wd_1_101 : Cond.fieldLink "java/util/ArrayList" 9 "java/util/ArrayList" "elementData" "[Ljava/lang/Object;" ∈ tw_tbl := tw_t1 (List.mem_of_getElem? (i := 101) rfl) rfl
theorem wd_1_118 : Cond.methodLink "SyntaxForge$Values" 3 ⟨"java/lang/Object", "<init>", "()V"⟩ ∈ tw_tbl := tw_t1 (List.mem_of_getElem? (i := 118) rfl) rfl
theorem wd_1_119 : Cond.classLink "SyntaxForge$Values" 9 "java/util/ArrayList" ∈ tw_tbl := tw_t1 (List.mem_of_getElem? (i := 119) rfl) rfl
theorem wd_1_88 : Cond.instantiable "java/util/ArrayList" 3 ∈ tw_tbl := tw_t1 (List.mem_of_getElem? (i := 88) rfl) rfl
theorem wd_1_6 : Cond.initialized "java/util/ArrayList" ∈ tw_tbl := tw_t1 (List.mem_of_getElem? (i := 6) rfl) rfl
theorem wd_1_120 : Cond.methodLink "SyntaxForge$Values" 11 ⟨"java/util/ArrayList", "<init>", "()V"⟩ ∈ tw_tbl := tw_t1 (List.mem_of_getElem? (i := 120) rfl) rfl
theorem wd_1_90 : Cond.instanceMethod ⟨"java/util/ArrayList", "<init>", "()V"⟩ ∈ tw_tbl := tw_t1 (List.mem_of_getElem? (i := 90) rfl) rfl
theorem wd_1_123 : Cond.fieldLink "SyntaxForge$Values" 12 "SyntaxForge$Values" "all" "Ljava/util/ArrayList;" ∈ tw_tbl := tw_t1 (List.mem_of_getElem? (i := 123) rfl) rfl
theorem wd_1_121 : Cond.classLink "SyntaxForge$Values" 18 "SyntaxForge$Bytes" ∈ tw_tbl := tw_t1 (List.mem_of_getElem? (i := 121) rfl) rfl
theorem wd_1_54 : Cond.instantiable "SyntaxForge$Bytes" 2 ∈ tw_tbl := tw_t1 (List.mem_of_getElem? (i := 54) rfl) rfl
theorem wd_1_2 : Cond.initialized "SyntaxForge$Bytes" ∈ tw_tbl := tw_t1 (List.mem_of_getElem? (i := 2) rfl) rfl
theorem wd_1_122 : Cond.methodLink "SyntaxForge$Values" 20 ⟨"SyntaxForge$Bytes", "<init>", "(I)V"⟩ ∈ tw_tbl := tw_t1 (List.mem_of_getElem? (i := 122) rfl) rfl
theorem wd_1_56 : Cond.instanceMethod ⟨"SyntaxForge$Bytes", "<init>", "(I)V"⟩ ∈ tw_tbl := tw_t1 (List.mem_of_getElem? (i := 56) rfl) rfl
theorem wd_1_126 : Cond.fieldLink "SyntaxForge$Values" 23 "SyntaxForge$Values" "data" "LSyntaxForge$Bytes;" ∈ tw_tbl := tw_t1 (List.mem_of_getElem? (i := 126) rfl) rfl
theorem wd_1_132 : Cond.fieldLink "SyntaxForge$Values" 27 "SyntaxForge$Values" "used" "I" ∈ tw_tbl := tw_t1 (List.mem_of_getElem? (i := 132) rfl) rfl
theorem wd_2_156 : Cond.methodLink "SyntaxForge$Der" 3 ⟨"java/lang/Object", "<init>", "()V"⟩ ∈ tw_tbl := tw_t2 (List.mem_of_getElem? (i := 156) rfl) rfl
theorem wd_2_157 : Cond.classLink "SyntaxForge$Der" 9 "SyntaxForge$Value" ∈ tw_tbl := tw_t2 (List.mem_of_getElem? (i := 157) rfl) rfl
theorem wd_2_158 : Cond.fieldLink "SyntaxForge$Der" 11 "SyntaxForge$Der" "row" "[LSyntaxForge$Value;" ∈ tw_tbl := tw_t2 (List.mem_of_getElem? (i := 158) rfl) rfl
theorem wd_2_159 : Cond.fieldLink "SyntaxForge$Der" 17 "SyntaxForge$Der" "merged" "[LSyntaxForge$Value;" ∈ tw_tbl := tw_t2 (List.mem_of_getElem? (i := 159) rfl) rfl
theorem wd_2_80 : Cond.arrayClass .int ∈ tw_tbl := tw_t2 (List.mem_of_getElem? (i := 80) rfl) rfl
theorem wd_2_160 : Cond.fieldLink "SyntaxForge$Der" 20 "SyntaxForge$Der" "widths" "[I" ∈ tw_tbl := tw_t2 (List.mem_of_getElem? (i := 160) rfl) rfl
theorem wd_2_173 : Cond.methodLink "SyntaxForge$BerReader" 3 ⟨"java/lang/Object", "<init>", "()V"⟩ ∈ tw_tbl := tw_t2 (List.mem_of_getElem? (i := 173) rfl) rfl
theorem wd_2_174 : Cond.fieldLink "SyntaxForge$BerReader" 9 "SyntaxForge$BerReader" "values" "LSyntaxForge$Values;" ∈ tw_tbl := tw_t2 (List.mem_of_getElem? (i := 174) rfl) rfl
theorem wd_2_175 : Cond.fieldLink "SyntaxForge$BerReader" 15 "SyntaxForge$BerReader" "order" "LSyntaxForge$Der;" ∈ tw_tbl := tw_t2 (List.mem_of_getElem? (i := 175) rfl) rfl
theorem wd_2_176 : Cond.fieldLink "SyntaxForge$BerReader" 19 "SyntaxForge$BerReader" "ends" "[I" ∈ tw_tbl := tw_t2 (List.mem_of_getElem? (i := 176) rfl) rfl
theorem wd_2_177 : Cond.fieldLink "SyntaxForge$BerReader" 23 "SyntaxForge$BerReader" "limits" "[I" ∈ tw_tbl := tw_t2 (List.mem_of_getElem? (i := 177) rfl) rfl
theorem wd_2_213 : Cond.methodLink "SyntaxForge$PerWriter" 3 ⟨"java/lang/Object", "<init>", "()V"⟩ ∈ tw_tbl := tw_t2 (List.mem_of_getElem? (i := 213) rfl) rfl
theorem wd_2_226 : Cond.methodLink "SyntaxForge$PerReader" 3 ⟨"java/lang/Object", "<init>", "()V"⟩ ∈ tw_tbl := tw_t2 (List.mem_of_getElem? (i := 226) rfl) rfl
theorem wd_2_227 : Cond.fieldLink "SyntaxForge$PerReader" 9 "SyntaxForge$PerReader" "values" "LSyntaxForge$Values;" ∈ tw_tbl := tw_t2 (List.mem_of_getElem? (i := 227) rfl) rfl
theorem wd_2_87 : Cond.methodLink "SyntaxForge$Scanner" 1 ⟨"java/lang/Object", "<init>", "()V"⟩ ∈ tw_tbl := tw_t2 (List.mem_of_getElem? (i := 87) rfl) rfl
theorem wd_2_88 : Cond.fieldLink "SyntaxForge$Scanner" 7 "SyntaxForge$Scanner" "kinds" "[I" ∈ tw_tbl := tw_t2 (List.mem_of_getElem? (i := 88) rfl) rfl
theorem wd_2_90 : Cond.fieldLink "SyntaxForge$Scanner" 13 "SyntaxForge$Scanner" "places" "[I" ∈ tw_tbl := tw_t2 (List.mem_of_getElem? (i := 90) rfl) rfl
theorem wd_2_81 : Cond.arrayClass .long ∈ tw_tbl := tw_t2 (List.mem_of_getElem? (i := 81) rfl) rfl
theorem wd_2_92 : Cond.fieldLink "SyntaxForge$Scanner" 16 "SyntaxForge$Scanner" "numbers" "[J" ∈ tw_tbl := tw_t2 (List.mem_of_getElem? (i := 92) rfl) rfl
theorem wd_2_96 : Cond.fieldLink "SyntaxForge$Scanner" 20 "SyntaxForge$Scanner" "told" "I" ∈ tw_tbl := tw_t2 (List.mem_of_getElem? (i := 96) rfl) rfl
theorem wd_2_124 : Cond.methodLink "SyntaxForge$Parser" 3 ⟨"java/lang/Object", "<init>", "()V"⟩ ∈ tw_tbl := tw_t2 (List.mem_of_getElem? (i := 124) rfl) rfl
theorem wd_2_127 : Cond.fieldLink "SyntaxForge$Parser" 9 "SyntaxForge$Parser" "scanner" "LSyntaxForge$Scanner;" ∈ tw_tbl := tw_t2 (List.mem_of_getElem? (i := 127) rfl) rfl
theorem wd_2_125 : Cond.classLink "SyntaxForge$Parser" 15 "SyntaxForge$Value" ∈ tw_tbl := tw_t2 (List.mem_of_getElem? (i := 125) rfl) rfl
theorem wd_2_128 : Cond.fieldLink "SyntaxForge$Parser" 17 "SyntaxForge$Parser" "unended" "[LSyntaxForge$Value;" ∈ tw_tbl := tw_t2 (List.mem_of_getElem? (i := 128) rfl) rfl
def y_Bytes_init : MethodName := ⟨"SyntaxForge$Bytes", "<init>", "(I)V"⟩
abbrev b_Bytes_init : ByteArray := prog_3_method_1_code
abbrev cd_Bytes_init : Cond := .code y_Bytes_init b_Bytes_init 2 none
abbrev ws_Bytes_init : List Cond := cd_Bytes_init :: tw_tbl
theorem k_Bytes_init : cd_Bytes_init ∈ tw_tbl := tw_t1 (List.mem_of_getElem? (i := 57) rfl) rfl
theorem d_Bytes_init_0 : decode b_Bytes_init 0 = .ok (.aload_n 0, 1) := by decide +kernel
theorem d_Bytes_init_1 : decode b_Bytes_init 1 = .ok (.invokespecial 3, 3) := by decide +kernel
theorem d_Bytes_init_4 : decode b_Bytes_init 4 = .ok (.aload_n 0, 1) := by decide +kernel
theorem d_Bytes_init_5 : decode b_Bytes_init 5 = .ok (.iload_n 1, 1) := by decide +kernel
theorem d_Bytes_init_6 : decode b_Bytes_init 6 = .ok (.newarray .byte, 2) := by decide +kernel
theorem d_Bytes_init_8 : decode b_Bytes_init 8 = .ok (.putfield 9, 3) := by decide +kernel
theorem d_Bytes_init_11 : decode b_Bytes_init 11 = .ok (.aload_n 0, 1) := by decide +kernel
theorem d_Bytes_init_12 : decode b_Bytes_init 12 = .ok (.iconst 0, 1) := by decide +kernel
theorem d_Bytes_init_13 : decode b_Bytes_init 13 = .ok (.putfield 15, 3) := by decide +kernel
theorem d_Bytes_init_16 : decode b_Bytes_init 16 = .ok (.return_, 1) := by decide +kernel
def y_AbC_init : MethodName := ⟨"java/util/AbstractCollection", "<init>", "()V"⟩
abbrev b_AbC_init : ByteArray := prog_42_method_1_code
abbrev cd_AbC_init : Cond := .code y_AbC_init b_AbC_init 1 none
abbrev ws_AbC_init : List Cond := cd_AbC_init :: tw_tbl
theorem k_AbC_init : cd_AbC_init ∈ tw_tbl := tw_t1 (List.mem_of_getElem? (i := 97) rfl) rfl
theorem d_AbC_init_0 : decode b_AbC_init 0 = .ok (.aload_n 0, 1) := by decide +kernel
theorem d_AbC_init_1 : decode b_AbC_init 1 = .ok (.invokespecial 1, 3) := by decide +kernel
theorem d_AbC_init_4 : decode b_AbC_init 4 = .ok (.return_, 1) := by decide +kernel
def y_AbL_init : MethodName := ⟨"java/util/AbstractList", "<init>", "()V"⟩
abbrev b_AbL_init : ByteArray := prog_43_method_1_code
abbrev cd_AbL_init : Cond := .code y_AbL_init b_AbL_init 1 none
abbrev ws_AbL_init : List Cond := cd_AbL_init :: tw_tbl
theorem k_AbL_init : cd_AbL_init ∈ tw_tbl := tw_t1 (List.mem_of_getElem? (i := 94) rfl) rfl
theorem d_AbL_init_0 : decode b_AbL_init 0 = .ok (.aload_n 0, 1) := by decide +kernel
theorem d_AbL_init_1 : decode b_AbL_init 1 = .ok (.invokespecial 1, 3) := by decide +kernel
theorem d_AbL_init_4 : decode b_AbL_init 4 = .ok (.aload_n 0, 1) := by decide +kernel
theorem d_AbL_init_5 : decode b_AbL_init 5 = .ok (.iconst 0, 1) := by decide +kernel
theorem d_AbL_init_6 : decode b_AbL_init 6 = .ok (.putfield 7, 3) := by decide +kernel
theorem d_AbL_init_9 : decode b_AbL_init 9 = .ok (.return_, 1) := by decide +kernel
def y_AL_init : MethodName := ⟨"java/util/ArrayList", "<init>", "()V"⟩
abbrev b_AL_init : ByteArray := prog_44_method_2_code
abbrev cd_AL_init : Cond := .code y_AL_init b_AL_init 1 none
abbrev ws_AL_init : List Cond := cd_AL_init :: tw_tbl
theorem k_AL_init : cd_AL_init ∈ tw_tbl := tw_t1 (List.mem_of_getElem? (i := 91) rfl) rfl
theorem d_AL_init_0 : decode b_AL_init 0 = .ok (.aload_n 0, 1) := by decide +kernel
theorem d_AL_init_1 : decode b_AL_init 1 = .ok (.invokespecial 1, 3) := by decide +kernel
theorem d_AL_init_4 : decode b_AL_init 4 = .ok (.aload_n 0, 1) := by decide +kernel
theorem d_AL_init_5 : decode b_AL_init 5 = .ok (.getstatic 39, 3) := by decide +kernel
theorem d_AL_init_8 : decode b_AL_init 8 = .ok (.putfield 9, 3) := by decide +kernel
theorem d_AL_init_11 : decode b_AL_init 11 = .ok (.return_, 1) := by decide +kernel
def y_Values_init : MethodName := ⟨"SyntaxForge$Values", "<init>", "()V"⟩
abbrev b_Values_init : ByteArray := prog_13_method_1_code
abbrev cd_Values_init : Cond := .code y_Values_init b_Values_init 1 none
abbrev ws_Values_init : List Cond := cd_Values_init :: tw_tbl
theorem k_Values_init : cd_Values_init ∈ tw_tbl := tw_t1 (List.mem_of_getElem? (i := 117) rfl) rfl
theorem d_Values_init_0 : decode b_Values_init 0 = .ok (.aload_n 0, 1) := by decide +kernel
theorem d_Values_init_1 : decode b_Values_init 1 = .ok (.invokespecial 3, 3) := by decide +kernel
theorem d_Values_init_4 : decode b_Values_init 4 = .ok (.aload_n 0, 1) := by decide +kernel
theorem d_Values_init_5 : decode b_Values_init 5 = .ok (.new 9, 3) := by decide +kernel
theorem d_Values_init_8 : decode b_Values_init 8 = .ok (.dup, 1) := by decide +kernel
theorem d_Values_init_9 : decode b_Values_init 9 = .ok (.invokespecial 11, 3) := by decide +kernel
theorem d_Values_init_12 : decode b_Values_init 12 = .ok (.putfield 12, 3) := by decide +kernel
theorem d_Values_init_15 : decode b_Values_init 15 = .ok (.aload_n 0, 1) := by decide +kernel
theorem d_Values_init_16 : decode b_Values_init 16 = .ok (.new 18, 3) := by decide +kernel
theorem d_Values_init_19 : decode b_Values_init 19 = .ok (.dup, 1) := by decide +kernel
theorem d_Values_init_20 : decode b_Values_init 20 = .ok (.bipush 64, 2) := by decide +kernel
theorem d_Values_init_22 : decode b_Values_init 22 = .ok (.invokespecial 20, 3) := by decide +kernel
theorem d_Values_init_25 : decode b_Values_init 25 = .ok (.putfield 23, 3) := by decide +kernel
theorem d_Values_init_28 : decode b_Values_init 28 = .ok (.aload_n 0, 1) := by decide +kernel
theorem d_Values_init_29 : decode b_Values_init 29 = .ok (.iconst 0, 1) := by decide +kernel
theorem d_Values_init_30 : decode b_Values_init 30 = .ok (.putfield 27, 3) := by decide +kernel
theorem d_Values_init_33 : decode b_Values_init 33 = .ok (.return_, 1) := by decide +kernel
def y_Der_init : MethodName := ⟨"SyntaxForge$Der", "<init>", "()V"⟩
abbrev b_Der_init : ByteArray := prog_4_method_1_code
abbrev cd_Der_init : Cond := .code y_Der_init b_Der_init 1 none
abbrev ws_Der_init : List Cond := cd_Der_init :: tw_tbl
theorem k_Der_init : cd_Der_init ∈ tw_tbl := tw_t2 (List.mem_of_getElem? (i := 155) rfl) rfl
theorem d_Der_init_0 : decode b_Der_init 0 = .ok (.aload_n 0, 1) := by decide +kernel
theorem d_Der_init_1 : decode b_Der_init 1 = .ok (.invokespecial 3, 3) := by decide +kernel
theorem d_Der_init_4 : decode b_Der_init 4 = .ok (.aload_n 0, 1) := by decide +kernel
theorem d_Der_init_5 : decode b_Der_init 5 = .ok (.bipush 16, 2) := by decide +kernel
theorem d_Der_init_7 : decode b_Der_init 7 = .ok (.anewarray 9, 3) := by decide +kernel
theorem d_Der_init_10 : decode b_Der_init 10 = .ok (.putfield 11, 3) := by decide +kernel
theorem d_Der_init_13 : decode b_Der_init 13 = .ok (.aload_n 0, 1) := by decide +kernel
theorem d_Der_init_14 : decode b_Der_init 14 = .ok (.bipush 16, 2) := by decide +kernel
theorem d_Der_init_16 : decode b_Der_init 16 = .ok (.anewarray 9, 3) := by decide +kernel
theorem d_Der_init_19 : decode b_Der_init 19 = .ok (.putfield 17, 3) := by decide +kernel
theorem d_Der_init_22 : decode b_Der_init 22 = .ok (.aload_n 0, 1) := by decide +kernel
theorem d_Der_init_23 : decode b_Der_init 23 = .ok (.bipush 16, 2) := by decide +kernel
theorem d_Der_init_25 : decode b_Der_init 25 = .ok (.newarray .int, 2) := by decide +kernel
theorem d_Der_init_27 : decode b_Der_init 27 = .ok (.putfield 20, 3) := by decide +kernel
theorem d_Der_init_30 : decode b_Der_init 30 = .ok (.return_, 1) := by decide +kernel
def y_Ber_init : MethodName := ⟨"SyntaxForge$BerReader", "<init>", "(LSyntaxForge$Values;LSyntaxForge$Der;)V"⟩
abbrev b_Ber_init : ByteArray := prog_2_method_1_code
abbrev cd_Ber_init : Cond := .code y_Ber_init b_Ber_init 3 none
abbrev ws_Ber_init : List Cond := cd_Ber_init :: tw_tbl
theorem k_Ber_init : cd_Ber_init ∈ tw_tbl := tw_t2 (List.mem_of_getElem? (i := 172) rfl) rfl
theorem d_Ber_init_0 : decode b_Ber_init 0 = .ok (.aload_n 0, 1) := by decide +kernel
theorem d_Ber_init_1 : decode b_Ber_init 1 = .ok (.invokespecial 3, 3) := by decide +kernel
theorem d_Ber_init_4 : decode b_Ber_init 4 = .ok (.aload_n 0, 1) := by decide +kernel
theorem d_Ber_init_5 : decode b_Ber_init 5 = .ok (.aload_n 1, 1) := by decide +kernel
theorem d_Ber_init_6 : decode b_Ber_init 6 = .ok (.putfield 9, 3) := by decide +kernel
theorem d_Ber_init_9 : decode b_Ber_init 9 = .ok (.aload_n 0, 1) := by decide +kernel
theorem d_Ber_init_10 : decode b_Ber_init 10 = .ok (.aload_n 2, 1) := by decide +kernel
theorem d_Ber_init_11 : decode b_Ber_init 11 = .ok (.putfield 15, 3) := by decide +kernel
theorem d_Ber_init_14 : decode b_Ber_init 14 = .ok (.aload_n 0, 1) := by decide +kernel
theorem d_Ber_init_15 : decode b_Ber_init 15 = .ok (.bipush 61, 2) := by decide +kernel
theorem d_Ber_init_17 : decode b_Ber_init 17 = .ok (.newarray .int, 2) := by decide +kernel
theorem d_Ber_init_19 : decode b_Ber_init 19 = .ok (.putfield 19, 3) := by decide +kernel
theorem d_Ber_init_22 : decode b_Ber_init 22 = .ok (.aload_n 0, 1) := by decide +kernel
theorem d_Ber_init_23 : decode b_Ber_init 23 = .ok (.bipush 61, 2) := by decide +kernel
theorem d_Ber_init_25 : decode b_Ber_init 25 = .ok (.newarray .int, 2) := by decide +kernel
theorem d_Ber_init_27 : decode b_Ber_init 27 = .ok (.putfield 23, 3) := by decide +kernel
theorem d_Ber_init_30 : decode b_Ber_init 30 = .ok (.return_, 1) := by decide +kernel
def y_PerW_init : MethodName := ⟨"SyntaxForge$PerWriter", "<init>", "()V"⟩
abbrev b_PerW_init : ByteArray := prog_8_method_1_code
abbrev cd_PerW_init : Cond := .code y_PerW_init b_PerW_init 1 none
abbrev ws_PerW_init : List Cond := cd_PerW_init :: tw_tbl
theorem k_PerW_init : cd_PerW_init ∈ tw_tbl := tw_t2 (List.mem_of_getElem? (i := 212) rfl) rfl
theorem d_PerW_init_0 : decode b_PerW_init 0 = .ok (.aload_n 0, 1) := by decide +kernel
theorem d_PerW_init_1 : decode b_PerW_init 1 = .ok (.invokespecial 3, 3) := by decide +kernel
theorem d_PerW_init_4 : decode b_PerW_init 4 = .ok (.return_, 1) := by decide +kernel
def y_PerR_init : MethodName := ⟨"SyntaxForge$PerReader", "<init>", "(LSyntaxForge$Values;)V"⟩
abbrev b_PerR_init : ByteArray := prog_7_method_1_code
abbrev cd_PerR_init : Cond := .code y_PerR_init b_PerR_init 2 none
abbrev ws_PerR_init : List Cond := cd_PerR_init :: tw_tbl
theorem k_PerR_init : cd_PerR_init ∈ tw_tbl := tw_t2 (List.mem_of_getElem? (i := 225) rfl) rfl
theorem d_PerR_init_0 : decode b_PerR_init 0 = .ok (.aload_n 0, 1) := by decide +kernel
theorem d_PerR_init_1 : decode b_PerR_init 1 = .ok (.invokespecial 3, 3) := by decide +kernel
theorem d_PerR_init_4 : decode b_PerR_init 4 = .ok (.aload_n 0, 1) := by decide +kernel
theorem d_PerR_init_5 : decode b_PerR_init 5 = .ok (.aload_n 1, 1) := by decide +kernel
theorem d_PerR_init_6 : decode b_PerR_init 6 = .ok (.putfield 9, 3) := by decide +kernel
theorem d_PerR_init_9 : decode b_PerR_init 9 = .ok (.return_, 1) := by decide +kernel
def y_Scanner_init : MethodName := ⟨"SyntaxForge$Scanner", "<init>", "()V"⟩
abbrev b_Scanner_init : ByteArray := prog_9_method_1_code
abbrev cd_Scanner_init : Cond := .code y_Scanner_init b_Scanner_init 1 none
abbrev ws_Scanner_init : List Cond := cd_Scanner_init :: tw_tbl
theorem k_Scanner_init : cd_Scanner_init ∈ tw_tbl := tw_t2 (List.mem_of_getElem? (i := 86) rfl) rfl
theorem d_Scanner_init_0 : decode b_Scanner_init 0 = .ok (.aload_n 0, 1) := by decide +kernel
theorem d_Scanner_init_1 : decode b_Scanner_init 1 = .ok (.invokespecial 1, 3) := by decide +kernel
theorem d_Scanner_init_4 : decode b_Scanner_init 4 = .ok (.aload_n 0, 1) := by decide +kernel
theorem d_Scanner_init_5 : decode b_Scanner_init 5 = .ok (.bipush 64, 2) := by decide +kernel
theorem d_Scanner_init_7 : decode b_Scanner_init 7 = .ok (.newarray .int, 2) := by decide +kernel
theorem d_Scanner_init_9 : decode b_Scanner_init 9 = .ok (.putfield 7, 3) := by decide +kernel
theorem d_Scanner_init_12 : decode b_Scanner_init 12 = .ok (.aload_n 0, 1) := by decide +kernel
theorem d_Scanner_init_13 : decode b_Scanner_init 13 = .ok (.bipush 64, 2) := by decide +kernel
theorem d_Scanner_init_15 : decode b_Scanner_init 15 = .ok (.newarray .int, 2) := by decide +kernel
theorem d_Scanner_init_17 : decode b_Scanner_init 17 = .ok (.putfield 13, 3) := by decide +kernel
theorem d_Scanner_init_20 : decode b_Scanner_init 20 = .ok (.aload_n 0, 1) := by decide +kernel
theorem d_Scanner_init_21 : decode b_Scanner_init 21 = .ok (.bipush 64, 2) := by decide +kernel
theorem d_Scanner_init_23 : decode b_Scanner_init 23 = .ok (.newarray .long, 2) := by decide +kernel
theorem d_Scanner_init_25 : decode b_Scanner_init 25 = .ok (.putfield 16, 3) := by decide +kernel
theorem d_Scanner_init_28 : decode b_Scanner_init 28 = .ok (.aload_n 0, 1) := by decide +kernel
theorem d_Scanner_init_29 : decode b_Scanner_init 29 = .ok (.iconst (-1), 1) := by decide +kernel
theorem d_Scanner_init_30 : decode b_Scanner_init 30 = .ok (.putfield 20, 3) := by decide +kernel
theorem d_Scanner_init_33 : decode b_Scanner_init 33 = .ok (.return_, 1) := by decide +kernel
def y_Parser_init : MethodName := ⟨"SyntaxForge$Parser", "<init>", "(LSyntaxForge$Scanner;)V"⟩
abbrev b_Parser_init : ByteArray := prog_6_method_1_code
abbrev cd_Parser_init : Cond := .code y_Parser_init b_Parser_init 2 none
abbrev ws_Parser_init : List Cond := cd_Parser_init :: tw_tbl
theorem k_Parser_init : cd_Parser_init ∈ tw_tbl := tw_t2 (List.mem_of_getElem? (i := 123) rfl) rfl
theorem d_Parser_init_0 : decode b_Parser_init 0 = .ok (.aload_n 0, 1) := by decide +kernel
theorem d_Parser_init_1 : decode b_Parser_init 1 = .ok (.invokespecial 3, 3) := by decide +kernel
theorem d_Parser_init_4 : decode b_Parser_init 4 = .ok (.aload_n 0, 1) := by decide +kernel
theorem d_Parser_init_5 : decode b_Parser_init 5 = .ok (.aload_n 1, 1) := by decide +kernel
theorem d_Parser_init_6 : decode b_Parser_init 6 = .ok (.putfield 9, 3) := by decide +kernel
theorem d_Parser_init_9 : decode b_Parser_init 9 = .ok (.aload_n 0, 1) := by decide +kernel
theorem d_Parser_init_10 : decode b_Parser_init 10 = .ok (.bipush 60, 2) := by decide +kernel
theorem d_Parser_init_12 : decode b_Parser_init 12 = .ok (.anewarray 15, 3) := by decide +kernel
theorem d_Parser_init_15 : decode b_Parser_init 15 = .ok (.putfield 17, 3) := by decide +kernel
theorem d_Parser_init_18 : decode b_Parser_init 18 = .ok (.return_, 1) := by decide +kernel
set_option maxHeartbeats 4000000 in
set_option maxRecDepth 100000 in
theorem c_Bytes_init (l : Launch) (dC : Nat → ClassId) (dI : Nat → Nat → Nat) (sz : Nat) (h0 : Nat) (n : Nat) (hn : n ≤ 65536) : Met l y_Bytes_init ws_Bytes_init ({ frames := 1, cells := 1, slots := n, locals := 12 }) (va_Pc [.ref h0, .int (nI n)] (fun U => U.heap.size = sz ∧ va_P (dC, dI) classes [(h0, .inr (0, [.null, .int 0]))] U.heap ∧ va_K (dC, dI) classes [] U ∧ va_D (fun _ => True) [(h0, .inr (0, [.null, .int 0]))])) (va_Qv (fun _ : Unit => True) (fun _ t => ∃ (qa : Nat) (ca : ClassId), va_P (dC, dI) classes [(h0, .inr (0, [.ref qa, .int 0])), (qa, .inl (ca, n, .inl ((fun _ => 0))))] t.heap ∧ va_K (dC, dI) classes [(ca, .byte)] t ∧ va_D (va_A [(h0, .inr (0, [.null, .int 0]))] sz) [(h0, .inr (0, [.ref qa, .int 0])), (qa, .inl (ca, n, .inl ((fun _ => 0))))]) (va_A [(h0, .inr (0, [.null, .int 0]))] sz)) 1 n (va_A [(h0, .inr (0, [.null, .int 0]))] sz) := by
  refine Met.ofW (cc := b_Bytes_init) (maxL := 2) (ret := none) (by decide) rfl ?_
  intro p e s m args below meth c s₁ B hml hv
  obtain ⟨rfl, hsz, hP, hK, hD0⟩ := hv
  have hx := B.exec
  have hb := B.bytes
  have hr := B.returns
  have hts := atoms_spec (ws := ws_Bytes_init) B.pre
  have htw : ∀ w ∈ tw_tbl, w.before [.ref h0, .int (nI n)].toArray s = true := fun w h => hts w (List.mem_cons_of_mem _ h)
  have hown : s.vm.findClass R_Bytes = some m.cls := findClass_of_methodNamed B.named
  have hlocks := B.notSynchronized
  have hin : meth.name = "<init>" := (name_of_methodNamed B.named B.method).1
  subst hsz
  have hD := hD0.self (sz := s.heap.size)
  generalize hAe : va_A [(h0, .inr (0, [.null, .int 0]))] s.heap.size = A at hD ⊢
  have hA : ∀ q : Nat, s.heap.size ≤ q → A q := fun q h => by rw [← hAe]; exact Or.inr h
  have hS : va_S A s.heap s.heap [] := va_S.rf
  have hP : va_P (dC, dI) classes [(h0, .inr (0, [.null, .int 0]))] s.heap := hP
  have hl := lv_entry ([.ref h0, .int (nI n)]) (n := 2) (Nat.le_of_ble_eq_true rfl)
  rw [lg_entry_eq]
  generalize (lg_sl ([.ref h0, .int (nI n)]) ++ List.replicate (2 - (lg_sl ([.ref h0, .int (nI n)])).length) Slot.unset).toArray = ls at hl ⊢
  have hl : lv_has ls 2 [(0, .ref h0), (1, .int (nI n))] := hl
  refine lv_aload_n hx hb d_Bytes_init_0 rfl (lv_at hl 0 rfl) ?_
  refine W.objInit hx hb hown (htw _ wd_1_58) (htw _ wd_1_51) (htw _ wd_1_52) rfl (by rw [hml]; exact hl.1) rfl d_Bytes_init_1 (Nat.le_of_ble_eq_true rfl) (Nat.le_of_ble_eq_true rfl) ?_
  refine W.eq (g2 := F0 m 4 ls []) rfl ?_
  refine lv_aload_n hx hb d_Bytes_init_4 rfl (lv_at hl 0 rfl) ?_
  refine lv_iload_n hx hb d_Bytes_init_5 rfl (lv_at hl 1 rfl) ?_
  have hc0 : 0 + 1 ≤ 1 := by omega
  have hs0 : 0 + n ≤ n := by omega
  refine va_newa (atype := .byte) (a0 := (n, .inl (fun _ => 0))) hx hb (htw _ wd_1_80) rfl hK hP hD hS hA (fun _ => rfl) (nI_pos (by omega)) (nI_clamp (by omega)) (by show _ * 1 ≤ _; omega) hc0 hs0 d_Bytes_init_6 (fun q1 cA2 H hK hP hD hS => ?_)
  have hP : va_P (dC, dI) classes [(h0, .inr (0, [.null, .int 0])), (q1, .inl (cA2, n, .inl ((fun _ => 0))))] H := hP
  have hD : va_D A [(h0, .inr (0, [.null, .int 0])), (q1, .inl (cA2, n, .inl ((fun _ => 0))))] := hD
  refine va_put (D := (dC, dI)) (ci := 0) (v := .ref q1) (ty := .array .byte) (C := R_Bytes) (T := F_Bytes) (N := 2) hx hb htw i_Bytes t_Bytes t_Bytes_ok n_Bytes hown hK hP hD hS 0 rfl rfl 0 (by decide) (htw _ wd_1_59) (fun _ h9 => h9) rfl (by decide +kernel) rfl rfl (Nat.le_of_ble_eq_true rfl) d_Bytes_init_8 (fun H locs hP hD hS => ?_)
  have hP : va_P (dC, dI) classes [(h0, .inr (0, [.ref q1, .int 0])), (q1, .inl (cA2, n, .inl ((fun _ => 0))))] H := hP
  have hD : va_D A [(h0, .inr (0, [.ref q1, .int 0])), (q1, .inl (cA2, n, .inl ((fun _ => 0))))] := hD
  refine lv_aload_n hx hb d_Bytes_init_11 rfl (lv_at hl 0 rfl) ?_
  refine lv_iconst (v := 0) hx hb d_Bytes_init_12 (by decide) ?_
  refine va_put (D := (dC, dI)) (ci := 0) (v := .int 0) (ty := .int) (C := R_Bytes) (T := F_Bytes) (N := 2) hx hb htw i_Bytes t_Bytes t_Bytes_ok n_Bytes hown hK hP hD hS 0 rfl rfl 1 (by decide) (htw _ wd_1_64) (fun _ h9 => h9) rfl (by decide +kernel) rfl rfl (Nat.le_of_ble_eq_true rfl) d_Bytes_init_13 (fun H locs hP hD hS => ?_)
  have hP : va_P (dC, dI) classes [(h0, .inr (0, [.ref q1, .int 0])), (q1, .inl (cA2, n, .inl ((fun _ => 0))))] H := hP
  have hD : va_D A [(h0, .inr (0, [.ref q1, .int 0])), (q1, .inl (cA2, n, .inl ((fun _ => 0))))] := hD
  have hP9 := hP.sub (ws' := [(h0, .inr (0, [.ref q1, .int 0])), (q1, .inl (cA2, n, .inl ((fun _ => 0))))]) [0, 1] rfl
  have hD9 := hD.sub (ws' := [(h0, .inr (0, [.ref q1, .int 0])), (q1, .inl (cA2, n, .inl ((fun _ => 0))))]) [0, 1] (by decide) rfl
  have hK9 := hK.sub (tys' := [(cA2, .byte)]) [0] rfl
  refine W.widen (k := 1) (n := n) (by omega) (by omega) ?_
  exact W.vret hx hb hr (fun t ht hW => ⟨⟨(), rfl, trivial, q1, cA2, by rw [ht]; exact hP9, va_K.moved hW.alike hK9, hD9⟩, hS.F ht⟩) hS.2.2 d_Bytes_init_16
set_option maxHeartbeats 4000000 in
set_option maxRecDepth 100000 in
theorem c_AbC_init (l : Launch) (dC : Nat → ClassId) (dI : Nat → Nat → Nat) (sz : Nat) (h0 : Nat) : Met l y_AbC_init ws_AbC_init ({ frames := 1, cells := 0, slots := 0, locals := 12 }) (va_Pc [.ref h0] (fun U => U.heap.size = sz ∧ va_P (dC, dI) classes [(h0, .inr (1, [.null, .int 0, .int 0]))] U.heap ∧ va_K (dC, dI) classes [] U ∧ va_D (fun _ => True) [(h0, .inr (1, [.null, .int 0, .int 0]))])) (va_Qv (fun _ : Unit => True) (fun _ t => va_P (dC, dI) classes [(h0, .inr (1, [.null, .int 0, .int 0]))] t.heap ∧ va_K (dC, dI) classes [] t ∧ va_D (va_A [(h0, .inr (1, [.null, .int 0, .int 0]))] sz) [(h0, .inr (1, [.null, .int 0, .int 0]))]) (va_A [(h0, .inr (1, [.null, .int 0, .int 0]))] sz)) 0 0 (va_A [(h0, .inr (1, [.null, .int 0, .int 0]))] sz) := by
  refine Met.ofW (cc := b_AbC_init) (maxL := 1) (ret := none) (by decide) rfl ?_
  intro p e s m args below meth c s₁ B hml hv
  obtain ⟨rfl, hsz, hP, hK, hD0⟩ := hv
  have hx := B.exec
  have hb := B.bytes
  have hr := B.returns
  have hts := atoms_spec (ws := ws_AbC_init) B.pre
  have htw : ∀ w ∈ tw_tbl, w.before [.ref h0].toArray s = true := fun w h => hts w (List.mem_cons_of_mem _ h)
  have hown : s.vm.findClass R_AbC = some m.cls := findClass_of_methodNamed B.named
  have hlocks := B.notSynchronized
  have hin : meth.name = "<init>" := (name_of_methodNamed B.named B.method).1
  subst hsz
  have hD := hD0.self (sz := s.heap.size)
  generalize hAe : va_A [(h0, .inr (1, [.null, .int 0, .int 0]))] s.heap.size = A at hD ⊢
  have hA : ∀ q : Nat, s.heap.size ≤ q → A q := fun q h => by rw [← hAe]; exact Or.inr h
  have hS : va_S A s.heap s.heap [] := va_S.rf
  have hP : va_P (dC, dI) classes [(h0, .inr (1, [.null, .int 0, .int 0]))] s.heap := hP
  have hl := lv_entry ([.ref h0]) (n := 1) (Nat.le_of_ble_eq_true rfl)
  rw [lg_entry_eq]
  generalize (lg_sl ([.ref h0]) ++ List.replicate (1 - (lg_sl ([.ref h0])).length) Slot.unset).toArray = ls at hl ⊢
  have hl : lv_has ls 1 [(0, .ref h0)] := hl
  refine lv_aload_n hx hb d_AbC_init_0 rfl (lv_at hl 0 rfl) ?_
  refine W.objInit hx hb hown (htw _ wd_1_98) (htw _ wd_1_51) (htw _ wd_1_52) rfl (by rw [hml]; exact hl.1) rfl d_AbC_init_1 (Nat.le_of_ble_eq_true rfl) (Nat.le_of_ble_eq_true rfl) ?_
  refine W.eq (g2 := F0 m 4 ls []) rfl ?_
  have hP9 := hP.sub (ws' := [(h0, .inr (1, [.null, .int 0, .int 0]))]) [0] rfl
  have hD9 := hD.sub (ws' := [(h0, .inr (1, [.null, .int 0, .int 0]))]) [0] (by decide) rfl
  have hK9 := hK.sub (tys' := []) [] rfl
  refine W.widen (k := 0) (n := 0) (by omega) (by omega) ?_
  exact W.vret hx hb hr (fun t ht hW => ⟨⟨(), rfl, trivial, by rw [ht]; exact hP9, va_K.moved hW.alike hK9, hD9⟩, hS.F ht⟩) hS.2.2 d_AbC_init_4
set_option maxHeartbeats 4000000 in
set_option maxRecDepth 100000 in
theorem c_AbL_init (l : Launch) (dC : Nat → ClassId) (dI : Nat → Nat → Nat) (sz : Nat) (h0 : Nat) : Met l y_AbL_init ws_AbL_init ({ frames := 2, cells := 0, slots := 0, locals := 32 }) (va_Pc [.ref h0] (fun U => U.heap.size = sz ∧ va_P (dC, dI) classes [(h0, .inr (1, [.null, .int 0, .int 0]))] U.heap ∧ va_K (dC, dI) classes [] U ∧ va_D (fun _ => True) [(h0, .inr (1, [.null, .int 0, .int 0]))])) (va_Qv (fun _ : Unit => True) (fun _ t => va_P (dC, dI) classes [(h0, .inr (1, [.null, .int 0, .int 0]))] t.heap ∧ va_K (dC, dI) classes [] t ∧ va_D (va_A [(h0, .inr (1, [.null, .int 0, .int 0]))] sz) [(h0, .inr (1, [.null, .int 0, .int 0]))]) (va_A [(h0, .inr (1, [.null, .int 0, .int 0]))] sz)) 0 0 (va_A [(h0, .inr (1, [.null, .int 0, .int 0]))] sz) := by
  refine Met.ofW (cc := b_AbL_init) (maxL := 1) (ret := none) (by decide) rfl ?_
  intro p e s m args below meth c s₁ B hml hv
  obtain ⟨rfl, hsz, hP, hK, hD0⟩ := hv
  have hx := B.exec
  have hb := B.bytes
  have hr := B.returns
  have hts := atoms_spec (ws := ws_AbL_init) B.pre
  have htw : ∀ w ∈ tw_tbl, w.before [.ref h0].toArray s = true := fun w h => hts w (List.mem_cons_of_mem _ h)
  have hown : s.vm.findClass R_AbL = some m.cls := findClass_of_methodNamed B.named
  have hlocks := B.notSynchronized
  have hin : meth.name = "<init>" := (name_of_methodNamed B.named B.method).1
  subst hsz
  have hD := hD0.self (sz := s.heap.size)
  generalize hAe : va_A [(h0, .inr (1, [.null, .int 0, .int 0]))] s.heap.size = A at hD ⊢
  have hA : ∀ q : Nat, s.heap.size ≤ q → A q := fun q h => by rw [← hAe]; exact Or.inr h
  have hS : va_S A s.heap s.heap [] := va_S.rf
  have hP : va_P (dC, dI) classes [(h0, .inr (1, [.null, .int 0, .int 0]))] s.heap := hP
  have hl := lv_entry ([.ref h0]) (n := 1) (Nat.le_of_ble_eq_true rfl)
  rw [lg_entry_eq]
  generalize (lg_sl ([.ref h0]) ++ List.replicate (1 - (lg_sl ([.ref h0])).length) Slot.unset).toArray = ls at hl ⊢
  have hl : lv_has ls 1 [(0, .ref h0)] := hl
  refine lv_aload_n hx hb d_AbL_init_0 rfl (lv_at hl 0 rfl) ?_
  have hc0 : 0 + 0 ≤ 0 := by omega
  have hs0 : 0 + 0 ≤ 0 := by omega
  have hPc := hP.sub (ws' := [(h0, .inr (1, [.null, .int 0, .int 0]))]) [0] rfl
  have hDc := hD.sub (ws' := [(h0, .inr (1, [.null, .int 0, .int 0]))]) [0] (by decide) rfl
  have hKc := hK.sub (tys' := []) [] rfl
  have hFc := va_free (wc := [(h0, .inr (1, [.null, .int 0, .int 0]))]) hD hS hA [0] rfl
  refine va_callv (va_runI (As := []) (rest := []) ⟨hx, hb, hml, hown, htw⟩ (c_AbC_init l dC dI s.heap.size h0) (cwI 0 htw (tw_inL k_AbC_init) rfl rfl rfl (htw _ wd_1_4) (htw _ wd_1_95) (htw _ wd_1_96) rfl (by decide +kernel) ⟨Nat.le_of_ble_eq_true rfl, Nat.le_of_ble_eq_true rfl⟩) ⟨fun a U g mk q => by obtain ⟨q0, q1, qP, qK, qD⟩ := q; exact ⟨q0, q1, qP, va_K.moved (u := U) (U := U.calling g mk a) (Vm.Alike.refl U.vm) qK, qD⟩, fun U hU hW => ⟨rfl, by rw [hU], by rw [hU]; exact hPc, va_K.moved hW.alike hKc, hDc.weaken (fun _ _ _ _ => trivial)⟩⟩ rfl rfl hl.1 rfl (lv_room (Nat.le_of_ble_eq_true rfl)) d_AbL_init_1 ⟨hc0, hs0⟩) hS (fun q _ h => hFc q h) hFc (fun u t H1 locs ht hvm hw hB hz1 hk1 hS => ?_)
  obtain ⟨hP1, hK1, hD1⟩ := hB
  rw [ht] at hP1
  have hK1 := va_K.moved hvm.symm hK1
  obtain ⟨hP, hD⟩ := va_join (wr := []) (w1 := [(h0, .inr (1, [.null, .int 0, .int 0]))]) hP hD [0] [] rfl rfl (by decide) (by decide) hk1 hFc hP1 hD1
  have hK := (hK.sub (tys' := []) [] rfl).app hK1
  generalize H1 = H at hP hS ⊢
  have hP : va_P (dC, dI) classes [(h0, .inr (1, [.null, .int 0, .int 0]))] H := hP
  have hD : va_D A [(h0, .inr (1, [.null, .int 0, .int 0]))] := hD
  have hK : va_K (dC, dI) classes [] s := hK
  refine lv_aload_n hx hb d_AbL_init_4 rfl (lv_at hl 0 rfl) ?_
  refine lv_iconst (v := 0) hx hb d_AbL_init_5 (by decide) ?_
  refine va_put (D := (dC, dI)) (ci := 1) (v := .int 0) (ty := .int) (C := R_AL) (T := F_AL) (N := 3) hx hb htw i_AL t_AL t_AL_ok n_AL hown hK hP hD hS 0 rfl rfl 2 (by decide) (htw _ wd_1_103) (fun _ h9 => h9) rfl (by decide +kernel) rfl rfl (Nat.le_of_ble_eq_true rfl) d_AbL_init_6 (fun H locs hP hD hS => ?_)
  have hP : va_P (dC, dI) classes [(h0, .inr (1, [.null, .int 0, .int 0]))] H := hP
  have hD : va_D A [(h0, .inr (1, [.null, .int 0, .int 0]))] := hD
  have hP9 := hP.sub (ws' := [(h0, .inr (1, [.null, .int 0, .int 0]))]) [0] rfl
  have hD9 := hD.sub (ws' := [(h0, .inr (1, [.null, .int 0, .int 0]))]) [0] (by decide) rfl
  have hK9 := hK.sub (tys' := []) [] rfl
  refine W.widen (k := 0) (n := 0) (by omega) (by omega) ?_
  exact W.vret hx hb hr (fun t ht hW => ⟨⟨(), rfl, trivial, by rw [ht]; exact hP9, va_K.moved hW.alike hK9, hD9⟩, hS.F ht⟩) hS.2.2 d_AbL_init_9
set_option maxHeartbeats 4000000 in
set_option maxRecDepth 100000 in
theorem c_AL_init (l : Launch) (dC : Nat → ClassId) (dI : Nat → Nat → Nat) (sz : Nat) (h0 : Nat) (dE : Nat) : Met l y_AL_init ws_AL_init ({ frames := 3, cells := 0, slots := 0, locals := 52 }) (va_Pc [.ref h0] (fun U => U.heap.size = sz ∧ va_P (dC, dI) classes [(h0, .inr (1, [.null, .int 0, .int 0]))] U.heap ∧ va_K (dC, dI) classes [] U ∧ va_D (fun _ => True) [(h0, .inr (1, [.null, .int 0, .int 0]))] ∧ va_Z "java/util/ArrayList" "DEFAULTCAPACITY_EMPTY_ELEMENTDATA" "[Ljava/lang/Object;" (.ref dE) (va_A [(h0, .inr (1, [.null, .int 0, .int 0]))] sz) U U.heap)) (va_Qv (fun _ : Unit => True) (fun _ t => va_P (dC, dI) classes [(h0, .inr (1, [.ref dE, .int 0, .int 0]))] t.heap ∧ va_K (dC, dI) classes [] t ∧ va_D (va_A [(h0, .inr (1, [.null, .int 0, .int 0]))] sz) [(h0, .inr (1, [.ref dE, .int 0, .int 0]))]) (va_A [(h0, .inr (1, [.null, .int 0, .int 0]))] sz)) 0 0 (va_A [(h0, .inr (1, [.null, .int 0, .int 0]))] sz) := by
  refine Met.ofW (cc := b_AL_init) (maxL := 1) (ret := none) (by decide) rfl ?_
  intro p e s m args below meth c s₁ B hml hv
  obtain ⟨rfl, hsz, hP, hK, hD0, hx0⟩ := hv
  have hx := B.exec
  have hb := B.bytes
  have hr := B.returns
  have hts := atoms_spec (ws := ws_AL_init) B.pre
  have htw : ∀ w ∈ tw_tbl, w.before [.ref h0].toArray s = true := fun w h => hts w (List.mem_cons_of_mem _ h)
  have hown : s.vm.findClass R_AL = some m.cls := findClass_of_methodNamed B.named
  have hlocks := B.notSynchronized
  have hin : meth.name = "<init>" := (name_of_methodNamed B.named B.method).1
  subst hsz
  have hD := hD0.self (sz := s.heap.size)
  generalize hAe : va_A [(h0, .inr (1, [.null, .int 0, .int 0]))] s.heap.size = A at hD hx0 ⊢
  have hA : ∀ q : Nat, s.heap.size ≤ q → A q := fun q h => by rw [← hAe]; exact Or.inr h
  have hS : va_S A s.heap s.heap [] := va_S.rf
  have hP : va_P (dC, dI) classes [(h0, .inr (1, [.null, .int 0, .int 0]))] s.heap := hP
  have hl := lv_entry ([.ref h0]) (n := 1) (Nat.le_of_ble_eq_true rfl)
  rw [lg_entry_eq]
  generalize (lg_sl ([.ref h0]) ++ List.replicate (1 - (lg_sl ([.ref h0])).length) Slot.unset).toArray = ls at hl ⊢
  have hl : lv_has ls 1 [(0, .ref h0)] := hl
  refine lv_aload_n hx hb d_AL_init_0 rfl (lv_at hl 0 rfl) ?_
  have hc0 : 0 + 0 ≤ 0 := by omega
  have hs0 : 0 + 0 ≤ 0 := by omega
  have hPc := hP.sub (ws' := [(h0, .inr (1, [.null, .int 0, .int 0]))]) [0] rfl
  have hDc := hD.sub (ws' := [(h0, .inr (1, [.null, .int 0, .int 0]))]) [0] (by decide) rfl
  have hKc := hK.sub (tys' := []) [] rfl
  have hFc := va_free (wc := [(h0, .inr (1, [.null, .int 0, .int 0]))]) hD hS hA [0] rfl
  refine va_callv (va_runI (As := []) (rest := []) ⟨hx, hb, hml, hown, htw⟩ (c_AbL_init l dC dI s.heap.size h0) (cwI 0 htw (tw_inL k_AbL_init) rfl rfl rfl (htw _ wd_1_5) (htw _ wd_1_92) (htw _ wd_1_93) rfl (by decide +kernel) ⟨Nat.le_of_ble_eq_true rfl, Nat.le_of_ble_eq_true rfl⟩) ⟨fun a U g mk q => by obtain ⟨q0, q1, qP, qK, qD⟩ := q; exact ⟨q0, q1, qP, va_K.moved (u := U) (U := U.calling g mk a) (Vm.Alike.refl U.vm) qK, qD⟩, fun U hU hW => ⟨rfl, by rw [hU], by rw [hU]; exact hPc, va_K.moved hW.alike hKc, hDc.weaken (fun _ _ _ _ => trivial)⟩⟩ rfl rfl hl.1 rfl (lv_room (Nat.le_of_ble_eq_true rfl)) d_AL_init_1 ⟨hc0, hs0⟩) hS (fun q _ h => hFc q h) hFc (fun u t H1 locs ht hvm hw hB hz1 hk1 hS => ?_)
  obtain ⟨hP1, hK1, hD1⟩ := hB
  rw [ht] at hP1
  have hK1 := va_K.moved hvm.symm hK1
  obtain ⟨hP, hD⟩ := va_join (wr := []) (w1 := [(h0, .inr (1, [.null, .int 0, .int 0]))]) hP hD [0] [] rfl rfl (by decide) (by decide) hk1 hFc hP1 hD1
  have hK := (hK.sub (tys' := []) [] rfl).app hK1
  generalize H1 = H at hP hS ⊢
  have hP : va_P (dC, dI) classes [(h0, .inr (1, [.null, .int 0, .int 0]))] H := hP
  have hD : va_D A [(h0, .inr (1, [.null, .int 0, .int 0]))] := hD
  have hK : va_K (dC, dI) classes [] s := hK
  refine lv_aload_n hx hb d_AL_init_4 rfl (lv_at hl 0 rfl) ?_
  refine va_gets hx hb hx0 hS hown (htw _ wd_1_99) (fun _ h9 => h9) d_AL_init_5 ?_
  refine va_put (D := (dC, dI)) (ci := 1) (v := .ref dE) (ty := .array (.object "java/lang/Object")) (C := R_AL) (T := F_AL) (N := 3) hx hb htw i_AL t_AL t_AL_ok n_AL hown hK hP hD hS 0 rfl rfl 0 (by decide) (htw _ wd_1_101) (fun _ h9 => h9) rfl (by decide +kernel) rfl rfl (Nat.le_of_ble_eq_true rfl) d_AL_init_8 (fun H locs hP hD hS => ?_)
  have hP : va_P (dC, dI) classes [(h0, .inr (1, [.ref dE, .int 0, .int 0]))] H := hP
  have hD : va_D A [(h0, .inr (1, [.ref dE, .int 0, .int 0]))] := hD
  have hP9 := hP.sub (ws' := [(h0, .inr (1, [.ref dE, .int 0, .int 0]))]) [0] rfl
  have hD9 := hD.sub (ws' := [(h0, .inr (1, [.ref dE, .int 0, .int 0]))]) [0] (by decide) rfl
  have hK9 := hK.sub (tys' := []) [] rfl
  refine W.widen (k := 0) (n := 0) (by omega) (by omega) ?_
  exact W.vret hx hb hr (fun t ht hW => ⟨⟨(), rfl, trivial, by rw [ht]; exact hP9, va_K.moved hW.alike hK9, hD9⟩, hS.F ht⟩) hS.2.2 d_AL_init_11
set_option maxHeartbeats 4000000 in
set_option maxRecDepth 100000 in
theorem c_Values_init (l : Launch) (dC : Nat → ClassId) (dI : Nat → Nat → Nat) (sz : Nat) (h0 : Nat) (dE : Nat) : Met l y_Values_init ws_Values_init ({ frames := 4, cells := 3, slots := 69, locals := 72 }) (va_Pc [.ref h0] (fun U => U.heap.size = sz ∧ va_P (dC, dI) classes [(h0, .inr (2, [.null, .null, .int 0]))] U.heap ∧ va_K (dC, dI) classes [] U ∧ va_D (fun _ => True) [(h0, .inr (2, [.null, .null, .int 0]))] ∧ va_Z "java/util/ArrayList" "DEFAULTCAPACITY_EMPTY_ELEMENTDATA" "[Ljava/lang/Object;" (.ref dE) (va_A [(h0, .inr (2, [.null, .null, .int 0]))] sz) U U.heap)) (va_Qv (fun _ : Unit => True) (fun _ t => ∃ (al : Nat) (vd : Nat) (va : Nat) (vc : ClassId), va_P (dC, dI) classes [(h0, .inr (2, [.ref al, .ref vd, .int 0])), (al, .inr (1, [.ref dE, .int 0, .int 0])), (vd, .inr (0, [.ref va, .int 0])), (va, .inl (vc, 64, .inl ((fun _ => 0))))] t.heap ∧ va_K (dC, dI) classes [(vc, .byte)] t ∧ va_D (va_A [(h0, .inr (2, [.null, .null, .int 0]))] sz) [(h0, .inr (2, [.ref al, .ref vd, .int 0])), (al, .inr (1, [.ref dE, .int 0, .int 0])), (vd, .inr (0, [.ref va, .int 0])), (va, .inl (vc, 64, .inl ((fun _ => 0))))]) (va_A [(h0, .inr (2, [.null, .null, .int 0]))] sz)) 3 69 (va_A [(h0, .inr (2, [.null, .null, .int 0]))] sz) := by
  refine Met.ofW (cc := b_Values_init) (maxL := 1) (ret := none) (by decide) rfl ?_
  intro p e s m args below meth c s₁ B hml hv
  obtain ⟨rfl, hsz, hP, hK, hD0, hx0⟩ := hv
  have hx := B.exec
  have hb := B.bytes
  have hr := B.returns
  have hts := atoms_spec (ws := ws_Values_init) B.pre
  have htw : ∀ w ∈ tw_tbl, w.before [.ref h0].toArray s = true := fun w h => hts w (List.mem_cons_of_mem _ h)
  have hown : s.vm.findClass R_Values = some m.cls := findClass_of_methodNamed B.named
  have hlocks := B.notSynchronized
  have hin : meth.name = "<init>" := (name_of_methodNamed B.named B.method).1
  subst hsz
  have hD := hD0.self (sz := s.heap.size)
  generalize hAe : va_A [(h0, .inr (2, [.null, .null, .int 0]))] s.heap.size = A at hD hx0 ⊢
  have hA : ∀ q : Nat, s.heap.size ≤ q → A q := fun q h => by rw [← hAe]; exact Or.inr h
  have hS : va_S A s.heap s.heap [] := va_S.rf
  have hP : va_P (dC, dI) classes [(h0, .inr (2, [.null, .null, .int 0]))] s.heap := hP
  have hl := lv_entry ([.ref h0]) (n := 1) (Nat.le_of_ble_eq_true rfl)
  rw [lg_entry_eq]
  generalize (lg_sl ([.ref h0]) ++ List.replicate (1 - (lg_sl ([.ref h0])).length) Slot.unset).toArray = ls at hl ⊢
  have hl : lv_has ls 1 [(0, .ref h0)] := hl
  refine lv_aload_n hx hb d_Values_init_0 rfl (lv_at hl 0 rfl) ?_
  refine W.objInit hx hb hown (htw _ wd_1_118) (htw _ wd_1_51) (htw _ wd_1_52) rfl (by rw [hml]; exact hl.1) rfl d_Values_init_1 (Nat.le_of_ble_eq_true rfl) (Nat.le_of_ble_eq_true rfl) ?_
  refine W.eq (g2 := F0 m 4 ls []) rfl ?_
  refine lv_aload_n hx hb d_Values_init_4 rfl (lv_at hl 0 rfl) ?_
  have hc0 : 0 + 1 ≤ 3 := by omega
  have hs0 : 0 + 3 ≤ 69 := by omega
  refine va_new (ci := 1) (fs := [.null, .int 0, .int 0]) (C := R_AL) (T := F_AL) (N := 3) hx hb htw i_AL t_AL t_AL_ok hown (htw _ wd_1_119) (htw _ wd_1_88) (htw _ wd_1_6) hK hP hD hS hA rfl (by decide) hc0 hs0 d_Values_init_5 (fun q1 H hP hD hS => ?_)
  have hP : va_P (dC, dI) classes [(h0, .inr (2, [.null, .null, .int 0])), (q1, .inr (1, [.null, .int 0, .int 0]))] H := hP
  have hD : va_D A [(h0, .inr (2, [.null, .null, .int 0])), (q1, .inr (1, [.null, .int 0, .int 0]))] := hD
  refine lv_dup hx hb d_Values_init_8 rfl ?_
  have hc0 : 1 + 0 ≤ 3 := by omega
  have hs0 : 3 + 0 ≤ 69 := by omega
  have hPc := hP.sub (ws' := [(q1, .inr (1, [.null, .int 0, .int 0]))]) [1] rfl
  have hDc := hD.sub (ws' := [(q1, .inr (1, [.null, .int 0, .int 0]))]) [1] (by decide) rfl
  have hKc := hK.sub (tys' := []) [] rfl
  have hFc := va_free (wc := [(q1, .inr (1, [.null, .int 0, .int 0]))]) hD hS hA [1] rfl
  refine va_callv (va_runI (As := []) (rest := [.ref q1, .ref h0]) ⟨hx, hb, hml, hown, htw⟩ (c_AL_init l dC dI H.size q1 dE) (cwI 0 htw (tw_inL k_AL_init) rfl rfl rfl (htw _ wd_1_6) (htw _ wd_1_120) (htw _ wd_1_90) rfl (by decide +kernel) ⟨Nat.le_of_ble_eq_true rfl, Nat.le_of_ble_eq_true rfl⟩) ⟨fun a U g mk q => by obtain ⟨q0, q1, qP, qK, qD, hq0⟩ := q; exact ⟨q0, q1, qP, va_K.moved (u := U) (U := U.calling g mk a) (Vm.Alike.refl U.vm) qK, qD, va_Z.moved (u := U) (U := U.calling g mk a) (Vm.Alike.refl U.vm) hq0⟩, fun U hU hW => ⟨rfl, by rw [hU], by rw [hU]; exact hPc, va_K.moved hW.alike hKc, hDc.weaken (fun _ _ _ _ => trivial), by rw [hU]; exact va_Z.moved hW.alike ((va_Z.kept hx0 hS.2.1).narrow hFc)⟩⟩ rfl rfl hl.1 rfl (lv_room (Nat.le_of_ble_eq_true rfl)) d_Values_init_9 ⟨hc0, hs0⟩) hS (fun q _ h => hFc q h) hFc (fun u t H1 locs ht hvm hw hB hz1 hk1 hS => ?_)
  obtain ⟨hP1, hK1, hD1⟩ := hB
  rw [ht] at hP1
  have hK1 := va_K.moved hvm.symm hK1
  obtain ⟨hP, hD⟩ := va_join (wr := [(h0, .inr (2, [.null, .null, .int 0]))]) (w1 := [(q1, .inr (1, [.ref dE, .int 0, .int 0]))]) hP hD [1] [0] rfl rfl (by decide) (by decide) hk1 hFc hP1 hD1
  have hK := (hK.sub (tys' := []) [] rfl).app hK1
  generalize H1 = H at hP hS ⊢
  have hP : va_P (dC, dI) classes [(h0, .inr (2, [.null, .null, .int 0])), (q1, .inr (1, [.ref dE, .int 0, .int 0]))] H := hP
  have hD : va_D A [(h0, .inr (2, [.null, .null, .int 0])), (q1, .inr (1, [.ref dE, .int 0, .int 0]))] := hD
  have hK : va_K (dC, dI) classes [] s := hK
  refine va_putF (D := (dC, dI)) (ci := 2) (v := .ref q1) (ty := .object "java/util/ArrayList") (C := R_Values) (T := F_Values) (N := 3) hx hb htw i_Values t_Values t_Values_ok n_Values hown hK hP hD hS 0 rfl rfl 0 (by decide) (htw _ wd_1_123) (fun _ h9 => h9) rfl hin rfl (by decide +kernel) rfl rfl (Nat.le_of_ble_eq_true rfl) d_Values_init_12 (fun H locs hP hD hS => ?_)
  have hP : va_P (dC, dI) classes [(h0, .inr (2, [.ref q1, .null, .int 0])), (q1, .inr (1, [.ref dE, .int 0, .int 0]))] H := hP
  have hD : va_D A [(h0, .inr (2, [.ref q1, .null, .int 0])), (q1, .inr (1, [.ref dE, .int 0, .int 0]))] := hD
  refine lv_aload_n hx hb d_Values_init_15 rfl (lv_at hl 0 rfl) ?_
  have hc0 : 1 + 1 ≤ 3 := by omega
  have hs0 : 3 + 2 ≤ 69 := by omega
  refine va_new (ci := 0) (fs := [.null, .int 0]) (C := R_Bytes) (T := F_Bytes) (N := 2) hx hb htw i_Bytes t_Bytes t_Bytes_ok hown (htw _ wd_1_121) (htw _ wd_1_54) (htw _ wd_1_2) hK hP hD hS hA rfl (by decide) hc0 hs0 d_Values_init_16 (fun q3 H hP hD hS => ?_)
  have hP : va_P (dC, dI) classes [(h0, .inr (2, [.ref q1, .null, .int 0])), (q1, .inr (1, [.ref dE, .int 0, .int 0])), (q3, .inr (0, [.null, .int 0]))] H := hP
  have hD : va_D A [(h0, .inr (2, [.ref q1, .null, .int 0])), (q1, .inr (1, [.ref dE, .int 0, .int 0])), (q3, .inr (0, [.null, .int 0]))] := hD
  refine lv_dup hx hb d_Values_init_19 rfl ?_
  refine lv_bipush (v := 64) hx hb d_Values_init_20 (by decide) ?_
  have hc0 : 2 + 1 ≤ 3 := by omega
  have hs0 : 5 + 64 ≤ 69 := by omega
  have hPc := hP.sub (ws' := [(q3, .inr (0, [.null, .int 0]))]) [2] rfl
  have hDc := hD.sub (ws' := [(q3, .inr (0, [.null, .int 0]))]) [2] (by decide) rfl
  have hKc := hK.sub (tys' := []) [] rfl
  have hFc := va_free (wc := [(q3, .inr (0, [.null, .int 0]))]) hD hS hA [2] rfl
  refine va_callv (va_runI (As := [.int 64]) (rest := [.ref q3, .ref h0]) ⟨hx, hb, hml, hown, htw⟩ (c_Bytes_init l dC dI H.size q3 64 (by first | omega | assumption)) (cwI 1 htw (tw_inL k_Bytes_init) rfl rfl rfl (htw _ wd_1_2) (htw _ wd_1_122) (htw _ wd_1_56) rfl (by decide +kernel) ⟨Nat.le_of_ble_eq_true rfl, Nat.le_of_ble_eq_true rfl⟩) ⟨fun a U g mk q => by obtain ⟨q0, q1, qP, qK, qD⟩ := q; exact ⟨q0, q1, qP, va_K.moved (u := U) (U := U.calling g mk a) (Vm.Alike.refl U.vm) qK, qD⟩, fun U hU hW => ⟨rfl, by rw [hU], by rw [hU]; exact hPc, va_K.moved hW.alike hKc, hDc.weaken (fun _ _ _ _ => trivial)⟩⟩ rfl rfl hl.1 rfl (lv_room (Nat.le_of_ble_eq_true rfl)) d_Values_init_22 ⟨hc0, hs0⟩) hS (fun q _ h => hFc q h) hFc (fun u t H1 locs ht hvm hw hB hz1 hk1 hS => ?_)
  obtain ⟨qa_5, ca_6, hP1, hK1, hD1⟩ := hB
  rw [ht] at hP1
  have hK1 := va_K.moved hvm.symm hK1
  obtain ⟨hP, hD⟩ := va_join (wr := [(h0, .inr (2, [.ref q1, .null, .int 0])), (q1, .inr (1, [.ref dE, .int 0, .int 0]))]) (w1 := [(q3, .inr (0, [.ref qa_5, .int 0])), (qa_5, .inl (ca_6, 64, .inl (fun _ => 0)))]) hP hD [2] [0, 1] rfl rfl (by decide) (by decide) hk1 hFc hP1 hD1
  have hK := (hK.sub (tys' := []) [] rfl).app hK1
  generalize H1 = H at hP hS ⊢
  have hP : va_P (dC, dI) classes [(h0, .inr (2, [.ref q1, .null, .int 0])), (q1, .inr (1, [.ref dE, .int 0, .int 0])), (q3, .inr (0, [.ref qa_5, .int 0])), (qa_5, .inl (ca_6, 64, .inl (fun _ => 0)))] H := hP
  have hD : va_D A [(h0, .inr (2, [.ref q1, .null, .int 0])), (q1, .inr (1, [.ref dE, .int 0, .int 0])), (q3, .inr (0, [.ref qa_5, .int 0])), (qa_5, .inl (ca_6, 64, .inl (fun _ => 0)))] := hD
  have hK : va_K (dC, dI) classes [(ca_6, .byte)] s := hK
  refine va_putF (D := (dC, dI)) (ci := 2) (v := .ref q3) (ty := .object "SyntaxForge$Bytes") (C := R_Values) (T := F_Values) (N := 3) hx hb htw i_Values t_Values t_Values_ok n_Values hown hK hP hD hS 0 rfl rfl 1 (by decide) (htw _ wd_1_126) (fun _ h9 => h9) rfl hin rfl (by decide +kernel) rfl rfl (Nat.le_of_ble_eq_true rfl) d_Values_init_25 (fun H locs hP hD hS => ?_)
  have hP : va_P (dC, dI) classes [(h0, .inr (2, [.ref q1, .ref q3, .int 0])), (q1, .inr (1, [.ref dE, .int 0, .int 0])), (q3, .inr (0, [.ref qa_5, .int 0])), (qa_5, .inl (ca_6, 64, .inl (fun _ => 0)))] H := hP
  have hD : va_D A [(h0, .inr (2, [.ref q1, .ref q3, .int 0])), (q1, .inr (1, [.ref dE, .int 0, .int 0])), (q3, .inr (0, [.ref qa_5, .int 0])), (qa_5, .inl (ca_6, 64, .inl (fun _ => 0)))] := hD
  refine lv_aload_n hx hb d_Values_init_28 rfl (lv_at hl 0 rfl) ?_
  refine lv_iconst (v := 0) hx hb d_Values_init_29 (by decide) ?_
  refine va_put (D := (dC, dI)) (ci := 2) (v := .int 0) (ty := .int) (C := R_Values) (T := F_Values) (N := 3) hx hb htw i_Values t_Values t_Values_ok n_Values hown hK hP hD hS 0 rfl rfl 2 (by decide) (htw _ wd_1_132) (fun _ h9 => h9) rfl (by decide +kernel) rfl rfl (Nat.le_of_ble_eq_true rfl) d_Values_init_30 (fun H locs hP hD hS => ?_)
  have hP : va_P (dC, dI) classes [(h0, .inr (2, [.ref q1, .ref q3, .int 0])), (q1, .inr (1, [.ref dE, .int 0, .int 0])), (q3, .inr (0, [.ref qa_5, .int 0])), (qa_5, .inl (ca_6, 64, .inl (fun _ => 0)))] H := hP
  have hD : va_D A [(h0, .inr (2, [.ref q1, .ref q3, .int 0])), (q1, .inr (1, [.ref dE, .int 0, .int 0])), (q3, .inr (0, [.ref qa_5, .int 0])), (qa_5, .inl (ca_6, 64, .inl (fun _ => 0)))] := hD
  have hP9 := hP.sub (ws' := [(h0, .inr (2, [.ref q1, .ref q3, .int 0])), (q1, .inr (1, [.ref dE, .int 0, .int 0])), (q3, .inr (0, [.ref qa_5, .int 0])), (qa_5, .inl (ca_6, 64, .inl (fun _ => 0)))]) [0, 1, 2, 3] rfl
  have hD9 := hD.sub (ws' := [(h0, .inr (2, [.ref q1, .ref q3, .int 0])), (q1, .inr (1, [.ref dE, .int 0, .int 0])), (q3, .inr (0, [.ref qa_5, .int 0])), (qa_5, .inl (ca_6, 64, .inl (fun _ => 0)))]) [0, 1, 2, 3] (by decide) rfl
  have hK9 := hK.sub (tys' := [(ca_6, .byte)]) [0] rfl
  refine W.widen (k := 3) (n := 69) (by omega) (by omega) ?_
  exact W.vret hx hb hr (fun t ht hW => ⟨⟨(), rfl, trivial, q1, q3, qa_5, ca_6, by rw [ht]; exact hP9, va_K.moved hW.alike hK9, hD9⟩, hS.F ht⟩) hS.2.2 d_Values_init_33
set_option maxHeartbeats 4000000 in
set_option maxRecDepth 100000 in
theorem c_Der_init (l : Launch) (dC : Nat → ClassId) (dI : Nat → Nat → Nat) (sz : Nat) (h0 : Nat) : Met l y_Der_init ws_Der_init ({ frames := 1, cells := 3, slots := 48, locals := 12 }) (va_Pc [.ref h0] (fun U => U.heap.size = sz ∧ va_P (dC, dI) classes [(h0, .inr (6, [.null, .null, .null]))] U.heap ∧ va_K (dC, dI) classes [] U ∧ va_D (fun _ => True) [(h0, .inr (6, [.null, .null, .null]))] ∧ va_AO "SyntaxForge$Value" U)) (va_Qv (fun _ : Unit => True) (fun _ t => ∃ (d1 : Nat) (d2 : Nat) (d3 : Nat), va_P (dC, dI) classes [(h0, .inr (6, [.ref d1, .ref d2, .ref d3]))] t.heap ∧ va_K (dC, dI) classes [] t ∧ va_D (va_A [(h0, .inr (6, [.null, .null, .null]))] sz) [(h0, .inr (6, [.ref d1, .ref d2, .ref d3]))]) (va_A [(h0, .inr (6, [.null, .null, .null]))] sz)) 3 48 (va_A [(h0, .inr (6, [.null, .null, .null]))] sz) := by
  refine Met.ofW (cc := b_Der_init) (maxL := 1) (ret := none) (by decide) rfl ?_
  intro p e s m args below meth c s₁ B hml hv
  obtain ⟨rfl, hsz, hP, hK, hD0, hx0⟩ := hv
  have hx := B.exec
  have hb := B.bytes
  have hr := B.returns
  have hts := atoms_spec (ws := ws_Der_init) B.pre
  have htw : ∀ w ∈ tw_tbl, w.before [.ref h0].toArray s = true := fun w h => hts w (List.mem_cons_of_mem _ h)
  have hown : s.vm.findClass R_Der = some m.cls := findClass_of_methodNamed B.named
  have hlocks := B.notSynchronized
  have hin : meth.name = "<init>" := (name_of_methodNamed B.named B.method).1
  subst hsz
  have hD := hD0.self (sz := s.heap.size)
  generalize hAe : va_A [(h0, .inr (6, [.null, .null, .null]))] s.heap.size = A at hD hx0 ⊢
  have hA : ∀ q : Nat, s.heap.size ≤ q → A q := fun q h => by rw [← hAe]; exact Or.inr h
  have hS : va_S A s.heap s.heap [] := va_S.rf
  have hP : va_P (dC, dI) classes [(h0, .inr (6, [.null, .null, .null]))] s.heap := hP
  have hl := lv_entry ([.ref h0]) (n := 1) (Nat.le_of_ble_eq_true rfl)
  rw [lg_entry_eq]
  generalize (lg_sl ([.ref h0]) ++ List.replicate (1 - (lg_sl ([.ref h0])).length) Slot.unset).toArray = ls at hl ⊢
  have hl : lv_has ls 1 [(0, .ref h0)] := hl
  refine lv_aload_n hx hb d_Der_init_0 rfl (lv_at hl 0 rfl) ?_
  refine W.objInit hx hb hown (htw _ wd_2_156) (htw _ wd_1_51) (htw _ wd_1_52) rfl (by rw [hml]; exact hl.1) rfl d_Der_init_1 (Nat.le_of_ble_eq_true rfl) (Nat.le_of_ble_eq_true rfl) ?_
  refine W.eq (g2 := F0 m 4 ls []) rfl ?_
  refine lv_aload_n hx hb d_Der_init_4 rfl (lv_at hl 0 rfl) ?_
  refine lv_bipush (v := 16) hx hb d_Der_init_5 (by decide) ?_
  have hc0 : 0 + 1 ≤ 3 := by omega
  have hs0 : 0 + 16 ≤ 48 := by omega
  refine va_newq (C := "SyntaxForge$Value") hx hb hown (htw _ wd_2_157) hx0 hK hP hD hS hA (by decide) (by decide) (by decide) hc0 hs0 d_Der_init_7 (fun q1 cA2 H hK hP hD hS => ?_)
  have hP : va_P (dC, dI) classes [(h0, .inr (6, [.null, .null, .null])), (q1, .inl (cA2, 16, .inr (.inr (.inr (.inr ((fun _ => none)))))))] H := hP
  have hD : va_D A [(h0, .inr (6, [.null, .null, .null])), (q1, .inl (cA2, 16, .inr (.inr (.inr (.inr ((fun _ => none)))))))] := hD
  refine va_put (D := (dC, dI)) (ci := 6) (v := .ref q1) (ty := .array (.object "SyntaxForge$Value")) (C := R_Der) (T := F_Der) (N := 3) hx hb htw i_Der t_Der t_Der_ok n_Der hown hK hP hD hS 0 rfl rfl 0 (by decide) (htw _ wd_2_158) (fun _ h9 => h9) rfl (by decide +kernel) rfl rfl (Nat.le_of_ble_eq_true rfl) d_Der_init_10 (fun H locs hP hD hS => ?_)
  have hP : va_P (dC, dI) classes [(h0, .inr (6, [.ref q1, .null, .null])), (q1, .inl (cA2, 16, .inr (.inr (.inr (.inr ((fun _ => none)))))))] H := hP
  have hD : va_D A [(h0, .inr (6, [.ref q1, .null, .null])), (q1, .inl (cA2, 16, .inr (.inr (.inr (.inr ((fun _ => none)))))))] := hD
  refine lv_aload_n hx hb d_Der_init_13 rfl (lv_at hl 0 rfl) ?_
  refine lv_bipush (v := 16) hx hb d_Der_init_14 (by decide) ?_
  have hc0 : 1 + 1 ≤ 3 := by omega
  have hs0 : 16 + 16 ≤ 48 := by omega
  refine va_newq (C := "SyntaxForge$Value") hx hb hown (htw _ wd_2_157) hx0 hK hP hD hS hA (by decide) (by decide) (by decide) hc0 hs0 d_Der_init_16 (fun q3 cA4 H hK hP hD hS => ?_)
  have hP : va_P (dC, dI) classes [(h0, .inr (6, [.ref q1, .null, .null])), (q1, .inl (cA2, 16, .inr (.inr (.inr (.inr ((fun _ => none))))))), (q3, .inl (cA4, 16, .inr (.inr (.inr (.inr ((fun _ => none)))))))] H := hP
  have hD : va_D A [(h0, .inr (6, [.ref q1, .null, .null])), (q1, .inl (cA2, 16, .inr (.inr (.inr (.inr ((fun _ => none))))))), (q3, .inl (cA4, 16, .inr (.inr (.inr (.inr ((fun _ => none)))))))] := hD
  refine va_put (D := (dC, dI)) (ci := 6) (v := .ref q3) (ty := .array (.object "SyntaxForge$Value")) (C := R_Der) (T := F_Der) (N := 3) hx hb htw i_Der t_Der t_Der_ok n_Der hown hK hP hD hS 0 rfl rfl 1 (by decide) (htw _ wd_2_159) (fun _ h9 => h9) rfl (by decide +kernel) rfl rfl (Nat.le_of_ble_eq_true rfl) d_Der_init_19 (fun H locs hP hD hS => ?_)
  have hP : va_P (dC, dI) classes [(h0, .inr (6, [.ref q1, .ref q3, .null])), (q1, .inl (cA2, 16, .inr (.inr (.inr (.inr ((fun _ => none))))))), (q3, .inl (cA4, 16, .inr (.inr (.inr (.inr ((fun _ => none)))))))] H := hP
  have hD : va_D A [(h0, .inr (6, [.ref q1, .ref q3, .null])), (q1, .inl (cA2, 16, .inr (.inr (.inr (.inr ((fun _ => none))))))), (q3, .inl (cA4, 16, .inr (.inr (.inr (.inr ((fun _ => none)))))))] := hD
  refine lv_aload_n hx hb d_Der_init_22 rfl (lv_at hl 0 rfl) ?_
  refine lv_bipush (v := 16) hx hb d_Der_init_23 (by decide) ?_
  have hc0 : 2 + 1 ≤ 3 := by omega
  have hs0 : 32 + 16 ≤ 48 := by omega
  refine va_newa (atype := .int) (a0 := (16, .inl (fun _ => 0))) hx hb (htw _ wd_2_80) rfl hK hP hD hS hA (fun _ => rfl) (by decide) (by decide) (by decide) hc0 hs0 d_Der_init_25 (fun q5 cA6 H hK hP hD hS => ?_)
  have hP : va_P (dC, dI) classes [(h0, .inr (6, [.ref q1, .ref q3, .null])), (q1, .inl (cA2, 16, .inr (.inr (.inr (.inr ((fun _ => none))))))), (q3, .inl (cA4, 16, .inr (.inr (.inr (.inr ((fun _ => none))))))), (q5, .inl (cA6, 16, .inl ((fun _ => 0))))] H := hP
  have hD : va_D A [(h0, .inr (6, [.ref q1, .ref q3, .null])), (q1, .inl (cA2, 16, .inr (.inr (.inr (.inr ((fun _ => none))))))), (q3, .inl (cA4, 16, .inr (.inr (.inr (.inr ((fun _ => none))))))), (q5, .inl (cA6, 16, .inl ((fun _ => 0))))] := hD
  refine va_put (D := (dC, dI)) (ci := 6) (v := .ref q5) (ty := .array .int) (C := R_Der) (T := F_Der) (N := 3) hx hb htw i_Der t_Der t_Der_ok n_Der hown hK hP hD hS 0 rfl rfl 2 (by decide) (htw _ wd_2_160) (fun _ h9 => h9) rfl (by decide +kernel) rfl rfl (Nat.le_of_ble_eq_true rfl) d_Der_init_27 (fun H locs hP hD hS => ?_)
  have hP : va_P (dC, dI) classes [(h0, .inr (6, [.ref q1, .ref q3, .ref q5])), (q1, .inl (cA2, 16, .inr (.inr (.inr (.inr ((fun _ => none))))))), (q3, .inl (cA4, 16, .inr (.inr (.inr (.inr ((fun _ => none))))))), (q5, .inl (cA6, 16, .inl ((fun _ => 0))))] H := hP
  have hD : va_D A [(h0, .inr (6, [.ref q1, .ref q3, .ref q5])), (q1, .inl (cA2, 16, .inr (.inr (.inr (.inr ((fun _ => none))))))), (q3, .inl (cA4, 16, .inr (.inr (.inr (.inr ((fun _ => none))))))), (q5, .inl (cA6, 16, .inl ((fun _ => 0))))] := hD
  have hP9 := hP.sub (ws' := [(h0, .inr (6, [.ref q1, .ref q3, .ref q5]))]) [0] rfl
  have hD9 := hD.sub (ws' := [(h0, .inr (6, [.ref q1, .ref q3, .ref q5]))]) [0] (by decide) rfl
  have hK9 := hK.sub (tys' := []) [] rfl
  refine W.widen (k := 3) (n := 48) (by omega) (by omega) ?_
  exact W.vret hx hb hr (fun t ht hW => ⟨⟨(), rfl, trivial, q1, q3, q5, by rw [ht]; exact hP9, va_K.moved hW.alike hK9, hD9⟩, hS.F ht⟩) hS.2.2 d_Der_init_30
set_option maxHeartbeats 4000000 in
set_option maxRecDepth 100000 in
theorem c_Ber_init (l : Launch) (dC : Nat → ClassId) (dI : Nat → Nat → Nat) (sz : Nat) (h0 : Nat) (v1 : Nat) (v2 : Nat) : Met l y_Ber_init ws_Ber_init ({ frames := 1, cells := 2, slots := 122, locals := 12 }) (va_Pc [.ref h0, .ref v1, .ref v2] (fun U => U.heap.size = sz ∧ va_P (dC, dI) classes [(h0, .inr (7, [.null, .null, .null, .null, .null, .null, .int 0, .int 0, .long 0, .int 0, .int 0]))] U.heap ∧ va_K (dC, dI) classes [] U ∧ va_D (fun _ => True) [(h0, .inr (7, [.null, .null, .null, .null, .null, .null, .int 0, .int 0, .long 0, .int 0, .int 0]))])) (va_Qv (fun _ : Unit => True) (fun _ t => ∃ (d1 : Nat) (d2 : Nat), va_P (dC, dI) classes [(h0, .inr (7, [.ref v1, .ref v2, .ref d1, .ref d2, .null, .null, .int 0, .int 0, .long 0, .int 0, .int 0]))] t.heap ∧ va_K (dC, dI) classes [] t ∧ va_D (va_A [(h0, .inr (7, [.null, .null, .null, .null, .null, .null, .int 0, .int 0, .long 0, .int 0, .int 0]))] sz) [(h0, .inr (7, [.ref v1, .ref v2, .ref d1, .ref d2, .null, .null, .int 0, .int 0, .long 0, .int 0, .int 0]))]) (va_A [(h0, .inr (7, [.null, .null, .null, .null, .null, .null, .int 0, .int 0, .long 0, .int 0, .int 0]))] sz)) 2 122 (va_A [(h0, .inr (7, [.null, .null, .null, .null, .null, .null, .int 0, .int 0, .long 0, .int 0, .int 0]))] sz) := by
  refine Met.ofW (cc := b_Ber_init) (maxL := 3) (ret := none) (by decide) rfl ?_
  intro p e s m args below meth c s₁ B hml hv
  obtain ⟨rfl, hsz, hP, hK, hD0⟩ := hv
  have hx := B.exec
  have hb := B.bytes
  have hr := B.returns
  have hts := atoms_spec (ws := ws_Ber_init) B.pre
  have htw : ∀ w ∈ tw_tbl, w.before [.ref h0, .ref v1, .ref v2].toArray s = true := fun w h => hts w (List.mem_cons_of_mem _ h)
  have hown : s.vm.findClass R_Ber = some m.cls := findClass_of_methodNamed B.named
  have hlocks := B.notSynchronized
  have hin : meth.name = "<init>" := (name_of_methodNamed B.named B.method).1
  subst hsz
  have hD := hD0.self (sz := s.heap.size)
  generalize hAe : va_A [(h0, .inr (7, [.null, .null, .null, .null, .null, .null, .int 0, .int 0, .long 0, .int 0, .int 0]))] s.heap.size = A at hD ⊢
  have hA : ∀ q : Nat, s.heap.size ≤ q → A q := fun q h => by rw [← hAe]; exact Or.inr h
  have hS : va_S A s.heap s.heap [] := va_S.rf
  have hP : va_P (dC, dI) classes [(h0, .inr (7, [.null, .null, .null, .null, .null, .null, .int 0, .int 0, .long 0, .int 0, .int 0]))] s.heap := hP
  have hl := lv_entry ([.ref h0, .ref v1, .ref v2]) (n := 3) (Nat.le_of_ble_eq_true rfl)
  rw [lg_entry_eq]
  generalize (lg_sl ([.ref h0, .ref v1, .ref v2]) ++ List.replicate (3 - (lg_sl ([.ref h0, .ref v1, .ref v2])).length) Slot.unset).toArray = ls at hl ⊢
  have hl : lv_has ls 3 [(0, .ref h0), (1, .ref v1), (2, .ref v2)] := hl
  refine lv_aload_n hx hb d_Ber_init_0 rfl (lv_at hl 0 rfl) ?_
  refine W.objInit hx hb hown (htw _ wd_2_173) (htw _ wd_1_51) (htw _ wd_1_52) rfl (by rw [hml]; exact hl.1) rfl d_Ber_init_1 (Nat.le_of_ble_eq_true rfl) (Nat.le_of_ble_eq_true rfl) ?_
  refine W.eq (g2 := F0 m 4 ls []) rfl ?_
  refine lv_aload_n hx hb d_Ber_init_4 rfl (lv_at hl 0 rfl) ?_
  refine lv_aload_n hx hb d_Ber_init_5 rfl (lv_at hl 1 rfl) ?_
  refine va_putF (D := (dC, dI)) (ci := 7) (v := .ref v1) (ty := .object "SyntaxForge$Values") (C := R_Ber) (T := F_Ber) (N := 11) hx hb htw i_Ber t_Ber t_Ber_ok n_Ber hown hK hP hD hS 0 rfl rfl 0 (by decide) (htw _ wd_2_174) (fun _ h9 => h9) rfl hin rfl (by decide +kernel) rfl rfl (Nat.le_of_ble_eq_true rfl) d_Ber_init_6 (fun H locs hP hD hS => ?_)
  have hP : va_P (dC, dI) classes [(h0, .inr (7, [.ref v1, .null, .null, .null, .null, .null, .int 0, .int 0, .long 0, .int 0, .int 0]))] H := hP
  have hD : va_D A [(h0, .inr (7, [.ref v1, .null, .null, .null, .null, .null, .int 0, .int 0, .long 0, .int 0, .int 0]))] := hD
  refine lv_aload_n hx hb d_Ber_init_9 rfl (lv_at hl 0 rfl) ?_
  refine lv_aload_n hx hb d_Ber_init_10 rfl (lv_at hl 2 rfl) ?_
  refine va_putF (D := (dC, dI)) (ci := 7) (v := .ref v2) (ty := .object "SyntaxForge$Der") (C := R_Ber) (T := F_Ber) (N := 11) hx hb htw i_Ber t_Ber t_Ber_ok n_Ber hown hK hP hD hS 0 rfl rfl 1 (by decide) (htw _ wd_2_175) (fun _ h9 => h9) rfl hin rfl (by decide +kernel) rfl rfl (Nat.le_of_ble_eq_true rfl) d_Ber_init_11 (fun H locs hP hD hS => ?_)
  have hP : va_P (dC, dI) classes [(h0, .inr (7, [.ref v1, .ref v2, .null, .null, .null, .null, .int 0, .int 0, .long 0, .int 0, .int 0]))] H := hP
  have hD : va_D A [(h0, .inr (7, [.ref v1, .ref v2, .null, .null, .null, .null, .int 0, .int 0, .long 0, .int 0, .int 0]))] := hD
  refine lv_aload_n hx hb d_Ber_init_14 rfl (lv_at hl 0 rfl) ?_
  refine lv_bipush (v := 61) hx hb d_Ber_init_15 (by decide) ?_
  have hc0 : 0 + 1 ≤ 2 := by omega
  have hs0 : 0 + 61 ≤ 122 := by omega
  refine va_newa (atype := .int) (a0 := (61, .inl (fun _ => 0))) hx hb (htw _ wd_2_80) rfl hK hP hD hS hA (fun _ => rfl) (by decide) (by decide) (by decide) hc0 hs0 d_Ber_init_17 (fun q1 cA2 H hK hP hD hS => ?_)
  have hP : va_P (dC, dI) classes [(h0, .inr (7, [.ref v1, .ref v2, .null, .null, .null, .null, .int 0, .int 0, .long 0, .int 0, .int 0])), (q1, .inl (cA2, 61, .inl ((fun _ => 0))))] H := hP
  have hD : va_D A [(h0, .inr (7, [.ref v1, .ref v2, .null, .null, .null, .null, .int 0, .int 0, .long 0, .int 0, .int 0])), (q1, .inl (cA2, 61, .inl ((fun _ => 0))))] := hD
  refine va_putF (D := (dC, dI)) (ci := 7) (v := .ref q1) (ty := .array .int) (C := R_Ber) (T := F_Ber) (N := 11) hx hb htw i_Ber t_Ber t_Ber_ok n_Ber hown hK hP hD hS 0 rfl rfl 2 (by decide) (htw _ wd_2_176) (fun _ h9 => h9) rfl hin rfl (by decide +kernel) rfl rfl (Nat.le_of_ble_eq_true rfl) d_Ber_init_19 (fun H locs hP hD hS => ?_)
  have hP : va_P (dC, dI) classes [(h0, .inr (7, [.ref v1, .ref v2, .ref q1, .null, .null, .null, .int 0, .int 0, .long 0, .int 0, .int 0])), (q1, .inl (cA2, 61, .inl ((fun _ => 0))))] H := hP
  have hD : va_D A [(h0, .inr (7, [.ref v1, .ref v2, .ref q1, .null, .null, .null, .int 0, .int 0, .long 0, .int 0, .int 0])), (q1, .inl (cA2, 61, .inl ((fun _ => 0))))] := hD
  refine lv_aload_n hx hb d_Ber_init_22 rfl (lv_at hl 0 rfl) ?_
  refine lv_bipush (v := 61) hx hb d_Ber_init_23 (by decide) ?_
  have hc0 : 1 + 1 ≤ 2 := by omega
  have hs0 : 61 + 61 ≤ 122 := by omega
  refine va_newa (atype := .int) (a0 := (61, .inl (fun _ => 0))) hx hb (htw _ wd_2_80) rfl hK hP hD hS hA (fun _ => rfl) (by decide) (by decide) (by decide) hc0 hs0 d_Ber_init_25 (fun q3 cA4 H hK hP hD hS => ?_)
  have hP : va_P (dC, dI) classes [(h0, .inr (7, [.ref v1, .ref v2, .ref q1, .null, .null, .null, .int 0, .int 0, .long 0, .int 0, .int 0])), (q1, .inl (cA2, 61, .inl ((fun _ => 0)))), (q3, .inl (cA4, 61, .inl ((fun _ => 0))))] H := hP
  have hD : va_D A [(h0, .inr (7, [.ref v1, .ref v2, .ref q1, .null, .null, .null, .int 0, .int 0, .long 0, .int 0, .int 0])), (q1, .inl (cA2, 61, .inl ((fun _ => 0)))), (q3, .inl (cA4, 61, .inl ((fun _ => 0))))] := hD
  refine va_putF (D := (dC, dI)) (ci := 7) (v := .ref q3) (ty := .array .int) (C := R_Ber) (T := F_Ber) (N := 11) hx hb htw i_Ber t_Ber t_Ber_ok n_Ber hown hK hP hD hS 0 rfl rfl 3 (by decide) (htw _ wd_2_177) (fun _ h9 => h9) rfl hin rfl (by decide +kernel) rfl rfl (Nat.le_of_ble_eq_true rfl) d_Ber_init_27 (fun H locs hP hD hS => ?_)
  have hP : va_P (dC, dI) classes [(h0, .inr (7, [.ref v1, .ref v2, .ref q1, .ref q3, .null, .null, .int 0, .int 0, .long 0, .int 0, .int 0])), (q1, .inl (cA2, 61, .inl ((fun _ => 0)))), (q3, .inl (cA4, 61, .inl ((fun _ => 0))))] H := hP
  have hD : va_D A [(h0, .inr (7, [.ref v1, .ref v2, .ref q1, .ref q3, .null, .null, .int 0, .int 0, .long 0, .int 0, .int 0])), (q1, .inl (cA2, 61, .inl ((fun _ => 0)))), (q3, .inl (cA4, 61, .inl ((fun _ => 0))))] := hD
  have hP9 := hP.sub (ws' := [(h0, .inr (7, [.ref v1, .ref v2, .ref q1, .ref q3, .null, .null, .int 0, .int 0, .long 0, .int 0, .int 0]))]) [0] rfl
  have hD9 := hD.sub (ws' := [(h0, .inr (7, [.ref v1, .ref v2, .ref q1, .ref q3, .null, .null, .int 0, .int 0, .long 0, .int 0, .int 0]))]) [0] (by decide) rfl
  have hK9 := hK.sub (tys' := []) [] rfl
  refine W.widen (k := 2) (n := 122) (by omega) (by omega) ?_
  exact W.vret hx hb hr (fun t ht hW => ⟨⟨(), rfl, trivial, q1, q3, by rw [ht]; exact hP9, va_K.moved hW.alike hK9, hD9⟩, hS.F ht⟩) hS.2.2 d_Ber_init_30
set_option maxHeartbeats 4000000 in
set_option maxRecDepth 100000 in
theorem c_PerW_init (l : Launch) (dC : Nat → ClassId) (dI : Nat → Nat → Nat) (sz : Nat) (h0 : Nat) : Met l y_PerW_init ws_PerW_init ({ frames := 1, cells := 0, slots := 0, locals := 12 }) (va_Pc [.ref h0] (fun U => U.heap.size = sz ∧ va_P (dC, dI) classes [(h0, .inr (8, [.null, .int 0]))] U.heap ∧ va_K (dC, dI) classes [] U ∧ va_D (fun _ => True) [(h0, .inr (8, [.null, .int 0]))])) (va_Qv (fun _ : Unit => True) (fun _ t => va_P (dC, dI) classes [(h0, .inr (8, [.null, .int 0]))] t.heap ∧ va_K (dC, dI) classes [] t ∧ va_D (va_A [(h0, .inr (8, [.null, .int 0]))] sz) [(h0, .inr (8, [.null, .int 0]))]) (va_A [(h0, .inr (8, [.null, .int 0]))] sz)) 0 0 (va_A [(h0, .inr (8, [.null, .int 0]))] sz) := by
  refine Met.ofW (cc := b_PerW_init) (maxL := 1) (ret := none) (by decide) rfl ?_
  intro p e s m args below meth c s₁ B hml hv
  obtain ⟨rfl, hsz, hP, hK, hD0⟩ := hv
  have hx := B.exec
  have hb := B.bytes
  have hr := B.returns
  have hts := atoms_spec (ws := ws_PerW_init) B.pre
  have htw : ∀ w ∈ tw_tbl, w.before [.ref h0].toArray s = true := fun w h => hts w (List.mem_cons_of_mem _ h)
  have hown : s.vm.findClass R_PerW = some m.cls := findClass_of_methodNamed B.named
  have hlocks := B.notSynchronized
  have hin : meth.name = "<init>" := (name_of_methodNamed B.named B.method).1
  subst hsz
  have hD := hD0.self (sz := s.heap.size)
  generalize hAe : va_A [(h0, .inr (8, [.null, .int 0]))] s.heap.size = A at hD ⊢
  have hA : ∀ q : Nat, s.heap.size ≤ q → A q := fun q h => by rw [← hAe]; exact Or.inr h
  have hS : va_S A s.heap s.heap [] := va_S.rf
  have hP : va_P (dC, dI) classes [(h0, .inr (8, [.null, .int 0]))] s.heap := hP
  have hl := lv_entry ([.ref h0]) (n := 1) (Nat.le_of_ble_eq_true rfl)
  rw [lg_entry_eq]
  generalize (lg_sl ([.ref h0]) ++ List.replicate (1 - (lg_sl ([.ref h0])).length) Slot.unset).toArray = ls at hl ⊢
  have hl : lv_has ls 1 [(0, .ref h0)] := hl
  refine lv_aload_n hx hb d_PerW_init_0 rfl (lv_at hl 0 rfl) ?_
  refine W.objInit hx hb hown (htw _ wd_2_213) (htw _ wd_1_51) (htw _ wd_1_52) rfl (by rw [hml]; exact hl.1) rfl d_PerW_init_1 (Nat.le_of_ble_eq_true rfl) (Nat.le_of_ble_eq_true rfl) ?_
  refine W.eq (g2 := F0 m 4 ls []) rfl ?_
  have hP9 := hP.sub (ws' := [(h0, .inr (8, [.null, .int 0]))]) [0] rfl
  have hD9 := hD.sub (ws' := [(h0, .inr (8, [.null, .int 0]))]) [0] (by decide) rfl
  have hK9 := hK.sub (tys' := []) [] rfl
  refine W.widen (k := 0) (n := 0) (by omega) (by omega) ?_
  exact W.vret hx hb hr (fun t ht hW => ⟨⟨(), rfl, trivial, by rw [ht]; exact hP9, va_K.moved hW.alike hK9, hD9⟩, hS.F ht⟩) hS.2.2 d_PerW_init_4
set_option maxHeartbeats 4000000 in
set_option maxRecDepth 100000 in
theorem c_PerR_init (l : Launch) (dC : Nat → ClassId) (dI : Nat → Nat → Nat) (sz : Nat) (h0 : Nat) (v1 : Nat) : Met l y_PerR_init ws_PerR_init ({ frames := 1, cells := 0, slots := 0, locals := 12 }) (va_Pc [.ref h0, .ref v1] (fun U => U.heap.size = sz ∧ va_P (dC, dI) classes [(h0, .inr (9, [.null, .null, .int 0, .int 0, .int 0, .int 0]))] U.heap ∧ va_K (dC, dI) classes [] U ∧ va_D (fun _ => True) [(h0, .inr (9, [.null, .null, .int 0, .int 0, .int 0, .int 0]))])) (va_Qv (fun _ : Unit => True) (fun _ t => va_P (dC, dI) classes [(h0, .inr (9, [.ref v1, .null, .int 0, .int 0, .int 0, .int 0]))] t.heap ∧ va_K (dC, dI) classes [] t ∧ va_D (va_A [(h0, .inr (9, [.null, .null, .int 0, .int 0, .int 0, .int 0]))] sz) [(h0, .inr (9, [.ref v1, .null, .int 0, .int 0, .int 0, .int 0]))]) (va_A [(h0, .inr (9, [.null, .null, .int 0, .int 0, .int 0, .int 0]))] sz)) 0 0 (va_A [(h0, .inr (9, [.null, .null, .int 0, .int 0, .int 0, .int 0]))] sz) := by
  refine Met.ofW (cc := b_PerR_init) (maxL := 2) (ret := none) (by decide) rfl ?_
  intro p e s m args below meth c s₁ B hml hv
  obtain ⟨rfl, hsz, hP, hK, hD0⟩ := hv
  have hx := B.exec
  have hb := B.bytes
  have hr := B.returns
  have hts := atoms_spec (ws := ws_PerR_init) B.pre
  have htw : ∀ w ∈ tw_tbl, w.before [.ref h0, .ref v1].toArray s = true := fun w h => hts w (List.mem_cons_of_mem _ h)
  have hown : s.vm.findClass R_PerR = some m.cls := findClass_of_methodNamed B.named
  have hlocks := B.notSynchronized
  have hin : meth.name = "<init>" := (name_of_methodNamed B.named B.method).1
  subst hsz
  have hD := hD0.self (sz := s.heap.size)
  generalize hAe : va_A [(h0, .inr (9, [.null, .null, .int 0, .int 0, .int 0, .int 0]))] s.heap.size = A at hD ⊢
  have hA : ∀ q : Nat, s.heap.size ≤ q → A q := fun q h => by rw [← hAe]; exact Or.inr h
  have hS : va_S A s.heap s.heap [] := va_S.rf
  have hP : va_P (dC, dI) classes [(h0, .inr (9, [.null, .null, .int 0, .int 0, .int 0, .int 0]))] s.heap := hP
  have hl := lv_entry ([.ref h0, .ref v1]) (n := 2) (Nat.le_of_ble_eq_true rfl)
  rw [lg_entry_eq]
  generalize (lg_sl ([.ref h0, .ref v1]) ++ List.replicate (2 - (lg_sl ([.ref h0, .ref v1])).length) Slot.unset).toArray = ls at hl ⊢
  have hl : lv_has ls 2 [(0, .ref h0), (1, .ref v1)] := hl
  refine lv_aload_n hx hb d_PerR_init_0 rfl (lv_at hl 0 rfl) ?_
  refine W.objInit hx hb hown (htw _ wd_2_226) (htw _ wd_1_51) (htw _ wd_1_52) rfl (by rw [hml]; exact hl.1) rfl d_PerR_init_1 (Nat.le_of_ble_eq_true rfl) (Nat.le_of_ble_eq_true rfl) ?_
  refine W.eq (g2 := F0 m 4 ls []) rfl ?_
  refine lv_aload_n hx hb d_PerR_init_4 rfl (lv_at hl 0 rfl) ?_
  refine lv_aload_n hx hb d_PerR_init_5 rfl (lv_at hl 1 rfl) ?_
  refine va_putF (D := (dC, dI)) (ci := 9) (v := .ref v1) (ty := .object "SyntaxForge$Values") (C := R_PerR) (T := F_PerR) (N := 6) hx hb htw i_PerR t_PerR t_PerR_ok n_PerR hown hK hP hD hS 0 rfl rfl 0 (by decide) (htw _ wd_2_227) (fun _ h9 => h9) rfl hin rfl (by decide +kernel) rfl rfl (Nat.le_of_ble_eq_true rfl) d_PerR_init_6 (fun H locs hP hD hS => ?_)
  have hP : va_P (dC, dI) classes [(h0, .inr (9, [.ref v1, .null, .int 0, .int 0, .int 0, .int 0]))] H := hP
  have hD : va_D A [(h0, .inr (9, [.ref v1, .null, .int 0, .int 0, .int 0, .int 0]))] := hD
  have hP9 := hP.sub (ws' := [(h0, .inr (9, [.ref v1, .null, .int 0, .int 0, .int 0, .int 0]))]) [0] rfl
  have hD9 := hD.sub (ws' := [(h0, .inr (9, [.ref v1, .null, .int 0, .int 0, .int 0, .int 0]))]) [0] (by decide) rfl
  have hK9 := hK.sub (tys' := []) [] rfl
  refine W.widen (k := 0) (n := 0) (by omega) (by omega) ?_
  exact W.vret hx hb hr (fun t ht hW => ⟨⟨(), rfl, trivial, by rw [ht]; exact hP9, va_K.moved hW.alike hK9, hD9⟩, hS.F ht⟩) hS.2.2 d_PerR_init_9
set_option maxHeartbeats 4000000 in
set_option maxRecDepth 100000 in
theorem c_Scanner_init (l : Launch) (dC : Nat → ClassId) (dI : Nat → Nat → Nat) (sz : Nat) (h0 : Nat) : Met l y_Scanner_init ws_Scanner_init ({ frames := 1, cells := 3, slots := 192, locals := 12 }) (va_Pc [.ref h0] (fun U => U.heap.size = sz ∧ va_P (dC, dI) classes [(h0, .inr (4, [.null, .null, .null, .int 0, .int 0, .null, .null, .int 0]))] U.heap ∧ va_K (dC, dI) classes [] U ∧ va_D (fun _ => True) [(h0, .inr (4, [.null, .null, .null, .int 0, .int 0, .null, .null, .int 0]))])) (va_Qv (fun _ : Unit => True) (fun _ t => ∃ (k1 : Nat) (k2 : Nat) (k3 : Nat) (c1 : ClassId) (c2 : ClassId) (c3 : ClassId), va_P (dC, dI) classes [(h0, .inr (4, [.ref k1, .ref k2, .ref k3, .int 0, .int ((-1)), .null, .null, .int 0])), (k1, .inl (c1, 64, .inl ((fun _ => 0)))), (k2, .inl (c2, 64, .inl ((fun _ => 0)))), (k3, .inl (c3, 64, .inr (.inl ((fun _ => 0)))))] t.heap ∧ va_K (dC, dI) classes [(c1, .int), (c2, .int), (c3, .long)] t ∧ va_D (va_A [(h0, .inr (4, [.null, .null, .null, .int 0, .int 0, .null, .null, .int 0]))] sz) [(h0, .inr (4, [.ref k1, .ref k2, .ref k3, .int 0, .int ((-1)), .null, .null, .int 0])), (k1, .inl (c1, 64, .inl ((fun _ => 0)))), (k2, .inl (c2, 64, .inl ((fun _ => 0)))), (k3, .inl (c3, 64, .inr (.inl ((fun _ => 0)))))]) (va_A [(h0, .inr (4, [.null, .null, .null, .int 0, .int 0, .null, .null, .int 0]))] sz)) 3 192 (va_A [(h0, .inr (4, [.null, .null, .null, .int 0, .int 0, .null, .null, .int 0]))] sz) := by
  refine Met.ofW (cc := b_Scanner_init) (maxL := 1) (ret := none) (by decide) rfl ?_
  intro p e s m args below meth c s₁ B hml hv
  obtain ⟨rfl, hsz, hP, hK, hD0⟩ := hv
  have hx := B.exec
  have hb := B.bytes
  have hr := B.returns
  have hts := atoms_spec (ws := ws_Scanner_init) B.pre
  have htw : ∀ w ∈ tw_tbl, w.before [.ref h0].toArray s = true := fun w h => hts w (List.mem_cons_of_mem _ h)
  have hown : s.vm.findClass R_Scanner = some m.cls := findClass_of_methodNamed B.named
  have hlocks := B.notSynchronized
  have hin : meth.name = "<init>" := (name_of_methodNamed B.named B.method).1
  subst hsz
  have hD := hD0.self (sz := s.heap.size)
  generalize hAe : va_A [(h0, .inr (4, [.null, .null, .null, .int 0, .int 0, .null, .null, .int 0]))] s.heap.size = A at hD ⊢
  have hA : ∀ q : Nat, s.heap.size ≤ q → A q := fun q h => by rw [← hAe]; exact Or.inr h
  have hS : va_S A s.heap s.heap [] := va_S.rf
  have hP : va_P (dC, dI) classes [(h0, .inr (4, [.null, .null, .null, .int 0, .int 0, .null, .null, .int 0]))] s.heap := hP
  have hl := lv_entry ([.ref h0]) (n := 1) (Nat.le_of_ble_eq_true rfl)
  rw [lg_entry_eq]
  generalize (lg_sl ([.ref h0]) ++ List.replicate (1 - (lg_sl ([.ref h0])).length) Slot.unset).toArray = ls at hl ⊢
  have hl : lv_has ls 1 [(0, .ref h0)] := hl
  refine lv_aload_n hx hb d_Scanner_init_0 rfl (lv_at hl 0 rfl) ?_
  refine W.objInit hx hb hown (htw _ wd_2_87) (htw _ wd_1_51) (htw _ wd_1_52) rfl (by rw [hml]; exact hl.1) rfl d_Scanner_init_1 (Nat.le_of_ble_eq_true rfl) (Nat.le_of_ble_eq_true rfl) ?_
  refine W.eq (g2 := F0 m 4 ls []) rfl ?_
  refine lv_aload_n hx hb d_Scanner_init_4 rfl (lv_at hl 0 rfl) ?_
  refine lv_bipush (v := 64) hx hb d_Scanner_init_5 (by decide) ?_
  have hc0 : 0 + 1 ≤ 3 := by omega
  have hs0 : 0 + 64 ≤ 192 := by omega
  refine va_newa (atype := .int) (a0 := (64, .inl (fun _ => 0))) hx hb (htw _ wd_2_80) rfl hK hP hD hS hA (fun _ => rfl) (by decide) (by decide) (by decide) hc0 hs0 d_Scanner_init_7 (fun q1 cA2 H hK hP hD hS => ?_)
  have hP : va_P (dC, dI) classes [(h0, .inr (4, [.null, .null, .null, .int 0, .int 0, .null, .null, .int 0])), (q1, .inl (cA2, 64, .inl ((fun _ => 0))))] H := hP
  have hD : va_D A [(h0, .inr (4, [.null, .null, .null, .int 0, .int 0, .null, .null, .int 0])), (q1, .inl (cA2, 64, .inl ((fun _ => 0))))] := hD
  refine va_put (D := (dC, dI)) (ci := 4) (v := .ref q1) (ty := .array .int) (C := R_Scanner) (T := F_Scanner) (N := 8) hx hb htw i_Scanner t_Scanner t_Scanner_ok n_Scanner hown hK hP hD hS 0 rfl rfl 0 (by decide) (htw _ wd_2_88) (fun _ h9 => h9) rfl (by decide +kernel) rfl rfl (Nat.le_of_ble_eq_true rfl) d_Scanner_init_9 (fun H locs hP hD hS => ?_)
  have hP : va_P (dC, dI) classes [(h0, .inr (4, [.ref q1, .null, .null, .int 0, .int 0, .null, .null, .int 0])), (q1, .inl (cA2, 64, .inl ((fun _ => 0))))] H := hP
  have hD : va_D A [(h0, .inr (4, [.ref q1, .null, .null, .int 0, .int 0, .null, .null, .int 0])), (q1, .inl (cA2, 64, .inl ((fun _ => 0))))] := hD
  refine lv_aload_n hx hb d_Scanner_init_12 rfl (lv_at hl 0 rfl) ?_
  refine lv_bipush (v := 64) hx hb d_Scanner_init_13 (by decide) ?_
  have hc0 : 1 + 1 ≤ 3 := by omega
  have hs0 : 64 + 64 ≤ 192 := by omega
  refine va_newa (atype := .int) (a0 := (64, .inl (fun _ => 0))) hx hb (htw _ wd_2_80) rfl hK hP hD hS hA (fun _ => rfl) (by decide) (by decide) (by decide) hc0 hs0 d_Scanner_init_15 (fun q3 cA4 H hK hP hD hS => ?_)
  have hP : va_P (dC, dI) classes [(h0, .inr (4, [.ref q1, .null, .null, .int 0, .int 0, .null, .null, .int 0])), (q1, .inl (cA2, 64, .inl ((fun _ => 0)))), (q3, .inl (cA4, 64, .inl ((fun _ => 0))))] H := hP
  have hD : va_D A [(h0, .inr (4, [.ref q1, .null, .null, .int 0, .int 0, .null, .null, .int 0])), (q1, .inl (cA2, 64, .inl ((fun _ => 0)))), (q3, .inl (cA4, 64, .inl ((fun _ => 0))))] := hD
  refine va_put (D := (dC, dI)) (ci := 4) (v := .ref q3) (ty := .array .int) (C := R_Scanner) (T := F_Scanner) (N := 8) hx hb htw i_Scanner t_Scanner t_Scanner_ok n_Scanner hown hK hP hD hS 0 rfl rfl 1 (by decide) (htw _ wd_2_90) (fun _ h9 => h9) rfl (by decide +kernel) rfl rfl (Nat.le_of_ble_eq_true rfl) d_Scanner_init_17 (fun H locs hP hD hS => ?_)
  have hP : va_P (dC, dI) classes [(h0, .inr (4, [.ref q1, .ref q3, .null, .int 0, .int 0, .null, .null, .int 0])), (q1, .inl (cA2, 64, .inl ((fun _ => 0)))), (q3, .inl (cA4, 64, .inl ((fun _ => 0))))] H := hP
  have hD : va_D A [(h0, .inr (4, [.ref q1, .ref q3, .null, .int 0, .int 0, .null, .null, .int 0])), (q1, .inl (cA2, 64, .inl ((fun _ => 0)))), (q3, .inl (cA4, 64, .inl ((fun _ => 0))))] := hD
  refine lv_aload_n hx hb d_Scanner_init_20 rfl (lv_at hl 0 rfl) ?_
  refine lv_bipush (v := 64) hx hb d_Scanner_init_21 (by decide) ?_
  have hc0 : 2 + 1 ≤ 3 := by omega
  have hs0 : 128 + 64 ≤ 192 := by omega
  refine va_newa (atype := .long) (a0 := (64, .inr (.inl (fun _ => 0)))) hx hb (htw _ wd_2_81) rfl hK hP hD hS hA (fun _ => rfl) (by decide) (by decide) (by decide) hc0 hs0 d_Scanner_init_23 (fun q5 cA6 H hK hP hD hS => ?_)
  have hP : va_P (dC, dI) classes [(h0, .inr (4, [.ref q1, .ref q3, .null, .int 0, .int 0, .null, .null, .int 0])), (q1, .inl (cA2, 64, .inl ((fun _ => 0)))), (q3, .inl (cA4, 64, .inl ((fun _ => 0)))), (q5, .inl (cA6, 64, .inr (.inl ((fun _ => 0)))))] H := hP
  have hD : va_D A [(h0, .inr (4, [.ref q1, .ref q3, .null, .int 0, .int 0, .null, .null, .int 0])), (q1, .inl (cA2, 64, .inl ((fun _ => 0)))), (q3, .inl (cA4, 64, .inl ((fun _ => 0)))), (q5, .inl (cA6, 64, .inr (.inl ((fun _ => 0)))))] := hD
  refine va_put (D := (dC, dI)) (ci := 4) (v := .ref q5) (ty := .array .long) (C := R_Scanner) (T := F_Scanner) (N := 8) hx hb htw i_Scanner t_Scanner t_Scanner_ok n_Scanner hown hK hP hD hS 0 rfl rfl 2 (by decide) (htw _ wd_2_92) (fun _ h9 => h9) rfl (by decide +kernel) rfl rfl (Nat.le_of_ble_eq_true rfl) d_Scanner_init_25 (fun H locs hP hD hS => ?_)
  have hP : va_P (dC, dI) classes [(h0, .inr (4, [.ref q1, .ref q3, .ref q5, .int 0, .int 0, .null, .null, .int 0])), (q1, .inl (cA2, 64, .inl ((fun _ => 0)))), (q3, .inl (cA4, 64, .inl ((fun _ => 0)))), (q5, .inl (cA6, 64, .inr (.inl ((fun _ => 0)))))] H := hP
  have hD : va_D A [(h0, .inr (4, [.ref q1, .ref q3, .ref q5, .int 0, .int 0, .null, .null, .int 0])), (q1, .inl (cA2, 64, .inl ((fun _ => 0)))), (q3, .inl (cA4, 64, .inl ((fun _ => 0)))), (q5, .inl (cA6, 64, .inr (.inl ((fun _ => 0)))))] := hD
  refine lv_aload_n hx hb d_Scanner_init_28 rfl (lv_at hl 0 rfl) ?_
  refine lv_iconst (v := (-1)) hx hb d_Scanner_init_29 (by decide) ?_
  refine va_put (D := (dC, dI)) (ci := 4) (v := .int ((-1))) (ty := .int) (C := R_Scanner) (T := F_Scanner) (N := 8) hx hb htw i_Scanner t_Scanner t_Scanner_ok n_Scanner hown hK hP hD hS 0 rfl rfl 4 (by decide) (htw _ wd_2_96) (fun _ h9 => h9) rfl (by decide +kernel) rfl rfl (Nat.le_of_ble_eq_true rfl) d_Scanner_init_30 (fun H locs hP hD hS => ?_)
  have hP : va_P (dC, dI) classes [(h0, .inr (4, [.ref q1, .ref q3, .ref q5, .int 0, .int ((-1)), .null, .null, .int 0])), (q1, .inl (cA2, 64, .inl ((fun _ => 0)))), (q3, .inl (cA4, 64, .inl ((fun _ => 0)))), (q5, .inl (cA6, 64, .inr (.inl ((fun _ => 0)))))] H := hP
  have hD : va_D A [(h0, .inr (4, [.ref q1, .ref q3, .ref q5, .int 0, .int ((-1)), .null, .null, .int 0])), (q1, .inl (cA2, 64, .inl ((fun _ => 0)))), (q3, .inl (cA4, 64, .inl ((fun _ => 0)))), (q5, .inl (cA6, 64, .inr (.inl ((fun _ => 0)))))] := hD
  have hP9 := hP.sub (ws' := [(h0, .inr (4, [.ref q1, .ref q3, .ref q5, .int 0, .int ((-1)), .null, .null, .int 0])), (q1, .inl (cA2, 64, .inl ((fun _ => 0)))), (q3, .inl (cA4, 64, .inl ((fun _ => 0)))), (q5, .inl (cA6, 64, .inr (.inl ((fun _ => 0)))))]) [0, 1, 2, 3] rfl
  have hD9 := hD.sub (ws' := [(h0, .inr (4, [.ref q1, .ref q3, .ref q5, .int 0, .int ((-1)), .null, .null, .int 0])), (q1, .inl (cA2, 64, .inl ((fun _ => 0)))), (q3, .inl (cA4, 64, .inl ((fun _ => 0)))), (q5, .inl (cA6, 64, .inr (.inl ((fun _ => 0)))))]) [0, 1, 2, 3] (by decide) rfl
  have hK9 := hK.sub (tys' := [(cA2, .int), (cA4, .int), (cA6, .long)]) [0, 1, 2] rfl
  refine W.widen (k := 3) (n := 192) (by omega) (by omega) ?_
  exact W.vret hx hb hr (fun t ht hW => ⟨⟨(), rfl, trivial, q1, q3, q5, cA2, cA4, cA6, by rw [ht]; exact hP9, va_K.moved hW.alike hK9, hD9⟩, hS.F ht⟩) hS.2.2 d_Scanner_init_33
set_option maxHeartbeats 4000000 in
set_option maxRecDepth 100000 in
theorem c_Parser_init (l : Launch) (dC : Nat → ClassId) (dI : Nat → Nat → Nat) (sz : Nat) (h0 : Nat) (v1 : Nat) : Met l y_Parser_init ws_Parser_init ({ frames := 1, cells := 1, slots := 60, locals := 12 }) (va_Pc [.ref h0, .ref v1] (fun U => U.heap.size = sz ∧ va_P (dC, dI) classes [(h0, .inr (5, [.null, .null, .null, .null, .null, .int 0, .int 0]))] U.heap ∧ va_K (dC, dI) classes [] U ∧ va_D (fun _ => True) [(h0, .inr (5, [.null, .null, .null, .null, .null, .int 0, .int 0]))] ∧ va_AO "SyntaxForge$Value" U)) (va_Qv (fun _ : Unit => True) (fun _ t => ∃ (d1 : Nat), va_P (dC, dI) classes [(h0, .inr (5, [.ref v1, .ref d1, .null, .null, .null, .int 0, .int 0]))] t.heap ∧ va_K (dC, dI) classes [] t ∧ va_D (va_A [(h0, .inr (5, [.null, .null, .null, .null, .null, .int 0, .int 0]))] sz) [(h0, .inr (5, [.ref v1, .ref d1, .null, .null, .null, .int 0, .int 0]))]) (va_A [(h0, .inr (5, [.null, .null, .null, .null, .null, .int 0, .int 0]))] sz)) 1 60 (va_A [(h0, .inr (5, [.null, .null, .null, .null, .null, .int 0, .int 0]))] sz) := by
  refine Met.ofW (cc := b_Parser_init) (maxL := 2) (ret := none) (by decide) rfl ?_
  intro p e s m args below meth c s₁ B hml hv
  obtain ⟨rfl, hsz, hP, hK, hD0, hx0⟩ := hv
  have hx := B.exec
  have hb := B.bytes
  have hr := B.returns
  have hts := atoms_spec (ws := ws_Parser_init) B.pre
  have htw : ∀ w ∈ tw_tbl, w.before [.ref h0, .ref v1].toArray s = true := fun w h => hts w (List.mem_cons_of_mem _ h)
  have hown : s.vm.findClass R_Parser = some m.cls := findClass_of_methodNamed B.named
  have hlocks := B.notSynchronized
  have hin : meth.name = "<init>" := (name_of_methodNamed B.named B.method).1
  subst hsz
  have hD := hD0.self (sz := s.heap.size)
  generalize hAe : va_A [(h0, .inr (5, [.null, .null, .null, .null, .null, .int 0, .int 0]))] s.heap.size = A at hD hx0 ⊢
  have hA : ∀ q : Nat, s.heap.size ≤ q → A q := fun q h => by rw [← hAe]; exact Or.inr h
  have hS : va_S A s.heap s.heap [] := va_S.rf
  have hP : va_P (dC, dI) classes [(h0, .inr (5, [.null, .null, .null, .null, .null, .int 0, .int 0]))] s.heap := hP
  have hl := lv_entry ([.ref h0, .ref v1]) (n := 2) (Nat.le_of_ble_eq_true rfl)
  rw [lg_entry_eq]
  generalize (lg_sl ([.ref h0, .ref v1]) ++ List.replicate (2 - (lg_sl ([.ref h0, .ref v1])).length) Slot.unset).toArray = ls at hl ⊢
  have hl : lv_has ls 2 [(0, .ref h0), (1, .ref v1)] := hl
  refine lv_aload_n hx hb d_Parser_init_0 rfl (lv_at hl 0 rfl) ?_
  refine W.objInit hx hb hown (htw _ wd_2_124) (htw _ wd_1_51) (htw _ wd_1_52) rfl (by rw [hml]; exact hl.1) rfl d_Parser_init_1 (Nat.le_of_ble_eq_true rfl) (Nat.le_of_ble_eq_true rfl) ?_
  refine W.eq (g2 := F0 m 4 ls []) rfl ?_
  refine lv_aload_n hx hb d_Parser_init_4 rfl (lv_at hl 0 rfl) ?_
  refine lv_aload_n hx hb d_Parser_init_5 rfl (lv_at hl 1 rfl) ?_
  refine va_putF (D := (dC, dI)) (ci := 5) (v := .ref v1) (ty := .object "SyntaxForge$Scanner") (C := R_Parser) (T := F_Parser) (N := 7) hx hb htw i_Parser t_Parser t_Parser_ok n_Parser hown hK hP hD hS 0 rfl rfl 0 (by decide) (htw _ wd_2_127) (fun _ h9 => h9) rfl hin rfl (by decide +kernel) rfl rfl (Nat.le_of_ble_eq_true rfl) d_Parser_init_6 (fun H locs hP hD hS => ?_)
  have hP : va_P (dC, dI) classes [(h0, .inr (5, [.ref v1, .null, .null, .null, .null, .int 0, .int 0]))] H := hP
  have hD : va_D A [(h0, .inr (5, [.ref v1, .null, .null, .null, .null, .int 0, .int 0]))] := hD
  refine lv_aload_n hx hb d_Parser_init_9 rfl (lv_at hl 0 rfl) ?_
  refine lv_bipush (v := 60) hx hb d_Parser_init_10 (by decide) ?_
  have hc0 : 0 + 1 ≤ 1 := by omega
  have hs0 : 0 + 60 ≤ 60 := by omega
  refine va_newq (C := "SyntaxForge$Value") hx hb hown (htw _ wd_2_125) hx0 hK hP hD hS hA (by decide) (by decide) (by decide) hc0 hs0 d_Parser_init_12 (fun q1 cA2 H hK hP hD hS => ?_)
  have hP : va_P (dC, dI) classes [(h0, .inr (5, [.ref v1, .null, .null, .null, .null, .int 0, .int 0])), (q1, .inl (cA2, 60, .inr (.inr (.inr (.inr ((fun _ => none)))))))] H := hP
  have hD : va_D A [(h0, .inr (5, [.ref v1, .null, .null, .null, .null, .int 0, .int 0])), (q1, .inl (cA2, 60, .inr (.inr (.inr (.inr ((fun _ => none)))))))] := hD
  refine va_putF (D := (dC, dI)) (ci := 5) (v := .ref q1) (ty := .array (.object "SyntaxForge$Value")) (C := R_Parser) (T := F_Parser) (N := 7) hx hb htw i_Parser t_Parser t_Parser_ok n_Parser hown hK hP hD hS 0 rfl rfl 1 (by decide) (htw _ wd_2_128) (fun _ h9 => h9) rfl hin rfl (by decide +kernel) rfl rfl (Nat.le_of_ble_eq_true rfl) d_Parser_init_15 (fun H locs hP hD hS => ?_)
  have hP : va_P (dC, dI) classes [(h0, .inr (5, [.ref v1, .ref q1, .null, .null, .null, .int 0, .int 0])), (q1, .inl (cA2, 60, .inr (.inr (.inr (.inr ((fun _ => none)))))))] H := hP
  have hD : va_D A [(h0, .inr (5, [.ref v1, .ref q1, .null, .null, .null, .int 0, .int 0])), (q1, .inl (cA2, 60, .inr (.inr (.inr (.inr ((fun _ => none)))))))] := hD
  have hP9 := hP.sub (ws' := [(h0, .inr (5, [.ref v1, .ref q1, .null, .null, .null, .int 0, .int 0]))]) [0] rfl
  have hD9 := hD.sub (ws' := [(h0, .inr (5, [.ref v1, .ref q1, .null, .null, .null, .int 0, .int 0]))]) [0] (by decide) rfl
  have hK9 := hK.sub (tys' := []) [] rfl
  refine W.widen (k := 1) (n := 60) (by omega) (by omega) ?_
  exact W.vret hx hb hr (fun t ht hW => ⟨⟨(), rfl, trivial, q1, by rw [ht]; exact hP9, va_K.moved hW.alike hK9, hD9⟩, hS.F ht⟩) hS.2.2 d_Parser_init_18
