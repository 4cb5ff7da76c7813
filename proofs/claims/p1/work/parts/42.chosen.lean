/-! by program (wip/p1) -/
theorem wd_7_209 : Cond.lays "java/lang/IllegalStateException" "java/lang/Throwable" "backtrace" "Ljava/lang/Object;" ∈ tw_tbl := tw_t7 (List.mem_of_getElem? (i := 209) rfl) rfl
theorem wd_7_208 : Cond.lays "java/lang/IllegalStateException" "java/lang/Throwable" "detailMessage" "Ljava/lang/String;" ∈ tw_tbl := tw_t7 (List.mem_of_getElem? (i := 208) rfl) rfl
theorem wd_7_207 : Cond.lays "java/lang/IllegalStateException" "java/lang/Throwable" "suppressedExceptions" "Ljava/util/List;" ∈ tw_tbl := tw_t7 (List.mem_of_getElem? (i := 207) rfl) rfl
theorem wd_7_206 : Cond.lays "java/lang/IllegalStateException" "java/lang/Throwable" "stackTrace" "[Ljava/lang/StackTraceElement;" ∈ tw_tbl := tw_t7 (List.mem_of_getElem? (i := 206) rfl) rfl
theorem wd_7_205 : Cond.lays "java/lang/IllegalStateException" "java/lang/Throwable" "cause" "Ljava/lang/Throwable;" ∈ tw_tbl := tw_t7 (List.mem_of_getElem? (i := 205) rfl) rfl
theorem wd_3_93 : Cond.selects "java/lang/IllegalStateException" ⟨"java/lang/Throwable", "fillInStackTrace", "()Ljava/lang/Throwable;"⟩ ⟨"java/lang/Throwable", "fillInStackTrace", "()Ljava/lang/Throwable;"⟩ ∈ tw_tbl := tw_t3 (List.mem_of_getElem? (i := 93) rfl) rfl
theorem wd_7_204 : Cond.selects "java/lang/IllegalStateException" ⟨"java/lang/Throwable", "fillInStackTrace", "(I)Ljava/lang/Throwable;"⟩ ⟨"java/lang/Throwable", "fillInStackTrace", "(I)Ljava/lang/Throwable;"⟩ ∈ tw_tbl := tw_t7 (List.mem_of_getElem? (i := 204) rfl) rfl
theorem wd_7_202 : Cond.instantiable "java/lang/IllegalStateException" 6 ∈ tw_tbl := tw_t7 (List.mem_of_getElem? (i := 202) rfl) rfl
theorem wd_7_210 : Cond.methodLink "SyntaxForge" 210 ⟨"java/lang/IllegalStateException", "<init>", "()V"⟩ ∈ tw_tbl := tw_t7 (List.mem_of_getElem? (i := 210) rfl) rfl
theorem wd_7_213 : Cond.methodLink "java/lang/IllegalStateException" 1 ⟨"java/lang/RuntimeException", "<init>", "()V"⟩ ∈ tw_tbl := tw_t7 (List.mem_of_getElem? (i := 213) rfl) rfl
theorem wd_7_212 : Cond.code ⟨"java/lang/IllegalStateException", "<init>", "()V"⟩ prog_28_method_1_code 1 none ∈ tw_tbl := tw_t7 (List.mem_of_getElem? (i := 212) rfl) rfl
theorem wd_7_211 : Cond.instanceMethod ⟨"java/lang/IllegalStateException", "<init>", "()V"⟩ ∈ tw_tbl := tw_t7 (List.mem_of_getElem? (i := 211) rfl) rfl
theorem wd_7_201 : Cond.classLink "SyntaxForge" 208 "java/lang/IllegalStateException" ∈ tw_tbl := tw_t7 (List.mem_of_getElem? (i := 201) rfl) rfl
theorem wd_1_44 : Cond.initialized "java/lang/IllegalStateException" ∈ tw_tbl := tw_t1 (List.mem_of_getElem? (i := 44) rfl) rfl
theorem wd_1_1 : Cond.initialized "SyntaxForge" ∈ tw_tbl := tw_t1 (List.mem_of_getElem? (i := 1) rfl) rfl
theorem wd_7_197 : Cond.methodLink "SyntaxForge" 139 ⟨"SyntaxForge", "chosen", "(III)LSyntaxForge$Type;"⟩ ∈ tw_tbl := tw_t7 (List.mem_of_getElem? (i := 197) rfl) rfl
theorem wd_7_199 : Cond.instanceMethod ⟨"SyntaxForge", "chosen", "(III)LSyntaxForge$Type;"⟩ ∈ tw_tbl := tw_t7 (List.mem_of_getElem? (i := 199) rfl) rfl
theorem wp_5_6 : Cond.selects "SyntaxForge" ⟨"SyntaxForge", "chosen", "(III)LSyntaxForge$Type;"⟩ ⟨"SyntaxForge", "chosen", "(III)LSyntaxForge$Type;"⟩ ∈ tw_tbl := tw_p5 (q := (⟨"SyntaxForge", "chosen", "(III)LSyntaxForge$Type;"⟩, 14)) (List.mem_of_getElem? (i := 6) rfl)
def y_SF_chosen : MethodName := ⟨"SyntaxForge", "chosen", "(III)LSyntaxForge$Type;"⟩
abbrev b_SF_chosen : ByteArray := prog_1_method_10_code
abbrev cd_SF_chosen : Cond := .code y_SF_chosen b_SF_chosen 4 (some (.object "SyntaxForge$Type"))
abbrev ws_SF_chosen : List Cond := cd_SF_chosen :: tw_tbl
theorem k_SF_chosen : cd_SF_chosen ∈ tw_tbl := tw_t7 (List.mem_of_getElem? (i := 200) rfl) rfl
theorem d_SF_chosen_0 : decode b_SF_chosen 0 = .ok (.iload_n 1, 1) := by decide +kernel
theorem d_SF_chosen_1 : decode b_SF_chosen 1 = .ok (.ifCond .lt 33, 3) := by decide +kernel
theorem d_SF_chosen_4 : decode b_SF_chosen 4 = .ok (.iload_n 2, 1) := by decide +kernel
theorem d_SF_chosen_5 : decode b_SF_chosen 5 = .ok (.ifCond .lt 29, 3) := by decide +kernel
theorem d_SF_chosen_8 : decode b_SF_chosen 8 = .ok (.iload_n 2, 1) := by decide +kernel
theorem d_SF_chosen_9 : decode b_SF_chosen 9 = .ok (.iload_n 3, 1) := by decide +kernel
theorem d_SF_chosen_10 : decode b_SF_chosen 10 = .ok (.if_icmp .gt 24, 3) := by decide +kernel
theorem d_SF_chosen_13 : decode b_SF_chosen 13 = .ok (.aload_n 0, 1) := by decide +kernel
theorem d_SF_chosen_14 : decode b_SF_chosen 14 = .ok (.getfield 27, 3) := by decide +kernel
theorem d_SF_chosen_17 : decode b_SF_chosen 17 = .ok (.ifCond .eq 25, 3) := by decide +kernel
theorem d_SF_chosen_20 : decode b_SF_chosen 20 = .ok (.iload_n 1, 1) := by decide +kernel
theorem d_SF_chosen_21 : decode b_SF_chosen 21 = .ok (.aload_n 0, 1) := by decide +kernel
theorem d_SF_chosen_22 : decode b_SF_chosen 22 = .ok (.getfield 34, 3) := by decide +kernel
theorem d_SF_chosen_25 : decode b_SF_chosen 25 = .ok (.getfield 129, 3) := by decide +kernel
theorem d_SF_chosen_28 : decode b_SF_chosen 28 = .ok (.invokevirtual 133, 3) := by decide +kernel
theorem d_SF_chosen_31 : decode b_SF_chosen 31 = .ok (.if_icmp .lt 11, 3) := by decide +kernel
theorem d_SF_chosen_34 : decode b_SF_chosen 34 = .ok (.new 107, 3) := by decide +kernel
theorem d_SF_chosen_37 : decode b_SF_chosen 37 = .ok (.dup, 1) := by decide +kernel
theorem d_SF_chosen_38 : decode b_SF_chosen 38 = .ok (.invokespecial 109, 3) := by decide +kernel
theorem d_SF_chosen_41 : decode b_SF_chosen 41 = .ok (.athrow, 1) := by decide +kernel
theorem d_SF_chosen_42 : decode b_SF_chosen 42 = .ok (.aload_n 0, 1) := by decide +kernel
theorem d_SF_chosen_43 : decode b_SF_chosen 43 = .ok (.getfield 27, 3) := by decide +kernel
theorem d_SF_chosen_46 : decode b_SF_chosen 46 = .ok (.ifCond .ne 11, 3) := by decide +kernel
theorem d_SF_chosen_49 : decode b_SF_chosen 49 = .ok (.new 208, 3) := by decide +kernel
theorem d_SF_chosen_52 : decode b_SF_chosen 52 = .ok (.dup, 1) := by decide +kernel
theorem d_SF_chosen_53 : decode b_SF_chosen 53 = .ok (.invokespecial 210, 3) := by decide +kernel
theorem d_SF_chosen_56 : decode b_SF_chosen 56 = .ok (.athrow, 1) := by decide +kernel
theorem d_SF_chosen_57 : decode b_SF_chosen 57 = .ok (.aload_n 0, 1) := by decide +kernel
theorem d_SF_chosen_58 : decode b_SF_chosen 58 = .ok (.getfield 34, 3) := by decide +kernel
theorem d_SF_chosen_61 : decode b_SF_chosen 61 = .ok (.getfield 129, 3) := by decide +kernel
theorem d_SF_chosen_64 : decode b_SF_chosen 64 = .ok (.iload_n 1, 1) := by decide +kernel
theorem d_SF_chosen_65 : decode b_SF_chosen 65 = .ok (.invokevirtual 211, 3) := by decide +kernel
theorem d_SF_chosen_68 : decode b_SF_chosen 68 = .ok (.checkcast 193, 3) := by decide +kernel
theorem d_SF_chosen_71 : decode b_SF_chosen 71 = .ok (.areturn, 1) := by decide +kernel
def y_SF_encode : MethodName := ⟨"SyntaxForge", "encode", "(II)I"⟩
abbrev b_SF_encode : ByteArray := prog_1_method_5_code
abbrev cd_SF_encode : Cond := .code y_SF_encode b_SF_encode 7 (some .int)
abbrev ws_SF_encode : List Cond := cd_SF_encode :: tw_tbl
theorem k_SF_encode : cd_SF_encode ∈ tw_tbl := tw_t7 (List.mem_of_getElem? (i := 196) rfl) rfl
theorem d_SF_encode_0 : decode b_SF_encode 0 = .ok (.aload_n 0, 1) := by decide +kernel
theorem d_SF_encode_1 : decode b_SF_encode 1 = .ok (.iload_n 1, 1) := by decide +kernel
theorem d_SF_encode_2 : decode b_SF_encode 2 = .ok (.iload_n 2, 1) := by decide +kernel
theorem d_SF_encode_3 : decode b_SF_encode 3 = .ok (.iconst 1, 1) := by decide +kernel
theorem d_SF_encode_4 : decode b_SF_encode 4 = .ok (.invokevirtual 139, 3) := by decide +kernel
theorem d_SF_encode_7 : decode b_SF_encode 7 = .ok (.astore_n 3, 1) := by decide +kernel
theorem d_SF_encode_8 : decode b_SF_encode 8 = .ok (.aload_n 0, 1) := by decide +kernel
theorem d_SF_encode_9 : decode b_SF_encode 9 = .ok (.invokevirtual 110, 3) := by decide +kernel
theorem d_SF_encode_12 : decode b_SF_encode 12 = .ok (.astore 4, 2) := by decide +kernel
theorem d_SF_encode_14 : decode b_SF_encode 14 = .ok (.aload_n 0, 1) := by decide +kernel
theorem d_SF_encode_15 : decode b_SF_encode 15 = .ok (.getfield 44, 3) := by decide +kernel
theorem d_SF_encode_18 : decode b_SF_encode 18 = .ok (.aload 4, 2) := by decide +kernel
theorem d_SF_encode_20 : decode b_SF_encode 20 = .ok (.aload_n 0, 1) := by decide +kernel
theorem d_SF_encode_21 : decode b_SF_encode 21 = .ok (.getfield 34, 3) := by decide +kernel
theorem d_SF_encode_24 : decode b_SF_encode 24 = .ok (.iconst 0, 1) := by decide +kernel
theorem d_SF_encode_25 : decode b_SF_encode 25 = .ok (.invokevirtual 117, 3) := by decide +kernel
theorem d_SF_encode_28 : decode b_SF_encode 28 = .ok (.aload_n 0, 1) := by decide +kernel
theorem d_SF_encode_29 : decode b_SF_encode 29 = .ok (.getfield 53, 3) := by decide +kernel
theorem d_SF_encode_32 : decode b_SF_encode 32 = .ok (.aload 4, 2) := by decide +kernel
theorem d_SF_encode_34 : decode b_SF_encode 34 = .ok (.aload_n 0, 1) := by decide +kernel
theorem d_SF_encode_35 : decode b_SF_encode 35 = .ok (.getfield 60, 3) := by decide +kernel
theorem d_SF_encode_38 : decode b_SF_encode 38 = .ok (.invokevirtual 143, 3) := by decide +kernel
theorem d_SF_encode_41 : decode b_SF_encode 41 = .ok (.astore 5, 2) := by decide +kernel
theorem d_SF_encode_43 : decode b_SF_encode 43 = .ok (.aload_n 0, 1) := by decide +kernel
theorem d_SF_encode_44 : decode b_SF_encode 44 = .ok (.getfield 60, 3) := by decide +kernel
theorem d_SF_encode_47 : decode b_SF_encode 47 = .ok (.aload 5, 2) := by decide +kernel
theorem d_SF_encode_49 : decode b_SF_encode 49 = .ok (.aload_n 3, 1) := by decide +kernel
theorem d_SF_encode_50 : decode b_SF_encode 50 = .ok (.invokevirtual 147, 3) := by decide +kernel
theorem d_SF_encode_53 : decode b_SF_encode 53 = .ok (.astore 6, 2) := by decide +kernel
theorem d_SF_encode_55 : decode b_SF_encode 55 = .ok (.aload 6, 2) := by decide +kernel
theorem d_SF_encode_57 : decode b_SF_encode 57 = .ok (.ifnull 23, 3) := by decide +kernel
theorem d_SF_encode_60 : decode b_SF_encode 60 = .ok (.aload_n 0, 1) := by decide +kernel
theorem d_SF_encode_61 : decode b_SF_encode 61 = .ok (.getfield 44, 3) := by decide +kernel
theorem d_SF_encode_64 : decode b_SF_encode 64 = .ok (.aload 6, 2) := by decide +kernel
theorem d_SF_encode_66 : decode b_SF_encode 66 = .ok (.getfield 151, 3) := by decide +kernel
theorem d_SF_encode_69 : decode b_SF_encode 69 = .ok (.putfield 156, 3) := by decide +kernel
theorem d_SF_encode_72 : decode b_SF_encode 72 = .ok (.new 159, 3) := by decide +kernel
theorem d_SF_encode_75 : decode b_SF_encode 75 = .ok (.dup, 1) := by decide +kernel
theorem d_SF_encode_76 : decode b_SF_encode 76 = .ok (.invokespecial 161, 3) := by decide +kernel
theorem d_SF_encode_79 : decode b_SF_encode 79 = .ok (.athrow, 1) := by decide +kernel
theorem d_SF_encode_80 : decode b_SF_encode 80 = .ok (.iload_n 2, 1) := by decide +kernel
theorem d_SF_encode_81 : decode b_SF_encode 81 = .ok (.ifCond .eq 13, 3) := by decide +kernel
theorem d_SF_encode_84 : decode b_SF_encode 84 = .ok (.aload_n 0, 1) := by decide +kernel
theorem d_SF_encode_85 : decode b_SF_encode 85 = .ok (.getfield 34, 3) := by decide +kernel
theorem d_SF_encode_88 : decode b_SF_encode 88 = .ok (.invokevirtual 162, 3) := by decide +kernel
theorem d_SF_encode_91 : decode b_SF_encode 91 = .ok (.ifCond .eq 22, 3) := by decide +kernel
theorem d_SF_encode_94 : decode b_SF_encode 94 = .ok (.aload_n 0, 1) := by decide +kernel
theorem d_SF_encode_95 : decode b_SF_encode 95 = .ok (.getfield 67, 3) := by decide +kernel
theorem d_SF_encode_98 : decode b_SF_encode 98 = .ok (.aload_n 0, 1) := by decide +kernel
theorem d_SF_encode_99 : decode b_SF_encode 99 = .ok (.getfield 60, 3) := by decide +kernel
theorem d_SF_encode_102 : decode b_SF_encode 102 = .ok (.iconst 0, 1) := by decide +kernel
theorem d_SF_encode_103 : decode b_SF_encode 103 = .ok (.aload_n 0, 1) := by decide +kernel
theorem d_SF_encode_104 : decode b_SF_encode 104 = .ok (.getfield 60, 3) := by decide +kernel
theorem d_SF_encode_107 : decode b_SF_encode 107 = .ok (.getfield 166, 3) := by decide +kernel
theorem d_SF_encode_110 : decode b_SF_encode 110 = .ok (.invokevirtual 169, 3) := by decide +kernel
theorem d_SF_encode_113 : decode b_SF_encode 113 = .ok (.iload_n 2, 1) := by decide +kernel
theorem d_SF_encode_114 : decode b_SF_encode 114 = .ok (.ifCond .ne 19, 3) := by decide +kernel
theorem d_SF_encode_117 : decode b_SF_encode 117 = .ok (.aload_n 0, 1) := by decide +kernel
theorem d_SF_encode_118 : decode b_SF_encode 118 = .ok (.getfield 67, 3) := by decide +kernel
theorem d_SF_encode_121 : decode b_SF_encode 121 = .ok (.aload 5, 2) := by decide +kernel
theorem d_SF_encode_123 : decode b_SF_encode 123 = .ok (.aload_n 0, 1) := by decide +kernel
theorem d_SF_encode_124 : decode b_SF_encode 124 = .ok (.getfield 24, 3) := by decide +kernel
theorem d_SF_encode_127 : decode b_SF_encode 127 = .ok (.invokevirtual 173, 3) := by decide +kernel
theorem d_SF_encode_130 : decode b_SF_encode 130 = .ok (.goto 16, 3) := by decide +kernel
theorem d_SF_encode_133 : decode b_SF_encode 133 = .ok (.aload_n 0, 1) := by decide +kernel
theorem d_SF_encode_134 : decode b_SF_encode 134 = .ok (.getfield 83, 3) := by decide +kernel
theorem d_SF_encode_137 : decode b_SF_encode 137 = .ok (.aload 5, 2) := by decide +kernel
theorem d_SF_encode_139 : decode b_SF_encode 139 = .ok (.aload_n 0, 1) := by decide +kernel
theorem d_SF_encode_140 : decode b_SF_encode 140 = .ok (.getfield 24, 3) := by decide +kernel
theorem d_SF_encode_143 : decode b_SF_encode 143 = .ok (.invokevirtual 177, 3) := by decide +kernel
theorem d_SF_encode_146 : decode b_SF_encode 146 = .ok (.aload_n 0, 1) := by decide +kernel
theorem d_SF_encode_147 : decode b_SF_encode 147 = .ok (.invokevirtual 178, 3) := by decide +kernel
theorem d_SF_encode_150 : decode b_SF_encode 150 = .ok (.ireturn, 1) := by decide +kernel
def y_SF_decode : MethodName := ⟨"SyntaxForge", "decode", "(II)I"⟩
abbrev b_SF_decode : ByteArray := prog_1_method_6_code
abbrev cd_SF_decode : Cond := .code y_SF_decode b_SF_decode 6 (some .int)
abbrev ws_SF_decode : List Cond := cd_SF_decode :: tw_tbl
theorem k_SF_decode : cd_SF_decode ∈ tw_tbl := tw_t8 (List.mem_of_getElem? (i := 121) rfl) rfl
theorem d_SF_decode_0 : decode b_SF_decode 0 = .ok (.aload_n 0, 1) := by decide +kernel
theorem d_SF_decode_1 : decode b_SF_decode 1 = .ok (.iload_n 1, 1) := by decide +kernel
theorem d_SF_decode_2 : decode b_SF_decode 2 = .ok (.iload_n 2, 1) := by decide +kernel
theorem d_SF_decode_3 : decode b_SF_decode 3 = .ok (.iconst 2, 1) := by decide +kernel
theorem d_SF_decode_4 : decode b_SF_decode 4 = .ok (.invokevirtual 139, 3) := by decide +kernel
theorem d_SF_decode_7 : decode b_SF_decode 7 = .ok (.astore_n 3, 1) := by decide +kernel
theorem d_SF_decode_8 : decode b_SF_decode 8 = .ok (.aload_n 0, 1) := by decide +kernel
theorem d_SF_decode_9 : decode b_SF_decode 9 = .ok (.invokevirtual 110, 3) := by decide +kernel
theorem d_SF_decode_12 : decode b_SF_decode 12 = .ok (.astore 4, 2) := by decide +kernel
theorem d_SF_decode_14 : decode b_SF_decode 14 = .ok (.iload_n 2, 1) := by decide +kernel
theorem d_SF_decode_15 : decode b_SF_decode 15 = .ok (.iconst 1, 1) := by decide +kernel
theorem d_SF_decode_16 : decode b_SF_decode 16 = .ok (.if_icmp .ne 16, 3) := by decide +kernel
theorem d_SF_decode_19 : decode b_SF_decode 19 = .ok (.aload_n 0, 1) := by decide +kernel
theorem d_SF_decode_20 : decode b_SF_decode 20 = .ok (.getfield 92, 3) := by decide +kernel
theorem d_SF_decode_23 : decode b_SF_decode 23 = .ok (.aload 4, 2) := by decide +kernel
theorem d_SF_decode_25 : decode b_SF_decode 25 = .ok (.aload_n 3, 1) := by decide +kernel
theorem d_SF_decode_26 : decode b_SF_decode 26 = .ok (.invokevirtual 181, 3) := by decide +kernel
theorem d_SF_decode_29 : decode b_SF_decode 29 = .ok (.goto 26, 3) := by decide +kernel
theorem d_SF_decode_32 : decode b_SF_decode 32 = .ok (.aload_n 0, 1) := by decide +kernel
theorem d_SF_decode_33 : decode b_SF_decode 33 = .ok (.getfield 76, 3) := by decide +kernel
theorem d_SF_decode_36 : decode b_SF_decode 36 = .ok (.aload 4, 2) := by decide +kernel
theorem d_SF_decode_38 : decode b_SF_decode 38 = .ok (.aload_n 3, 1) := by decide +kernel
theorem d_SF_decode_39 : decode b_SF_decode 39 = .ok (.aload_n 0, 1) := by decide +kernel
theorem d_SF_decode_40 : decode b_SF_decode 40 = .ok (.getfield 34, 3) := by decide +kernel
theorem d_SF_decode_43 : decode b_SF_decode 43 = .ok (.iload_n 2, 1) := by decide +kernel
theorem d_SF_decode_44 : decode b_SF_decode 44 = .ok (.ifCond .ne 7, 3) := by decide +kernel
theorem d_SF_decode_47 : decode b_SF_decode 47 = .ok (.iconst 1, 1) := by decide +kernel
theorem d_SF_decode_48 : decode b_SF_decode 48 = .ok (.goto 4, 3) := by decide +kernel
theorem d_SF_decode_51 : decode b_SF_decode 51 = .ok (.iconst 0, 1) := by decide +kernel
theorem d_SF_decode_52 : decode b_SF_decode 52 = .ok (.invokevirtual 185, 3) := by decide +kernel
theorem d_SF_decode_55 : decode b_SF_decode 55 = .ok (.astore 5, 2) := by decide +kernel
theorem d_SF_decode_57 : decode b_SF_decode 57 = .ok (.iload_n 2, 1) := by decide +kernel
theorem d_SF_decode_58 : decode b_SF_decode 58 = .ok (.ifCond .eq 32, 3) := by decide +kernel
theorem d_SF_decode_61 : decode b_SF_decode 61 = .ok (.aload_n 0, 1) := by decide +kernel
theorem d_SF_decode_62 : decode b_SF_decode 62 = .ok (.getfield 34, 3) := by decide +kernel
theorem d_SF_decode_65 : decode b_SF_decode 65 = .ok (.invokevirtual 162, 3) := by decide +kernel
theorem d_SF_decode_68 : decode b_SF_decode 68 = .ok (.ifCond .eq 22, 3) := by decide +kernel
theorem d_SF_decode_71 : decode b_SF_decode 71 = .ok (.aload_n 0, 1) := by decide +kernel
theorem d_SF_decode_72 : decode b_SF_decode 72 = .ok (.getfield 67, 3) := by decide +kernel
theorem d_SF_decode_75 : decode b_SF_decode 75 = .ok (.aload_n 0, 1) := by decide +kernel
theorem d_SF_decode_76 : decode b_SF_decode 76 = .ok (.getfield 60, 3) := by decide +kernel
theorem d_SF_decode_79 : decode b_SF_decode 79 = .ok (.iconst 0, 1) := by decide +kernel
theorem d_SF_decode_80 : decode b_SF_decode 80 = .ok (.aload_n 0, 1) := by decide +kernel
theorem d_SF_decode_81 : decode b_SF_decode 81 = .ok (.getfield 60, 3) := by decide +kernel
theorem d_SF_decode_84 : decode b_SF_decode 84 = .ok (.getfield 166, 3) := by decide +kernel
theorem d_SF_decode_87 : decode b_SF_decode 87 = .ok (.invokevirtual 169, 3) := by decide +kernel
theorem d_SF_decode_90 : decode b_SF_decode 90 = .ok (.aload_n 0, 1) := by decide +kernel
theorem d_SF_decode_91 : decode b_SF_decode 91 = .ok (.getfield 60, 3) := by decide +kernel
theorem d_SF_decode_94 : decode b_SF_decode 94 = .ok (.aload 5, 2) := by decide +kernel
theorem d_SF_decode_96 : decode b_SF_decode 96 = .ok (.aload_n 0, 1) := by decide +kernel
theorem d_SF_decode_97 : decode b_SF_decode 97 = .ok (.getfield 34, 3) := by decide +kernel
theorem d_SF_decode_100 : decode b_SF_decode 100 = .ok (.aload_n 0, 1) := by decide +kernel
theorem d_SF_decode_101 : decode b_SF_decode 101 = .ok (.getfield 24, 3) := by decide +kernel
theorem d_SF_decode_104 : decode b_SF_decode 104 = .ok (.invokevirtual 188, 3) := by decide +kernel
theorem d_SF_decode_107 : decode b_SF_decode 107 = .ok (.aload_n 0, 1) := by decide +kernel
theorem d_SF_decode_108 : decode b_SF_decode 108 = .ok (.invokevirtual 178, 3) := by decide +kernel
theorem d_SF_decode_111 : decode b_SF_decode 111 = .ok (.ireturn, 1) := by decide +kernel
def y_SF_tag : MethodName := ⟨"SyntaxForge", "tag", "(I)J"⟩
abbrev b_SF_tag : ByteArray := prog_1_method_7_code
abbrev cd_SF_tag : Cond := .code y_SF_tag b_SF_tag 2 (some .long)
abbrev ws_SF_tag : List Cond := cd_SF_tag :: tw_tbl
theorem k_SF_tag : cd_SF_tag ∈ tw_tbl := tw_t9 (List.mem_of_getElem? (i := 197) rfl) rfl
theorem d_SF_tag_0 : decode b_SF_tag 0 = .ok (.aload_n 0, 1) := by decide +kernel
theorem d_SF_tag_1 : decode b_SF_tag 1 = .ok (.iload_n 1, 1) := by decide +kernel
theorem d_SF_tag_2 : decode b_SF_tag 2 = .ok (.iconst 0, 1) := by decide +kernel
theorem d_SF_tag_3 : decode b_SF_tag 3 = .ok (.iconst 0, 1) := by decide +kernel
theorem d_SF_tag_4 : decode b_SF_tag 4 = .ok (.invokevirtual 139, 3) := by decide +kernel
theorem d_SF_tag_7 : decode b_SF_tag 7 = .ok (.getfield 192, 3) := by decide +kernel
theorem d_SF_tag_10 : decode b_SF_tag 10 = .ok (.lreturn, 1) := by decide +kernel
set_option maxHeartbeats 4000000 in
set_option maxRecDepth 100000 in
theorem x_SF_chosen (l : Launch) (hNT : tk_NT l) (dC : Nat → ClassId) (dI : Nat → Nat → Nat) (sz : Nat) (x0 : Nat) (tp : Nat) (tk : Nat) (rs : Nat) (ou : Nat) (sc0 : Nat) (h0 : Nat) (sn0 : Nat) (pa0 : Nat) (vl : Nat) (de : Nat) (br : Nat) (pw : Nat) (pr : Nat) (z1 : Int32) (z2 : Int32) (z3 : Int32) (hz : ¬ z1 < 0 → ¬ z2 < 0 → z3 < z2) : tk_Met l y_SF_chosen ws_SF_chosen ({ frames := 6, cells := 1, slots := 6, locals := 90 }) (va_Pc [.ref x0, .int z1, .int z2, .int z3] (fun U => U.heap.size = sz ∧ va_P (dC, dI) classes [(x0, .inr (10, [.ref tp, .ref tk, .ref rs, .ref ou, .int 0, .ref sc0, .ref h0, .ref sn0, .ref pa0, .ref vl, .ref de, .ref br, .ref pw, .ref pr]))] U.heap ∧ va_K (dC, dI) classes [] U ∧ va_D (fun _ => True) [(x0, .inr (10, [.ref tp, .ref tk, .ref rs, .ref ou, .int 0, .ref sc0, .ref h0, .ref sn0, .ref pa0, .ref vl, .ref de, .ref br, .ref pw, .ref pr]))] ∧ va_Zq "java/lang/Throwable" "UNASSIGNED_STACK" "[Ljava/lang/StackTraceElement;" (va_A [(x0, .inr (10, [.ref tp, .ref tk, .ref rs, .ref ou, .int 0, .ref sc0, .ref h0, .ref sn0, .ref pa0, .ref vl, .ref de, .ref br, .ref pw, .ref pr]))] sz) U U.heap ∧ va_Zq "java/lang/Throwable" "SUPPRESSED_SENTINEL" "Ljava/util/List;" (va_A [(x0, .inr (10, [.ref tp, .ref tk, .ref rs, .ref ou, .int 0, .ref sc0, .ref h0, .ref sn0, .ref pa0, .ref vl, .ref de, .ref br, .ref pw, .ref pr]))] sz) U U.heap ∧ tz_LS "java/lang/Throwable" "UNASSIGNED_STACK" "[Ljava/lang/StackTraceElement;" (va_A [(x0, .inr (10, [.ref tp, .ref tk, .ref rs, .ref ou, .int 0, .ref sc0, .ref h0, .ref sn0, .ref pa0, .ref vl, .ref de, .ref br, .ref pw, .ref pr]))] sz) U U.heap ∧ tz_LS "java/lang/Throwable" "SUPPRESSED_SENTINEL" "Ljava/util/List;" (va_A [(x0, .inr (10, [.ref tp, .ref tk, .ref rs, .ref ou, .int 0, .ref sc0, .ref h0, .ref sn0, .ref pa0, .ref vl, .ref de, .ref br, .ref pw, .ref pr]))] sz) U U.heap)) (tk_Qx "java/lang/IllegalArgumentException") 1 6 (va_A [(x0, .inr (10, [.ref tp, .ref tk, .ref rs, .ref ou, .int 0, .ref sc0, .ref h0, .ref sn0, .ref pa0, .ref vl, .ref de, .ref br, .ref pw, .ref pr]))] sz) := by
  refine tk_Met.ofW (cc := b_SF_chosen) (maxL := 4) (ret := (some (.object "SyntaxForge$Type"))) (by decide) rfl ?_
  intro p e s m args below meth c s₁ B hml hv hnoh
  obtain ⟨rfl, hsz, hP, hK, hD0, hx0, hx1, hx2, hx3⟩ := hv
  have hx := B.exec
  have hb := B.bytes
  have hr := B.returns
  have hts := atoms_spec (ws := ws_SF_chosen) B.pre
  have htw : ∀ w ∈ tw_tbl, w.before [.ref x0, .int z1, .int z2, .int z3].toArray s = true := fun w h => hts w (List.mem_cons_of_mem _ h)
  have hown : s.vm.findClass R_SF = some m.cls := findClass_of_methodNamed B.named
  have hlocks := B.notSynchronized
  have hin : meth.name = "chosen" := (name_of_methodNamed B.named B.method).1
  subst hsz
  have hP0 := hP
  have hD := hD0.self (sz := s.heap.size)
  generalize hAe : va_A [(x0, .inr (10, [.ref tp, .ref tk, .ref rs, .ref ou, .int 0, .ref sc0, .ref h0, .ref sn0, .ref pa0, .ref vl, .ref de, .ref br, .ref pw, .ref pr]))] s.heap.size = A at hD hx0 hx1 hx2 hx3 ⊢
  have hA : ∀ q : Nat, s.heap.size ≤ q → A q := fun q h => by rw [← hAe]; exact Or.inr h
  have hS : va_S A s.heap s.heap [] := va_S.rf
  have hP : va_P (dC, dI) classes [(x0, .inr (10, [.ref tp, .ref tk, .ref rs, .ref ou, .int 0, .ref sc0, .ref h0, .ref sn0, .ref pa0, .ref vl, .ref de, .ref br, .ref pw, .ref pr]))] s.heap := hP
  have hl := lv_entry ([.ref x0, .int z1, .int z2, .int z3]) (n := 4) (Nat.le_of_ble_eq_true rfl)
  rw [lg_entry_eq]
  generalize (lg_sl ([.ref x0, .int z1, .int z2, .int z3]) ++ List.replicate (4 - (lg_sl ([.ref x0, .int z1, .int z2, .int z3])).length) Slot.unset).toArray = ls at hl ⊢
  have hl : lv_has ls 4 [(0, .ref x0), (1, .int z1), (2, .int z2), (3, .int z3)] := hl
  refine lv_iload_n hx hb d_SF_chosen_0 rfl (lv_at hl 1 rfl) ?_
  refine lv_if_lt (tgt := 34) hx hb d_SF_chosen_1 rfl (fun h1 => ?_) (fun h1 => ?_)
  · exact tk_throw0 (names := ["java/lang/RuntimeException", "java/lang/Exception"]) hx hb hnoh hlocks hNT hown (by decide +kernel) (by decide +kernel) (htw _ wd_3_137) (htw _ wd_1_27) (oa_SF_109 htw (tz_zq hx0) (tz_zq hx1) (tz_LS.use hx2) (tz_LS.use hx3)) (fun z hz cell hc => tz_nost hP0 (by rw [hAe]; exact hS.2.2 z hz) hc) hS.2.2 hS.1 (by rw [hml]; exact hl.1) d_SF_chosen_34 d_SF_chosen_37 d_SF_chosen_38 d_SF_chosen_41 (Nat.le_of_ble_eq_true rfl) (Nat.le_of_ble_eq_true rfl) (Nat.le_of_ble_eq_true rfl) (Nat.le_of_ble_eq_true rfl)
  · refine lv_iload_n hx hb d_SF_chosen_4 rfl (lv_at hl 2 rfl) ?_
    refine lv_if_lt (tgt := 34) hx hb d_SF_chosen_5 rfl (fun h2 => ?_) (fun h2 => ?_)
    · exact tk_throw0 (names := ["java/lang/RuntimeException", "java/lang/Exception"]) hx hb hnoh hlocks hNT hown (by decide +kernel) (by decide +kernel) (htw _ wd_3_137) (htw _ wd_1_27) (oa_SF_109 htw (tz_zq hx0) (tz_zq hx1) (tz_LS.use hx2) (tz_LS.use hx3)) (fun z hz cell hc => tz_nost hP0 (by rw [hAe]; exact hS.2.2 z hz) hc) hS.2.2 hS.1 (by rw [hml]; exact hl.1) d_SF_chosen_34 d_SF_chosen_37 d_SF_chosen_38 d_SF_chosen_41 (Nat.le_of_ble_eq_true rfl) (Nat.le_of_ble_eq_true rfl) (Nat.le_of_ble_eq_true rfl) (Nat.le_of_ble_eq_true rfl)
    · refine lv_iload_n hx hb d_SF_chosen_8 rfl (lv_at hl 2 rfl) ?_
      refine lv_iload_n hx hb d_SF_chosen_9 rfl (lv_at hl 3 rfl) ?_
      refine lv_icmp_gt (tgt := 34) hx hb d_SF_chosen_10 rfl (fun _ => ?_) (fun hn => absurd (hz h1 h2) hn)
      exact tk_throw0 (names := ["java/lang/RuntimeException", "java/lang/Exception"]) hx hb hnoh hlocks hNT hown (by decide +kernel) (by decide +kernel) (htw _ wd_3_137) (htw _ wd_1_27) (oa_SF_109 htw (tz_zq hx0) (tz_zq hx1) (tz_LS.use hx2) (tz_LS.use hx3)) (fun z hz cell hc => tz_nost hP0 (by rw [hAe]; exact hS.2.2 z hz) hc) hS.2.2 hS.1 (by rw [hml]; exact hl.1) d_SF_chosen_34 d_SF_chosen_37 d_SF_chosen_38 d_SF_chosen_41 (Nat.le_of_ble_eq_true rfl) (Nat.le_of_ble_eq_true rfl) (Nat.le_of_ble_eq_true rfl) (Nat.le_of_ble_eq_true rfl)
set_option maxRecDepth 20000 in
theorem oa_SF_210 {args : Array Value} {s : State} (htw : ∀ w ∈ tw_tbl, w.before args s = true) (h1 : (Cond.isRef (.static "java/lang/Throwable" "UNASSIGNED_STACK" "[Ljava/lang/StackTraceElement;")).before args s = true) (h2 : (Cond.isRef (.static "java/lang/Throwable" "SUPPRESSED_SENTINEL" "Ljava/util/List;")).before args s = true) (h3 : (Cond.laysStatic "java/lang/Throwable" "UNASSIGNED_STACK" "[Ljava/lang/StackTraceElement;").before args s = true) (h4 : (Cond.laysStatic "java/lang/Throwable" "SUPPRESSED_SENTINEL" "Ljava/util/List;").before args s = true) : ∀ w ∈ Bundle.ownAtoms0 "SyntaxForge" 210 "java/lang/IllegalStateException" ["java/lang/RuntimeException", "java/lang/Exception"], w.before args s = true := by
  show ∀ w ∈ [Cond.initialized "java/lang/Throwable", Cond.superclass "java/lang/Throwable" "java/lang/Object", Cond.instanceMethod ⟨"java/lang/Throwable", "fillInStackTrace", "()Ljava/lang/Throwable;"⟩, Cond.codeSync ⟨"java/lang/Throwable", "fillInStackTrace", "()Ljava/lang/Throwable;"⟩ prog_40_method_18_code 1 (some (.object "java/lang/Throwable")), Cond.instanceMethod ⟨"java/lang/Throwable", "fillInStackTrace", "(I)Ljava/lang/Throwable;"⟩, Cond.native ⟨"java/lang/Throwable", "fillInStackTrace", "(I)Ljava/lang/Throwable;"⟩, Cond.instanceMethod ⟨"java/lang/Throwable", "<init>", "()V"⟩, Cond.code ⟨"java/lang/Throwable", "<init>", "()V"⟩ prog_40_method_1_code 1 none, Cond.instanceMethod ⟨"java/lang/Object", "<init>", "()V"⟩, Cond.code ⟨"java/lang/Object", "<init>", "()V"⟩ object_method_1_code 1 none, Cond.methodLink "java/lang/Throwable" 1 ⟨"java/lang/Object", "<init>", "()V"⟩, Cond.methodLink "java/lang/Throwable" 27 ⟨"java/lang/Throwable", "fillInStackTrace", "()Ljava/lang/Throwable;"⟩, Cond.methodLink "java/lang/Throwable" 202 ⟨"java/lang/Throwable", "fillInStackTrace", "(I)Ljava/lang/Throwable;"⟩, Cond.fieldLink "java/lang/Throwable" 7 "java/lang/Throwable" "cause" "Ljava/lang/Throwable;", Cond.lays "java/lang/Throwable" "java/lang/Throwable" "cause" "Ljava/lang/Throwable;", Cond.fieldLink "java/lang/Throwable" 17 "java/lang/Throwable" "stackTrace" "[Ljava/lang/StackTraceElement;", Cond.lays "java/lang/Throwable" "java/lang/Throwable" "stackTrace" "[Ljava/lang/StackTraceElement;", Cond.fieldLink "java/lang/Throwable" 24 "java/lang/Throwable" "suppressedExceptions" "Ljava/util/List;", Cond.lays "java/lang/Throwable" "java/lang/Throwable" "suppressedExceptions" "Ljava/util/List;", Cond.fieldLink "java/lang/Throwable" 13 "java/lang/Throwable" "UNASSIGNED_STACK" "[Ljava/lang/StackTraceElement;", Cond.laysStatic "java/lang/Throwable" "UNASSIGNED_STACK" "[Ljava/lang/StackTraceElement;", Cond.fieldLink "java/lang/Throwable" 20 "java/lang/Throwable" "SUPPRESSED_SENTINEL" "Ljava/util/List;", Cond.laysStatic "java/lang/Throwable" "SUPPRESSED_SENTINEL" "Ljava/util/List;", Cond.lays "java/lang/Throwable" "java/lang/Throwable" "detailMessage" "Ljava/lang/String;", Cond.instanceMethod ⟨"java/lang/IllegalStateException", "<init>", "()V"⟩, Cond.code ⟨"java/lang/IllegalStateException", "<init>", "()V"⟩ prog_28_method_1_code 1 none, Cond.methodLink "java/lang/IllegalStateException" 1 ⟨"java/lang/RuntimeException", "<init>", "()V"⟩, Cond.instanceMethod ⟨"java/lang/RuntimeException", "<init>", "()V"⟩, Cond.declares ⟨"java/lang/RuntimeException", "<init>", "()V"⟩, Cond.instanceMethod ⟨"java/lang/RuntimeException", "<init>", "()V"⟩, Cond.code ⟨"java/lang/RuntimeException", "<init>", "()V"⟩ prog_34_method_1_code 1 none, Cond.methodLink "java/lang/RuntimeException" 1 ⟨"java/lang/Exception", "<init>", "()V"⟩, Cond.instanceMethod ⟨"java/lang/Exception", "<init>", "()V"⟩, Cond.declares ⟨"java/lang/Exception", "<init>", "()V"⟩, Cond.instanceMethod ⟨"java/lang/Exception", "<init>", "()V"⟩, Cond.code ⟨"java/lang/Exception", "<init>", "()V"⟩ prog_26_method_1_code 1 none, Cond.methodLink "java/lang/Exception" 1 ⟨"java/lang/Throwable", "<init>", "()V"⟩, Cond.instanceMethod ⟨"java/lang/Throwable", "<init>", "()V"⟩, Cond.declares ⟨"java/lang/Throwable", "<init>", "()V"⟩, Cond.methodLink "SyntaxForge" 210 ⟨"java/lang/IllegalStateException", "<init>", "()V"⟩, Cond.instantiable "java/lang/IllegalStateException" 6, Cond.castable "java/lang/IllegalStateException" "java/lang/IllegalStateException", Cond.selects "java/lang/IllegalStateException" ⟨"java/lang/Throwable", "fillInStackTrace", "(I)Ljava/lang/Throwable;"⟩ ⟨"java/lang/Throwable", "fillInStackTrace", "(I)Ljava/lang/Throwable;"⟩, Cond.selects "java/lang/IllegalStateException" ⟨"java/lang/Throwable", "fillInStackTrace", "()Ljava/lang/Throwable;"⟩ ⟨"java/lang/Throwable", "fillInStackTrace", "()Ljava/lang/Throwable;"⟩, Cond.lays "java/lang/IllegalStateException" "java/lang/Throwable" "cause" "Ljava/lang/Throwable;", Cond.lays "java/lang/IllegalStateException" "java/lang/Throwable" "stackTrace" "[Ljava/lang/StackTraceElement;", Cond.lays "java/lang/IllegalStateException" "java/lang/Throwable" "suppressedExceptions" "Ljava/util/List;", Cond.lays "java/lang/IllegalStateException" "java/lang/Throwable" "detailMessage" "Ljava/lang/String;", Cond.isRef (.static "java/lang/Throwable" "UNASSIGNED_STACK" "[Ljava/lang/StackTraceElement;"), Cond.isRef (.static "java/lang/Throwable" "SUPPRESSED_SENTINEL" "Ljava/util/List;"), Cond.fieldLink "java/lang/Throwable" 198 "java/lang/Throwable" "backtrace" "Ljava/lang/Object;", Cond.lays "java/lang/Throwable" "java/lang/Throwable" "backtrace" "Ljava/lang/Object;", Cond.lays "java/lang/IllegalStateException" "java/lang/Throwable" "backtrace" "Ljava/lang/Object;"], w.before args s = true
  exact List.forall_mem_cons.mpr ⟨htw _ wd_1_23, List.forall_mem_cons.mpr ⟨htw _ wd_3_80, List.forall_mem_cons.mpr ⟨htw _ wd_3_89, List.forall_mem_cons.mpr ⟨htw _ wd_3_95, List.forall_mem_cons.mpr ⟨htw _ wd_3_98, List.forall_mem_cons.mpr ⟨htw _ wd_3_100, List.forall_mem_cons.mpr ⟨htw _ wd_3_81, List.forall_mem_cons.mpr ⟨htw _ wd_3_82, List.forall_mem_cons.mpr ⟨htw _ wd_1_51, List.forall_mem_cons.mpr ⟨htw _ wd_1_52, List.forall_mem_cons.mpr ⟨htw _ wd_3_83, List.forall_mem_cons.mpr ⟨htw _ wd_3_88, List.forall_mem_cons.mpr ⟨htw _ wd_3_96, List.forall_mem_cons.mpr ⟨htw _ wd_3_113, List.forall_mem_cons.mpr ⟨htw _ wd_3_70, List.forall_mem_cons.mpr ⟨htw _ wd_3_114, List.forall_mem_cons.mpr ⟨htw _ wd_3_72, List.forall_mem_cons.mpr ⟨htw _ wd_3_115, List.forall_mem_cons.mpr ⟨htw _ wd_3_74, List.forall_mem_cons.mpr ⟨htw _ wd_3_84, List.forall_mem_cons.mpr ⟨h3, List.forall_mem_cons.mpr ⟨htw _ wd_3_86, List.forall_mem_cons.mpr ⟨h4, List.forall_mem_cons.mpr ⟨htw _ wd_3_76, List.forall_mem_cons.mpr ⟨htw _ wd_7_211, List.forall_mem_cons.mpr ⟨htw _ wd_7_212, List.forall_mem_cons.mpr ⟨htw _ wd_7_213, List.forall_mem_cons.mpr ⟨htw _ wd_3_105, List.forall_mem_cons.mpr ⟨tz_decl (htw _ wd_3_105) (htw _ wd_3_106), List.forall_mem_cons.mpr ⟨htw _ wd_3_105, List.forall_mem_cons.mpr ⟨htw _ wd_3_106, List.forall_mem_cons.mpr ⟨htw _ wd_3_107, List.forall_mem_cons.mpr ⟨htw _ wd_3_108, List.forall_mem_cons.mpr ⟨tz_decl (htw _ wd_3_108) (htw _ wd_3_109), List.forall_mem_cons.mpr ⟨htw _ wd_3_108, List.forall_mem_cons.mpr ⟨htw _ wd_3_109, List.forall_mem_cons.mpr ⟨htw _ wd_3_110, List.forall_mem_cons.mpr ⟨htw _ wd_3_81, List.forall_mem_cons.mpr ⟨tz_decl (htw _ wd_3_81) (htw _ wd_3_82), List.forall_mem_cons.mpr ⟨htw _ wd_7_210, List.forall_mem_cons.mpr ⟨htw _ wd_7_202, List.forall_mem_cons.mpr ⟨tz_cast (htw _ wd_7_202), List.forall_mem_cons.mpr ⟨htw _ wd_7_204, List.forall_mem_cons.mpr ⟨htw _ wd_3_93, List.forall_mem_cons.mpr ⟨htw _ wd_7_205, List.forall_mem_cons.mpr ⟨htw _ wd_7_206, List.forall_mem_cons.mpr ⟨htw _ wd_7_207, List.forall_mem_cons.mpr ⟨htw _ wd_7_208, List.forall_mem_cons.mpr ⟨h1, List.forall_mem_cons.mpr ⟨h2, List.forall_mem_cons.mpr ⟨htw _ wd_3_79, List.forall_mem_cons.mpr ⟨htw _ wd_3_78, List.forall_mem_cons.mpr ⟨htw _ wd_7_209, fun _ h => absurd h List.not_mem_nil⟩⟩⟩⟩⟩⟩⟩⟩⟩⟩⟩⟩⟩⟩⟩⟩⟩⟩⟩⟩⟩⟩⟩⟩⟩⟩⟩⟩⟩⟩⟩⟩⟩⟩⟩⟩⟩⟩⟩⟩⟩⟩⟩⟩⟩⟩⟩⟩⟩⟩⟩⟩⟩
set_option maxHeartbeats 4000000 in
set_option maxRecDepth 100000 in
theorem x_SF_chosen_v2 (l : Launch) (hNT : tk_NT l) (dC : Nat → ClassId) (dI : Nat → Nat → Nat) (sz : Nat) (x0 : Nat) (tp : Nat) (tk : Nat) (rs : Nat) (ou : Nat) (sc0 : Nat) (h0 : Nat) (sn0 : Nat) (pa0 : Nat) (vl : Nat) (de : Nat) (br : Nat) (pw : Nat) (pr : Nat) (z1 : Int32) (z2 : Int32) (z3 : Int32) (hz : ¬ z1 < 0 ∧ ¬ z2 < 0 ∧ ¬ z3 < z2) : tk_Met l y_SF_chosen ws_SF_chosen ({ frames := 6, cells := 1, slots := 6, locals := 90 }) (va_Pc [.ref x0, .int z1, .int z2, .int z3] (fun U => U.heap.size = sz ∧ va_P (dC, dI) classes [(x0, .inr (10, [.ref tp, .ref tk, .ref rs, .ref ou, .int 0, .ref sc0, .ref h0, .ref sn0, .ref pa0, .ref vl, .ref de, .ref br, .ref pw, .ref pr]))] U.heap ∧ va_K (dC, dI) classes [] U ∧ va_D (fun _ => True) [(x0, .inr (10, [.ref tp, .ref tk, .ref rs, .ref ou, .int 0, .ref sc0, .ref h0, .ref sn0, .ref pa0, .ref vl, .ref de, .ref br, .ref pw, .ref pr]))] ∧ va_Zq "java/lang/Throwable" "UNASSIGNED_STACK" "[Ljava/lang/StackTraceElement;" (va_A [(x0, .inr (10, [.ref tp, .ref tk, .ref rs, .ref ou, .int 0, .ref sc0, .ref h0, .ref sn0, .ref pa0, .ref vl, .ref de, .ref br, .ref pw, .ref pr]))] sz) U U.heap ∧ va_Zq "java/lang/Throwable" "SUPPRESSED_SENTINEL" "Ljava/util/List;" (va_A [(x0, .inr (10, [.ref tp, .ref tk, .ref rs, .ref ou, .int 0, .ref sc0, .ref h0, .ref sn0, .ref pa0, .ref vl, .ref de, .ref br, .ref pw, .ref pr]))] sz) U U.heap ∧ tz_LS "java/lang/Throwable" "UNASSIGNED_STACK" "[Ljava/lang/StackTraceElement;" (va_A [(x0, .inr (10, [.ref tp, .ref tk, .ref rs, .ref ou, .int 0, .ref sc0, .ref h0, .ref sn0, .ref pa0, .ref vl, .ref de, .ref br, .ref pw, .ref pr]))] sz) U U.heap ∧ tz_LS "java/lang/Throwable" "SUPPRESSED_SENTINEL" "Ljava/util/List;" (va_A [(x0, .inr (10, [.ref tp, .ref tk, .ref rs, .ref ou, .int 0, .ref sc0, .ref h0, .ref sn0, .ref pa0, .ref vl, .ref de, .ref br, .ref pw, .ref pr]))] sz) U U.heap)) (tk_Qx "java/lang/IllegalStateException") 1 6 (va_A [(x0, .inr (10, [.ref tp, .ref tk, .ref rs, .ref ou, .int 0, .ref sc0, .ref h0, .ref sn0, .ref pa0, .ref vl, .ref de, .ref br, .ref pw, .ref pr]))] sz) := by
  refine tk_Met.ofW (cc := b_SF_chosen) (maxL := 4) (ret := (some (.object "SyntaxForge$Type"))) (by decide) rfl ?_
  intro p e s m args below meth c s₁ B hml hv hnoh
  obtain ⟨rfl, hsz, hP, hK, hD0, hx0, hx1, hx2, hx3⟩ := hv
  have hx := B.exec
  have hb := B.bytes
  have hr := B.returns
  have hts := atoms_spec (ws := ws_SF_chosen) B.pre
  have htw : ∀ w ∈ tw_tbl, w.before [.ref x0, .int z1, .int z2, .int z3].toArray s = true := fun w h => hts w (List.mem_cons_of_mem _ h)
  have hown : s.vm.findClass R_SF = some m.cls := findClass_of_methodNamed B.named
  have hlocks := B.notSynchronized
  have hin : meth.name = "chosen" := (name_of_methodNamed B.named B.method).1
  subst hsz
  have hP0 := hP
  have hD := hD0.self (sz := s.heap.size)
  generalize hAe : va_A [(x0, .inr (10, [.ref tp, .ref tk, .ref rs, .ref ou, .int 0, .ref sc0, .ref h0, .ref sn0, .ref pa0, .ref vl, .ref de, .ref br, .ref pw, .ref pr]))] s.heap.size = A at hD hx0 hx1 hx2 hx3 ⊢
  have hA : ∀ q : Nat, s.heap.size ≤ q → A q := fun q h => by rw [← hAe]; exact Or.inr h
  have hS : va_S A s.heap s.heap [] := va_S.rf
  have hP : va_P (dC, dI) classes [(x0, .inr (10, [.ref tp, .ref tk, .ref rs, .ref ou, .int 0, .ref sc0, .ref h0, .ref sn0, .ref pa0, .ref vl, .ref de, .ref br, .ref pw, .ref pr]))] s.heap := hP
  have hl := lv_entry ([.ref x0, .int z1, .int z2, .int z3]) (n := 4) (Nat.le_of_ble_eq_true rfl)
  rw [lg_entry_eq]
  generalize (lg_sl ([.ref x0, .int z1, .int z2, .int z3]) ++ List.replicate (4 - (lg_sl ([.ref x0, .int z1, .int z2, .int z3])).length) Slot.unset).toArray = ls at hl ⊢
  have hl : lv_has ls 4 [(0, .ref x0), (1, .int z1), (2, .int z2), (3, .int z3)] := hl
  refine lv_iload_n hx hb d_SF_chosen_0 rfl (lv_at hl 1 rfl) ?_
  refine lv_if_lt (tgt := 34) hx hb d_SF_chosen_1 rfl (fun ht => absurd ht (hz.1)) (fun _ => ?_)
  refine lv_iload_n hx hb d_SF_chosen_4 rfl (lv_at hl 2 rfl) ?_
  refine lv_if_lt (tgt := 34) hx hb d_SF_chosen_5 rfl (fun ht => absurd ht (hz.2.1)) (fun _ => ?_)
  refine lv_iload_n hx hb d_SF_chosen_8 rfl (lv_at hl 2 rfl) ?_
  refine lv_iload_n hx hb d_SF_chosen_9 rfl (lv_at hl 3 rfl) ?_
  refine lv_icmp_gt (tgt := 34) hx hb d_SF_chosen_10 rfl (fun ht => absurd ht (hz.2.2)) (fun _ => ?_)
  refine lv_aload_n hx hb d_SF_chosen_13 rfl (lv_at hl 0 rfl) ?_
  refine va_get (D := (dC, dI)) (ci := 10) (v := .int 0) (C := R_SF) (T := F_SF) (N := 14) hx hb htw i_SF hown hK hP 0 rfl rfl 4 (by decide) (htw _ wd_3_10) (fun _ h9 => h9) rfl d_SF_chosen_14 ?_
  refine lv_if_eq (tgt := 42) hx hb d_SF_chosen_17 rfl (fun _ => ?_) (fun hn => absurd (rfl) hn)
  refine lv_aload_n hx hb d_SF_chosen_42 rfl (lv_at hl 0 rfl) ?_
  refine va_get (D := (dC, dI)) (ci := 10) (v := .int 0) (C := R_SF) (T := F_SF) (N := 14) hx hb htw i_SF hown hK hP 0 rfl rfl 4 (by decide) (htw _ wd_3_10) (fun _ h9 => h9) rfl d_SF_chosen_43 ?_
  refine lv_if_ne (tgt := 57) hx hb d_SF_chosen_46 rfl (fun ht => absurd ht (fun h => h rfl)) (fun _ => ?_)
  exact tk_throw0 (names := ["java/lang/RuntimeException", "java/lang/Exception"]) hx hb hnoh hlocks hNT hown (by decide +kernel) (by decide +kernel) (htw _ wd_7_201) (htw _ wd_1_44) (oa_SF_210 htw (tz_zq hx0) (tz_zq hx1) (tz_LS.use hx2) (tz_LS.use hx3)) (fun z hz cell hc => tz_nost hP0 (by rw [hAe]; exact hS.2.2 z hz) hc) hS.2.2 hS.1 (by rw [hml]; exact hl.1) d_SF_chosen_49 d_SF_chosen_52 d_SF_chosen_53 d_SF_chosen_56 (Nat.le_of_ble_eq_true rfl) (Nat.le_of_ble_eq_true rfl) (Nat.le_of_ble_eq_true rfl) (Nat.le_of_ble_eq_true rfl)
set_option maxHeartbeats 4000000 in
set_option maxRecDepth 100000 in
theorem x_SF_encode (l : Launch) (hNT : tk_NT l) (dC : Nat → ClassId) (dI : Nat → Nat → Nat) (sz : Nat) (x0 : Nat) (tp : Nat) (tk : Nat) (rs : Nat) (ou : Nat) (sc0 : Nat) (h0 : Nat) (sn0 : Nat) (pa0 : Nat) (vl : Nat) (de : Nat) (br : Nat) (pw : Nat) (pr : Nat) (z1 : Int32) (z2 : Int32) (hz : ¬ z1 < 0 → ¬ z2 < 0 → (1 : Int32) < z2) : tk_Met l y_SF_encode ws_SF_encode ({ frames := 7, cells := 1, slots := 6, locals := 113 }) (va_Pc [.ref x0, .int z1, .int z2] (fun U => U.heap.size = sz ∧ va_P (dC, dI) classes [(x0, .inr (10, [.ref tp, .ref tk, .ref rs, .ref ou, .int 0, .ref sc0, .ref h0, .ref sn0, .ref pa0, .ref vl, .ref de, .ref br, .ref pw, .ref pr]))] U.heap ∧ va_K (dC, dI) classes [] U ∧ va_D (fun _ => True) [(x0, .inr (10, [.ref tp, .ref tk, .ref rs, .ref ou, .int 0, .ref sc0, .ref h0, .ref sn0, .ref pa0, .ref vl, .ref de, .ref br, .ref pw, .ref pr]))] ∧ va_Zq "java/lang/Throwable" "UNASSIGNED_STACK" "[Ljava/lang/StackTraceElement;" (va_A [(x0, .inr (10, [.ref tp, .ref tk, .ref rs, .ref ou, .int 0, .ref sc0, .ref h0, .ref sn0, .ref pa0, .ref vl, .ref de, .ref br, .ref pw, .ref pr]))] sz) U U.heap ∧ va_Zq "java/lang/Throwable" "SUPPRESSED_SENTINEL" "Ljava/util/List;" (va_A [(x0, .inr (10, [.ref tp, .ref tk, .ref rs, .ref ou, .int 0, .ref sc0, .ref h0, .ref sn0, .ref pa0, .ref vl, .ref de, .ref br, .ref pw, .ref pr]))] sz) U U.heap ∧ tz_LS "java/lang/Throwable" "UNASSIGNED_STACK" "[Ljava/lang/StackTraceElement;" (va_A [(x0, .inr (10, [.ref tp, .ref tk, .ref rs, .ref ou, .int 0, .ref sc0, .ref h0, .ref sn0, .ref pa0, .ref vl, .ref de, .ref br, .ref pw, .ref pr]))] sz) U U.heap ∧ tz_LS "java/lang/Throwable" "SUPPRESSED_SENTINEL" "Ljava/util/List;" (va_A [(x0, .inr (10, [.ref tp, .ref tk, .ref rs, .ref ou, .int 0, .ref sc0, .ref h0, .ref sn0, .ref pa0, .ref vl, .ref de, .ref br, .ref pw, .ref pr]))] sz) U U.heap)) (tk_Qx "java/lang/IllegalArgumentException") 1 6 (va_A [(x0, .inr (10, [.ref tp, .ref tk, .ref rs, .ref ou, .int 0, .ref sc0, .ref h0, .ref sn0, .ref pa0, .ref vl, .ref de, .ref br, .ref pw, .ref pr]))] sz) := by
  refine tk_Met.ofW (cc := b_SF_encode) (maxL := 7) (ret := (some .int)) (by decide) rfl ?_
  intro p e s m args below meth c s₁ B hml hv hnoh
  obtain ⟨rfl, hsz, hP, hK, hD0, hx0, hx1, hx2, hx3⟩ := hv
  have hx := B.exec
  have hb := B.bytes
  have hr := B.returns
  have hts := atoms_spec (ws := ws_SF_encode) B.pre
  have htw : ∀ w ∈ tw_tbl, w.before [.ref x0, .int z1, .int z2].toArray s = true := fun w h => hts w (List.mem_cons_of_mem _ h)
  have hown : s.vm.findClass R_SF = some m.cls := findClass_of_methodNamed B.named
  have hlocks := B.notSynchronized
  have hin : meth.name = "encode" := (name_of_methodNamed B.named B.method).1
  subst hsz
  have hP0 := hP
  have hD := hD0.self (sz := s.heap.size)
  generalize hAe : va_A [(x0, .inr (10, [.ref tp, .ref tk, .ref rs, .ref ou, .int 0, .ref sc0, .ref h0, .ref sn0, .ref pa0, .ref vl, .ref de, .ref br, .ref pw, .ref pr]))] s.heap.size = A at hD hx0 hx1 hx2 hx3 ⊢
  have hA : ∀ q : Nat, s.heap.size ≤ q → A q := fun q h => by rw [← hAe]; exact Or.inr h
  have hS : va_S A s.heap s.heap [] := va_S.rf
  have hP : va_P (dC, dI) classes [(x0, .inr (10, [.ref tp, .ref tk, .ref rs, .ref ou, .int 0, .ref sc0, .ref h0, .ref sn0, .ref pa0, .ref vl, .ref de, .ref br, .ref pw, .ref pr]))] s.heap := hP
  have hl := lv_entry ([.ref x0, .int z1, .int z2]) (n := 7) (Nat.le_of_ble_eq_true rfl)
  rw [lg_entry_eq]
  generalize (lg_sl ([.ref x0, .int z1, .int z2]) ++ List.replicate (7 - (lg_sl ([.ref x0, .int z1, .int z2])).length) Slot.unset).toArray = ls at hl ⊢
  have hl : lv_has ls 7 [(0, .ref x0), (1, .int z1), (2, .int z2)] := hl
  refine lv_aload_n hx hb d_SF_encode_0 rfl (lv_at hl 0 rfl) ?_
  refine lv_iload_n hx hb d_SF_encode_1 rfl (lv_at hl 1 rfl) ?_
  refine lv_iload_n hx hb d_SF_encode_2 rfl (lv_at hl 2 rfl) ?_
  refine lv_iconst (v := 1) hx hb d_SF_encode_3 (by decide) ?_
  have hc0 : 0 + 1 ≤ 1 := by omega
  have hs0 : 0 + 6 ≤ 6 := by omega
  have hPc := hP.sub (ws' := [(x0, .inr (10, [.ref tp, .ref tk, .ref rs, .ref ou, .int 0, .ref sc0, .ref h0, .ref sn0, .ref pa0, .ref vl, .ref de, .ref br, .ref pw, .ref pr]))]) [0] rfl
  have hDc := hD.sub (ws' := [(x0, .inr (10, [.ref tp, .ref tk, .ref rs, .ref ou, .int 0, .ref sc0, .ref h0, .ref sn0, .ref pa0, .ref vl, .ref de, .ref br, .ref pw, .ref pr]))]) [0] (by decide) rfl
  have hKc := hK.sub (tys' := []) [] rfl
  have hFc := va_free (wc := [(x0, .inr (10, [.ref tp, .ref tk, .ref rs, .ref ou, .int 0, .ref sc0, .ref h0, .ref sn0, .ref pa0, .ref vl, .ref de, .ref br, .ref pw, .ref pr]))]) hD hS hA [0] rfl
  exact tk_pass (tk_runV (As := [.int z1, .int z2, .int 1]) (rest := []) ⟨hx, hb, hml, hown, htw⟩ (x_SF_chosen l hNT dC dI s.heap.size x0 tp tk rs ou sc0 h0 sn0 pa0 vl de br pw pr z1 z2 1 (by first | omega | assumption)) (tk_cw (Ts := tw_tbl) (cwV 3 htw (tw_V wd_7_197 wd_7_199 wp_5_6 wd_1_1 k_SF_chosen) rfl rfl rfl (by decide +kernel) ⟨Nat.le_of_ble_eq_true rfl, Nat.le_of_ble_eq_true rfl⟩)) ⟨fun a U g mk q => by obtain ⟨q0, q1, qP, qK, qD, hq0, hq1, hq2, hq3⟩ := q; exact ⟨q0, q1, qP, va_K.moved (u := U) (U := U.calling g mk a) (Vm.Alike.refl U.vm) qK, qD, va_Zq.moved (u := U) (U := U.calling g mk a) (Vm.Alike.refl U.vm) hq0, va_Zq.moved (u := U) (U := U.calling g mk a) (Vm.Alike.refl U.vm) hq1, tz_LS.moved (u := U) (U := U.calling g mk a) (Vm.Alike.refl U.vm) hq2, tz_LS.moved (u := U) (U := U.calling g mk a) (Vm.Alike.refl U.vm) hq3⟩, va_recv hK hP (q := (R_SF, F_SF, 14)) (ci := 10) (q0 := 0) rfl rfl, fun U hU hW => ⟨rfl, by rw [hU], by rw [hU]; exact hPc, va_K.moved hW.alike hKc, hDc.weaken (fun _ _ _ _ => trivial), by rw [hU]; exact va_Zq.moved hW.alike ((va_Zq.kept hx0 hS.2.1).narrow hFc), by rw [hU]; exact va_Zq.moved hW.alike ((va_Zq.kept hx1 hS.2.1).narrow hFc), by rw [hU]; exact tz_LS.moved hW.alike ((tz_LS.kept hx2 hS.2.1).narrow hFc), by rw [hU]; exact tz_LS.moved hW.alike ((tz_LS.kept hx3 hS.2.1).narrow hFc)⟩⟩ rfl rfl hl.1 rfl (lv_room (Nat.le_of_ble_eq_true rfl)) d_SF_encode_4 ⟨hc0, hs0⟩) hnoh hlocks hS.2.2 hFc (fun x9 st9 t9 u9 h9 hw9 hq9 e9 e8 w9 => tk_qx hw9 hq9 e9)
set_option maxHeartbeats 4000000 in
set_option maxRecDepth 100000 in
theorem x_SF_decode (l : Launch) (hNT : tk_NT l) (dC : Nat → ClassId) (dI : Nat → Nat → Nat) (sz : Nat) (x0 : Nat) (tp : Nat) (tk : Nat) (rs : Nat) (ou : Nat) (sc0 : Nat) (h0 : Nat) (sn0 : Nat) (pa0 : Nat) (vl : Nat) (de : Nat) (br : Nat) (pw : Nat) (pr : Nat) (z1 : Int32) (z2 : Int32) (hz : ¬ z1 < 0 → ¬ z2 < 0 → (2 : Int32) < z2) : tk_Met l y_SF_decode ws_SF_decode ({ frames := 7, cells := 1, slots := 6, locals := 113 }) (va_Pc [.ref x0, .int z1, .int z2] (fun U => U.heap.size = sz ∧ va_P (dC, dI) classes [(x0, .inr (10, [.ref tp, .ref tk, .ref rs, .ref ou, .int 0, .ref sc0, .ref h0, .ref sn0, .ref pa0, .ref vl, .ref de, .ref br, .ref pw, .ref pr]))] U.heap ∧ va_K (dC, dI) classes [] U ∧ va_D (fun _ => True) [(x0, .inr (10, [.ref tp, .ref tk, .ref rs, .ref ou, .int 0, .ref sc0, .ref h0, .ref sn0, .ref pa0, .ref vl, .ref de, .ref br, .ref pw, .ref pr]))] ∧ va_Zq "java/lang/Throwable" "UNASSIGNED_STACK" "[Ljava/lang/StackTraceElement;" (va_A [(x0, .inr (10, [.ref tp, .ref tk, .ref rs, .ref ou, .int 0, .ref sc0, .ref h0, .ref sn0, .ref pa0, .ref vl, .ref de, .ref br, .ref pw, .ref pr]))] sz) U U.heap ∧ va_Zq "java/lang/Throwable" "SUPPRESSED_SENTINEL" "Ljava/util/List;" (va_A [(x0, .inr (10, [.ref tp, .ref tk, .ref rs, .ref ou, .int 0, .ref sc0, .ref h0, .ref sn0, .ref pa0, .ref vl, .ref de, .ref br, .ref pw, .ref pr]))] sz) U U.heap ∧ tz_LS "java/lang/Throwable" "UNASSIGNED_STACK" "[Ljava/lang/StackTraceElement;" (va_A [(x0, .inr (10, [.ref tp, .ref tk, .ref rs, .ref ou, .int 0, .ref sc0, .ref h0, .ref sn0, .ref pa0, .ref vl, .ref de, .ref br, .ref pw, .ref pr]))] sz) U U.heap ∧ tz_LS "java/lang/Throwable" "SUPPRESSED_SENTINEL" "Ljava/util/List;" (va_A [(x0, .inr (10, [.ref tp, .ref tk, .ref rs, .ref ou, .int 0, .ref sc0, .ref h0, .ref sn0, .ref pa0, .ref vl, .ref de, .ref br, .ref pw, .ref pr]))] sz) U U.heap)) (tk_Qx "java/lang/IllegalArgumentException") 1 6 (va_A [(x0, .inr (10, [.ref tp, .ref tk, .ref rs, .ref ou, .int 0, .ref sc0, .ref h0, .ref sn0, .ref pa0, .ref vl, .ref de, .ref br, .ref pw, .ref pr]))] sz) := by
  refine tk_Met.ofW (cc := b_SF_decode) (maxL := 6) (ret := (some .int)) (by decide) rfl ?_
  intro p e s m args below meth c s₁ B hml hv hnoh
  obtain ⟨rfl, hsz, hP, hK, hD0, hx0, hx1, hx2, hx3⟩ := hv
  have hx := B.exec
  have hb := B.bytes
  have hr := B.returns
  have hts := atoms_spec (ws := ws_SF_decode) B.pre
  have htw : ∀ w ∈ tw_tbl, w.before [.ref x0, .int z1, .int z2].toArray s = true := fun w h => hts w (List.mem_cons_of_mem _ h)
  have hown : s.vm.findClass R_SF = some m.cls := findClass_of_methodNamed B.named
  have hlocks := B.notSynchronized
  have hin : meth.name = "decode" := (name_of_methodNamed B.named B.method).1
  subst hsz
  have hP0 := hP
  have hD := hD0.self (sz := s.heap.size)
  generalize hAe : va_A [(x0, .inr (10, [.ref tp, .ref tk, .ref rs, .ref ou, .int 0, .ref sc0, .ref h0, .ref sn0, .ref pa0, .ref vl, .ref de, .ref br, .ref pw, .ref pr]))] s.heap.size = A at hD hx0 hx1 hx2 hx3 ⊢
  have hA : ∀ q : Nat, s.heap.size ≤ q → A q := fun q h => by rw [← hAe]; exact Or.inr h
  have hS : va_S A s.heap s.heap [] := va_S.rf
  have hP : va_P (dC, dI) classes [(x0, .inr (10, [.ref tp, .ref tk, .ref rs, .ref ou, .int 0, .ref sc0, .ref h0, .ref sn0, .ref pa0, .ref vl, .ref de, .ref br, .ref pw, .ref pr]))] s.heap := hP
  have hl := lv_entry ([.ref x0, .int z1, .int z2]) (n := 6) (Nat.le_of_ble_eq_true rfl)
  rw [lg_entry_eq]
  generalize (lg_sl ([.ref x0, .int z1, .int z2]) ++ List.replicate (6 - (lg_sl ([.ref x0, .int z1, .int z2])).length) Slot.unset).toArray = ls at hl ⊢
  have hl : lv_has ls 6 [(0, .ref x0), (1, .int z1), (2, .int z2)] := hl
  refine lv_aload_n hx hb d_SF_decode_0 rfl (lv_at hl 0 rfl) ?_
  refine lv_iload_n hx hb d_SF_decode_1 rfl (lv_at hl 1 rfl) ?_
  refine lv_iload_n hx hb d_SF_decode_2 rfl (lv_at hl 2 rfl) ?_
  refine lv_iconst (v := 2) hx hb d_SF_decode_3 (by decide) ?_
  have hc0 : 0 + 1 ≤ 1 := by omega
  have hs0 : 0 + 6 ≤ 6 := by omega
  have hPc := hP.sub (ws' := [(x0, .inr (10, [.ref tp, .ref tk, .ref rs, .ref ou, .int 0, .ref sc0, .ref h0, .ref sn0, .ref pa0, .ref vl, .ref de, .ref br, .ref pw, .ref pr]))]) [0] rfl
  have hDc := hD.sub (ws' := [(x0, .inr (10, [.ref tp, .ref tk, .ref rs, .ref ou, .int 0, .ref sc0, .ref h0, .ref sn0, .ref pa0, .ref vl, .ref de, .ref br, .ref pw, .ref pr]))]) [0] (by decide) rfl
  have hKc := hK.sub (tys' := []) [] rfl
  have hFc := va_free (wc := [(x0, .inr (10, [.ref tp, .ref tk, .ref rs, .ref ou, .int 0, .ref sc0, .ref h0, .ref sn0, .ref pa0, .ref vl, .ref de, .ref br, .ref pw, .ref pr]))]) hD hS hA [0] rfl
  exact tk_pass (tk_runV (As := [.int z1, .int z2, .int 2]) (rest := []) ⟨hx, hb, hml, hown, htw⟩ (x_SF_chosen l hNT dC dI s.heap.size x0 tp tk rs ou sc0 h0 sn0 pa0 vl de br pw pr z1 z2 2 (by first | omega | assumption)) (tk_cw (Ts := tw_tbl) (cwV 3 htw (tw_V wd_7_197 wd_7_199 wp_5_6 wd_1_1 k_SF_chosen) rfl rfl rfl (by decide +kernel) ⟨Nat.le_of_ble_eq_true rfl, Nat.le_of_ble_eq_true rfl⟩)) ⟨fun a U g mk q => by obtain ⟨q0, q1, qP, qK, qD, hq0, hq1, hq2, hq3⟩ := q; exact ⟨q0, q1, qP, va_K.moved (u := U) (U := U.calling g mk a) (Vm.Alike.refl U.vm) qK, qD, va_Zq.moved (u := U) (U := U.calling g mk a) (Vm.Alike.refl U.vm) hq0, va_Zq.moved (u := U) (U := U.calling g mk a) (Vm.Alike.refl U.vm) hq1, tz_LS.moved (u := U) (U := U.calling g mk a) (Vm.Alike.refl U.vm) hq2, tz_LS.moved (u := U) (U := U.calling g mk a) (Vm.Alike.refl U.vm) hq3⟩, va_recv hK hP (q := (R_SF, F_SF, 14)) (ci := 10) (q0 := 0) rfl rfl, fun U hU hW => ⟨rfl, by rw [hU], by rw [hU]; exact hPc, va_K.moved hW.alike hKc, hDc.weaken (fun _ _ _ _ => trivial), by rw [hU]; exact va_Zq.moved hW.alike ((va_Zq.kept hx0 hS.2.1).narrow hFc), by rw [hU]; exact va_Zq.moved hW.alike ((va_Zq.kept hx1 hS.2.1).narrow hFc), by rw [hU]; exact tz_LS.moved hW.alike ((tz_LS.kept hx2 hS.2.1).narrow hFc), by rw [hU]; exact tz_LS.moved hW.alike ((tz_LS.kept hx3 hS.2.1).narrow hFc)⟩⟩ rfl rfl hl.1 rfl (lv_room (Nat.le_of_ble_eq_true rfl)) d_SF_decode_4 ⟨hc0, hs0⟩) hnoh hlocks hS.2.2 hFc (fun x9 st9 t9 u9 h9 hw9 hq9 e9 e8 w9 => tk_qx hw9 hq9 e9)
set_option maxHeartbeats 4000000 in
set_option maxRecDepth 100000 in
theorem x_SF_tag (l : Launch) (hNT : tk_NT l) (dC : Nat → ClassId) (dI : Nat → Nat → Nat) (sz : Nat) (x0 : Nat) (tp : Nat) (tk : Nat) (rs : Nat) (ou : Nat) (sc0 : Nat) (h0 : Nat) (sn0 : Nat) (pa0 : Nat) (vl : Nat) (de : Nat) (br : Nat) (pw : Nat) (pr : Nat) (z1 : Int32) (hz : ¬ z1 < 0 → ¬ (0 : Int32) < 0 → (0 : Int32) < (0 : Int32)) : tk_Met l y_SF_tag ws_SF_tag ({ frames := 7, cells := 1, slots := 6, locals := 113 }) (va_Pc [.ref x0, .int z1] (fun U => U.heap.size = sz ∧ va_P (dC, dI) classes [(x0, .inr (10, [.ref tp, .ref tk, .ref rs, .ref ou, .int 0, .ref sc0, .ref h0, .ref sn0, .ref pa0, .ref vl, .ref de, .ref br, .ref pw, .ref pr]))] U.heap ∧ va_K (dC, dI) classes [] U ∧ va_D (fun _ => True) [(x0, .inr (10, [.ref tp, .ref tk, .ref rs, .ref ou, .int 0, .ref sc0, .ref h0, .ref sn0, .ref pa0, .ref vl, .ref de, .ref br, .ref pw, .ref pr]))] ∧ va_Zq "java/lang/Throwable" "UNASSIGNED_STACK" "[Ljava/lang/StackTraceElement;" (va_A [(x0, .inr (10, [.ref tp, .ref tk, .ref rs, .ref ou, .int 0, .ref sc0, .ref h0, .ref sn0, .ref pa0, .ref vl, .ref de, .ref br, .ref pw, .ref pr]))] sz) U U.heap ∧ va_Zq "java/lang/Throwable" "SUPPRESSED_SENTINEL" "Ljava/util/List;" (va_A [(x0, .inr (10, [.ref tp, .ref tk, .ref rs, .ref ou, .int 0, .ref sc0, .ref h0, .ref sn0, .ref pa0, .ref vl, .ref de, .ref br, .ref pw, .ref pr]))] sz) U U.heap ∧ tz_LS "java/lang/Throwable" "UNASSIGNED_STACK" "[Ljava/lang/StackTraceElement;" (va_A [(x0, .inr (10, [.ref tp, .ref tk, .ref rs, .ref ou, .int 0, .ref sc0, .ref h0, .ref sn0, .ref pa0, .ref vl, .ref de, .ref br, .ref pw, .ref pr]))] sz) U U.heap ∧ tz_LS "java/lang/Throwable" "SUPPRESSED_SENTINEL" "Ljava/util/List;" (va_A [(x0, .inr (10, [.ref tp, .ref tk, .ref rs, .ref ou, .int 0, .ref sc0, .ref h0, .ref sn0, .ref pa0, .ref vl, .ref de, .ref br, .ref pw, .ref pr]))] sz) U U.heap)) (tk_Qx "java/lang/IllegalArgumentException") 1 6 (va_A [(x0, .inr (10, [.ref tp, .ref tk, .ref rs, .ref ou, .int 0, .ref sc0, .ref h0, .ref sn0, .ref pa0, .ref vl, .ref de, .ref br, .ref pw, .ref pr]))] sz) := by
  refine tk_Met.ofW (cc := b_SF_tag) (maxL := 2) (ret := (some .long)) (by decide) rfl ?_
  intro p e s m args below meth c s₁ B hml hv hnoh
  obtain ⟨rfl, hsz, hP, hK, hD0, hx0, hx1, hx2, hx3⟩ := hv
  have hx := B.exec
  have hb := B.bytes
  have hr := B.returns
  have hts := atoms_spec (ws := ws_SF_tag) B.pre
  have htw : ∀ w ∈ tw_tbl, w.before [.ref x0, .int z1].toArray s = true := fun w h => hts w (List.mem_cons_of_mem _ h)
  have hown : s.vm.findClass R_SF = some m.cls := findClass_of_methodNamed B.named
  have hlocks := B.notSynchronized
  have hin : meth.name = "tag" := (name_of_methodNamed B.named B.method).1
  subst hsz
  have hP0 := hP
  have hD := hD0.self (sz := s.heap.size)
  generalize hAe : va_A [(x0, .inr (10, [.ref tp, .ref tk, .ref rs, .ref ou, .int 0, .ref sc0, .ref h0, .ref sn0, .ref pa0, .ref vl, .ref de, .ref br, .ref pw, .ref pr]))] s.heap.size = A at hD hx0 hx1 hx2 hx3 ⊢
  have hA : ∀ q : Nat, s.heap.size ≤ q → A q := fun q h => by rw [← hAe]; exact Or.inr h
  have hS : va_S A s.heap s.heap [] := va_S.rf
  have hP : va_P (dC, dI) classes [(x0, .inr (10, [.ref tp, .ref tk, .ref rs, .ref ou, .int 0, .ref sc0, .ref h0, .ref sn0, .ref pa0, .ref vl, .ref de, .ref br, .ref pw, .ref pr]))] s.heap := hP
  have hl := lv_entry ([.ref x0, .int z1]) (n := 2) (Nat.le_of_ble_eq_true rfl)
  rw [lg_entry_eq]
  generalize (lg_sl ([.ref x0, .int z1]) ++ List.replicate (2 - (lg_sl ([.ref x0, .int z1])).length) Slot.unset).toArray = ls at hl ⊢
  have hl : lv_has ls 2 [(0, .ref x0), (1, .int z1)] := hl
  refine lv_aload_n hx hb d_SF_tag_0 rfl (lv_at hl 0 rfl) ?_
  refine lv_iload_n hx hb d_SF_tag_1 rfl (lv_at hl 1 rfl) ?_
  refine lv_iconst (v := 0) hx hb d_SF_tag_2 (by decide) ?_
  refine lv_iconst (v := 0) hx hb d_SF_tag_3 (by decide) ?_
  have hc0 : 0 + 1 ≤ 1 := by omega
  have hs0 : 0 + 6 ≤ 6 := by omega
  have hPc := hP.sub (ws' := [(x0, .inr (10, [.ref tp, .ref tk, .ref rs, .ref ou, .int 0, .ref sc0, .ref h0, .ref sn0, .ref pa0, .ref vl, .ref de, .ref br, .ref pw, .ref pr]))]) [0] rfl
  have hDc := hD.sub (ws' := [(x0, .inr (10, [.ref tp, .ref tk, .ref rs, .ref ou, .int 0, .ref sc0, .ref h0, .ref sn0, .ref pa0, .ref vl, .ref de, .ref br, .ref pw, .ref pr]))]) [0] (by decide) rfl
  have hKc := hK.sub (tys' := []) [] rfl
  have hFc := va_free (wc := [(x0, .inr (10, [.ref tp, .ref tk, .ref rs, .ref ou, .int 0, .ref sc0, .ref h0, .ref sn0, .ref pa0, .ref vl, .ref de, .ref br, .ref pw, .ref pr]))]) hD hS hA [0] rfl
  exact tk_pass (tk_runV (As := [.int z1, .int 0, .int 0]) (rest := []) ⟨hx, hb, hml, hown, htw⟩ (x_SF_chosen l hNT dC dI s.heap.size x0 tp tk rs ou sc0 h0 sn0 pa0 vl de br pw pr z1 0 0 (by first | omega | assumption)) (tk_cw (Ts := tw_tbl) (cwV 3 htw (tw_V wd_7_197 wd_7_199 wp_5_6 wd_1_1 k_SF_chosen) rfl rfl rfl (by decide +kernel) ⟨Nat.le_of_ble_eq_true rfl, Nat.le_of_ble_eq_true rfl⟩)) ⟨fun a U g mk q => by obtain ⟨q0, q1, qP, qK, qD, hq0, hq1, hq2, hq3⟩ := q; exact ⟨q0, q1, qP, va_K.moved (u := U) (U := U.calling g mk a) (Vm.Alike.refl U.vm) qK, qD, va_Zq.moved (u := U) (U := U.calling g mk a) (Vm.Alike.refl U.vm) hq0, va_Zq.moved (u := U) (U := U.calling g mk a) (Vm.Alike.refl U.vm) hq1, tz_LS.moved (u := U) (U := U.calling g mk a) (Vm.Alike.refl U.vm) hq2, tz_LS.moved (u := U) (U := U.calling g mk a) (Vm.Alike.refl U.vm) hq3⟩, va_recv hK hP (q := (R_SF, F_SF, 14)) (ci := 10) (q0 := 0) rfl rfl, fun U hU hW => ⟨rfl, by rw [hU], by rw [hU]; exact hPc, va_K.moved hW.alike hKc, hDc.weaken (fun _ _ _ _ => trivial), by rw [hU]; exact va_Zq.moved hW.alike ((va_Zq.kept hx0 hS.2.1).narrow hFc), by rw [hU]; exact va_Zq.moved hW.alike ((va_Zq.kept hx1 hS.2.1).narrow hFc), by rw [hU]; exact tz_LS.moved hW.alike ((tz_LS.kept hx2 hS.2.1).narrow hFc), by rw [hU]; exact tz_LS.moved hW.alike ((tz_LS.kept hx3 hS.2.1).narrow hFc)⟩⟩ rfl rfl hl.1 rfl (lv_room (Nat.le_of_ble_eq_true rfl)) d_SF_tag_4 ⟨hc0, hs0⟩) hnoh hlocks hS.2.2 hFc (fun x9 st9 t9 u9 h9 hw9 hq9 e9 e8 w9 => tk_qx hw9 hq9 e9)
set_option maxHeartbeats 4000000 in
set_option maxRecDepth 100000 in
theorem x_SF_encode_v2 (l : Launch) (hNT : tk_NT l) (dC : Nat → ClassId) (dI : Nat → Nat → Nat) (sz : Nat) (x0 : Nat) (tp : Nat) (tk : Nat) (rs : Nat) (ou : Nat) (sc0 : Nat) (h0 : Nat) (sn0 : Nat) (pa0 : Nat) (vl : Nat) (de : Nat) (br : Nat) (pw : Nat) (pr : Nat) (z1 : Int32) (z2 : Int32) (hz : ¬ z1 < 0 ∧ ¬ z2 < 0 ∧ ¬ (1 : Int32) < z2) : tk_Met l y_SF_encode ws_SF_encode ({ frames := 7, cells := 1, slots := 6, locals := 113 }) (va_Pc [.ref x0, .int z1, .int z2] (fun U => U.heap.size = sz ∧ va_P (dC, dI) classes [(x0, .inr (10, [.ref tp, .ref tk, .ref rs, .ref ou, .int 0, .ref sc0, .ref h0, .ref sn0, .ref pa0, .ref vl, .ref de, .ref br, .ref pw, .ref pr]))] U.heap ∧ va_K (dC, dI) classes [] U ∧ va_D (fun _ => True) [(x0, .inr (10, [.ref tp, .ref tk, .ref rs, .ref ou, .int 0, .ref sc0, .ref h0, .ref sn0, .ref pa0, .ref vl, .ref de, .ref br, .ref pw, .ref pr]))] ∧ va_Zq "java/lang/Throwable" "UNASSIGNED_STACK" "[Ljava/lang/StackTraceElement;" (va_A [(x0, .inr (10, [.ref tp, .ref tk, .ref rs, .ref ou, .int 0, .ref sc0, .ref h0, .ref sn0, .ref pa0, .ref vl, .ref de, .ref br, .ref pw, .ref pr]))] sz) U U.heap ∧ va_Zq "java/lang/Throwable" "SUPPRESSED_SENTINEL" "Ljava/util/List;" (va_A [(x0, .inr (10, [.ref tp, .ref tk, .ref rs, .ref ou, .int 0, .ref sc0, .ref h0, .ref sn0, .ref pa0, .ref vl, .ref de, .ref br, .ref pw, .ref pr]))] sz) U U.heap ∧ tz_LS "java/lang/Throwable" "UNASSIGNED_STACK" "[Ljava/lang/StackTraceElement;" (va_A [(x0, .inr (10, [.ref tp, .ref tk, .ref rs, .ref ou, .int 0, .ref sc0, .ref h0, .ref sn0, .ref pa0, .ref vl, .ref de, .ref br, .ref pw, .ref pr]))] sz) U U.heap ∧ tz_LS "java/lang/Throwable" "SUPPRESSED_SENTINEL" "Ljava/util/List;" (va_A [(x0, .inr (10, [.ref tp, .ref tk, .ref rs, .ref ou, .int 0, .ref sc0, .ref h0, .ref sn0, .ref pa0, .ref vl, .ref de, .ref br, .ref pw, .ref pr]))] sz) U U.heap)) (tk_Qx "java/lang/IllegalStateException") 1 6 (va_A [(x0, .inr (10, [.ref tp, .ref tk, .ref rs, .ref ou, .int 0, .ref sc0, .ref h0, .ref sn0, .ref pa0, .ref vl, .ref de, .ref br, .ref pw, .ref pr]))] sz) := by
  refine tk_Met.ofW (cc := b_SF_encode) (maxL := 7) (ret := (some .int)) (by decide) rfl ?_
  intro p e s m args below meth c s₁ B hml hv hnoh
  obtain ⟨rfl, hsz, hP, hK, hD0, hx0, hx1, hx2, hx3⟩ := hv
  have hx := B.exec
  have hb := B.bytes
  have hr := B.returns
  have hts := atoms_spec (ws := ws_SF_encode) B.pre
  have htw : ∀ w ∈ tw_tbl, w.before [.ref x0, .int z1, .int z2].toArray s = true := fun w h => hts w (List.mem_cons_of_mem _ h)
  have hown : s.vm.findClass R_SF = some m.cls := findClass_of_methodNamed B.named
  have hlocks := B.notSynchronized
  have hin : meth.name = "encode" := (name_of_methodNamed B.named B.method).1
  subst hsz
  have hP0 := hP
  have hD := hD0.self (sz := s.heap.size)
  generalize hAe : va_A [(x0, .inr (10, [.ref tp, .ref tk, .ref rs, .ref ou, .int 0, .ref sc0, .ref h0, .ref sn0, .ref pa0, .ref vl, .ref de, .ref br, .ref pw, .ref pr]))] s.heap.size = A at hD hx0 hx1 hx2 hx3 ⊢
  have hA : ∀ q : Nat, s.heap.size ≤ q → A q := fun q h => by rw [← hAe]; exact Or.inr h
  have hS : va_S A s.heap s.heap [] := va_S.rf
  have hP : va_P (dC, dI) classes [(x0, .inr (10, [.ref tp, .ref tk, .ref rs, .ref ou, .int 0, .ref sc0, .ref h0, .ref sn0, .ref pa0, .ref vl, .ref de, .ref br, .ref pw, .ref pr]))] s.heap := hP
  have hl := lv_entry ([.ref x0, .int z1, .int z2]) (n := 7) (Nat.le_of_ble_eq_true rfl)
  rw [lg_entry_eq]
  generalize (lg_sl ([.ref x0, .int z1, .int z2]) ++ List.replicate (7 - (lg_sl ([.ref x0, .int z1, .int z2])).length) Slot.unset).toArray = ls at hl ⊢
  have hl : lv_has ls 7 [(0, .ref x0), (1, .int z1), (2, .int z2)] := hl
  refine lv_aload_n hx hb d_SF_encode_0 rfl (lv_at hl 0 rfl) ?_
  refine lv_iload_n hx hb d_SF_encode_1 rfl (lv_at hl 1 rfl) ?_
  refine lv_iload_n hx hb d_SF_encode_2 rfl (lv_at hl 2 rfl) ?_
  refine lv_iconst (v := 1) hx hb d_SF_encode_3 (by decide) ?_
  have hc0 : 0 + 1 ≤ 1 := by omega
  have hs0 : 0 + 6 ≤ 6 := by omega
  have hPc := hP.sub (ws' := [(x0, .inr (10, [.ref tp, .ref tk, .ref rs, .ref ou, .int 0, .ref sc0, .ref h0, .ref sn0, .ref pa0, .ref vl, .ref de, .ref br, .ref pw, .ref pr]))]) [0] rfl
  have hDc := hD.sub (ws' := [(x0, .inr (10, [.ref tp, .ref tk, .ref rs, .ref ou, .int 0, .ref sc0, .ref h0, .ref sn0, .ref pa0, .ref vl, .ref de, .ref br, .ref pw, .ref pr]))]) [0] (by decide) rfl
  have hKc := hK.sub (tys' := []) [] rfl
  have hFc := va_free (wc := [(x0, .inr (10, [.ref tp, .ref tk, .ref rs, .ref ou, .int 0, .ref sc0, .ref h0, .ref sn0, .ref pa0, .ref vl, .ref de, .ref br, .ref pw, .ref pr]))]) hD hS hA [0] rfl
  exact tk_pass (tk_runV (As := [.int z1, .int z2, .int 1]) (rest := []) ⟨hx, hb, hml, hown, htw⟩ (x_SF_chosen_v2 l hNT dC dI s.heap.size x0 tp tk rs ou sc0 h0 sn0 pa0 vl de br pw pr z1 z2 1 (by first | omega | assumption)) (tk_cw (Ts := tw_tbl) (cwV 3 htw (tw_V wd_7_197 wd_7_199 wp_5_6 wd_1_1 k_SF_chosen) rfl rfl rfl (by decide +kernel) ⟨Nat.le_of_ble_eq_true rfl, Nat.le_of_ble_eq_true rfl⟩)) ⟨fun a U g mk q => by obtain ⟨q0, q1, qP, qK, qD, hq0, hq1, hq2, hq3⟩ := q; exact ⟨q0, q1, qP, va_K.moved (u := U) (U := U.calling g mk a) (Vm.Alike.refl U.vm) qK, qD, va_Zq.moved (u := U) (U := U.calling g mk a) (Vm.Alike.refl U.vm) hq0, va_Zq.moved (u := U) (U := U.calling g mk a) (Vm.Alike.refl U.vm) hq1, tz_LS.moved (u := U) (U := U.calling g mk a) (Vm.Alike.refl U.vm) hq2, tz_LS.moved (u := U) (U := U.calling g mk a) (Vm.Alike.refl U.vm) hq3⟩, va_recv hK hP (q := (R_SF, F_SF, 14)) (ci := 10) (q0 := 0) rfl rfl, fun U hU hW => ⟨rfl, by rw [hU], by rw [hU]; exact hPc, va_K.moved hW.alike hKc, hDc.weaken (fun _ _ _ _ => trivial), by rw [hU]; exact va_Zq.moved hW.alike ((va_Zq.kept hx0 hS.2.1).narrow hFc), by rw [hU]; exact va_Zq.moved hW.alike ((va_Zq.kept hx1 hS.2.1).narrow hFc), by rw [hU]; exact tz_LS.moved hW.alike ((tz_LS.kept hx2 hS.2.1).narrow hFc), by rw [hU]; exact tz_LS.moved hW.alike ((tz_LS.kept hx3 hS.2.1).narrow hFc)⟩⟩ rfl rfl hl.1 rfl (lv_room (Nat.le_of_ble_eq_true rfl)) d_SF_encode_4 ⟨hc0, hs0⟩) hnoh hlocks hS.2.2 hFc (fun x9 st9 t9 u9 h9 hw9 hq9 e9 e8 w9 => tk_qx hw9 hq9 e9)
set_option maxHeartbeats 4000000 in
set_option maxRecDepth 100000 in
theorem x_SF_decode_v2 (l : Launch) (hNT : tk_NT l) (dC : Nat → ClassId) (dI : Nat → Nat → Nat) (sz : Nat) (x0 : Nat) (tp : Nat) (tk : Nat) (rs : Nat) (ou : Nat) (sc0 : Nat) (h0 : Nat) (sn0 : Nat) (pa0 : Nat) (vl : Nat) (de : Nat) (br : Nat) (pw : Nat) (pr : Nat) (z1 : Int32) (z2 : Int32) (hz : ¬ z1 < 0 ∧ ¬ z2 < 0 ∧ ¬ (2 : Int32) < z2) : tk_Met l y_SF_decode ws_SF_decode ({ frames := 7, cells := 1, slots := 6, locals := 113 }) (va_Pc [.ref x0, .int z1, .int z2] (fun U => U.heap.size = sz ∧ va_P (dC, dI) classes [(x0, .inr (10, [.ref tp, .ref tk, .ref rs, .ref ou, .int 0, .ref sc0, .ref h0, .ref sn0, .ref pa0, .ref vl, .ref de, .ref br, .ref pw, .ref pr]))] U.heap ∧ va_K (dC, dI) classes [] U ∧ va_D (fun _ => True) [(x0, .inr (10, [.ref tp, .ref tk, .ref rs, .ref ou, .int 0, .ref sc0, .ref h0, .ref sn0, .ref pa0, .ref vl, .ref de, .ref br, .ref pw, .ref pr]))] ∧ va_Zq "java/lang/Throwable" "UNASSIGNED_STACK" "[Ljava/lang/StackTraceElement;" (va_A [(x0, .inr (10, [.ref tp, .ref tk, .ref rs, .ref ou, .int 0, .ref sc0, .ref h0, .ref sn0, .ref pa0, .ref vl, .ref de, .ref br, .ref pw, .ref pr]))] sz) U U.heap ∧ va_Zq "java/lang/Throwable" "SUPPRESSED_SENTINEL" "Ljava/util/List;" (va_A [(x0, .inr (10, [.ref tp, .ref tk, .ref rs, .ref ou, .int 0, .ref sc0, .ref h0, .ref sn0, .ref pa0, .ref vl, .ref de, .ref br, .ref pw, .ref pr]))] sz) U U.heap ∧ tz_LS "java/lang/Throwable" "UNASSIGNED_STACK" "[Ljava/lang/StackTraceElement;" (va_A [(x0, .inr (10, [.ref tp, .ref tk, .ref rs, .ref ou, .int 0, .ref sc0, .ref h0, .ref sn0, .ref pa0, .ref vl, .ref de, .ref br, .ref pw, .ref pr]))] sz) U U.heap ∧ tz_LS "java/lang/Throwable" "SUPPRESSED_SENTINEL" "Ljava/util/List;" (va_A [(x0, .inr (10, [.ref tp, .ref tk, .ref rs, .ref ou, .int 0, .ref sc0, .ref h0, .ref sn0, .ref pa0, .ref vl, .ref de, .ref br, .ref pw, .ref pr]))] sz) U U.heap)) (tk_Qx "java/lang/IllegalStateException") 1 6 (va_A [(x0, .inr (10, [.ref tp, .ref tk, .ref rs, .ref ou, .int 0, .ref sc0, .ref h0, .ref sn0, .ref pa0, .ref vl, .ref de, .ref br, .ref pw, .ref pr]))] sz) := by
  refine tk_Met.ofW (cc := b_SF_decode) (maxL := 6) (ret := (some .int)) (by decide) rfl ?_
  intro p e s m args below meth c s₁ B hml hv hnoh
  obtain ⟨rfl, hsz, hP, hK, hD0, hx0, hx1, hx2, hx3⟩ := hv
  have hx := B.exec
  have hb := B.bytes
  have hr := B.returns
  have hts := atoms_spec (ws := ws_SF_decode) B.pre
  have htw : ∀ w ∈ tw_tbl, w.before [.ref x0, .int z1, .int z2].toArray s = true := fun w h => hts w (List.mem_cons_of_mem _ h)
  have hown : s.vm.findClass R_SF = some m.cls := findClass_of_methodNamed B.named
  have hlocks := B.notSynchronized
  have hin : meth.name = "decode" := (name_of_methodNamed B.named B.method).1
  subst hsz
  have hP0 := hP
  have hD := hD0.self (sz := s.heap.size)
  generalize hAe : va_A [(x0, .inr (10, [.ref tp, .ref tk, .ref rs, .ref ou, .int 0, .ref sc0, .ref h0, .ref sn0, .ref pa0, .ref vl, .ref de, .ref br, .ref pw, .ref pr]))] s.heap.size = A at hD hx0 hx1 hx2 hx3 ⊢
  have hA : ∀ q : Nat, s.heap.size ≤ q → A q := fun q h => by rw [← hAe]; exact Or.inr h
  have hS : va_S A s.heap s.heap [] := va_S.rf
  have hP : va_P (dC, dI) classes [(x0, .inr (10, [.ref tp, .ref tk, .ref rs, .ref ou, .int 0, .ref sc0, .ref h0, .ref sn0, .ref pa0, .ref vl, .ref de, .ref br, .ref pw, .ref pr]))] s.heap := hP
  have hl := lv_entry ([.ref x0, .int z1, .int z2]) (n := 6) (Nat.le_of_ble_eq_true rfl)
  rw [lg_entry_eq]
  generalize (lg_sl ([.ref x0, .int z1, .int z2]) ++ List.replicate (6 - (lg_sl ([.ref x0, .int z1, .int z2])).length) Slot.unset).toArray = ls at hl ⊢
  have hl : lv_has ls 6 [(0, .ref x0), (1, .int z1), (2, .int z2)] := hl
  refine lv_aload_n hx hb d_SF_decode_0 rfl (lv_at hl 0 rfl) ?_
  refine lv_iload_n hx hb d_SF_decode_1 rfl (lv_at hl 1 rfl) ?_
  refine lv_iload_n hx hb d_SF_decode_2 rfl (lv_at hl 2 rfl) ?_
  refine lv_iconst (v := 2) hx hb d_SF_decode_3 (by decide) ?_
  have hc0 : 0 + 1 ≤ 1 := by omega
  have hs0 : 0 + 6 ≤ 6 := by omega
  have hPc := hP.sub (ws' := [(x0, .inr (10, [.ref tp, .ref tk, .ref rs, .ref ou, .int 0, .ref sc0, .ref h0, .ref sn0, .ref pa0, .ref vl, .ref de, .ref br, .ref pw, .ref pr]))]) [0] rfl
  have hDc := hD.sub (ws' := [(x0, .inr (10, [.ref tp, .ref tk, .ref rs, .ref ou, .int 0, .ref sc0, .ref h0, .ref sn0, .ref pa0, .ref vl, .ref de, .ref br, .ref pw, .ref pr]))]) [0] (by decide) rfl
  have hKc := hK.sub (tys' := []) [] rfl
  have hFc := va_free (wc := [(x0, .inr (10, [.ref tp, .ref tk, .ref rs, .ref ou, .int 0, .ref sc0, .ref h0, .ref sn0, .ref pa0, .ref vl, .ref de, .ref br, .ref pw, .ref pr]))]) hD hS hA [0] rfl
  exact tk_pass (tk_runV (As := [.int z1, .int z2, .int 2]) (rest := []) ⟨hx, hb, hml, hown, htw⟩ (x_SF_chosen_v2 l hNT dC dI s.heap.size x0 tp tk rs ou sc0 h0 sn0 pa0 vl de br pw pr z1 z2 2 (by first | omega | assumption)) (tk_cw (Ts := tw_tbl) (cwV 3 htw (tw_V wd_7_197 wd_7_199 wp_5_6 wd_1_1 k_SF_chosen) rfl rfl rfl (by decide +kernel) ⟨Nat.le_of_ble_eq_true rfl, Nat.le_of_ble_eq_true rfl⟩)) ⟨fun a U g mk q => by obtain ⟨q0, q1, qP, qK, qD, hq0, hq1, hq2, hq3⟩ := q; exact ⟨q0, q1, qP, va_K.moved (u := U) (U := U.calling g mk a) (Vm.Alike.refl U.vm) qK, qD, va_Zq.moved (u := U) (U := U.calling g mk a) (Vm.Alike.refl U.vm) hq0, va_Zq.moved (u := U) (U := U.calling g mk a) (Vm.Alike.refl U.vm) hq1, tz_LS.moved (u := U) (U := U.calling g mk a) (Vm.Alike.refl U.vm) hq2, tz_LS.moved (u := U) (U := U.calling g mk a) (Vm.Alike.refl U.vm) hq3⟩, va_recv hK hP (q := (R_SF, F_SF, 14)) (ci := 10) (q0 := 0) rfl rfl, fun U hU hW => ⟨rfl, by rw [hU], by rw [hU]; exact hPc, va_K.moved hW.alike hKc, hDc.weaken (fun _ _ _ _ => trivial), by rw [hU]; exact va_Zq.moved hW.alike ((va_Zq.kept hx0 hS.2.1).narrow hFc), by rw [hU]; exact va_Zq.moved hW.alike ((va_Zq.kept hx1 hS.2.1).narrow hFc), by rw [hU]; exact tz_LS.moved hW.alike ((tz_LS.kept hx2 hS.2.1).narrow hFc), by rw [hU]; exact tz_LS.moved hW.alike ((tz_LS.kept hx3 hS.2.1).narrow hFc)⟩⟩ rfl rfl hl.1 rfl (lv_room (Nat.le_of_ble_eq_true rfl)) d_SF_decode_4 ⟨hc0, hs0⟩) hnoh hlocks hS.2.2 hFc (fun x9 st9 t9 u9 h9 hw9 hq9 e9 e8 w9 => tk_qx hw9 hq9 e9)
set_option maxHeartbeats 4000000 in
set_option maxRecDepth 100000 in
theorem x_SF_tag_v2 (l : Launch) (hNT : tk_NT l) (dC : Nat → ClassId) (dI : Nat → Nat → Nat) (sz : Nat) (x0 : Nat) (tp : Nat) (tk : Nat) (rs : Nat) (ou : Nat) (sc0 : Nat) (h0 : Nat) (sn0 : Nat) (pa0 : Nat) (vl : Nat) (de : Nat) (br : Nat) (pw : Nat) (pr : Nat) (z1 : Int32) (hz : ¬ z1 < 0 ∧ ¬ (0 : Int32) < 0 ∧ ¬ (0 : Int32) < (0 : Int32)) : tk_Met l y_SF_tag ws_SF_tag ({ frames := 7, cells := 1, slots := 6, locals := 113 }) (va_Pc [.ref x0, .int z1] (fun U => U.heap.size = sz ∧ va_P (dC, dI) classes [(x0, .inr (10, [.ref tp, .ref tk, .ref rs, .ref ou, .int 0, .ref sc0, .ref h0, .ref sn0, .ref pa0, .ref vl, .ref de, .ref br, .ref pw, .ref pr]))] U.heap ∧ va_K (dC, dI) classes [] U ∧ va_D (fun _ => True) [(x0, .inr (10, [.ref tp, .ref tk, .ref rs, .ref ou, .int 0, .ref sc0, .ref h0, .ref sn0, .ref pa0, .ref vl, .ref de, .ref br, .ref pw, .ref pr]))] ∧ va_Zq "java/lang/Throwable" "UNASSIGNED_STACK" "[Ljava/lang/StackTraceElement;" (va_A [(x0, .inr (10, [.ref tp, .ref tk, .ref rs, .ref ou, .int 0, .ref sc0, .ref h0, .ref sn0, .ref pa0, .ref vl, .ref de, .ref br, .ref pw, .ref pr]))] sz) U U.heap ∧ va_Zq "java/lang/Throwable" "SUPPRESSED_SENTINEL" "Ljava/util/List;" (va_A [(x0, .inr (10, [.ref tp, .ref tk, .ref rs, .ref ou, .int 0, .ref sc0, .ref h0, .ref sn0, .ref pa0, .ref vl, .ref de, .ref br, .ref pw, .ref pr]))] sz) U U.heap ∧ tz_LS "java/lang/Throwable" "UNASSIGNED_STACK" "[Ljava/lang/StackTraceElement;" (va_A [(x0, .inr (10, [.ref tp, .ref tk, .ref rs, .ref ou, .int 0, .ref sc0, .ref h0, .ref sn0, .ref pa0, .ref vl, .ref de, .ref br, .ref pw, .ref pr]))] sz) U U.heap ∧ tz_LS "java/lang/Throwable" "SUPPRESSED_SENTINEL" "Ljava/util/List;" (va_A [(x0, .inr (10, [.ref tp, .ref tk, .ref rs, .ref ou, .int 0, .ref sc0, .ref h0, .ref sn0, .ref pa0, .ref vl, .ref de, .ref br, .ref pw, .ref pr]))] sz) U U.heap)) (tk_Qx "java/lang/IllegalStateException") 1 6 (va_A [(x0, .inr (10, [.ref tp, .ref tk, .ref rs, .ref ou, .int 0, .ref sc0, .ref h0, .ref sn0, .ref pa0, .ref vl, .ref de, .ref br, .ref pw, .ref pr]))] sz) := by
  refine tk_Met.ofW (cc := b_SF_tag) (maxL := 2) (ret := (some .long)) (by decide) rfl ?_
  intro p e s m args below meth c s₁ B hml hv hnoh
  obtain ⟨rfl, hsz, hP, hK, hD0, hx0, hx1, hx2, hx3⟩ := hv
  have hx := B.exec
  have hb := B.bytes
  have hr := B.returns
  have hts := atoms_spec (ws := ws_SF_tag) B.pre
  have htw : ∀ w ∈ tw_tbl, w.before [.ref x0, .int z1].toArray s = true := fun w h => hts w (List.mem_cons_of_mem _ h)
  have hown : s.vm.findClass R_SF = some m.cls := findClass_of_methodNamed B.named
  have hlocks := B.notSynchronized
  have hin : meth.name = "tag" := (name_of_methodNamed B.named B.method).1
  subst hsz
  have hP0 := hP
  have hD := hD0.self (sz := s.heap.size)
  generalize hAe : va_A [(x0, .inr (10, [.ref tp, .ref tk, .ref rs, .ref ou, .int 0, .ref sc0, .ref h0, .ref sn0, .ref pa0, .ref vl, .ref de, .ref br, .ref pw, .ref pr]))] s.heap.size = A at hD hx0 hx1 hx2 hx3 ⊢
  have hA : ∀ q : Nat, s.heap.size ≤ q → A q := fun q h => by rw [← hAe]; exact Or.inr h
  have hS : va_S A s.heap s.heap [] := va_S.rf
  have hP : va_P (dC, dI) classes [(x0, .inr (10, [.ref tp, .ref tk, .ref rs, .ref ou, .int 0, .ref sc0, .ref h0, .ref sn0, .ref pa0, .ref vl, .ref de, .ref br, .ref pw, .ref pr]))] s.heap := hP
  have hl := lv_entry ([.ref x0, .int z1]) (n := 2) (Nat.le_of_ble_eq_true rfl)
  rw [lg_entry_eq]
  generalize (lg_sl ([.ref x0, .int z1]) ++ List.replicate (2 - (lg_sl ([.ref x0, .int z1])).length) Slot.unset).toArray = ls at hl ⊢
  have hl : lv_has ls 2 [(0, .ref x0), (1, .int z1)] := hl
  refine lv_aload_n hx hb d_SF_tag_0 rfl (lv_at hl 0 rfl) ?_
  refine lv_iload_n hx hb d_SF_tag_1 rfl (lv_at hl 1 rfl) ?_
  refine lv_iconst (v := 0) hx hb d_SF_tag_2 (by decide) ?_
  refine lv_iconst (v := 0) hx hb d_SF_tag_3 (by decide) ?_
  have hc0 : 0 + 1 ≤ 1 := by omega
  have hs0 : 0 + 6 ≤ 6 := by omega
  have hPc := hP.sub (ws' := [(x0, .inr (10, [.ref tp, .ref tk, .ref rs, .ref ou, .int 0, .ref sc0, .ref h0, .ref sn0, .ref pa0, .ref vl, .ref de, .ref br, .ref pw, .ref pr]))]) [0] rfl
  have hDc := hD.sub (ws' := [(x0, .inr (10, [.ref tp, .ref tk, .ref rs, .ref ou, .int 0, .ref sc0, .ref h0, .ref sn0, .ref pa0, .ref vl, .ref de, .ref br, .ref pw, .ref pr]))]) [0] (by decide) rfl
  have hKc := hK.sub (tys' := []) [] rfl
  have hFc := va_free (wc := [(x0, .inr (10, [.ref tp, .ref tk, .ref rs, .ref ou, .int 0, .ref sc0, .ref h0, .ref sn0, .ref pa0, .ref vl, .ref de, .ref br, .ref pw, .ref pr]))]) hD hS hA [0] rfl
  exact tk_pass (tk_runV (As := [.int z1, .int 0, .int 0]) (rest := []) ⟨hx, hb, hml, hown, htw⟩ (x_SF_chosen_v2 l hNT dC dI s.heap.size x0 tp tk rs ou sc0 h0 sn0 pa0 vl de br pw pr z1 0 0 (by first | omega | assumption)) (tk_cw (Ts := tw_tbl) (cwV 3 htw (tw_V wd_7_197 wd_7_199 wp_5_6 wd_1_1 k_SF_chosen) rfl rfl rfl (by decide +kernel) ⟨Nat.le_of_ble_eq_true rfl, Nat.le_of_ble_eq_true rfl⟩)) ⟨fun a U g mk q => by obtain ⟨q0, q1, qP, qK, qD, hq0, hq1, hq2, hq3⟩ := q; exact ⟨q0, q1, qP, va_K.moved (u := U) (U := U.calling g mk a) (Vm.Alike.refl U.vm) qK, qD, va_Zq.moved (u := U) (U := U.calling g mk a) (Vm.Alike.refl U.vm) hq0, va_Zq.moved (u := U) (U := U.calling g mk a) (Vm.Alike.refl U.vm) hq1, tz_LS.moved (u := U) (U := U.calling g mk a) (Vm.Alike.refl U.vm) hq2, tz_LS.moved (u := U) (U := U.calling g mk a) (Vm.Alike.refl U.vm) hq3⟩, va_recv hK hP (q := (R_SF, F_SF, 14)) (ci := 10) (q0 := 0) rfl rfl, fun U hU hW => ⟨rfl, by rw [hU], by rw [hU]; exact hPc, va_K.moved hW.alike hKc, hDc.weaken (fun _ _ _ _ => trivial), by rw [hU]; exact va_Zq.moved hW.alike ((va_Zq.kept hx0 hS.2.1).narrow hFc), by rw [hU]; exact va_Zq.moved hW.alike ((va_Zq.kept hx1 hS.2.1).narrow hFc), by rw [hU]; exact tz_LS.moved hW.alike ((tz_LS.kept hx2 hS.2.1).narrow hFc), by rw [hU]; exact tz_LS.moved hW.alike ((tz_LS.kept hx3 hS.2.1).narrow hFc)⟩⟩ rfl rfl hl.1 rfl (lv_room (Nat.le_of_ble_eq_true rfl)) d_SF_tag_4 ⟨hc0, hs0⟩) hnoh hlocks hS.2.2 hFc (fun x9 st9 t9 u9 h9 hw9 hq9 e9 e8 w9 => tk_qx hw9 hq9 e9)
