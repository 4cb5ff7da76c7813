/-! by program (wip/p1) -/
theorem wd_12_53 : Cond.methodLink "SyntaxForgeModel$Module" 1 ⟨"java/lang/Object", "<init>", "()V"⟩ ∈ tw_tbl := tw_t12 (List.mem_of_getElem? (i := 53) rfl) rfl
theorem wd_12_54 : Cond.classLink "SyntaxForgeModel$Module" 7 "java/lang/String" ∈ tw_tbl := tw_t12 (List.mem_of_getElem? (i := 54) rfl) rfl
theorem wd_12_56 : Cond.fieldLink "SyntaxForgeModel$Module" 9 "SyntaxForgeModel$Module" "names" "[Ljava/lang/String;" ∈ tw_tbl := tw_t12 (List.mem_of_getElem? (i := 56) rfl) rfl
theorem wd_12_55 : Cond.classLink "SyntaxForgeModel$Module" 15 "SyntaxForgeModel$Type" ∈ tw_tbl := tw_t12 (List.mem_of_getElem? (i := 55) rfl) rfl
theorem wd_12_58 : Cond.fieldLink "SyntaxForgeModel$Module" 17 "SyntaxForgeModel$Module" "types" "[LSyntaxForgeModel$Type;" ∈ tw_tbl := tw_t12 (List.mem_of_getElem? (i := 58) rfl) rfl
theorem wd_12_76 : Cond.methodLink "SyntaxForgeModel" 284 ⟨"SyntaxForgeModel", "can", "(Z)V"⟩ ∈ tw_tbl := tw_t12 (List.mem_of_getElem? (i := 76) rfl) rfl
theorem wd_12_78 : Cond.instanceMethod ⟨"SyntaxForgeModel", "can", "(Z)V"⟩ ∈ tw_tbl := tw_t12 (List.mem_of_getElem? (i := 78) rfl) rfl
theorem wp_10_11 : Cond.selects "SyntaxForgeModel" ⟨"SyntaxForgeModel", "can", "(Z)V"⟩ ⟨"SyntaxForgeModel", "can", "(Z)V"⟩ ∈ tw_tbl := tw_p10 (q := (⟨"SyntaxForgeModel", "can", "(Z)V"⟩, 53)) (List.mem_of_getElem? (i := 11) rfl)
theorem wd_12_48 : Cond.classLink "SyntaxForgeModel" 316 "SyntaxForgeModel$Module" ∈ tw_tbl := tw_t12 (List.mem_of_getElem? (i := 48) rfl) rfl
theorem wd_12_49 : Cond.instantiable "SyntaxForgeModel$Module" 4 ∈ tw_tbl := tw_t12 (List.mem_of_getElem? (i := 49) rfl) rfl
theorem wd_1_40 : Cond.initialized "SyntaxForgeModel$Module" ∈ tw_tbl := tw_t1 (List.mem_of_getElem? (i := 40) rfl) rfl
theorem wd_12_51 : Cond.instanceMethod ⟨"SyntaxForgeModel$Module", "<init>", "()V"⟩ ∈ tw_tbl := tw_t12 (List.mem_of_getElem? (i := 51) rfl) rfl
theorem wd_12_72 : Cond.methodLink "SyntaxForgeModel" 319 ⟨"SyntaxForgeModel", "take", "(I)Ljava/lang/String;"⟩ ∈ tw_tbl := tw_t12 (List.mem_of_getElem? (i := 72) rfl) rfl
theorem wd_12_74 : Cond.instanceMethod ⟨"SyntaxForgeModel", "take", "(I)Ljava/lang/String;"⟩ ∈ tw_tbl := tw_t12 (List.mem_of_getElem? (i := 74) rfl) rfl
theorem wp_10_10 : Cond.selects "SyntaxForgeModel" ⟨"SyntaxForgeModel", "take", "(I)Ljava/lang/String;"⟩ ⟨"SyntaxForgeModel", "take", "(I)Ljava/lang/String;"⟩ ∈ tw_tbl := tw_p10 (q := (⟨"SyntaxForgeModel", "take", "(I)Ljava/lang/String;"⟩, 53)) (List.mem_of_getElem? (i := 10) rfl)
theorem wd_10_234 : Cond.methodLink "SyntaxForgeModel" 1057 ⟨"SyntaxForgeModel", "begin", "(Z)V"⟩ ∈ tw_tbl := tw_t10 (List.mem_of_getElem? (i := 234) rfl) rfl
theorem wd_10_236 : Cond.instanceMethod ⟨"SyntaxForgeModel", "begin", "(Z)V"⟩ ∈ tw_tbl := tw_t10 (List.mem_of_getElem? (i := 236) rfl) rfl
theorem wp_9_12 : Cond.selects "SyntaxForgeModel" ⟨"SyntaxForgeModel", "begin", "(Z)V"⟩ ⟨"SyntaxForgeModel", "begin", "(Z)V"⟩ ∈ tw_tbl := tw_p9 (q := (⟨"SyntaxForgeModel", "begin", "(Z)V"⟩, 53)) (List.mem_of_getElem? (i := 12) rfl)
theorem wd_12_44 : Cond.methodLink "SyntaxForgeModel" 1060 ⟨"SyntaxForgeModel", "readModule", "()LSyntaxForgeModel$Module;"⟩ ∈ tw_tbl := tw_t12 (List.mem_of_getElem? (i := 44) rfl) rfl
theorem wd_12_46 : Cond.instanceMethod ⟨"SyntaxForgeModel", "readModule", "()LSyntaxForgeModel$Module;"⟩ ∈ tw_tbl := tw_t12 (List.mem_of_getElem? (i := 46) rfl) rfl
theorem wp_10_9 : Cond.selects "SyntaxForgeModel" ⟨"SyntaxForgeModel", "readModule", "()LSyntaxForgeModel$Module;"⟩ ⟨"SyntaxForgeModel", "readModule", "()LSyntaxForgeModel$Module;"⟩ ∈ tw_tbl := tw_p10 (q := (⟨"SyntaxForgeModel", "readModule", "()LSyntaxForgeModel$Module;"⟩, 53)) (List.mem_of_getElem? (i := 9) rfl)
theorem wd_10_78 : Cond.fieldLink "SyntaxForgeModel" 474 "SyntaxForgeModel" "reading" "LSyntaxForgeModel$Module;" ∈ tw_tbl := tw_t10 (List.mem_of_getElem? (i := 78) rfl) rfl
def y_MoMod_init : MethodName := ⟨"SyntaxForgeModel$Module", "<init>", "()V"⟩
abbrev b_MoMod_init : ByteArray := prog_17_method_1_code
abbrev cd_MoMod_init : Cond := .code y_MoMod_init b_MoMod_init 1 none
abbrev ws_MoMod_init : List Cond := cd_MoMod_init :: tw_tbl
theorem k_MoMod_init : cd_MoMod_init ∈ tw_tbl := tw_t12 (List.mem_of_getElem? (i := 52) rfl) rfl
theorem d_MoMod_init_0 : decode b_MoMod_init 0 = .ok (.aload_n 0, 1) := by decide +kernel
theorem d_MoMod_init_1 : decode b_MoMod_init 1 = .ok (.invokespecial 1, 3) := by decide +kernel
theorem d_MoMod_init_4 : decode b_MoMod_init 4 = .ok (.aload_n 0, 1) := by decide +kernel
theorem d_MoMod_init_5 : decode b_MoMod_init 5 = .ok (.bipush 8, 2) := by decide +kernel
theorem d_MoMod_init_7 : decode b_MoMod_init 7 = .ok (.anewarray 7, 3) := by decide +kernel
theorem d_MoMod_init_10 : decode b_MoMod_init 10 = .ok (.putfield 9, 3) := by decide +kernel
theorem d_MoMod_init_13 : decode b_MoMod_init 13 = .ok (.aload_n 0, 1) := by decide +kernel
theorem d_MoMod_init_14 : decode b_MoMod_init 14 = .ok (.bipush 8, 2) := by decide +kernel
theorem d_MoMod_init_16 : decode b_MoMod_init 16 = .ok (.anewarray 15, 3) := by decide +kernel
theorem d_MoMod_init_19 : decode b_MoMod_init 19 = .ok (.putfield 17, 3) := by decide +kernel
theorem d_MoMod_init_22 : decode b_MoMod_init 22 = .ok (.return_, 1) := by decide +kernel
def y_Mo_take : MethodName := ⟨"SyntaxForgeModel", "take", "(I)Ljava/lang/String;"⟩
abbrev b_Mo_take : ByteArray := prog_15_method_19_code
abbrev cd_Mo_take : Cond := .code y_Mo_take b_Mo_take 3 (some (.object "java/lang/String"))
abbrev ws_Mo_take : List Cond := cd_Mo_take :: tw_tbl
theorem k_Mo_take : cd_Mo_take ∈ tw_tbl := tw_t12 (List.mem_of_getElem? (i := 75) rfl) rfl
theorem d_Mo_take_0 : decode b_Mo_take 0 = .ok (.aload_n 0, 1) := by decide +kernel
theorem d_Mo_take_1 : decode b_Mo_take 1 = .ok (.aload_n 0, 1) := by decide +kernel
theorem d_Mo_take_2 : decode b_Mo_take 2 = .ok (.getfield 234, 3) := by decide +kernel
theorem d_Mo_take_5 : decode b_Mo_take 5 = .ok (.iload_n 1, 1) := by decide +kernel
theorem d_Mo_take_6 : decode b_Mo_take 6 = .ok (.if_icmp .ne 7, 3) := by decide +kernel
theorem d_Mo_take_9 : decode b_Mo_take 9 = .ok (.iconst 1, 1) := by decide +kernel
theorem d_Mo_take_10 : decode b_Mo_take 10 = .ok (.goto 4, 3) := by decide +kernel
theorem d_Mo_take_13 : decode b_Mo_take 13 = .ok (.iconst 0, 1) := by decide +kernel
theorem d_Mo_take_14 : decode b_Mo_take 14 = .ok (.invokevirtual 284, 3) := by decide +kernel
theorem d_Mo_take_17 : decode b_Mo_take 17 = .ok (.aload_n 0, 1) := by decide +kernel
theorem d_Mo_take_18 : decode b_Mo_take 18 = .ok (.getfield 254, 3) := by decide +kernel
theorem d_Mo_take_21 : decode b_Mo_take 21 = .ok (.astore_n 2, 1) := by decide +kernel
theorem d_Mo_take_22 : decode b_Mo_take 22 = .ok (.aload_n 0, 1) := by decide +kernel
theorem d_Mo_take_23 : decode b_Mo_take 23 = .ok (.invokevirtual 288, 3) := by decide +kernel
theorem d_Mo_take_26 : decode b_Mo_take 26 = .ok (.aload_n 2, 1) := by decide +kernel
theorem d_Mo_take_27 : decode b_Mo_take 27 = .ok (.areturn, 1) := by decide +kernel
def y_Mo_readModule : MethodName := ⟨"SyntaxForgeModel", "readModule", "()LSyntaxForgeModel$Module;"⟩
abbrev b_Mo_readModule : ByteArray := prog_15_method_21_code
abbrev cd_Mo_readModule : Cond := .code y_Mo_readModule b_Mo_readModule 6 (some (.object "SyntaxForgeModel$Module"))
abbrev ws_Mo_readModule : List Cond := cd_Mo_readModule :: tw_tbl
theorem k_Mo_readModule : cd_Mo_readModule ∈ tw_tbl := tw_t12 (List.mem_of_getElem? (i := 47) rfl) rfl
theorem d_Mo_readModule_0 : decode b_Mo_readModule 0 = .ok (.new 316, 3) := by decide +kernel
theorem d_Mo_readModule_3 : decode b_Mo_readModule 3 = .ok (.dup, 1) := by decide +kernel
theorem d_Mo_readModule_4 : decode b_Mo_readModule 4 = .ok (.invokespecial 318, 3) := by decide +kernel
theorem d_Mo_readModule_7 : decode b_Mo_readModule 7 = .ok (.astore_n 1, 1) := by decide +kernel
theorem d_Mo_readModule_8 : decode b_Mo_readModule 8 = .ok (.aload_n 0, 1) := by decide +kernel
theorem d_Mo_readModule_9 : decode b_Mo_readModule 9 = .ok (.iconst 3, 1) := by decide +kernel
theorem d_Mo_readModule_10 : decode b_Mo_readModule 10 = .ok (.invokevirtual 319, 3) := by decide +kernel
theorem d_Mo_readModule_13 : decode b_Mo_readModule 13 = .ok (.astore_n 2, 1) := by decide +kernel
theorem d_Mo_readModule_14 : decode b_Mo_readModule 14 = .ok (.aload_n 0, 1) := by decide +kernel
theorem d_Mo_readModule_15 : decode b_Mo_readModule 15 = .ok (.ldc 51, 2) := by decide +kernel
theorem d_Mo_readModule_17 : decode b_Mo_readModule 17 = .ok (.invokevirtual 323, 3) := by decide +kernel
theorem d_Mo_readModule_20 : decode b_Mo_readModule 20 = .ok (.aload_n 0, 1) := by decide +kernel
theorem d_Mo_readModule_21 : decode b_Mo_readModule 21 = .ok (.ldc 53, 2) := by decide +kernel
theorem d_Mo_readModule_23 : decode b_Mo_readModule 23 = .ok (.invokevirtual 280, 3) := by decide +kernel
theorem d_Mo_readModule_26 : decode b_Mo_readModule 26 = .ok (.ifCond .ne 21, 3) := by decide +kernel
theorem d_Mo_readModule_29 : decode b_Mo_readModule 29 = .ok (.aload_n 0, 1) := by decide +kernel
theorem d_Mo_readModule_30 : decode b_Mo_readModule 30 = .ok (.ldc 55, 2) := by decide +kernel
theorem d_Mo_readModule_32 : decode b_Mo_readModule 32 = .ok (.invokevirtual 280, 3) := by decide +kernel
theorem d_Mo_readModule_35 : decode b_Mo_readModule 35 = .ok (.ifCond .ne 12, 3) := by decide +kernel
theorem d_Mo_readModule_38 : decode b_Mo_readModule 38 = .ok (.aload_n 0, 1) := by decide +kernel
theorem d_Mo_readModule_39 : decode b_Mo_readModule 39 = .ok (.ldc 57, 2) := by decide +kernel
theorem d_Mo_readModule_41 : decode b_Mo_readModule 41 = .ok (.invokevirtual 280, 3) := by decide +kernel
theorem d_Mo_readModule_44 : decode b_Mo_readModule 44 = .ok (.ifCond .eq 44, 3) := by decide +kernel
theorem d_Mo_readModule_47 : decode b_Mo_readModule 47 = .ok (.aload_n 1, 1) := by decide +kernel
theorem d_Mo_readModule_48 : decode b_Mo_readModule 48 = .ok (.aload_n 0, 1) := by decide +kernel
theorem d_Mo_readModule_49 : decode b_Mo_readModule 49 = .ok (.ldc 53, 2) := by decide +kernel
theorem d_Mo_readModule_51 : decode b_Mo_readModule 51 = .ok (.invokevirtual 280, 3) := by decide +kernel
theorem d_Mo_readModule_54 : decode b_Mo_readModule 54 = .ok (.ifCond .eq 7, 3) := by decide +kernel
theorem d_Mo_readModule_57 : decode b_Mo_readModule 57 = .ok (.iconst 0, 1) := by decide +kernel
theorem d_Mo_readModule_58 : decode b_Mo_readModule 58 = .ok (.goto 17, 3) := by decide +kernel
theorem d_Mo_readModule_61 : decode b_Mo_readModule 61 = .ok (.aload_n 0, 1) := by decide +kernel
theorem d_Mo_readModule_62 : decode b_Mo_readModule 62 = .ok (.ldc 55, 2) := by decide +kernel
theorem d_Mo_readModule_64 : decode b_Mo_readModule 64 = .ok (.invokevirtual 280, 3) := by decide +kernel
theorem d_Mo_readModule_67 : decode b_Mo_readModule 67 = .ok (.ifCond .eq 7, 3) := by decide +kernel
theorem d_Mo_readModule_70 : decode b_Mo_readModule 70 = .ok (.iconst 1, 1) := by decide +kernel
theorem d_Mo_readModule_71 : decode b_Mo_readModule 71 = .ok (.goto 4, 3) := by decide +kernel
theorem d_Mo_readModule_74 : decode b_Mo_readModule 74 = .ok (.iconst 2, 1) := by decide +kernel
theorem d_Mo_readModule_75 : decode b_Mo_readModule 75 = .ok (.putfield 327, 3) := by decide +kernel
theorem d_Mo_readModule_78 : decode b_Mo_readModule 78 = .ok (.aload_n 0, 1) := by decide +kernel
theorem d_Mo_readModule_79 : decode b_Mo_readModule 79 = .ok (.invokevirtual 288, 3) := by decide +kernel
theorem d_Mo_readModule_82 : decode b_Mo_readModule 82 = .ok (.aload_n 0, 1) := by decide +kernel
theorem d_Mo_readModule_83 : decode b_Mo_readModule 83 = .ok (.ldc 59, 2) := by decide +kernel
theorem d_Mo_readModule_85 : decode b_Mo_readModule 85 = .ok (.invokevirtual 323, 3) := by decide +kernel
theorem d_Mo_readModule_88 : decode b_Mo_readModule 88 = .ok (.aload_n 0, 1) := by decide +kernel
theorem d_Mo_readModule_89 : decode b_Mo_readModule 89 = .ok (.ldc 23, 2) := by decide +kernel
theorem d_Mo_readModule_91 : decode b_Mo_readModule 91 = .ok (.invokevirtual 323, 3) := by decide +kernel
theorem d_Mo_readModule_94 : decode b_Mo_readModule 94 = .ok (.aload_n 0, 1) := by decide +kernel
theorem d_Mo_readModule_95 : decode b_Mo_readModule 95 = .ok (.ldc 61, 2) := by decide +kernel
theorem d_Mo_readModule_97 : decode b_Mo_readModule 97 = .ok (.invokevirtual 323, 3) := by decide +kernel
theorem d_Mo_readModule_100 : decode b_Mo_readModule 100 = .ok (.aload_n 0, 1) := by decide +kernel
theorem d_Mo_readModule_101 : decode b_Mo_readModule 101 = .ok (.ldc 63, 2) := by decide +kernel
theorem d_Mo_readModule_103 : decode b_Mo_readModule 103 = .ok (.invokevirtual 280, 3) := by decide +kernel
theorem d_Mo_readModule_106 : decode b_Mo_readModule 106 = .ok (.ifCond .ne 138, 3) := by decide +kernel
theorem d_Mo_readModule_109 : decode b_Mo_readModule 109 = .ok (.aload_n 1, 1) := by decide +kernel
theorem d_Mo_readModule_110 : decode b_Mo_readModule 110 = .ok (.getfield 330, 3) := by decide +kernel
theorem d_Mo_readModule_113 : decode b_Mo_readModule 113 = .ok (.aload_n 1, 1) := by decide +kernel
theorem d_Mo_readModule_114 : decode b_Mo_readModule 114 = .ok (.getfield 331, 3) := by decide +kernel
theorem d_Mo_readModule_117 : decode b_Mo_readModule 117 = .ok (.arraylength, 1) := by decide +kernel
theorem d_Mo_readModule_118 : decode b_Mo_readModule 118 = .ok (.if_icmp .ne 76, 3) := by decide +kernel
theorem d_Mo_readModule_121 : decode b_Mo_readModule 121 = .ok (.iconst 2, 1) := by decide +kernel
theorem d_Mo_readModule_122 : decode b_Mo_readModule 122 = .ok (.aload_n 1, 1) := by decide +kernel
theorem d_Mo_readModule_123 : decode b_Mo_readModule 123 = .ok (.getfield 330, 3) := by decide +kernel
theorem d_Mo_readModule_126 : decode b_Mo_readModule 126 = .ok (.imul, 1) := by decide +kernel
theorem d_Mo_readModule_127 : decode b_Mo_readModule 127 = .ok (.anewarray 21, 3) := by decide +kernel
theorem d_Mo_readModule_130 : decode b_Mo_readModule 130 = .ok (.astore_n 3, 1) := by decide +kernel
theorem d_Mo_readModule_131 : decode b_Mo_readModule 131 = .ok (.iconst 2, 1) := by decide +kernel
theorem d_Mo_readModule_132 : decode b_Mo_readModule 132 = .ok (.aload_n 1, 1) := by decide +kernel
theorem d_Mo_readModule_133 : decode b_Mo_readModule 133 = .ok (.getfield 330, 3) := by decide +kernel
theorem d_Mo_readModule_136 : decode b_Mo_readModule 136 = .ok (.imul, 1) := by decide +kernel
theorem d_Mo_readModule_137 : decode b_Mo_readModule 137 = .ok (.anewarray 153, 3) := by decide +kernel
theorem d_Mo_readModule_140 : decode b_Mo_readModule 140 = .ok (.astore 4, 2) := by decide +kernel
theorem d_Mo_readModule_142 : decode b_Mo_readModule 142 = .ok (.iconst 0, 1) := by decide +kernel
theorem d_Mo_readModule_143 : decode b_Mo_readModule 143 = .ok (.istore 5, 2) := by decide +kernel
theorem d_Mo_readModule_145 : decode b_Mo_readModule 145 = .ok (.iload 5, 2) := by decide +kernel
theorem d_Mo_readModule_147 : decode b_Mo_readModule 147 = .ok (.aload_n 1, 1) := by decide +kernel
theorem d_Mo_readModule_148 : decode b_Mo_readModule 148 = .ok (.getfield 330, 3) := by decide +kernel
theorem d_Mo_readModule_151 : decode b_Mo_readModule 151 = .ok (.if_icmp .ge 32, 3) := by decide +kernel
theorem d_Mo_readModule_154 : decode b_Mo_readModule 154 = .ok (.aload_n 3, 1) := by decide +kernel
theorem d_Mo_readModule_155 : decode b_Mo_readModule 155 = .ok (.iload 5, 2) := by decide +kernel
theorem d_Mo_readModule_157 : decode b_Mo_readModule 157 = .ok (.aload_n 1, 1) := by decide +kernel
theorem d_Mo_readModule_158 : decode b_Mo_readModule 158 = .ok (.getfield 331, 3) := by decide +kernel
theorem d_Mo_readModule_161 : decode b_Mo_readModule 161 = .ok (.iload 5, 2) := by decide +kernel
theorem d_Mo_readModule_163 : decode b_Mo_readModule 163 = .ok (.aaload, 1) := by decide +kernel
theorem d_Mo_readModule_164 : decode b_Mo_readModule 164 = .ok (.aastore, 1) := by decide +kernel
theorem d_Mo_readModule_165 : decode b_Mo_readModule 165 = .ok (.aload 4, 2) := by decide +kernel
theorem d_Mo_readModule_167 : decode b_Mo_readModule 167 = .ok (.iload 5, 2) := by decide +kernel
theorem d_Mo_readModule_169 : decode b_Mo_readModule 169 = .ok (.aload_n 1, 1) := by decide +kernel
theorem d_Mo_readModule_170 : decode b_Mo_readModule 170 = .ok (.getfield 334, 3) := by decide +kernel
theorem d_Mo_readModule_173 : decode b_Mo_readModule 173 = .ok (.iload 5, 2) := by decide +kernel
theorem d_Mo_readModule_175 : decode b_Mo_readModule 175 = .ok (.aaload, 1) := by decide +kernel
theorem d_Mo_readModule_176 : decode b_Mo_readModule 176 = .ok (.aastore, 1) := by decide +kernel
theorem d_Mo_readModule_177 : decode b_Mo_readModule 177 = .ok (.iinc 5 1, 3) := by decide +kernel
theorem d_Mo_readModule_180 : decode b_Mo_readModule 180 = .ok (.goto (-35), 3) := by decide +kernel
theorem d_Mo_readModule_183 : decode b_Mo_readModule 183 = .ok (.aload_n 1, 1) := by decide +kernel
theorem d_Mo_readModule_184 : decode b_Mo_readModule 184 = .ok (.aload_n 3, 1) := by decide +kernel
theorem d_Mo_readModule_185 : decode b_Mo_readModule 185 = .ok (.putfield 331, 3) := by decide +kernel
theorem d_Mo_readModule_188 : decode b_Mo_readModule 188 = .ok (.aload_n 1, 1) := by decide +kernel
theorem d_Mo_readModule_189 : decode b_Mo_readModule 189 = .ok (.aload 4, 2) := by decide +kernel
theorem d_Mo_readModule_191 : decode b_Mo_readModule 191 = .ok (.putfield 334, 3) := by decide +kernel
theorem d_Mo_readModule_194 : decode b_Mo_readModule 194 = .ok (.aload_n 1, 1) := by decide +kernel
theorem d_Mo_readModule_195 : decode b_Mo_readModule 195 = .ok (.getfield 331, 3) := by decide +kernel
theorem d_Mo_readModule_198 : decode b_Mo_readModule 198 = .ok (.aload_n 1, 1) := by decide +kernel
theorem d_Mo_readModule_199 : decode b_Mo_readModule 199 = .ok (.getfield 330, 3) := by decide +kernel
theorem d_Mo_readModule_202 : decode b_Mo_readModule 202 = .ok (.aload_n 0, 1) := by decide +kernel
theorem d_Mo_readModule_203 : decode b_Mo_readModule 203 = .ok (.iconst 3, 1) := by decide +kernel
theorem d_Mo_readModule_204 : decode b_Mo_readModule 204 = .ok (.invokevirtual 319, 3) := by decide +kernel
theorem d_Mo_readModule_207 : decode b_Mo_readModule 207 = .ok (.aastore, 1) := by decide +kernel
theorem d_Mo_readModule_208 : decode b_Mo_readModule 208 = .ok (.aload_n 0, 1) := by decide +kernel
theorem d_Mo_readModule_209 : decode b_Mo_readModule 209 = .ok (.ldc 23, 2) := by decide +kernel
theorem d_Mo_readModule_211 : decode b_Mo_readModule 211 = .ok (.invokevirtual 323, 3) := by decide +kernel
theorem d_Mo_readModule_214 : decode b_Mo_readModule 214 = .ok (.aload_n 1, 1) := by decide +kernel
theorem d_Mo_readModule_215 : decode b_Mo_readModule 215 = .ok (.getfield 334, 3) := by decide +kernel
theorem d_Mo_readModule_218 : decode b_Mo_readModule 218 = .ok (.aload_n 1, 1) := by decide +kernel
theorem d_Mo_readModule_219 : decode b_Mo_readModule 219 = .ok (.getfield 330, 3) := by decide +kernel
theorem d_Mo_readModule_222 : decode b_Mo_readModule 222 = .ok (.aload_n 0, 1) := by decide +kernel
theorem d_Mo_readModule_223 : decode b_Mo_readModule 223 = .ok (.aload_n 1, 1) := by decide +kernel
theorem d_Mo_readModule_224 : decode b_Mo_readModule 224 = .ok (.getfield 327, 3) := by decide +kernel
theorem d_Mo_readModule_227 : decode b_Mo_readModule 227 = .ok (.invokevirtual 337, 3) := by decide +kernel
theorem d_Mo_readModule_230 : decode b_Mo_readModule 230 = .ok (.aastore, 1) := by decide +kernel
theorem d_Mo_readModule_231 : decode b_Mo_readModule 231 = .ok (.aload_n 1, 1) := by decide +kernel
theorem d_Mo_readModule_232 : decode b_Mo_readModule 232 = .ok (.dup, 1) := by decide +kernel
theorem d_Mo_readModule_233 : decode b_Mo_readModule 233 = .ok (.getfield 330, 3) := by decide +kernel
theorem d_Mo_readModule_236 : decode b_Mo_readModule 236 = .ok (.iconst 1, 1) := by decide +kernel
theorem d_Mo_readModule_237 : decode b_Mo_readModule 237 = .ok (.iadd, 1) := by decide +kernel
theorem d_Mo_readModule_238 : decode b_Mo_readModule 238 = .ok (.putfield 330, 3) := by decide +kernel
theorem d_Mo_readModule_241 : decode b_Mo_readModule 241 = .ok (.goto (-141), 3) := by decide +kernel
theorem d_Mo_readModule_244 : decode b_Mo_readModule 244 = .ok (.aload_n 0, 1) := by decide +kernel
theorem d_Mo_readModule_245 : decode b_Mo_readModule 245 = .ok (.invokevirtual 288, 3) := by decide +kernel
theorem d_Mo_readModule_248 : decode b_Mo_readModule 248 = .ok (.aload_n 0, 1) := by decide +kernel
theorem d_Mo_readModule_249 : decode b_Mo_readModule 249 = .ok (.aload_n 0, 1) := by decide +kernel
theorem d_Mo_readModule_250 : decode b_Mo_readModule 250 = .ok (.getfield 234, 3) := by decide +kernel
theorem d_Mo_readModule_253 : decode b_Mo_readModule 253 = .ok (.ifCond .ne 7, 3) := by decide +kernel
theorem d_Mo_readModule_256 : decode b_Mo_readModule 256 = .ok (.iconst 1, 1) := by decide +kernel
theorem d_Mo_readModule_257 : decode b_Mo_readModule 257 = .ok (.goto 4, 3) := by decide +kernel
theorem d_Mo_readModule_260 : decode b_Mo_readModule 260 = .ok (.iconst 0, 1) := by decide +kernel
theorem d_Mo_readModule_261 : decode b_Mo_readModule 261 = .ok (.invokevirtual 284, 3) := by decide +kernel
theorem d_Mo_readModule_264 : decode b_Mo_readModule 264 = .ok (.aload_n 1, 1) := by decide +kernel
theorem d_Mo_readModule_265 : decode b_Mo_readModule 265 = .ok (.areturn, 1) := by decide +kernel
def y_Mo_read : MethodName := ⟨"SyntaxForgeModel", "read", "()I"⟩
abbrev b_Mo_read : ByteArray := prog_15_method_164_code
abbrev cd_Mo_read : Cond := .codeWith y_Mo_read b_Mo_read 3 (some .int) [(12, 22, 25, 277), (12, 22, 42, 471)]
abbrev ws_Mo_read : List Cond := cd_Mo_read :: tw_tbl
theorem k_Mo_read : cd_Mo_read ∈ tw_tbl := tw_t10 (List.mem_of_getElem? (i := 231) rfl) rfl
theorem d_Mo_read_0 : decode b_Mo_read 0 = .ok (.aload_n 0, 1) := by decide +kernel
theorem d_Mo_read_1 : decode b_Mo_read 1 = .ok (.iconst 0, 1) := by decide +kernel
theorem d_Mo_read_2 : decode b_Mo_read 2 = .ok (.putfield 177, 3) := by decide +kernel
theorem d_Mo_read_5 : decode b_Mo_read 5 = .ok (.aload_n 0, 1) := by decide +kernel
theorem d_Mo_read_6 : decode b_Mo_read 6 = .ok (.iconst 0, 1) := by decide +kernel
theorem d_Mo_read_7 : decode b_Mo_read 7 = .ok (.invokevirtual 1057, 3) := by decide +kernel
theorem d_Mo_read_10 : decode b_Mo_read 10 = .ok (.aconst_null, 1) := by decide +kernel
theorem d_Mo_read_11 : decode b_Mo_read 11 = .ok (.astore_n 1, 1) := by decide +kernel
theorem d_Mo_read_12 : decode b_Mo_read 12 = .ok (.aload_n 0, 1) := by decide +kernel
theorem d_Mo_read_13 : decode b_Mo_read 13 = .ok (.invokevirtual 1060, 3) := by decide +kernel
theorem d_Mo_read_16 : decode b_Mo_read 16 = .ok (.astore_n 1, 1) := by decide +kernel
theorem d_Mo_read_17 : decode b_Mo_read 17 = .ok (.aload_n 0, 1) := by decide +kernel
theorem d_Mo_read_18 : decode b_Mo_read 18 = .ok (.aload_n 1, 1) := by decide +kernel
theorem d_Mo_read_19 : decode b_Mo_read 19 = .ok (.invokevirtual 1064, 3) := by decide +kernel
theorem d_Mo_read_22 : decode b_Mo_read 22 = .ok (.goto 26, 3) := by decide +kernel
theorem d_Mo_read_25 : decode b_Mo_read 25 = .ok (.astore_n 2, 1) := by decide +kernel
theorem d_Mo_read_26 : decode b_Mo_read 26 = .ok (.aload_n 0, 1) := by decide +kernel
theorem d_Mo_read_27 : decode b_Mo_read 27 = .ok (.aload_n 0, 1) := by decide +kernel
theorem d_Mo_read_28 : decode b_Mo_read 28 = .ok (.getfield 231, 3) := by decide +kernel
theorem d_Mo_read_31 : decode b_Mo_read 31 = .ok (.putfield 17, 3) := by decide +kernel
theorem d_Mo_read_34 : decode b_Mo_read 34 = .ok (.aload_n 0, 1) := by decide +kernel
theorem d_Mo_read_35 : decode b_Mo_read 35 = .ok (.iconst 1, 1) := by decide +kernel
theorem d_Mo_read_36 : decode b_Mo_read 36 = .ok (.putfield 177, 3) := by decide +kernel
theorem d_Mo_read_39 : decode b_Mo_read 39 = .ok (.goto 9, 3) := by decide +kernel
theorem d_Mo_read_42 : decode b_Mo_read 42 = .ok (.astore_n 2, 1) := by decide +kernel
theorem d_Mo_read_43 : decode b_Mo_read 43 = .ok (.aload_n 0, 1) := by decide +kernel
theorem d_Mo_read_44 : decode b_Mo_read 44 = .ok (.iconst 2, 1) := by decide +kernel
theorem d_Mo_read_45 : decode b_Mo_read 45 = .ok (.putfield 177, 3) := by decide +kernel
theorem d_Mo_read_48 : decode b_Mo_read 48 = .ok (.aload_n 0, 1) := by decide +kernel
theorem d_Mo_read_49 : decode b_Mo_read 49 = .ok (.iconst 0, 1) := by decide +kernel
theorem d_Mo_read_50 : decode b_Mo_read 50 = .ok (.putfield 180, 3) := by decide +kernel
theorem d_Mo_read_53 : decode b_Mo_read 53 = .ok (.aload_n 0, 1) := by decide +kernel
theorem d_Mo_read_54 : decode b_Mo_read 54 = .ok (.getfield 177, 3) := by decide +kernel
theorem d_Mo_read_57 : decode b_Mo_read 57 = .ok (.ifCond .ne 8, 3) := by decide +kernel
theorem d_Mo_read_60 : decode b_Mo_read 60 = .ok (.aload_n 0, 1) := by decide +kernel
theorem d_Mo_read_61 : decode b_Mo_read 61 = .ok (.aload_n 1, 1) := by decide +kernel
theorem d_Mo_read_62 : decode b_Mo_read 62 = .ok (.putfield 1068, 3) := by decide +kernel
theorem d_Mo_read_65 : decode b_Mo_read 65 = .ok (.aload_n 0, 1) := by decide +kernel
theorem d_Mo_read_66 : decode b_Mo_read 66 = .ok (.aload_n 0, 1) := by decide +kernel
theorem d_Mo_read_67 : decode b_Mo_read 67 = .ok (.getfield 1068, 3) := by decide +kernel
theorem d_Mo_read_70 : decode b_Mo_read 70 = .ok (.putfield 474, 3) := by decide +kernel
theorem d_Mo_read_73 : decode b_Mo_read 73 = .ok (.aload_n 0, 1) := by decide +kernel
theorem d_Mo_read_74 : decode b_Mo_read 74 = .ok (.getfield 177, 3) := by decide +kernel
theorem d_Mo_read_77 : decode b_Mo_read 77 = .ok (.ifCond .le 7, 3) := by decide +kernel
theorem d_Mo_read_80 : decode b_Mo_read 80 = .ok (.iconst 0, 1) := by decide +kernel
theorem d_Mo_read_81 : decode b_Mo_read 81 = .ok (.goto 7, 3) := by decide +kernel
theorem d_Mo_read_84 : decode b_Mo_read 84 = .ok (.aload_n 1, 1) := by decide +kernel
theorem d_Mo_read_85 : decode b_Mo_read 85 = .ok (.getfield 330, 3) := by decide +kernel
theorem d_Mo_read_88 : decode b_Mo_read 88 = .ok (.ireturn, 1) := by decide +kernel
set_option maxHeartbeats 4000000 in
set_option maxRecDepth 100000 in
theorem c_MoMod_init (l : Launch) (dC : Nat → ClassId) (dI : Nat → Nat → Nat) (sz : Nat) (h0 : Nat) : Met l y_MoMod_init ws_MoMod_init ({ frames := 1, cells := 2, slots := 16, locals := 12 }) (va_Pc [.ref h0] (fun U => U.heap.size = sz ∧ va_P (dC, dI) classes [(h0, .inr (13, [.null, .null, .int 0, .int 0]))] U.heap ∧ va_K (dC, dI) classes [] U ∧ va_D (fun _ => True) [(h0, .inr (13, [.null, .null, .int 0, .int 0]))] ∧ va_AO "java/lang/String" U ∧ va_AO "SyntaxForgeModel$Type" U)) (va_Qv (fun _ : Unit => True) (fun _ t => ∃ (d1 : Nat) (d2 : Nat), va_P (dC, dI) classes [(h0, .inr (13, [.ref d1, .ref d2, .int 0, .int 0]))] t.heap ∧ va_K (dC, dI) classes [] t ∧ va_D (va_A [(h0, .inr (13, [.null, .null, .int 0, .int 0]))] sz) [(h0, .inr (13, [.ref d1, .ref d2, .int 0, .int 0]))]) (va_A [(h0, .inr (13, [.null, .null, .int 0, .int 0]))] sz)) 2 16 (va_A [(h0, .inr (13, [.null, .null, .int 0, .int 0]))] sz) := by
  refine Met.ofW (cc := b_MoMod_init) (maxL := 1) (ret := none) (by decide) rfl ?_
  intro p e s m args below meth c s₁ B hml hv
  obtain ⟨rfl, hsz, hP, hK, hD0, hx0, hx1⟩ := hv
  have hx := B.exec
  have hb := B.bytes
  have hr := B.returns
  have hts := atoms_spec (ws := ws_MoMod_init) B.pre
  have htw : ∀ w ∈ tw_tbl, w.before [.ref h0].toArray s = true := fun w h => hts w (List.mem_cons_of_mem _ h)
  have hown : s.vm.findClass R_MoMod = some m.cls := findClass_of_methodNamed B.named
  have hlocks := B.notSynchronized
  have hin : meth.name = "<init>" := (name_of_methodNamed B.named B.method).1
  subst hsz
  have hD := hD0.self (sz := s.heap.size)
  generalize hAe : va_A [(h0, .inr (13, [.null, .null, .int 0, .int 0]))] s.heap.size = A at hD hx0 hx1 ⊢
  have hA : ∀ q : Nat, s.heap.size ≤ q → A q := fun q h => by rw [← hAe]; exact Or.inr h
  have hS : va_S A s.heap s.heap [] := va_S.rf
  have hP : va_P (dC, dI) classes [(h0, .inr (13, [.null, .null, .int 0, .int 0]))] s.heap := hP
  have hl := lv_entry ([.ref h0]) (n := 1) (Nat.le_of_ble_eq_true rfl)
  rw [lg_entry_eq]
  generalize (lg_sl ([.ref h0]) ++ List.replicate (1 - (lg_sl ([.ref h0])).length) Slot.unset).toArray = ls at hl ⊢
  have hl : lv_has ls 1 [(0, .ref h0)] := hl
  refine lv_aload_n hx hb d_MoMod_init_0 rfl (lv_at hl 0 rfl) ?_
  refine W.objInit hx hb hown (htw _ wd_12_53) (htw _ wd_1_51) (htw _ wd_1_52) rfl (by rw [hml]; exact hl.1) rfl d_MoMod_init_1 (Nat.le_of_ble_eq_true rfl) (Nat.le_of_ble_eq_true rfl) ?_
  refine W.eq (g2 := F0 m 4 ls []) rfl ?_
  refine lv_aload_n hx hb d_MoMod_init_4 rfl (lv_at hl 0 rfl) ?_
  refine lv_bipush (v := 8) hx hb d_MoMod_init_5 (by decide) ?_
  have hc0 : 0 + 1 ≤ 2 := by omega
  have hs0 : 0 + 8 ≤ 16 := by omega
  refine va_newq (C := "java/lang/String") hx hb hown (htw _ wd_12_54) hx0 hK hP hD hS hA (by decide) (by decide) (by decide) hc0 hs0 d_MoMod_init_7 (fun q1 cA2 H hK hP hD hS => ?_)
  have hP : va_P (dC, dI) classes [(h0, .inr (13, [.null, .null, .int 0, .int 0])), (q1, .inl (cA2, 8, .inr (.inr (.inr (.inr ((fun _ => none)))))))] H := hP
  have hD : va_D A [(h0, .inr (13, [.null, .null, .int 0, .int 0])), (q1, .inl (cA2, 8, .inr (.inr (.inr (.inr ((fun _ => none)))))))] := hD
  refine va_put (D := (dC, dI)) (ci := 13) (v := .ref q1) (ty := .array (.object "java/lang/String")) (C := R_MoMod) (T := F_MoMod) (N := 4) hx hb htw i_MoMod t_MoMod t_MoMod_ok n_MoMod hown hK hP hD hS 0 rfl rfl 0 (by decide) (htw _ wd_12_56) (fun _ h9 => h9) rfl (by decide +kernel) rfl rfl (Nat.le_of_ble_eq_true rfl) d_MoMod_init_10 (fun H locs hP hD hS => ?_)
  have hP : va_P (dC, dI) classes [(h0, .inr (13, [.ref q1, .null, .int 0, .int 0])), (q1, .inl (cA2, 8, .inr (.inr (.inr (.inr ((fun _ => none)))))))] H := hP
  have hD : va_D A [(h0, .inr (13, [.ref q1, .null, .int 0, .int 0])), (q1, .inl (cA2, 8, .inr (.inr (.inr (.inr ((fun _ => none)))))))] := hD
  refine lv_aload_n hx hb d_MoMod_init_13 rfl (lv_at hl 0 rfl) ?_
  refine lv_bipush (v := 8) hx hb d_MoMod_init_14 (by decide) ?_
  have hc0 : 1 + 1 ≤ 2 := by omega
  have hs0 : 8 + 8 ≤ 16 := by omega
  refine va_newq (C := "SyntaxForgeModel$Type") hx hb hown (htw _ wd_12_55) hx1 hK hP hD hS hA (by decide) (by decide) (by decide) hc0 hs0 d_MoMod_init_16 (fun q3 cA4 H hK hP hD hS => ?_)
  have hP : va_P (dC, dI) classes [(h0, .inr (13, [.ref q1, .null, .int 0, .int 0])), (q1, .inl (cA2, 8, .inr (.inr (.inr (.inr ((fun _ => none))))))), (q3, .inl (cA4, 8, .inr (.inr (.inr (.inr ((fun _ => none)))))))] H := hP
  have hD : va_D A [(h0, .inr (13, [.ref q1, .null, .int 0, .int 0])), (q1, .inl (cA2, 8, .inr (.inr (.inr (.inr ((fun _ => none))))))), (q3, .inl (cA4, 8, .inr (.inr (.inr (.inr ((fun _ => none)))))))] := hD
  refine va_put (D := (dC, dI)) (ci := 13) (v := .ref q3) (ty := .array (.object "SyntaxForgeModel$Type")) (C := R_MoMod) (T := F_MoMod) (N := 4) hx hb htw i_MoMod t_MoMod t_MoMod_ok n_MoMod hown hK hP hD hS 0 rfl rfl 1 (by decide) (htw _ wd_12_58) (fun _ h9 => h9) rfl (by decide +kernel) rfl rfl (Nat.le_of_ble_eq_true rfl) d_MoMod_init_19 (fun H locs hP hD hS => ?_)
  have hP : va_P (dC, dI) classes [(h0, .inr (13, [.ref q1, .ref q3, .int 0, .int 0])), (q1, .inl (cA2, 8, .inr (.inr (.inr (.inr ((fun _ => none))))))), (q3, .inl (cA4, 8, .inr (.inr (.inr (.inr ((fun _ => none)))))))] H := hP
  have hD : va_D A [(h0, .inr (13, [.ref q1, .ref q3, .int 0, .int 0])), (q1, .inl (cA2, 8, .inr (.inr (.inr (.inr ((fun _ => none))))))), (q3, .inl (cA4, 8, .inr (.inr (.inr (.inr ((fun _ => none)))))))] := hD
  have hP9 := hP.sub (ws' := [(h0, .inr (13, [.ref q1, .ref q3, .int 0, .int 0]))]) [0] rfl
  have hD9 := hD.sub (ws' := [(h0, .inr (13, [.ref q1, .ref q3, .int 0, .int 0]))]) [0] (by decide) rfl
  have hK9 := hK.sub (tys' := []) [] rfl
  refine W.widen (k := 2) (n := 16) (by omega) (by omega) ?_
  exact W.vret hx hb hr (fun t ht hW => ⟨⟨(), rfl, trivial, q1, q3, by rw [ht]; exact hP9, va_K.moved hW.alike hK9, hD9⟩, hS.F ht⟩) hS.2.2 d_MoMod_init_22
set_option maxHeartbeats 4000000 in
set_option maxRecDepth 100000 in
theorem x_Mo_take (l : Launch) (hNT : tk_NT l) (dC : Nat → ClassId) (dI : Nat → Nat → Nat) (sz : Nat) (y0 : Nat) : tk_Met l y_Mo_take ws_Mo_take ({ frames := 7, cells := 1, slots := 6, locals := 111 }) (va_Pc [.ref y0, .int 3] (fun U => U.heap.size = sz ∧ va_P (dC, dI) classes [] U.heap ∧ va_K (dC, dI) classes [] U ∧ va_D (fun _ => True) [] ∧ va_Zq "java/lang/Throwable" "UNASSIGNED_STACK" "[Ljava/lang/StackTraceElement;" (va_A [] sz) U U.heap ∧ va_Zq "java/lang/Throwable" "SUPPRESSED_SENTINEL" "Ljava/util/List;" (va_A [] sz) U U.heap ∧ tz_LS "java/lang/Throwable" "UNASSIGNED_STACK" "[Ljava/lang/StackTraceElement;" (va_A [] sz) U U.heap ∧ tz_LS "java/lang/Throwable" "SUPPRESSED_SENTINEL" "Ljava/util/List;" (va_A [] sz) U U.heap ∧ va_O "SyntaxForgeModel" y0 (va_A [] sz) U U.heap ∧ va_OF "SyntaxForgeModel" "token" "I" (.int 0) y0 (va_A [] sz) U U.heap)) (tk_Qx "java/lang/IllegalArgumentException") 1 6 (va_A [] sz) := by
  refine tk_Met.ofW (cc := b_Mo_take) (maxL := 3) (ret := (some (.object "java/lang/String"))) (by decide) rfl ?_
  intro p e s m args below meth c s₁ B hml hv hnoh
  obtain ⟨rfl, hsz, hP, hK, hD0, hx0, hx1, hx2, hx3, hx4, hx5⟩ := hv
  have hx := B.exec
  have hb := B.bytes
  have hr := B.returns
  have hts := atoms_spec (ws := ws_Mo_take) B.pre
  have htw : ∀ w ∈ tw_tbl, w.before [.ref y0, .int 3].toArray s = true := fun w h => hts w (List.mem_cons_of_mem _ h)
  have hown : s.vm.findClass R_Mo = some m.cls := findClass_of_methodNamed B.named
  have hlocks := B.notSynchronized
  have hin : meth.name = "take" := (name_of_methodNamed B.named B.method).1
  subst hsz
  have hP0 := hP
  have hD := hD0.self (sz := s.heap.size)
  generalize hAe : va_A [] s.heap.size = A at hD hx0 hx1 hx2 hx3 hx4 hx5 ⊢
  have hA : ∀ q : Nat, s.heap.size ≤ q → A q := fun q h => by rw [← hAe]; exact Or.inr h
  have hS : va_S A s.heap s.heap [] := va_S.rf
  have hP : va_P (dC, dI) classes [] s.heap := hP
  have hl := lv_entry ([.ref y0, .int 3]) (n := 3) (Nat.le_of_ble_eq_true rfl)
  rw [lg_entry_eq]
  generalize (lg_sl ([.ref y0, .int 3]) ++ List.replicate (3 - (lg_sl ([.ref y0, .int 3])).length) Slot.unset).toArray = ls at hl ⊢
  have hl : lv_has ls 3 [(0, .ref y0), (1, .int 3)] := hl
  refine lv_aload_n hx hb d_Mo_take_0 rfl (lv_at hl 0 rfl) ?_
  refine lv_aload_n hx hb d_Mo_take_1 rfl (lv_at hl 0 rfl) ?_
  refine vk_getf hx hb hx5 hS hown (htw _ wd_10_59) (fun _ h9 => h9) d_Mo_take_2 ?_
  refine lv_iload_n hx hb d_Mo_take_5 rfl (lv_at hl 1 rfl) ?_
  refine lv_icmp_ne (tgt := 13) hx hb d_Mo_take_6 rfl (fun _ => ?_) (fun hn => absurd hn (by decide))
  refine lv_iconst (v := 0) hx hb d_Mo_take_13 (by decide) ?_
  have hc0 : 0 + 1 ≤ 1 := by omega
  have hs0 : 0 + 6 ≤ 6 := by omega
  have hPc := hP.sub (ws' := []) [] rfl
  have hDc := hD.sub (ws' := []) [] (by decide) rfl
  have hKc := hK.sub (tys' := []) [] rfl
  have hFc := va_free (wc := []) hD hS hA [] rfl
  exact tk_pass (tk_runV (As := [.int 0]) (rest := []) ⟨hx, hb, hml, hown, htw⟩ (x_Mo_can l hNT dC dI s.heap.size y0) (tk_cw (Ts := tw_tbl) (cwV 1 htw (tw_V wd_12_76 wd_12_78 wp_10_11 wd_1_21 k_Mo_can) rfl rfl rfl (by decide +kernel) ⟨Nat.le_of_ble_eq_true rfl, Nat.le_of_ble_eq_true rfl⟩)) ⟨fun a U g mk q => by obtain ⟨q0, q1, qP, qK, qD, hq0, hq1, hq2, hq3⟩ := q; exact ⟨q0, q1, qP, va_K.moved (u := U) (U := U.calling g mk a) (Vm.Alike.refl U.vm) qK, qD, va_Zq.moved (u := U) (U := U.calling g mk a) (Vm.Alike.refl U.vm) hq0, va_Zq.moved (u := U) (U := U.calling g mk a) (Vm.Alike.refl U.vm) hq1, tz_LS.moved (u := U) (U := U.calling g mk a) (Vm.Alike.refl U.vm) hq2, tz_LS.moved (u := U) (U := U.calling g mk a) (Vm.Alike.refl U.vm) hq3⟩, (by obtain ⟨c9, g1, g2, g3, -⟩ := va_O.kept hx4 hS.2.1; exact ⟨c9, g1, g2, g3⟩), fun U hU hW => ⟨rfl, by rw [hU], by rw [hU]; exact hPc, va_K.moved hW.alike hKc, hDc.weaken (fun _ _ _ _ => trivial), by rw [hU]; exact va_Zq.moved hW.alike ((va_Zq.kept hx0 hS.2.1).narrow hFc), by rw [hU]; exact va_Zq.moved hW.alike ((va_Zq.kept hx1 hS.2.1).narrow hFc), by rw [hU]; exact tz_LS.moved hW.alike ((tz_LS.kept hx2 hS.2.1).narrow hFc), by rw [hU]; exact tz_LS.moved hW.alike ((tz_LS.kept hx3 hS.2.1).narrow hFc)⟩⟩ rfl rfl hl.1 rfl (lv_room (Nat.le_of_ble_eq_true rfl)) d_Mo_take_14 ⟨hc0, hs0⟩) hnoh hlocks hS.2.2 hFc (fun x9 st9 t9 u9 h9 hw9 hq9 e9 e8 w9 => tk_qx hw9 hq9 e9)
set_option maxHeartbeats 4000000 in
set_option maxRecDepth 100000 in
theorem x_Mo_readModule (l : Launch) (hNT : tk_NT l) (dC : Nat → ClassId) (dI : Nat → Nat → Nat) (sz : Nat) (y0 : Nat) : tk_Met l y_Mo_readModule ws_Mo_readModule ({ frames := 8, cells := 4, slots := 26, locals := 133 }) (va_Pc [.ref y0] (fun U => U.heap.size = sz ∧ va_P (dC, dI) classes [] U.heap ∧ va_K (dC, dI) classes [] U ∧ va_D (fun _ => True) [] ∧ va_Zq "java/lang/Throwable" "UNASSIGNED_STACK" "[Ljava/lang/StackTraceElement;" (va_A [] sz) U U.heap ∧ va_Zq "java/lang/Throwable" "SUPPRESSED_SENTINEL" "Ljava/util/List;" (va_A [] sz) U U.heap ∧ tz_LS "java/lang/Throwable" "UNASSIGNED_STACK" "[Ljava/lang/StackTraceElement;" (va_A [] sz) U U.heap ∧ tz_LS "java/lang/Throwable" "SUPPRESSED_SENTINEL" "Ljava/util/List;" (va_A [] sz) U U.heap ∧ va_O "SyntaxForgeModel" y0 (va_A [] sz) U U.heap ∧ va_OF "SyntaxForgeModel" "token" "I" (.int 0) y0 (va_A [] sz) U U.heap ∧ va_AO "java/lang/String" U ∧ va_AO "SyntaxForgeModel$Type" U ∧ va_Nw (.methodLinkNest "SyntaxForgeModel" 318 ⟨"SyntaxForgeModel$Module", "<init>", "()V"⟩ "SyntaxForgeModel") U)) (tk_Qx "java/lang/IllegalArgumentException") 4 26 (va_A [] sz) := by
  refine tk_Met.ofW (cc := b_Mo_readModule) (maxL := 6) (ret := (some (.object "SyntaxForgeModel$Module"))) (by decide) rfl ?_
  intro p e s m args below meth c s₁ B hml hv hnoh
  obtain ⟨rfl, hsz, hP, hK, hD0, hx0, hx1, hx2, hx3, hx4, hx5, hx6, hx7, hx8⟩ := hv
  have hx := B.exec
  have hb := B.bytes
  have hr := B.returns
  have hts := atoms_spec (ws := ws_Mo_readModule) B.pre
  have htw : ∀ w ∈ tw_tbl, w.before [.ref y0].toArray s = true := fun w h => hts w (List.mem_cons_of_mem _ h)
  have hown : s.vm.findClass R_Mo = some m.cls := findClass_of_methodNamed B.named
  have hlocks := B.notSynchronized
  have hin : meth.name = "readModule" := (name_of_methodNamed B.named B.method).1
  subst hsz
  have hP0 := hP
  have hD := hD0.self (sz := s.heap.size)
  generalize hAe : va_A [] s.heap.size = A at hD hx0 hx1 hx2 hx3 hx4 hx5 hx6 hx7 hx8 ⊢
  have hA : ∀ q : Nat, s.heap.size ≤ q → A q := fun q h => by rw [← hAe]; exact Or.inr h
  have hS : va_S A s.heap s.heap [] := va_S.rf
  have hP : va_P (dC, dI) classes [] s.heap := hP
  have hl := lv_entry ([.ref y0]) (n := 6) (Nat.le_of_ble_eq_true rfl)
  rw [lg_entry_eq]
  generalize (lg_sl ([.ref y0]) ++ List.replicate (6 - (lg_sl ([.ref y0])).length) Slot.unset).toArray = ls at hl ⊢
  have hl : lv_has ls 6 [(0, .ref y0)] := hl
  have hc0 : 0 + 1 ≤ 4 := by omega
  have hs0 : 0 + 4 ≤ 26 := by omega
  refine va_new (ci := 13) (fs := [.null, .null, .int 0, .int 0]) (C := R_MoMod) (T := F_MoMod) (N := 4) hx hb htw i_MoMod t_MoMod t_MoMod_ok hown (htw _ wd_12_48) (htw _ wd_12_49) (htw _ wd_1_40) hK hP hD hS hA rfl (by decide) hc0 hs0 d_Mo_readModule_0 (fun q1 H hP hD hS => ?_)
  have hP : va_P (dC, dI) classes [(q1, .inr (13, [.null, .null, .int 0, .int 0]))] H := hP
  have hD : va_D A [(q1, .inr (13, [.null, .null, .int 0, .int 0]))] := hD
  refine lv_dup hx hb d_Mo_readModule_3 rfl ?_
  have hc0 : 1 + 2 ≤ 4 := by omega
  have hs0 : 4 + 16 ≤ 26 := by omega
  have hPc := hP.sub (ws' := [(q1, .inr (13, [.null, .null, .int 0, .int 0]))]) [0] rfl
  have hDc := hD.sub (ws' := [(q1, .inr (13, [.null, .null, .int 0, .int 0]))]) [0] (by decide) rfl
  have hKc := hK.sub (tys' := []) [] rfl
  have hFc := va_free (wc := [(q1, .inr (13, [.null, .null, .int 0, .int 0]))]) hD hS hA [0] rfl
  refine va_callv (va_runIN (As := []) (rest := [.ref q1]) ⟨hx, hb, hml, hown, htw⟩ (c_MoMod_init l dC dI H.size q1) ⟨va_cnB 0 htw (tw_inL k_MoMod_init) rfl rfl rfl hx8 (htw _ wd_1_40) (by decide +kernel) ⟨Nat.le_of_ble_eq_true rfl, Nat.le_of_ble_eq_true rfl⟩, rfl, htw _ wd_12_51⟩ ⟨fun a U g mk q => by obtain ⟨q0, q1, qP, qK, qD, hq0, hq1⟩ := q; exact ⟨q0, q1, qP, va_K.moved (u := U) (U := U.calling g mk a) (Vm.Alike.refl U.vm) qK, qD, va_AO.moved (u := U) (U := U.calling g mk a) (Vm.Alike.refl U.vm) hq0, va_AO.moved (u := U) (U := U.calling g mk a) (Vm.Alike.refl U.vm) hq1⟩, fun U hU hW => ⟨rfl, by rw [hU], by rw [hU]; exact hPc, va_K.moved hW.alike hKc, hDc.weaken (fun _ _ _ _ => trivial), va_AO.moved hW.alike hx6, va_AO.moved hW.alike hx7⟩⟩ rfl rfl hl.1 rfl (lv_room (Nat.le_of_ble_eq_true rfl)) d_Mo_readModule_4 ⟨hc0, hs0⟩) hS (fun q _ h => hFc q h) hFc (fun u t H1 locs ht hvm hw hB hz1 hk1 hS => ?_)
  obtain ⟨d1_3, d2_4, hP1, hK1, hD1⟩ := hB
  rw [ht] at hP1
  have hK1 := va_K.moved hvm.symm hK1
  obtain ⟨hP, hD⟩ := va_join (wr := []) (w1 := [(q1, .inr (13, [.ref d1_3, .ref d2_4, .int 0, .int 0]))]) hP hD [0] [] rfl rfl (by decide) (by decide) hk1 hFc hP1 hD1
  have hK := (hK.sub (tys' := []) [] rfl).app hK1
  generalize H1 = H at hP hS ⊢
  have hP : va_P (dC, dI) classes [(q1, .inr (13, [.ref d1_3, .ref d2_4, .int 0, .int 0]))] H := hP
  have hD : va_D A [(q1, .inr (13, [.ref d1_3, .ref d2_4, .int 0, .int 0]))] := hD
  have hK : va_K (dC, dI) classes [] s := hK
  refine lv_astore_n hx hb d_Mo_readModule_7 rfl hl (by decide) rfl (fun ls hl => ?_)
  have hl : lv_has ls 6 [(1, .ref q1), (0, .ref y0)] := hl
  refine lv_aload_n hx hb d_Mo_readModule_8 rfl (lv_at hl 1 rfl) ?_
  refine lv_iconst (v := 3) hx hb d_Mo_readModule_9 (by decide) ?_
  have hc0 : 3 + 1 ≤ 4 := by omega
  have hs0 : 20 + 6 ≤ 26 := by omega
  have hPc := hP.sub (ws' := []) [] rfl
  have hDc := hD.sub (ws' := []) [] (by decide) rfl
  have hKc := hK.sub (tys' := []) [] rfl
  have hFc := va_free (wc := []) hD hS hA [] rfl
  exact tk_pass (tk_runV (As := [.int 3]) (rest := []) ⟨hx, hb, hml, hown, htw⟩ (x_Mo_take l hNT dC dI H.size y0) (tk_cw (Ts := tw_tbl) (cwV 1 htw (tw_V wd_12_72 wd_12_74 wp_10_10 wd_1_21 k_Mo_take) rfl rfl rfl (by decide +kernel) ⟨Nat.le_of_ble_eq_true rfl, Nat.le_of_ble_eq_true rfl⟩)) ⟨fun a U g mk q => by obtain ⟨q0, q1, qP, qK, qD, hq0, hq1, hq2, hq3, hq4, hq5⟩ := q; exact ⟨q0, q1, qP, va_K.moved (u := U) (U := U.calling g mk a) (Vm.Alike.refl U.vm) qK, qD, va_Zq.moved (u := U) (U := U.calling g mk a) (Vm.Alike.refl U.vm) hq0, va_Zq.moved (u := U) (U := U.calling g mk a) (Vm.Alike.refl U.vm) hq1, tz_LS.moved (u := U) (U := U.calling g mk a) (Vm.Alike.refl U.vm) hq2, tz_LS.moved (u := U) (U := U.calling g mk a) (Vm.Alike.refl U.vm) hq3, va_O.moved (u := U) (U := U.calling g mk a) (Vm.Alike.refl U.vm) hq4, va_OF.moved (u := U) (U := U.calling g mk a) (Vm.Alike.refl U.vm) hq5⟩, (by obtain ⟨c9, g1, g2, g3, -⟩ := va_O.kept hx4 hS.2.1; exact ⟨c9, g1, g2, g3⟩), fun U hU hW => ⟨rfl, by rw [hU], by rw [hU]; exact hPc, va_K.moved hW.alike hKc, hDc.weaken (fun _ _ _ _ => trivial), by rw [hU]; exact va_Zq.moved hW.alike ((va_Zq.kept hx0 hS.2.1).narrow hFc), by rw [hU]; exact va_Zq.moved hW.alike ((va_Zq.kept hx1 hS.2.1).narrow hFc), by rw [hU]; exact tz_LS.moved hW.alike ((tz_LS.kept hx2 hS.2.1).narrow hFc), by rw [hU]; exact tz_LS.moved hW.alike ((tz_LS.kept hx3 hS.2.1).narrow hFc), by rw [hU]; exact va_O.moved hW.alike ((va_O.kept hx4 hS.2.1).narrow hFc), by rw [hU]; exact va_OF.moved hW.alike ((va_OF.kept hx5 hS.2.1).narrow hFc)⟩⟩ rfl rfl hl.1 rfl (lv_room (Nat.le_of_ble_eq_true rfl)) d_Mo_readModule_10 ⟨hc0, hs0⟩) hnoh hlocks hS.2.2 hFc (fun x9 st9 t9 u9 h9 hw9 hq9 e9 e8 w9 => tk_qx hw9 hq9 e9)
set_option maxHeartbeats 4000000 in
set_option maxRecDepth 100000 in
theorem c_Mo_read (l : Launch) (dC : Nat → ClassId) (dI : Nat → Nat → Nat) (sz : Nat) (y0 : Nat) (m_tape : Nat) (m_result : Nat) (m_signs : Nat) (m_keptWords : Nat) (m_spelled : Nat) (m_pieced : Nat) (m_hexes : Nat) (m_words : Nat) (m_nextWords : Nat) (m_firstWords : Nat) (m_pool : Nat) (m_chain : Nat) (m_waiting : Nat) (m_back : Nat) (m_spare : Nat) (m_packed : Nat) (m_theres : Nat) (hNT : tk_NT l) : Met l y_Mo_read ws_Mo_read ({ frames := 9, cells := 4, slots := 26, locals := 158 }) (va_Pc [.ref y0] (fun U => U.heap.size = sz ∧ va_P (dC, dI) classes [(y0, .inr (11, [.int 0, .ref m_tape, .int 0, .ref m_result, .int 0, .int ((-1)), .ref m_signs, .ref m_keptWords, .int 0, .int 0, .int 0, .long 0, .null, .int 0, .int 0, .int 0, .ref m_spelled, .ref m_pieced, .ref m_hexes, .ref m_words, .ref m_nextWords, .ref m_firstWords, .int 0, .ref m_pool, .int 0, .int 0, .null, .null, .ref m_chain, .ref m_waiting, .int 0, .int 0, .ref m_back, .ref m_spare, .int 0, .ref m_packed, .int 0, .int 0, .int 0, .int 0, .int 0, .long 0, .int 0, .int 0, .int 0, .long 0, .long 0, .ref m_theres, .int 0, .int 0, .int 0, .long 0, .int 0]))] U.heap ∧ va_K (dC, dI) classes [] U ∧ va_D (fun _ => True) [(y0, .inr (11, [.int 0, .ref m_tape, .int 0, .ref m_result, .int 0, .int ((-1)), .ref m_signs, .ref m_keptWords, .int 0, .int 0, .int 0, .long 0, .null, .int 0, .int 0, .int 0, .ref m_spelled, .ref m_pieced, .ref m_hexes, .ref m_words, .ref m_nextWords, .ref m_firstWords, .int 0, .ref m_pool, .int 0, .int 0, .null, .null, .ref m_chain, .ref m_waiting, .int 0, .int 0, .ref m_back, .ref m_spare, .int 0, .ref m_packed, .int 0, .int 0, .int 0, .int 0, .int 0, .long 0, .int 0, .int 0, .int 0, .long 0, .long 0, .ref m_theres, .int 0, .int 0, .int 0, .long 0, .int 0]))] ∧ va_Zq "java/lang/Throwable" "UNASSIGNED_STACK" "[Ljava/lang/StackTraceElement;" (va_A [(y0, .inr (11, [.int 0, .ref m_tape, .int 0, .ref m_result, .int 0, .int ((-1)), .ref m_signs, .ref m_keptWords, .int 0, .int 0, .int 0, .long 0, .null, .int 0, .int 0, .int 0, .ref m_spelled, .ref m_pieced, .ref m_hexes, .ref m_words, .ref m_nextWords, .ref m_firstWords, .int 0, .ref m_pool, .int 0, .int 0, .null, .null, .ref m_chain, .ref m_waiting, .int 0, .int 0, .ref m_back, .ref m_spare, .int 0, .ref m_packed, .int 0, .int 0, .int 0, .int 0, .int 0, .long 0, .int 0, .int 0, .int 0, .long 0, .long 0, .ref m_theres, .int 0, .int 0, .int 0, .long 0, .int 0]))] sz) U U.heap ∧ va_Zq "java/lang/Throwable" "SUPPRESSED_SENTINEL" "Ljava/util/List;" (va_A [(y0, .inr (11, [.int 0, .ref m_tape, .int 0, .ref m_result, .int 0, .int ((-1)), .ref m_signs, .ref m_keptWords, .int 0, .int 0, .int 0, .long 0, .null, .int 0, .int 0, .int 0, .ref m_spelled, .ref m_pieced, .ref m_hexes, .ref m_words, .ref m_nextWords, .ref m_firstWords, .int 0, .ref m_pool, .int 0, .int 0, .null, .null, .ref m_chain, .ref m_waiting, .int 0, .int 0, .ref m_back, .ref m_spare, .int 0, .ref m_packed, .int 0, .int 0, .int 0, .int 0, .int 0, .long 0, .int 0, .int 0, .int 0, .long 0, .long 0, .ref m_theres, .int 0, .int 0, .int 0, .long 0, .int 0]))] sz) U U.heap ∧ tz_LS "java/lang/Throwable" "UNASSIGNED_STACK" "[Ljava/lang/StackTraceElement;" (va_A [(y0, .inr (11, [.int 0, .ref m_tape, .int 0, .ref m_result, .int 0, .int ((-1)), .ref m_signs, .ref m_keptWords, .int 0, .int 0, .int 0, .long 0, .null, .int 0, .int 0, .int 0, .ref m_spelled, .ref m_pieced, .ref m_hexes, .ref m_words, .ref m_nextWords, .ref m_firstWords, .int 0, .ref m_pool, .int 0, .int 0, .null, .null, .ref m_chain, .ref m_waiting, .int 0, .int 0, .ref m_back, .ref m_spare, .int 0, .ref m_packed, .int 0, .int 0, .int 0, .int 0, .int 0, .long 0, .int 0, .int 0, .int 0, .long 0, .long 0, .ref m_theres, .int 0, .int 0, .int 0, .long 0, .int 0]))] sz) U U.heap ∧ tz_LS "java/lang/Throwable" "SUPPRESSED_SENTINEL" "Ljava/util/List;" (va_A [(y0, .inr (11, [.int 0, .ref m_tape, .int 0, .ref m_result, .int 0, .int ((-1)), .ref m_signs, .ref m_keptWords, .int 0, .int 0, .int 0, .long 0, .null, .int 0, .int 0, .int 0, .ref m_spelled, .ref m_pieced, .ref m_hexes, .ref m_words, .ref m_nextWords, .ref m_firstWords, .int 0, .ref m_pool, .int 0, .int 0, .null, .null, .ref m_chain, .ref m_waiting, .int 0, .int 0, .ref m_back, .ref m_spare, .int 0, .ref m_packed, .int 0, .int 0, .int 0, .int 0, .int 0, .long 0, .int 0, .int 0, .int 0, .long 0, .long 0, .ref m_theres, .int 0, .int 0, .int 0, .long 0, .int 0]))] sz) U U.heap ∧ va_AO "java/lang/String" U ∧ va_AO "SyntaxForgeModel$Type" U ∧ va_Nw (.methodLinkNest "SyntaxForgeModel" 318 ⟨"SyntaxForgeModel$Module", "<init>", "()V"⟩ "SyntaxForgeModel") U)) (va_Qi (fun (r : Int32) (_ : Unit) => r = 0) (fun _ t => va_P (dC, dI) classes [(y0, .inr (11, [.int 1, .ref m_tape, .int 0, .ref m_result, .int 0, .int 0, .ref m_signs, .ref m_keptWords, .int 0, .int 0, .int 0, .long 0, .null, .int 0, .int 0, .int 0, .ref m_spelled, .ref m_pieced, .ref m_hexes, .ref m_words, .ref m_nextWords, .ref m_firstWords, .int 0, .ref m_pool, .int 0, .int 0, .null, .null, .ref m_chain, .ref m_waiting, .int 0, .int 0, .ref m_back, .ref m_spare, .int 0, .ref m_packed, .int 0, .int 0, .int 0, .int 0, .int 0, .long 0, .int 0, .int 0, .int 0, .long 0, .long 0, .ref m_theres, .int 0, .int 0, .int 0, .long 0, .int 0]))] t.heap ∧ va_K (dC, dI) classes [] t ∧ va_D (va_A [(y0, .inr (11, [.int 0, .ref m_tape, .int 0, .ref m_result, .int 0, .int ((-1)), .ref m_signs, .ref m_keptWords, .int 0, .int 0, .int 0, .long 0, .null, .int 0, .int 0, .int 0, .ref m_spelled, .ref m_pieced, .ref m_hexes, .ref m_words, .ref m_nextWords, .ref m_firstWords, .int 0, .ref m_pool, .int 0, .int 0, .null, .null, .ref m_chain, .ref m_waiting, .int 0, .int 0, .ref m_back, .ref m_spare, .int 0, .ref m_packed, .int 0, .int 0, .int 0, .int 0, .int 0, .long 0, .int 0, .int 0, .int 0, .long 0, .long 0, .ref m_theres, .int 0, .int 0, .int 0, .long 0, .int 0]))] sz) [(y0, .inr (11, [.int 1, .ref m_tape, .int 0, .ref m_result, .int 0, .int 0, .ref m_signs, .ref m_keptWords, .int 0, .int 0, .int 0, .long 0, .null, .int 0, .int 0, .int 0, .ref m_spelled, .ref m_pieced, .ref m_hexes, .ref m_words, .ref m_nextWords, .ref m_firstWords, .int 0, .ref m_pool, .int 0, .int 0, .null, .null, .ref m_chain, .ref m_waiting, .int 0, .int 0, .ref m_back, .ref m_spare, .int 0, .ref m_packed, .int 0, .int 0, .int 0, .int 0, .int 0, .long 0, .int 0, .int 0, .int 0, .long 0, .long 0, .ref m_theres, .int 0, .int 0, .int 0, .long 0, .int 0]))]) (va_A [(y0, .inr (11, [.int 0, .ref m_tape, .int 0, .ref m_result, .int 0, .int ((-1)), .ref m_signs, .ref m_keptWords, .int 0, .int 0, .int 0, .long 0, .null, .int 0, .int 0, .int 0, .ref m_spelled, .ref m_pieced, .ref m_hexes, .ref m_words, .ref m_nextWords, .ref m_firstWords, .int 0, .ref m_pool, .int 0, .int 0, .null, .null, .ref m_chain, .ref m_waiting, .int 0, .int 0, .ref m_back, .ref m_spare, .int 0, .ref m_packed, .int 0, .int 0, .int 0, .int 0, .int 0, .long 0, .int 0, .int 0, .int 0, .long 0, .long 0, .ref m_theres, .int 0, .int 0, .int 0, .long 0, .int 0]))] sz)) 4 26 (va_A [(y0, .inr (11, [.int 0, .ref m_tape, .int 0, .ref m_result, .int 0, .int ((-1)), .ref m_signs, .ref m_keptWords, .int 0, .int 0, .int 0, .long 0, .null, .int 0, .int 0, .int 0, .ref m_spelled, .ref m_pieced, .ref m_hexes, .ref m_words, .ref m_nextWords, .ref m_firstWords, .int 0, .ref m_pool, .int 0, .int 0, .null, .null, .ref m_chain, .ref m_waiting, .int 0, .int 0, .ref m_back, .ref m_spare, .int 0, .ref m_packed, .int 0, .int 0, .int 0, .int 0, .int 0, .long 0, .int 0, .int 0, .int 0, .long 0, .long 0, .ref m_theres, .int 0, .int 0, .int 0, .long 0, .int 0]))] sz) := by
  refine va_MetW (cc := b_Mo_read) (maxL := 3) (ret := (some .int)) (hh := [(12, 22, 25, 277), (12, 22, 42, 471)]) (by decide) rfl ?_
  intro p e s m args below meth c s₁ B hml hv
  obtain ⟨rfl, hsz, hP, hK, hD0, hx0, hx1, hx2, hx3, hx4, hx5, hx6⟩ := hv
  have hx := B.exec
  have hb := B.bytes
  have hr := B.returns
  have hts := atoms_spec (ws := ws_Mo_read) B.pre
  have htw : ∀ w ∈ tw_tbl, w.before [.ref y0].toArray s = true := fun w h => hts w (List.mem_cons_of_mem _ h)
  have hown : s.vm.findClass R_Mo = some m.cls := findClass_of_methodNamed B.named
  have hlocks := B.notSynchronized
  have hin : meth.name = "read" := (name_of_methodNamed B.named B.method).1
  subst hsz
  have hD := hD0.self (sz := s.heap.size)
  generalize hAe : va_A [(y0, .inr (11, [.int 0, .ref m_tape, .int 0, .ref m_result, .int 0, .int ((-1)), .ref m_signs, .ref m_keptWords, .int 0, .int 0, .int 0, .long 0, .null, .int 0, .int 0, .int 0, .ref m_spelled, .ref m_pieced, .ref m_hexes, .ref m_words, .ref m_nextWords, .ref m_firstWords, .int 0, .ref m_pool, .int 0, .int 0, .null, .null, .ref m_chain, .ref m_waiting, .int 0, .int 0, .ref m_back, .ref m_spare, .int 0, .ref m_packed, .int 0, .int 0, .int 0, .int 0, .int 0, .long 0, .int 0, .int 0, .int 0, .long 0, .long 0, .ref m_theres, .int 0, .int 0, .int 0, .long 0, .int 0]))] s.heap.size = A at hD hx0 hx1 hx2 hx3 hx4 hx5 hx6 ⊢
  have hA : ∀ q : Nat, s.heap.size ≤ q → A q := fun q h => by rw [← hAe]; exact Or.inr h
  have hS : va_S A s.heap s.heap [] := va_S.rf
  have hP : va_P (dC, dI) classes [(y0, .inr (11, [.int 0, .ref m_tape, .int 0, .ref m_result, .int 0, .int ((-1)), .ref m_signs, .ref m_keptWords, .int 0, .int 0, .int 0, .long 0, .null, .int 0, .int 0, .int 0, .ref m_spelled, .ref m_pieced, .ref m_hexes, .ref m_words, .ref m_nextWords, .ref m_firstWords, .int 0, .ref m_pool, .int 0, .int 0, .null, .null, .ref m_chain, .ref m_waiting, .int 0, .int 0, .ref m_back, .ref m_spare, .int 0, .ref m_packed, .int 0, .int 0, .int 0, .int 0, .int 0, .long 0, .int 0, .int 0, .int 0, .long 0, .long 0, .ref m_theres, .int 0, .int 0, .int 0, .long 0, .int 0]))] s.heap := hP
  have hl := lv_entry ([.ref y0]) (n := 3) (Nat.le_of_ble_eq_true rfl)
  rw [lg_entry_eq]
  generalize (lg_sl ([.ref y0]) ++ List.replicate (3 - (lg_sl ([.ref y0])).length) Slot.unset).toArray = ls at hl ⊢
  have hl : lv_has ls 3 [(0, .ref y0)] := hl
  refine lv_aload_n hx hb d_Mo_read_0 rfl (lv_at hl 0 rfl) ?_
  refine lv_iconst (v := 0) hx hb d_Mo_read_1 (by decide) ?_
  refine va_put (D := (dC, dI)) (ci := 11) (v := .int 0) (ty := .int) (C := R_Mo) (T := F_Mo) (N := 53) hx hb htw i_Mo t_Mo t_Mo_ok n_Mo hown hK hP hD hS 0 rfl rfl 0 (by decide) (htw _ wd_10_51) (fun _ h9 => h9) rfl (by decide +kernel) rfl rfl (Nat.le_of_ble_eq_true rfl) d_Mo_read_2 (fun H locs hP hD hS => ?_)
  have hP : va_P (dC, dI) classes [(y0, .inr (11, [.int 0, .ref m_tape, .int 0, .ref m_result, .int 0, .int ((-1)), .ref m_signs, .ref m_keptWords, .int 0, .int 0, .int 0, .long 0, .null, .int 0, .int 0, .int 0, .ref m_spelled, .ref m_pieced, .ref m_hexes, .ref m_words, .ref m_nextWords, .ref m_firstWords, .int 0, .ref m_pool, .int 0, .int 0, .null, .null, .ref m_chain, .ref m_waiting, .int 0, .int 0, .ref m_back, .ref m_spare, .int 0, .ref m_packed, .int 0, .int 0, .int 0, .int 0, .int 0, .long 0, .int 0, .int 0, .int 0, .long 0, .long 0, .ref m_theres, .int 0, .int 0, .int 0, .long 0, .int 0]))] H := hP
  have hD : va_D A [(y0, .inr (11, [.int 0, .ref m_tape, .int 0, .ref m_result, .int 0, .int ((-1)), .ref m_signs, .ref m_keptWords, .int 0, .int 0, .int 0, .long 0, .null, .int 0, .int 0, .int 0, .ref m_spelled, .ref m_pieced, .ref m_hexes, .ref m_words, .ref m_nextWords, .ref m_firstWords, .int 0, .ref m_pool, .int 0, .int 0, .null, .null, .ref m_chain, .ref m_waiting, .int 0, .int 0, .ref m_back, .ref m_spare, .int 0, .ref m_packed, .int 0, .int 0, .int 0, .int 0, .int 0, .long 0, .int 0, .int 0, .int 0, .long 0, .long 0, .ref m_theres, .int 0, .int 0, .int 0, .long 0, .int 0]))] := hD
  refine lv_aload_n hx hb d_Mo_read_5 rfl (lv_at hl 0 rfl) ?_
  refine lv_iconst (v := 0) hx hb d_Mo_read_6 (by decide) ?_
  have hc0 : 0 + 0 ≤ 4 := by omega
  have hs0 : 0 + 0 ≤ 26 := by omega
  have hPc := hP.sub (ws' := [(y0, .inr (11, [.int 0, .ref m_tape, .int 0, .ref m_result, .int 0, .int ((-1)), .ref m_signs, .ref m_keptWords, .int 0, .int 0, .int 0, .long 0, .null, .int 0, .int 0, .int 0, .ref m_spelled, .ref m_pieced, .ref m_hexes, .ref m_words, .ref m_nextWords, .ref m_firstWords, .int 0, .ref m_pool, .int 0, .int 0, .null, .null, .ref m_chain, .ref m_waiting, .int 0, .int 0, .ref m_back, .ref m_spare, .int 0, .ref m_packed, .int 0, .int 0, .int 0, .int 0, .int 0, .long 0, .int 0, .int 0, .int 0, .long 0, .long 0, .ref m_theres, .int 0, .int 0, .int 0, .long 0, .int 0]))]) [0] rfl
  have hDc := hD.sub (ws' := [(y0, .inr (11, [.int 0, .ref m_tape, .int 0, .ref m_result, .int 0, .int ((-1)), .ref m_signs, .ref m_keptWords, .int 0, .int 0, .int 0, .long 0, .null, .int 0, .int 0, .int 0, .ref m_spelled, .ref m_pieced, .ref m_hexes, .ref m_words, .ref m_nextWords, .ref m_firstWords, .int 0, .ref m_pool, .int 0, .int 0, .null, .null, .ref m_chain, .ref m_waiting, .int 0, .int 0, .ref m_back, .ref m_spare, .int 0, .ref m_packed, .int 0, .int 0, .int 0, .int 0, .int 0, .long 0, .int 0, .int 0, .int 0, .long 0, .long 0, .ref m_theres, .int 0, .int 0, .int 0, .long 0, .int 0]))]) [0] (by decide) rfl
  have hKc := hK.sub (tys' := []) [] rfl
  have hFc := va_free (wc := [(y0, .inr (11, [.int 0, .ref m_tape, .int 0, .ref m_result, .int 0, .int ((-1)), .ref m_signs, .ref m_keptWords, .int 0, .int 0, .int 0, .long 0, .null, .int 0, .int 0, .int 0, .ref m_spelled, .ref m_pieced, .ref m_hexes, .ref m_words, .ref m_nextWords, .ref m_firstWords, .int 0, .ref m_pool, .int 0, .int 0, .null, .null, .ref m_chain, .ref m_waiting, .int 0, .int 0, .ref m_back, .ref m_spare, .int 0, .ref m_packed, .int 0, .int 0, .int 0, .int 0, .int 0, .long 0, .int 0, .int 0, .int 0, .long 0, .long 0, .ref m_theres, .int 0, .int 0, .int 0, .long 0, .int 0]))]) hD hS hA [0] rfl
  refine va_callv (va_runV (As := [.int 0]) (rest := []) ⟨hx, hb, hml, hown, htw⟩ (c_Mo_begin l dC dI H.size y0 m_tape m_result m_signs m_keptWords m_spelled m_pieced m_hexes m_words m_nextWords m_firstWords m_pool m_chain m_waiting m_back m_spare m_packed m_theres) (cwV 1 htw (tw_V wd_10_234 wd_10_236 wp_9_12 wd_1_21 k_Mo_begin) rfl rfl rfl (by decide +kernel) ⟨Nat.le_of_ble_eq_true rfl, Nat.le_of_ble_eq_true rfl⟩) ⟨fun a U g mk q => by obtain ⟨q0, q1, qP, qK, qD⟩ := q; exact ⟨q0, q1, qP, va_K.moved (u := U) (U := U.calling g mk a) (Vm.Alike.refl U.vm) qK, qD⟩, va_recv hK hP (q := (R_Mo, F_Mo, 53)) (ci := 11) (q0 := 0) rfl rfl, fun U hU hW => ⟨rfl, by rw [hU], by rw [hU]; exact hPc, va_K.moved hW.alike hKc, hDc.weaken (fun _ _ _ _ => trivial)⟩⟩ rfl rfl hl.1 rfl (lv_room (Nat.le_of_ble_eq_true rfl)) d_Mo_read_7 ⟨hc0, hs0⟩) hS (fun q _ h => hFc q h) hFc (fun u t H1 locs ht hvm hw hB hz1 hk1 hS => ?_)
  obtain ⟨hP1, hK1, hD1⟩ := hB
  rw [ht] at hP1
  have hK1 := va_K.moved hvm.symm hK1
  obtain ⟨hP, hD⟩ := va_join (wr := []) (w1 := [(y0, .inr (11, [.int 0, .ref m_tape, .int 0, .ref m_result, .int 0, .int ((-1)), .ref m_signs, .ref m_keptWords, .int 0, .int 0, .int 0, .long 0, .null, .int 0, .int 0, .int 0, .ref m_spelled, .ref m_pieced, .ref m_hexes, .ref m_words, .ref m_nextWords, .ref m_firstWords, .int 0, .ref m_pool, .int 0, .int 0, .null, .null, .ref m_chain, .ref m_waiting, .int 0, .int 0, .ref m_back, .ref m_spare, .int 0, .ref m_packed, .int 0, .int 0, .int 0, .int 0, .int 0, .long 0, .int 0, .int 0, .int 0, .long 0, .long 0, .ref m_theres, .int 0, .int 0, .int 0, .long 0, .int 0]))]) hP hD [0] [] rfl rfl (by decide) (by decide) hk1 hFc hP1 hD1
  have hK := (hK.sub (tys' := []) [] rfl).app hK1
  generalize H1 = H at hP hS ⊢
  have hP : va_P (dC, dI) classes [(y0, .inr (11, [.int 0, .ref m_tape, .int 0, .ref m_result, .int 0, .int ((-1)), .ref m_signs, .ref m_keptWords, .int 0, .int 0, .int 0, .long 0, .null, .int 0, .int 0, .int 0, .ref m_spelled, .ref m_pieced, .ref m_hexes, .ref m_words, .ref m_nextWords, .ref m_firstWords, .int 0, .ref m_pool, .int 0, .int 0, .null, .null, .ref m_chain, .ref m_waiting, .int 0, .int 0, .ref m_back, .ref m_spare, .int 0, .ref m_packed, .int 0, .int 0, .int 0, .int 0, .int 0, .long 0, .int 0, .int 0, .int 0, .long 0, .long 0, .ref m_theres, .int 0, .int 0, .int 0, .long 0, .int 0]))] H := hP
  have hD : va_D A [(y0, .inr (11, [.int 0, .ref m_tape, .int 0, .ref m_result, .int 0, .int ((-1)), .ref m_signs, .ref m_keptWords, .int 0, .int 0, .int 0, .long 0, .null, .int 0, .int 0, .int 0, .ref m_spelled, .ref m_pieced, .ref m_hexes, .ref m_words, .ref m_nextWords, .ref m_firstWords, .int 0, .ref m_pool, .int 0, .int 0, .null, .null, .ref m_chain, .ref m_waiting, .int 0, .int 0, .ref m_back, .ref m_spare, .int 0, .ref m_packed, .int 0, .int 0, .int 0, .int 0, .int 0, .long 0, .int 0, .int 0, .int 0, .long 0, .long 0, .ref m_theres, .int 0, .int 0, .int 0, .long 0, .int 0]))] := hD
  have hK : va_K (dC, dI) classes [] s := hK
  refine lv_null hx hb d_Mo_read_10 ?_
  refine lv_astore_nN hx hb d_Mo_read_11 rfl hl (by decide) rfl (fun ls hl => ?_)
  have hl : lv_has ls 3 [(1, .null), (0, .ref y0)] := hl
  refine lv_aload_n hx hb d_Mo_read_12 rfl (lv_at hl 1 rfl) ?_
  have hc0 : 0 + 4 ≤ 4 := by omega
  have hs0 : 0 + 26 ≤ 26 := by omega
  have hPc := hP.sub (ws' := []) [] rfl
  have hDc := hD.sub (ws' := []) [] (by decide) rfl
  have hKc := hK.sub (tys' := []) [] rfl
  have hFc := va_free (wc := []) hD hS hA [] rfl
  have hadm := B.admits
  have htab := tk_table (hh := [(12, 22, 25, 277), (12, 22, 42, 471)]) B List.mem_cons_self
  obtain ⟨cE9, hcE9⟩ := tk_found (htw _ wd_3_138)
  refine tk_catch (cE := cE9) (tk_runV (As := []) (rest := []) ⟨hx, hb, hml, hown, htw⟩ (x_Mo_readModule l hNT dC dI H.size y0) (tk_cw (Ts := tw_tbl) (cwV 0 htw (tw_V wd_12_44 wd_12_46 wp_10_9 wd_1_21 k_Mo_readModule) rfl rfl rfl (by decide +kernel) ⟨Nat.le_of_ble_eq_true rfl, Nat.le_of_ble_eq_true rfl⟩)) ⟨fun a U g mk q => by obtain ⟨q0, q1, qP, qK, qD, hq0, hq1, hq2, hq3, hq4, hq5, hq6, hq7, hq8⟩ := q; exact ⟨q0, q1, qP, va_K.moved (u := U) (U := U.calling g mk a) (Vm.Alike.refl U.vm) qK, qD, va_Zq.moved (u := U) (U := U.calling g mk a) (Vm.Alike.refl U.vm) hq0, va_Zq.moved (u := U) (U := U.calling g mk a) (Vm.Alike.refl U.vm) hq1, tz_LS.moved (u := U) (U := U.calling g mk a) (Vm.Alike.refl U.vm) hq2, tz_LS.moved (u := U) (U := U.calling g mk a) (Vm.Alike.refl U.vm) hq3, va_O.moved (u := U) (U := U.calling g mk a) (Vm.Alike.refl U.vm) hq4, va_OF.moved (u := U) (U := U.calling g mk a) (Vm.Alike.refl U.vm) hq5, va_AO.moved (u := U) (U := U.calling g mk a) (Vm.Alike.refl U.vm) hq6, va_AO.moved (u := U) (U := U.calling g mk a) (Vm.Alike.refl U.vm) hq7, va_Nw.same rfl (u := U) rfl hq8⟩, va_recv hK hP (q := (R_Mo, F_Mo, 53)) (ci := 11) (q0 := 0) rfl rfl, fun U hU hW => ⟨rfl, by rw [hU], by rw [hU]; exact hPc, va_K.moved hW.alike hKc, hDc.weaken (fun _ _ _ _ => trivial), by rw [hU]; exact va_Zq.moved hW.alike ((va_Zq.kept hx0 hS.2.1).narrow hFc), by rw [hU]; exact va_Zq.moved hW.alike ((va_Zq.kept hx1 hS.2.1).narrow hFc), by rw [hU]; exact tz_LS.moved hW.alike ((tz_LS.kept hx2 hS.2.1).narrow hFc), by rw [hU]; exact tz_LS.moved hW.alike ((tz_LS.kept hx3 hS.2.1).narrow hFc), by rw [hU]; exact va_O.moved hW.alike (tz_asO (C := R_Mo) (T := F_Mo) (N := 53) (ci := 11) hK hP 0 rfl rfl (tz_out0 hP 0 rfl)), by rw [hU]; exact va_OF.moved hW.alike (tz_asOF (C := R_Mo) (T := F_Mo) (N := 53) (ci := 11) htw i_Mo hK hP 0 rfl rfl 8 (by decide) rfl (tz_out0 hP 0 rfl)), va_AO.moved hW.alike hx4, va_AO.moved hW.alike hx5, va_Nw.warmM hW hx6⟩⟩ rfl rfl hl.1 rfl (lv_room (Nat.le_of_ble_eq_true rfl)) d_Mo_read_13 ⟨hc0, hs0⟩) (fun st9 x9 t9 h8 hw9 hq9 => tk_qe hcE9 hw9 hq9) (tk_find1 hadm hown hcE9 htab (by decide) (by decide) (by decide) (htw _ wd_10_232)) (fun x3 H1 L9 hL9 hz9 hk9 hz1 hk1 => ?_)
  have hS := tk_S hS hFc hL9 hz9 hk9
  obtain ⟨hP, hD⟩ := va_join (wr := [(y0, .inr (11, [.int 0, .ref m_tape, .int 0, .ref m_result, .int 0, .int ((-1)), .ref m_signs, .ref m_keptWords, .int 0, .int 0, .int 0, .long 0, .null, .int 0, .int 0, .int 0, .ref m_spelled, .ref m_pieced, .ref m_hexes, .ref m_words, .ref m_nextWords, .ref m_firstWords, .int 0, .ref m_pool, .int 0, .int 0, .null, .null, .ref m_chain, .ref m_waiting, .int 0, .int 0, .ref m_back, .ref m_spare, .int 0, .ref m_packed, .int 0, .int 0, .int 0, .int 0, .int 0, .long 0, .int 0, .int 0, .int 0, .long 0, .long 0, .ref m_theres, .int 0, .int 0, .int 0, .long 0, .int 0]))]) (w1 := []) hP hD [] [0] rfl rfl (by decide) (by decide) hk1 hFc tk_P0 tk_D0
  clear hL9 hz9 hk9 hz1 hk1
  generalize H1 = H at hP hS ⊢
  have hP : va_P (dC, dI) classes [(y0, .inr (11, [.int 0, .ref m_tape, .int 0, .ref m_result, .int 0, .int ((-1)), .ref m_signs, .ref m_keptWords, .int 0, .int 0, .int 0, .long 0, .null, .int 0, .int 0, .int 0, .ref m_spelled, .ref m_pieced, .ref m_hexes, .ref m_words, .ref m_nextWords, .ref m_firstWords, .int 0, .ref m_pool, .int 0, .int 0, .null, .null, .ref m_chain, .ref m_waiting, .int 0, .int 0, .ref m_back, .ref m_spare, .int 0, .ref m_packed, .int 0, .int 0, .int 0, .int 0, .int 0, .long 0, .int 0, .int 0, .int 0, .long 0, .long 0, .ref m_theres, .int 0, .int 0, .int 0, .long 0, .int 0]))] H := hP
  have hD : va_D A [(y0, .inr (11, [.int 0, .ref m_tape, .int 0, .ref m_result, .int 0, .int ((-1)), .ref m_signs, .ref m_keptWords, .int 0, .int 0, .int 0, .long 0, .null, .int 0, .int 0, .int 0, .ref m_spelled, .ref m_pieced, .ref m_hexes, .ref m_words, .ref m_nextWords, .ref m_firstWords, .int 0, .ref m_pool, .int 0, .int 0, .null, .null, .ref m_chain, .ref m_waiting, .int 0, .int 0, .ref m_back, .ref m_spare, .int 0, .ref m_packed, .int 0, .int 0, .int 0, .int 0, .int 0, .long 0, .int 0, .int 0, .int 0, .long 0, .long 0, .ref m_theres, .int 0, .int 0, .int 0, .long 0, .int 0]))] := hD
  refine lv_astore_n hx hb d_Mo_read_25 rfl hl (by decide) rfl (fun ls hl => ?_)
  have hl : lv_has ls 3 [(2, .ref x3), (1, .null), (0, .ref y0)] := hl
  refine lv_aload_n hx hb d_Mo_read_26 rfl (lv_at hl 2 rfl) ?_
  refine lv_aload_n hx hb d_Mo_read_27 rfl (lv_at hl 2 rfl) ?_
  refine va_get (D := (dC, dI)) (ci := 11) (v := .int 0) (C := R_Mo) (T := F_Mo) (N := 53) hx hb htw i_Mo hown hK hP 0 rfl rfl 9 (by decide) (htw _ wd_10_60) (fun _ h9 => h9) rfl d_Mo_read_28 ?_
  refine va_put (D := (dC, dI)) (ci := 11) (v := .int 0) (ty := .int) (C := R_Mo) (T := F_Mo) (N := 53) hx hb htw i_Mo t_Mo t_Mo_ok n_Mo hown hK hP hD hS 0 rfl rfl 5 (by decide) (htw _ wd_10_56) (fun _ h9 => h9) rfl (by decide +kernel) rfl rfl (Nat.le_of_ble_eq_true rfl) d_Mo_read_31 (fun H locs hP hD hS => ?_)
  have hP : va_P (dC, dI) classes [(y0, .inr (11, [.int 0, .ref m_tape, .int 0, .ref m_result, .int 0, .int 0, .ref m_signs, .ref m_keptWords, .int 0, .int 0, .int 0, .long 0, .null, .int 0, .int 0, .int 0, .ref m_spelled, .ref m_pieced, .ref m_hexes, .ref m_words, .ref m_nextWords, .ref m_firstWords, .int 0, .ref m_pool, .int 0, .int 0, .null, .null, .ref m_chain, .ref m_waiting, .int 0, .int 0, .ref m_back, .ref m_spare, .int 0, .ref m_packed, .int 0, .int 0, .int 0, .int 0, .int 0, .long 0, .int 0, .int 0, .int 0, .long 0, .long 0, .ref m_theres, .int 0, .int 0, .int 0, .long 0, .int 0]))] H := hP
  have hD : va_D A [(y0, .inr (11, [.int 0, .ref m_tape, .int 0, .ref m_result, .int 0, .int 0, .ref m_signs, .ref m_keptWords, .int 0, .int 0, .int 0, .long 0, .null, .int 0, .int 0, .int 0, .ref m_spelled, .ref m_pieced, .ref m_hexes, .ref m_words, .ref m_nextWords, .ref m_firstWords, .int 0, .ref m_pool, .int 0, .int 0, .null, .null, .ref m_chain, .ref m_waiting, .int 0, .int 0, .ref m_back, .ref m_spare, .int 0, .ref m_packed, .int 0, .int 0, .int 0, .int 0, .int 0, .long 0, .int 0, .int 0, .int 0, .long 0, .long 0, .ref m_theres, .int 0, .int 0, .int 0, .long 0, .int 0]))] := hD
  refine lv_aload_n hx hb d_Mo_read_34 rfl (lv_at hl 2 rfl) ?_
  refine lv_iconst (v := 1) hx hb d_Mo_read_35 (by decide) ?_
  refine va_put (D := (dC, dI)) (ci := 11) (v := .int 1) (ty := .int) (C := R_Mo) (T := F_Mo) (N := 53) hx hb htw i_Mo t_Mo t_Mo_ok n_Mo hown hK hP hD hS 0 rfl rfl 0 (by decide) (htw _ wd_10_51) (fun _ h9 => h9) rfl (by decide +kernel) rfl rfl (Nat.le_of_ble_eq_true rfl) d_Mo_read_36 (fun H locs hP hD hS => ?_)
  have hP : va_P (dC, dI) classes [(y0, .inr (11, [.int 1, .ref m_tape, .int 0, .ref m_result, .int 0, .int 0, .ref m_signs, .ref m_keptWords, .int 0, .int 0, .int 0, .long 0, .null, .int 0, .int 0, .int 0, .ref m_spelled, .ref m_pieced, .ref m_hexes, .ref m_words, .ref m_nextWords, .ref m_firstWords, .int 0, .ref m_pool, .int 0, .int 0, .null, .null, .ref m_chain, .ref m_waiting, .int 0, .int 0, .ref m_back, .ref m_spare, .int 0, .ref m_packed, .int 0, .int 0, .int 0, .int 0, .int 0, .long 0, .int 0, .int 0, .int 0, .long 0, .long 0, .ref m_theres, .int 0, .int 0, .int 0, .long 0, .int 0]))] H := hP
  have hD : va_D A [(y0, .inr (11, [.int 1, .ref m_tape, .int 0, .ref m_result, .int 0, .int 0, .ref m_signs, .ref m_keptWords, .int 0, .int 0, .int 0, .long 0, .null, .int 0, .int 0, .int 0, .ref m_spelled, .ref m_pieced, .ref m_hexes, .ref m_words, .ref m_nextWords, .ref m_firstWords, .int 0, .ref m_pool, .int 0, .int 0, .null, .null, .ref m_chain, .ref m_waiting, .int 0, .int 0, .ref m_back, .ref m_spare, .int 0, .ref m_packed, .int 0, .int 0, .int 0, .int 0, .int 0, .long 0, .int 0, .int 0, .int 0, .long 0, .long 0, .ref m_theres, .int 0, .int 0, .int 0, .long 0, .int 0]))] := hD
  refine lv_goto (tgt := 48) hx hb d_Mo_read_39 rfl ?_
  refine lv_aload_n hx hb d_Mo_read_48 rfl (lv_at hl 2 rfl) ?_
  refine lv_iconst (v := 0) hx hb d_Mo_read_49 (by decide) ?_
  refine va_put (D := (dC, dI)) (ci := 11) (v := .int 0) (ty := .int) (C := R_Mo) (T := F_Mo) (N := 53) hx hb htw i_Mo t_Mo t_Mo_ok n_Mo hown hK hP hD hS 0 rfl rfl 2 (by decide) (htw _ wd_10_53) (fun _ h9 => h9) rfl (by decide +kernel) rfl rfl (Nat.le_of_ble_eq_true rfl) d_Mo_read_50 (fun H locs hP hD hS => ?_)
  have hP : va_P (dC, dI) classes [(y0, .inr (11, [.int 1, .ref m_tape, .int 0, .ref m_result, .int 0, .int 0, .ref m_signs, .ref m_keptWords, .int 0, .int 0, .int 0, .long 0, .null, .int 0, .int 0, .int 0, .ref m_spelled, .ref m_pieced, .ref m_hexes, .ref m_words, .ref m_nextWords, .ref m_firstWords, .int 0, .ref m_pool, .int 0, .int 0, .null, .null, .ref m_chain, .ref m_waiting, .int 0, .int 0, .ref m_back, .ref m_spare, .int 0, .ref m_packed, .int 0, .int 0, .int 0, .int 0, .int 0, .long 0, .int 0, .int 0, .int 0, .long 0, .long 0, .ref m_theres, .int 0, .int 0, .int 0, .long 0, .int 0]))] H := hP
  have hD : va_D A [(y0, .inr (11, [.int 1, .ref m_tape, .int 0, .ref m_result, .int 0, .int 0, .ref m_signs, .ref m_keptWords, .int 0, .int 0, .int 0, .long 0, .null, .int 0, .int 0, .int 0, .ref m_spelled, .ref m_pieced, .ref m_hexes, .ref m_words, .ref m_nextWords, .ref m_firstWords, .int 0, .ref m_pool, .int 0, .int 0, .null, .null, .ref m_chain, .ref m_waiting, .int 0, .int 0, .ref m_back, .ref m_spare, .int 0, .ref m_packed, .int 0, .int 0, .int 0, .int 0, .int 0, .long 0, .int 0, .int 0, .int 0, .long 0, .long 0, .ref m_theres, .int 0, .int 0, .int 0, .long 0, .int 0]))] := hD
  refine lv_aload_n hx hb d_Mo_read_53 rfl (lv_at hl 2 rfl) ?_
  refine va_get (D := (dC, dI)) (ci := 11) (v := .int 1) (C := R_Mo) (T := F_Mo) (N := 53) hx hb htw i_Mo hown hK hP 0 rfl rfl 0 (by decide) (htw _ wd_10_51) (fun _ h9 => h9) rfl d_Mo_read_54 ?_
  refine lv_if_ne (tgt := 65) hx hb d_Mo_read_57 rfl (fun _ => ?_) (fun hn => absurd hn (by decide))
  refine lv_aload_n hx hb d_Mo_read_65 rfl (lv_at hl 2 rfl) ?_
  refine lv_aload_n hx hb d_Mo_read_66 rfl (lv_at hl 2 rfl) ?_
  refine va_get (D := (dC, dI)) (ci := 11) (v := .null) (C := R_Mo) (T := F_Mo) (N := 53) hx hb htw i_Mo hown hK hP 0 rfl rfl 26 (by decide) (htw _ wd_10_77) (fun _ h9 => h9) rfl d_Mo_read_67 ?_
  refine va_put (D := (dC, dI)) (ci := 11) (v := .null) (ty := .object "SyntaxForgeModel$Module") (C := R_Mo) (T := F_Mo) (N := 53) hx hb htw i_Mo t_Mo t_Mo_ok n_Mo hown hK hP hD hS 0 rfl rfl 27 (by decide) (htw _ wd_10_78) (fun _ h9 => h9) rfl (by decide +kernel) rfl rfl (Nat.le_of_ble_eq_true rfl) d_Mo_read_70 (fun H locs hP hD hS => ?_)
  have hP : va_P (dC, dI) classes [(y0, .inr (11, [.int 1, .ref m_tape, .int 0, .ref m_result, .int 0, .int 0, .ref m_signs, .ref m_keptWords, .int 0, .int 0, .int 0, .long 0, .null, .int 0, .int 0, .int 0, .ref m_spelled, .ref m_pieced, .ref m_hexes, .ref m_words, .ref m_nextWords, .ref m_firstWords, .int 0, .ref m_pool, .int 0, .int 0, .null, .null, .ref m_chain, .ref m_waiting, .int 0, .int 0, .ref m_back, .ref m_spare, .int 0, .ref m_packed, .int 0, .int 0, .int 0, .int 0, .int 0, .long 0, .int 0, .int 0, .int 0, .long 0, .long 0, .ref m_theres, .int 0, .int 0, .int 0, .long 0, .int 0]))] H := hP
  have hD : va_D A [(y0, .inr (11, [.int 1, .ref m_tape, .int 0, .ref m_result, .int 0, .int 0, .ref m_signs, .ref m_keptWords, .int 0, .int 0, .int 0, .long 0, .null, .int 0, .int 0, .int 0, .ref m_spelled, .ref m_pieced, .ref m_hexes, .ref m_words, .ref m_nextWords, .ref m_firstWords, .int 0, .ref m_pool, .int 0, .int 0, .null, .null, .ref m_chain, .ref m_waiting, .int 0, .int 0, .ref m_back, .ref m_spare, .int 0, .ref m_packed, .int 0, .int 0, .int 0, .int 0, .int 0, .long 0, .int 0, .int 0, .int 0, .long 0, .long 0, .ref m_theres, .int 0, .int 0, .int 0, .long 0, .int 0]))] := hD
  refine lv_aload_n hx hb d_Mo_read_73 rfl (lv_at hl 2 rfl) ?_
  refine va_get (D := (dC, dI)) (ci := 11) (v := .int 1) (C := R_Mo) (T := F_Mo) (N := 53) hx hb htw i_Mo hown hK hP 0 rfl rfl 0 (by decide) (htw _ wd_10_51) (fun _ h9 => h9) rfl d_Mo_read_74 ?_
  refine lv_if_le (tgt := 84) hx hb d_Mo_read_77 rfl (fun ht => absurd ht (by decide)) (fun _ => ?_)
  refine lv_iconst (v := 0) hx hb d_Mo_read_80 (by decide) ?_
  refine lv_goto (tgt := 88) hx hb d_Mo_read_81 rfl ?_
  have hP9 := hP.sub (ws' := [(y0, .inr (11, [.int 1, .ref m_tape, .int 0, .ref m_result, .int 0, .int 0, .ref m_signs, .ref m_keptWords, .int 0, .int 0, .int 0, .long 0, .null, .int 0, .int 0, .int 0, .ref m_spelled, .ref m_pieced, .ref m_hexes, .ref m_words, .ref m_nextWords, .ref m_firstWords, .int 0, .ref m_pool, .int 0, .int 0, .null, .null, .ref m_chain, .ref m_waiting, .int 0, .int 0, .ref m_back, .ref m_spare, .int 0, .ref m_packed, .int 0, .int 0, .int 0, .int 0, .int 0, .long 0, .int 0, .int 0, .int 0, .long 0, .long 0, .ref m_theres, .int 0, .int 0, .int 0, .long 0, .int 0]))]) [0] rfl
  have hD9 := hD.sub (ws' := [(y0, .inr (11, [.int 1, .ref m_tape, .int 0, .ref m_result, .int 0, .int 0, .ref m_signs, .ref m_keptWords, .int 0, .int 0, .int 0, .long 0, .null, .int 0, .int 0, .int 0, .ref m_spelled, .ref m_pieced, .ref m_hexes, .ref m_words, .ref m_nextWords, .ref m_firstWords, .int 0, .ref m_pool, .int 0, .int 0, .null, .null, .ref m_chain, .ref m_waiting, .int 0, .int 0, .ref m_back, .ref m_spare, .int 0, .ref m_packed, .int 0, .int 0, .int 0, .int 0, .int 0, .long 0, .int 0, .int 0, .int 0, .long 0, .long 0, .ref m_theres, .int 0, .int 0, .int 0, .long 0, .int 0]))]) [0] (by decide) rfl
  have hK9 := hK.sub (tys' := []) [] rfl
  refine W.widen (k := 4) (n := 26) (by omega) (by omega) ?_
  exact W.iret (v := 0) hx hb hr (fun t ht hW => ⟨⟨0, (), rfl, rfl, by rw [ht]; exact hP9, va_K.moved hW.alike hK9, hD9⟩, hS.F ht⟩) hS.2.2 d_Mo_read_88
set_option maxHeartbeats 4000000 in
set_option maxRecDepth 100000 in
theorem c_Mo_thrown_v2 (l : Launch) (dC : Nat → ClassId) (dI : Nat → Nat → Nat) (sz : Nat) (y0 : Nat) (m_tape : Nat) (m_result : Nat) (m_signs : Nat) (m_keptWords : Nat) (m_spelled : Nat) (m_pieced : Nat) (m_hexes : Nat) (m_words : Nat) (m_nextWords : Nat) (m_firstWords : Nat) (m_pool : Nat) (m_chain : Nat) (m_waiting : Nat) (m_back : Nat) (m_spare : Nat) (m_packed : Nat) (m_theres : Nat) (fd : Int32) (pl : Int32) : Met l y_Mo_thrown ws_Mo_thrown ({ frames := 0, cells := 0, slots := 0, locals := 0 }) (va_Pc [.ref y0] (fun U => U.heap.size = sz ∧ va_P (dC, dI) classes [(y0, .inr (11, [.int fd, .ref m_tape, .int 0, .ref m_result, .int 0, .int pl, .ref m_signs, .ref m_keptWords, .int 0, .int 0, .int 0, .long 0, .null, .int 0, .int 0, .int 0, .ref m_spelled, .ref m_pieced, .ref m_hexes, .ref m_words, .ref m_nextWords, .ref m_firstWords, .int 0, .ref m_pool, .int 0, .int 0, .null, .null, .ref m_chain, .ref m_waiting, .int 0, .int 0, .ref m_back, .ref m_spare, .int 0, .ref m_packed, .int 0, .int 0, .int 0, .int 0, .int 0, .long 0, .int 0, .int 0, .int 0, .long 0, .long 0, .ref m_theres, .int 0, .int 0, .int 0, .long 0, .int 0]))] U.heap ∧ va_K (dC, dI) classes [] U ∧ va_D (fun _ => True) [(y0, .inr (11, [.int fd, .ref m_tape, .int 0, .ref m_result, .int 0, .int pl, .ref m_signs, .ref m_keptWords, .int 0, .int 0, .int 0, .long 0, .null, .int 0, .int 0, .int 0, .ref m_spelled, .ref m_pieced, .ref m_hexes, .ref m_words, .ref m_nextWords, .ref m_firstWords, .int 0, .ref m_pool, .int 0, .int 0, .null, .null, .ref m_chain, .ref m_waiting, .int 0, .int 0, .ref m_back, .ref m_spare, .int 0, .ref m_packed, .int 0, .int 0, .int 0, .int 0, .int 0, .long 0, .int 0, .int 0, .int 0, .long 0, .long 0, .ref m_theres, .int 0, .int 0, .int 0, .long 0, .int 0]))])) (va_Qi (fun (r : Int32) (_ : Unit) => r = fd) (fun _ t => va_P (dC, dI) classes [(y0, .inr (11, [.int fd, .ref m_tape, .int 0, .ref m_result, .int 0, .int pl, .ref m_signs, .ref m_keptWords, .int 0, .int 0, .int 0, .long 0, .null, .int 0, .int 0, .int 0, .ref m_spelled, .ref m_pieced, .ref m_hexes, .ref m_words, .ref m_nextWords, .ref m_firstWords, .int 0, .ref m_pool, .int 0, .int 0, .null, .null, .ref m_chain, .ref m_waiting, .int 0, .int 0, .ref m_back, .ref m_spare, .int 0, .ref m_packed, .int 0, .int 0, .int 0, .int 0, .int 0, .long 0, .int 0, .int 0, .int 0, .long 0, .long 0, .ref m_theres, .int 0, .int 0, .int 0, .long 0, .int 0]))] t.heap ∧ va_K (dC, dI) classes [] t ∧ va_D (va_A [(y0, .inr (11, [.int fd, .ref m_tape, .int 0, .ref m_result, .int 0, .int pl, .ref m_signs, .ref m_keptWords, .int 0, .int 0, .int 0, .long 0, .null, .int 0, .int 0, .int 0, .ref m_spelled, .ref m_pieced, .ref m_hexes, .ref m_words, .ref m_nextWords, .ref m_firstWords, .int 0, .ref m_pool, .int 0, .int 0, .null, .null, .ref m_chain, .ref m_waiting, .int 0, .int 0, .ref m_back, .ref m_spare, .int 0, .ref m_packed, .int 0, .int 0, .int 0, .int 0, .int 0, .long 0, .int 0, .int 0, .int 0, .long 0, .long 0, .ref m_theres, .int 0, .int 0, .int 0, .long 0, .int 0]))] sz) [(y0, .inr (11, [.int fd, .ref m_tape, .int 0, .ref m_result, .int 0, .int pl, .ref m_signs, .ref m_keptWords, .int 0, .int 0, .int 0, .long 0, .null, .int 0, .int 0, .int 0, .ref m_spelled, .ref m_pieced, .ref m_hexes, .ref m_words, .ref m_nextWords, .ref m_firstWords, .int 0, .ref m_pool, .int 0, .int 0, .null, .null, .ref m_chain, .ref m_waiting, .int 0, .int 0, .ref m_back, .ref m_spare, .int 0, .ref m_packed, .int 0, .int 0, .int 0, .int 0, .int 0, .long 0, .int 0, .int 0, .int 0, .long 0, .long 0, .ref m_theres, .int 0, .int 0, .int 0, .long 0, .int 0]))]) (va_A [(y0, .inr (11, [.int fd, .ref m_tape, .int 0, .ref m_result, .int 0, .int pl, .ref m_signs, .ref m_keptWords, .int 0, .int 0, .int 0, .long 0, .null, .int 0, .int 0, .int 0, .ref m_spelled, .ref m_pieced, .ref m_hexes, .ref m_words, .ref m_nextWords, .ref m_firstWords, .int 0, .ref m_pool, .int 0, .int 0, .null, .null, .ref m_chain, .ref m_waiting, .int 0, .int 0, .ref m_back, .ref m_spare, .int 0, .ref m_packed, .int 0, .int 0, .int 0, .int 0, .int 0, .long 0, .int 0, .int 0, .int 0, .long 0, .long 0, .ref m_theres, .int 0, .int 0, .int 0, .long 0, .int 0]))] sz)) 0 0 (va_A [(y0, .inr (11, [.int fd, .ref m_tape, .int 0, .ref m_result, .int 0, .int pl, .ref m_signs, .ref m_keptWords, .int 0, .int 0, .int 0, .long 0, .null, .int 0, .int 0, .int 0, .ref m_spelled, .ref m_pieced, .ref m_hexes, .ref m_words, .ref m_nextWords, .ref m_firstWords, .int 0, .ref m_pool, .int 0, .int 0, .null, .null, .ref m_chain, .ref m_waiting, .int 0, .int 0, .ref m_back, .ref m_spare, .int 0, .ref m_packed, .int 0, .int 0, .int 0, .int 0, .int 0, .long 0, .int 0, .int 0, .int 0, .long 0, .long 0, .ref m_theres, .int 0, .int 0, .int 0, .long 0, .int 0]))] sz) := by
  refine Met.ofW (cc := b_Mo_thrown) (maxL := 1) (ret := (some .int)) (by decide) rfl ?_
  intro p e s m args below meth c s₁ B hml hv
  obtain ⟨rfl, hsz, hP, hK, hD0⟩ := hv
  have hx := B.exec
  have hb := B.bytes
  have hr := B.returns
  have hts := atoms_spec (ws := ws_Mo_thrown) B.pre
  have htw : ∀ w ∈ tw_tbl, w.before [.ref y0].toArray s = true := fun w h => hts w (List.mem_cons_of_mem _ h)
  have hown : s.vm.findClass R_Mo = some m.cls := findClass_of_methodNamed B.named
  have hlocks := B.notSynchronized
  have hin : meth.name = "thrown" := (name_of_methodNamed B.named B.method).1
  subst hsz
  have hD := hD0.self (sz := s.heap.size)
  generalize hAe : va_A [(y0, .inr (11, [.int fd, .ref m_tape, .int 0, .ref m_result, .int 0, .int pl, .ref m_signs, .ref m_keptWords, .int 0, .int 0, .int 0, .long 0, .null, .int 0, .int 0, .int 0, .ref m_spelled, .ref m_pieced, .ref m_hexes, .ref m_words, .ref m_nextWords, .ref m_firstWords, .int 0, .ref m_pool, .int 0, .int 0, .null, .null, .ref m_chain, .ref m_waiting, .int 0, .int 0, .ref m_back, .ref m_spare, .int 0, .ref m_packed, .int 0, .int 0, .int 0, .int 0, .int 0, .long 0, .int 0, .int 0, .int 0, .long 0, .long 0, .ref m_theres, .int 0, .int 0, .int 0, .long 0, .int 0]))] s.heap.size = A at hD ⊢
  have hA : ∀ q : Nat, s.heap.size ≤ q → A q := fun q h => by rw [← hAe]; exact Or.inr h
  have hS : va_S A s.heap s.heap [] := va_S.rf
  have hP : va_P (dC, dI) classes [(y0, .inr (11, [.int fd, .ref m_tape, .int 0, .ref m_result, .int 0, .int pl, .ref m_signs, .ref m_keptWords, .int 0, .int 0, .int 0, .long 0, .null, .int 0, .int 0, .int 0, .ref m_spelled, .ref m_pieced, .ref m_hexes, .ref m_words, .ref m_nextWords, .ref m_firstWords, .int 0, .ref m_pool, .int 0, .int 0, .null, .null, .ref m_chain, .ref m_waiting, .int 0, .int 0, .ref m_back, .ref m_spare, .int 0, .ref m_packed, .int 0, .int 0, .int 0, .int 0, .int 0, .long 0, .int 0, .int 0, .int 0, .long 0, .long 0, .ref m_theres, .int 0, .int 0, .int 0, .long 0, .int 0]))] s.heap := hP
  have hl := lv_entry ([.ref y0]) (n := 1) (Nat.le_of_ble_eq_true rfl)
  rw [lg_entry_eq]
  generalize (lg_sl ([.ref y0]) ++ List.replicate (1 - (lg_sl ([.ref y0])).length) Slot.unset).toArray = ls at hl ⊢
  have hl : lv_has ls 1 [(0, .ref y0)] := hl
  refine lv_aload_n hx hb d_Mo_thrown_0 rfl (lv_at hl 0 rfl) ?_
  refine va_get (D := (dC, dI)) (ci := 11) (v := .int fd) (C := R_Mo) (T := F_Mo) (N := 53) hx hb htw i_Mo hown hK hP 0 rfl rfl 0 (by decide) (htw _ wd_10_51) (fun _ h9 => h9) rfl d_Mo_thrown_1 ?_
  have hP9 := hP.sub (ws' := [(y0, .inr (11, [.int fd, .ref m_tape, .int 0, .ref m_result, .int 0, .int pl, .ref m_signs, .ref m_keptWords, .int 0, .int 0, .int 0, .long 0, .null, .int 0, .int 0, .int 0, .ref m_spelled, .ref m_pieced, .ref m_hexes, .ref m_words, .ref m_nextWords, .ref m_firstWords, .int 0, .ref m_pool, .int 0, .int 0, .null, .null, .ref m_chain, .ref m_waiting, .int 0, .int 0, .ref m_back, .ref m_spare, .int 0, .ref m_packed, .int 0, .int 0, .int 0, .int 0, .int 0, .long 0, .int 0, .int 0, .int 0, .long 0, .long 0, .ref m_theres, .int 0, .int 0, .int 0, .long 0, .int 0]))]) [0] rfl
  have hD9 := hD.sub (ws' := [(y0, .inr (11, [.int fd, .ref m_tape, .int 0, .ref m_result, .int 0, .int pl, .ref m_signs, .ref m_keptWords, .int 0, .int 0, .int 0, .long 0, .null, .int 0, .int 0, .int 0, .ref m_spelled, .ref m_pieced, .ref m_hexes, .ref m_words, .ref m_nextWords, .ref m_firstWords, .int 0, .ref m_pool, .int 0, .int 0, .null, .null, .ref m_chain, .ref m_waiting, .int 0, .int 0, .ref m_back, .ref m_spare, .int 0, .ref m_packed, .int 0, .int 0, .int 0, .int 0, .int 0, .long 0, .int 0, .int 0, .int 0, .long 0, .long 0, .ref m_theres, .int 0, .int 0, .int 0, .long 0, .int 0]))]) [0] (by decide) rfl
  have hK9 := hK.sub (tys' := []) [] rfl
  refine W.widen (k := 0) (n := 0) (by omega) (by omega) ?_
  exact W.iret (v := fd) hx hb hr (fun t ht hW => ⟨⟨fd, (), rfl, rfl, by rw [ht]; exact hP9, va_K.moved hW.alike hK9, hD9⟩, hS.F ht⟩) hS.2.2 d_Mo_thrown_4
