/-! by program (wip/p1) -/
theorem wd_10_64 : Cond.fieldLink "SyntaxForgeModel" 183 "SyntaxForgeModel" "at" "I" ∈ tw_tbl := tw_t10 (List.mem_of_getElem? (i := 64) rfl) rfl
theorem wd_11_2 : Cond.methodLink "SyntaxForgeModel" 228 ⟨"SyntaxForgeModel", "skip", "()V"⟩ ∈ tw_tbl := tw_t11 (List.mem_of_getElem? (i := 2) rfl) rfl
theorem wd_11_4 : Cond.instanceMethod ⟨"SyntaxForgeModel", "skip", "()V"⟩ ∈ tw_tbl := tw_t11 (List.mem_of_getElem? (i := 4) rfl) rfl
theorem wp_9_14 : Cond.selects "SyntaxForgeModel" ⟨"SyntaxForgeModel", "skip", "()V"⟩ ⟨"SyntaxForgeModel", "skip", "()V"⟩ ∈ tw_tbl := tw_p9 (q := (⟨"SyntaxForgeModel", "skip", "()V"⟩, 53)) (List.mem_of_getElem? (i := 14) rfl)
theorem wd_10_60 : Cond.fieldLink "SyntaxForgeModel" 231 "SyntaxForgeModel" "from" "I" ∈ tw_tbl := tw_t10 (List.mem_of_getElem? (i := 60) rfl) rfl
theorem wd_10_59 : Cond.fieldLink "SyntaxForgeModel" 234 "SyntaxForgeModel" "token" "I" ∈ tw_tbl := tw_t10 (List.mem_of_getElem? (i := 59) rfl) rfl
theorem wd_10_76 : Cond.fieldLink "SyntaxForgeModel" 291 "SyntaxForgeModel" "pooling" "Z" ∈ tw_tbl := tw_t10 (List.mem_of_getElem? (i := 76) rfl) rfl
theorem wd_10_75 : Cond.fieldLink "SyntaxForgeModel" 296 "SyntaxForgeModel" "pooled" "I" ∈ tw_tbl := tw_t10 (List.mem_of_getElem? (i := 75) rfl) rfl
theorem wd_10_65 : Cond.fieldLink "SyntaxForgeModel" 457 "SyntaxForgeModel" "valuesOpen" "I" ∈ tw_tbl := tw_t10 (List.mem_of_getElem? (i := 65) rfl) rfl
theorem wd_10_66 : Cond.fieldLink "SyntaxForgeModel" 341 "SyntaxForgeModel" "typesOpen" "I" ∈ tw_tbl := tw_t10 (List.mem_of_getElem? (i := 66) rfl) rfl
theorem wd_10_238 : Cond.methodLink "SyntaxForgeModel" 288 ⟨"SyntaxForgeModel", "advance", "()V"⟩ ∈ tw_tbl := tw_t10 (List.mem_of_getElem? (i := 238) rfl) rfl
theorem wd_11_0 : Cond.instanceMethod ⟨"SyntaxForgeModel", "advance", "()V"⟩ ∈ tw_tbl := tw_t11 (List.mem_of_getElem? (i := 0) rfl) rfl
theorem wp_9_13 : Cond.selects "SyntaxForgeModel" ⟨"SyntaxForgeModel", "advance", "()V"⟩ ⟨"SyntaxForgeModel", "advance", "()V"⟩ ∈ tw_tbl := tw_p9 (q := (⟨"SyntaxForgeModel", "advance", "()V"⟩, 53)) (List.mem_of_getElem? (i := 13) rfl)
theorem wd_12_80 : Cond.methodLink "SyntaxForgeModel" 279 ⟨"java/lang/IllegalArgumentException", "<init>", "()V"⟩ ∈ tw_tbl := tw_t12 (List.mem_of_getElem? (i := 80) rfl) rfl
theorem wd_10_232 : Cond.classLink "SyntaxForgeModel" 277 "java/lang/IllegalArgumentException" ∈ tw_tbl := tw_t10 (List.mem_of_getElem? (i := 232) rfl) rfl
def y_Mo_skip : MethodName := ⟨"SyntaxForgeModel", "skip", "()V"⟩
abbrev b_Mo_skip : ByteArray := prog_15_method_8_code
abbrev cd_Mo_skip : Cond := .code y_Mo_skip b_Mo_skip 1 none
abbrev ws_Mo_skip : List Cond := cd_Mo_skip :: tw_tbl
theorem k_Mo_skip : cd_Mo_skip ∈ tw_tbl := tw_t11 (List.mem_of_getElem? (i := 5) rfl) rfl
theorem d_Mo_skip_0 : decode b_Mo_skip 0 = .ok (.aload_n 0, 1) := by decide +kernel
theorem d_Mo_skip_1 : decode b_Mo_skip 1 = .ok (.getfield 183, 3) := by decide +kernel
theorem d_Mo_skip_4 : decode b_Mo_skip 4 = .ok (.aload_n 0, 1) := by decide +kernel
theorem d_Mo_skip_5 : decode b_Mo_skip 5 = .ok (.getfield 180, 3) := by decide +kernel
theorem d_Mo_skip_8 : decode b_Mo_skip 8 = .ok (.if_icmp .ge 176, 3) := by decide +kernel
theorem d_Mo_skip_11 : decode b_Mo_skip 11 = .ok (.aload_n 0, 1) := by decide +kernel
theorem d_Mo_skip_12 : decode b_Mo_skip 12 = .ok (.aload_n 0, 1) := by decide +kernel
theorem d_Mo_skip_13 : decode b_Mo_skip 13 = .ok (.aload_n 0, 1) := by decide +kernel
theorem d_Mo_skip_14 : decode b_Mo_skip 14 = .ok (.getfield 183, 3) := by decide +kernel
theorem d_Mo_skip_17 : decode b_Mo_skip 17 = .ok (.invokevirtual 186, 3) := by decide +kernel
theorem d_Mo_skip_20 : decode b_Mo_skip 20 = .ok (.invokevirtual 190, 3) := by decide +kernel
theorem d_Mo_skip_23 : decode b_Mo_skip 23 = .ok (.ifCond .eq 16, 3) := by decide +kernel
theorem d_Mo_skip_26 : decode b_Mo_skip 26 = .ok (.aload_n 0, 1) := by decide +kernel
theorem d_Mo_skip_27 : decode b_Mo_skip 27 = .ok (.dup, 1) := by decide +kernel
theorem d_Mo_skip_28 : decode b_Mo_skip 28 = .ok (.getfield 183, 3) := by decide +kernel
theorem d_Mo_skip_31 : decode b_Mo_skip 31 = .ok (.iconst 1, 1) := by decide +kernel
theorem d_Mo_skip_32 : decode b_Mo_skip 32 = .ok (.iadd, 1) := by decide +kernel
theorem d_Mo_skip_33 : decode b_Mo_skip 33 = .ok (.putfield 183, 3) := by decide +kernel
theorem d_Mo_skip_36 : decode b_Mo_skip 36 = .ok (.goto (-36), 3) := by decide +kernel
theorem d_Mo_skip_39 : decode b_Mo_skip 39 = .ok (.aload_n 0, 1) := by decide +kernel
theorem d_Mo_skip_40 : decode b_Mo_skip 40 = .ok (.aload_n 0, 1) := by decide +kernel
theorem d_Mo_skip_41 : decode b_Mo_skip 41 = .ok (.getfield 183, 3) := by decide +kernel
theorem d_Mo_skip_44 : decode b_Mo_skip 44 = .ok (.invokevirtual 186, 3) := by decide +kernel
theorem d_Mo_skip_47 : decode b_Mo_skip 47 = .ok (.bipush 45, 2) := by decide +kernel
theorem d_Mo_skip_49 : decode b_Mo_skip 49 = .ok (.if_icmp .ne 134, 3) := by decide +kernel
theorem d_Mo_skip_52 : decode b_Mo_skip 52 = .ok (.aload_n 0, 1) := by decide +kernel
theorem d_Mo_skip_53 : decode b_Mo_skip 53 = .ok (.aload_n 0, 1) := by decide +kernel
theorem d_Mo_skip_54 : decode b_Mo_skip 54 = .ok (.getfield 183, 3) := by decide +kernel
theorem d_Mo_skip_57 : decode b_Mo_skip 57 = .ok (.iconst 1, 1) := by decide +kernel
theorem d_Mo_skip_58 : decode b_Mo_skip 58 = .ok (.iadd, 1) := by decide +kernel
theorem d_Mo_skip_59 : decode b_Mo_skip 59 = .ok (.invokevirtual 186, 3) := by decide +kernel
theorem d_Mo_skip_62 : decode b_Mo_skip 62 = .ok (.bipush 45, 2) := by decide +kernel
theorem d_Mo_skip_64 : decode b_Mo_skip 64 = .ok (.if_icmp .ne 119, 3) := by decide +kernel
theorem d_Mo_skip_67 : decode b_Mo_skip 67 = .ok (.aload_n 0, 1) := by decide +kernel
theorem d_Mo_skip_68 : decode b_Mo_skip 68 = .ok (.dup, 1) := by decide +kernel
theorem d_Mo_skip_69 : decode b_Mo_skip 69 = .ok (.getfield 183, 3) := by decide +kernel
theorem d_Mo_skip_72 : decode b_Mo_skip 72 = .ok (.iconst 2, 1) := by decide +kernel
theorem d_Mo_skip_73 : decode b_Mo_skip 73 = .ok (.iadd, 1) := by decide +kernel
theorem d_Mo_skip_74 : decode b_Mo_skip 74 = .ok (.putfield 183, 3) := by decide +kernel
theorem d_Mo_skip_77 : decode b_Mo_skip 77 = .ok (.aload_n 0, 1) := by decide +kernel
theorem d_Mo_skip_78 : decode b_Mo_skip 78 = .ok (.getfield 183, 3) := by decide +kernel
theorem d_Mo_skip_81 : decode b_Mo_skip 81 = .ok (.aload_n 0, 1) := by decide +kernel
theorem d_Mo_skip_82 : decode b_Mo_skip 82 = .ok (.getfield 180, 3) := by decide +kernel
theorem d_Mo_skip_85 : decode b_Mo_skip 85 = .ok (.if_icmp .ge 57, 3) := by decide +kernel
theorem d_Mo_skip_88 : decode b_Mo_skip 88 = .ok (.aload_n 0, 1) := by decide +kernel
theorem d_Mo_skip_89 : decode b_Mo_skip 89 = .ok (.aload_n 0, 1) := by decide +kernel
theorem d_Mo_skip_90 : decode b_Mo_skip 90 = .ok (.getfield 183, 3) := by decide +kernel
theorem d_Mo_skip_93 : decode b_Mo_skip 93 = .ok (.invokevirtual 186, 3) := by decide +kernel
theorem d_Mo_skip_96 : decode b_Mo_skip 96 = .ok (.bipush 10, 2) := by decide +kernel
theorem d_Mo_skip_98 : decode b_Mo_skip 98 = .ok (.if_icmp .eq 44, 3) := by decide +kernel
theorem d_Mo_skip_101 : decode b_Mo_skip 101 = .ok (.aload_n 0, 1) := by decide +kernel
theorem d_Mo_skip_102 : decode b_Mo_skip 102 = .ok (.aload_n 0, 1) := by decide +kernel
theorem d_Mo_skip_103 : decode b_Mo_skip 103 = .ok (.getfield 183, 3) := by decide +kernel
theorem d_Mo_skip_106 : decode b_Mo_skip 106 = .ok (.invokevirtual 186, 3) := by decide +kernel
theorem d_Mo_skip_109 : decode b_Mo_skip 109 = .ok (.bipush 45, 2) := by decide +kernel
theorem d_Mo_skip_111 : decode b_Mo_skip 111 = .ok (.if_icmp .ne 18, 3) := by decide +kernel
theorem d_Mo_skip_114 : decode b_Mo_skip 114 = .ok (.aload_n 0, 1) := by decide +kernel
theorem d_Mo_skip_115 : decode b_Mo_skip 115 = .ok (.aload_n 0, 1) := by decide +kernel
theorem d_Mo_skip_116 : decode b_Mo_skip 116 = .ok (.getfield 183, 3) := by decide +kernel
theorem d_Mo_skip_119 : decode b_Mo_skip 119 = .ok (.iconst 1, 1) := by decide +kernel
theorem d_Mo_skip_120 : decode b_Mo_skip 120 = .ok (.iadd, 1) := by decide +kernel
theorem d_Mo_skip_121 : decode b_Mo_skip 121 = .ok (.invokevirtual 186, 3) := by decide +kernel
theorem d_Mo_skip_124 : decode b_Mo_skip 124 = .ok (.bipush 45, 2) := by decide +kernel
theorem d_Mo_skip_126 : decode b_Mo_skip 126 = .ok (.if_icmp .eq 16, 3) := by decide +kernel
theorem d_Mo_skip_129 : decode b_Mo_skip 129 = .ok (.aload_n 0, 1) := by decide +kernel
theorem d_Mo_skip_130 : decode b_Mo_skip 130 = .ok (.dup, 1) := by decide +kernel
theorem d_Mo_skip_131 : decode b_Mo_skip 131 = .ok (.getfield 183, 3) := by decide +kernel
theorem d_Mo_skip_134 : decode b_Mo_skip 134 = .ok (.iconst 1, 1) := by decide +kernel
theorem d_Mo_skip_135 : decode b_Mo_skip 135 = .ok (.iadd, 1) := by decide +kernel
theorem d_Mo_skip_136 : decode b_Mo_skip 136 = .ok (.putfield 183, 3) := by decide +kernel
theorem d_Mo_skip_139 : decode b_Mo_skip 139 = .ok (.goto (-62), 3) := by decide +kernel
theorem d_Mo_skip_142 : decode b_Mo_skip 142 = .ok (.aload_n 0, 1) := by decide +kernel
theorem d_Mo_skip_143 : decode b_Mo_skip 143 = .ok (.getfield 183, 3) := by decide +kernel
theorem d_Mo_skip_146 : decode b_Mo_skip 146 = .ok (.aload_n 0, 1) := by decide +kernel
theorem d_Mo_skip_147 : decode b_Mo_skip 147 = .ok (.getfield 180, 3) := by decide +kernel
theorem d_Mo_skip_150 : decode b_Mo_skip 150 = .ok (.if_icmp .ge (-150), 3) := by decide +kernel
theorem d_Mo_skip_153 : decode b_Mo_skip 153 = .ok (.aload_n 0, 1) := by decide +kernel
theorem d_Mo_skip_154 : decode b_Mo_skip 154 = .ok (.dup, 1) := by decide +kernel
theorem d_Mo_skip_155 : decode b_Mo_skip 155 = .ok (.getfield 183, 3) := by decide +kernel
theorem d_Mo_skip_158 : decode b_Mo_skip 158 = .ok (.aload_n 0, 1) := by decide +kernel
theorem d_Mo_skip_159 : decode b_Mo_skip 159 = .ok (.aload_n 0, 1) := by decide +kernel
theorem d_Mo_skip_160 : decode b_Mo_skip 160 = .ok (.getfield 183, 3) := by decide +kernel
theorem d_Mo_skip_163 : decode b_Mo_skip 163 = .ok (.invokevirtual 186, 3) := by decide +kernel
theorem d_Mo_skip_166 : decode b_Mo_skip 166 = .ok (.bipush 10, 2) := by decide +kernel
theorem d_Mo_skip_168 : decode b_Mo_skip 168 = .ok (.if_icmp .ne 7, 3) := by decide +kernel
theorem d_Mo_skip_171 : decode b_Mo_skip 171 = .ok (.iconst 1, 1) := by decide +kernel
theorem d_Mo_skip_172 : decode b_Mo_skip 172 = .ok (.goto 4, 3) := by decide +kernel
theorem d_Mo_skip_175 : decode b_Mo_skip 175 = .ok (.iconst 2, 1) := by decide +kernel
theorem d_Mo_skip_176 : decode b_Mo_skip 176 = .ok (.iadd, 1) := by decide +kernel
theorem d_Mo_skip_177 : decode b_Mo_skip 177 = .ok (.putfield 183, 3) := by decide +kernel
theorem d_Mo_skip_180 : decode b_Mo_skip 180 = .ok (.goto (-180), 3) := by decide +kernel
theorem d_Mo_skip_183 : decode b_Mo_skip 183 = .ok (.return_, 1) := by decide +kernel
theorem d_Mo_skip_184 : decode b_Mo_skip 184 = .ok (.return_, 1) := by decide +kernel
def y_Mo_advance : MethodName := ⟨"SyntaxForgeModel", "advance", "()V"⟩
abbrev b_Mo_advance : ByteArray := prog_15_method_11_code
abbrev cd_Mo_advance : Cond := .code y_Mo_advance b_Mo_advance 5 none
abbrev ws_Mo_advance : List Cond := cd_Mo_advance :: tw_tbl
theorem k_Mo_advance : cd_Mo_advance ∈ tw_tbl := tw_t11 (List.mem_of_getElem? (i := 1) rfl) rfl
theorem d_Mo_advance_0 : decode b_Mo_advance 0 = .ok (.aload_n 0, 1) := by decide +kernel
theorem d_Mo_advance_1 : decode b_Mo_advance 1 = .ok (.invokevirtual 228, 3) := by decide +kernel
theorem d_Mo_advance_4 : decode b_Mo_advance 4 = .ok (.aload_n 0, 1) := by decide +kernel
theorem d_Mo_advance_5 : decode b_Mo_advance 5 = .ok (.aload_n 0, 1) := by decide +kernel
theorem d_Mo_advance_6 : decode b_Mo_advance 6 = .ok (.getfield 183, 3) := by decide +kernel
theorem d_Mo_advance_9 : decode b_Mo_advance 9 = .ok (.putfield 231, 3) := by decide +kernel
theorem d_Mo_advance_12 : decode b_Mo_advance 12 = .ok (.aload_n 0, 1) := by decide +kernel
theorem d_Mo_advance_13 : decode b_Mo_advance 13 = .ok (.getfield 183, 3) := by decide +kernel
theorem d_Mo_advance_16 : decode b_Mo_advance 16 = .ok (.aload_n 0, 1) := by decide +kernel
theorem d_Mo_advance_17 : decode b_Mo_advance 17 = .ok (.getfield 180, 3) := by decide +kernel
theorem d_Mo_advance_20 : decode b_Mo_advance 20 = .ok (.if_icmp .lt 25, 3) := by decide +kernel
theorem d_Mo_advance_23 : decode b_Mo_advance 23 = .ok (.aload_n 0, 1) := by decide +kernel
theorem d_Mo_advance_24 : decode b_Mo_advance 24 = .ok (.aload_n 0, 1) := by decide +kernel
theorem d_Mo_advance_25 : decode b_Mo_advance 25 = .ok (.getfield 180, 3) := by decide +kernel
theorem d_Mo_advance_28 : decode b_Mo_advance 28 = .ok (.putfield 183, 3) := by decide +kernel
theorem d_Mo_advance_31 : decode b_Mo_advance 31 = .ok (.aload_n 0, 1) := by decide +kernel
theorem d_Mo_advance_32 : decode b_Mo_advance 32 = .ok (.aload_n 0, 1) := by decide +kernel
theorem d_Mo_advance_33 : decode b_Mo_advance 33 = .ok (.getfield 180, 3) := by decide +kernel
theorem d_Mo_advance_36 : decode b_Mo_advance 36 = .ok (.putfield 231, 3) := by decide +kernel
theorem d_Mo_advance_39 : decode b_Mo_advance 39 = .ok (.aload_n 0, 1) := by decide +kernel
theorem d_Mo_advance_40 : decode b_Mo_advance 40 = .ok (.iconst 0, 1) := by decide +kernel
theorem d_Mo_advance_41 : decode b_Mo_advance 41 = .ok (.putfield 234, 3) := by decide +kernel
theorem d_Mo_advance_44 : decode b_Mo_advance 44 = .ok (.return_, 1) := by decide +kernel
theorem d_Mo_advance_45 : decode b_Mo_advance 45 = .ok (.aload_n 0, 1) := by decide +kernel
theorem d_Mo_advance_46 : decode b_Mo_advance 46 = .ok (.aload_n 0, 1) := by decide +kernel
theorem d_Mo_advance_47 : decode b_Mo_advance 47 = .ok (.getfield 183, 3) := by decide +kernel
theorem d_Mo_advance_50 : decode b_Mo_advance 50 = .ok (.invokevirtual 186, 3) := by decide +kernel
theorem d_Mo_advance_53 : decode b_Mo_advance 53 = .ok (.istore_n 1, 1) := by decide +kernel
theorem d_Mo_advance_54 : decode b_Mo_advance 54 = .ok (.aload_n 0, 1) := by decide +kernel
theorem d_Mo_advance_55 : decode b_Mo_advance 55 = .ok (.iload_n 1, 1) := by decide +kernel
theorem d_Mo_advance_56 : decode b_Mo_advance 56 = .ok (.invokevirtual 237, 3) := by decide +kernel
theorem d_Mo_advance_59 : decode b_Mo_advance 59 = .ok (.ifCond .eq 10, 3) := by decide +kernel
theorem d_Mo_advance_62 : decode b_Mo_advance 62 = .ok (.aload_n 0, 1) := by decide +kernel
theorem d_Mo_advance_63 : decode b_Mo_advance 63 = .ok (.invokevirtual 240, 3) := by decide +kernel
theorem d_Mo_advance_66 : decode b_Mo_advance 66 = .ok (.goto 165, 3) := by decide +kernel
theorem d_Mo_advance_69 : decode b_Mo_advance 69 = .ok (.aload_n 0, 1) := by decide +kernel
theorem d_Mo_advance_70 : decode b_Mo_advance 70 = .ok (.iload_n 1, 1) := by decide +kernel
theorem d_Mo_advance_71 : decode b_Mo_advance 71 = .ok (.invokevirtual 242, 3) := by decide +kernel
theorem d_Mo_advance_74 : decode b_Mo_advance 74 = .ok (.ifCond .eq 10, 3) := by decide +kernel
theorem d_Mo_advance_77 : decode b_Mo_advance 77 = .ok (.aload_n 0, 1) := by decide +kernel
theorem d_Mo_advance_78 : decode b_Mo_advance 78 = .ok (.invokevirtual 245, 3) := by decide +kernel
theorem d_Mo_advance_81 : decode b_Mo_advance 81 = .ok (.goto 150, 3) := by decide +kernel
theorem d_Mo_advance_84 : decode b_Mo_advance 84 = .ok (.iload_n 1, 1) := by decide +kernel
theorem d_Mo_advance_85 : decode b_Mo_advance 85 = .ok (.bipush 34, 2) := by decide +kernel
theorem d_Mo_advance_87 : decode b_Mo_advance 87 = .ok (.if_icmp .ne 10, 3) := by decide +kernel
theorem d_Mo_advance_90 : decode b_Mo_advance 90 = .ok (.aload_n 0, 1) := by decide +kernel
theorem d_Mo_advance_91 : decode b_Mo_advance 91 = .ok (.invokevirtual 248, 3) := by decide +kernel
theorem d_Mo_advance_94 : decode b_Mo_advance 94 = .ok (.goto 137, 3) := by decide +kernel
theorem d_Mo_advance_97 : decode b_Mo_advance 97 = .ok (.iload_n 1, 1) := by decide +kernel
theorem d_Mo_advance_98 : decode b_Mo_advance 98 = .ok (.bipush 39, 2) := by decide +kernel
theorem d_Mo_advance_100 : decode b_Mo_advance 100 = .ok (.if_icmp .ne 10, 3) := by decide +kernel
theorem d_Mo_advance_103 : decode b_Mo_advance 103 = .ok (.aload_n 0, 1) := by decide +kernel
theorem d_Mo_advance_104 : decode b_Mo_advance 104 = .ok (.invokevirtual 251, 3) := by decide +kernel
theorem d_Mo_advance_107 : decode b_Mo_advance 107 = .ok (.goto 124, 3) := by decide +kernel
theorem d_Mo_advance_110 : decode b_Mo_advance 110 = .ok (.aload_n 0, 1) := by decide +kernel
theorem d_Mo_advance_111 : decode b_Mo_advance 111 = .ok (.iconst 1, 1) := by decide +kernel
theorem d_Mo_advance_112 : decode b_Mo_advance 112 = .ok (.putfield 234, 3) := by decide +kernel
theorem d_Mo_advance_115 : decode b_Mo_advance 115 = .ok (.iconst 0, 1) := by decide +kernel
theorem d_Mo_advance_116 : decode b_Mo_advance 116 = .ok (.istore_n 2, 1) := by decide +kernel
theorem d_Mo_advance_117 : decode b_Mo_advance 117 = .ok (.iload_n 2, 1) := by decide +kernel
theorem d_Mo_advance_118 : decode b_Mo_advance 118 = .ok (.aload_n 0, 1) := by decide +kernel
theorem d_Mo_advance_119 : decode b_Mo_advance 119 = .ok (.getfield 47, 3) := by decide +kernel
theorem d_Mo_advance_122 : decode b_Mo_advance 122 = .ok (.arraylength, 1) := by decide +kernel
theorem d_Mo_advance_123 : decode b_Mo_advance 123 = .ok (.if_icmp .ge 108, 3) := by decide +kernel
theorem d_Mo_advance_126 : decode b_Mo_advance 126 = .ok (.aload_n 0, 1) := by decide +kernel
theorem d_Mo_advance_127 : decode b_Mo_advance 127 = .ok (.getfield 234, 3) := by decide +kernel
theorem d_Mo_advance_130 : decode b_Mo_advance 130 = .ok (.iconst 1, 1) := by decide +kernel
theorem d_Mo_advance_131 : decode b_Mo_advance 131 = .ok (.if_icmp .ne 100, 3) := by decide +kernel
theorem d_Mo_advance_134 : decode b_Mo_advance 134 = .ok (.iconst 1, 1) := by decide +kernel
theorem d_Mo_advance_135 : decode b_Mo_advance 135 = .ok (.istore_n 3, 1) := by decide +kernel
theorem d_Mo_advance_136 : decode b_Mo_advance 136 = .ok (.iconst 0, 1) := by decide +kernel
theorem d_Mo_advance_137 : decode b_Mo_advance 137 = .ok (.istore 4, 2) := by decide +kernel
theorem d_Mo_advance_139 : decode b_Mo_advance 139 = .ok (.iload 4, 2) := by decide +kernel
theorem d_Mo_advance_141 : decode b_Mo_advance 141 = .ok (.aload_n 0, 1) := by decide +kernel
theorem d_Mo_advance_142 : decode b_Mo_advance 142 = .ok (.getfield 47, 3) := by decide +kernel
theorem d_Mo_advance_145 : decode b_Mo_advance 145 = .ok (.iload_n 2, 1) := by decide +kernel
theorem d_Mo_advance_146 : decode b_Mo_advance 146 = .ok (.aaload, 1) := by decide +kernel
theorem d_Mo_advance_147 : decode b_Mo_advance 147 = .ok (.invokevirtual 202, 3) := by decide +kernel
theorem d_Mo_advance_150 : decode b_Mo_advance 150 = .ok (.if_icmp .ge 36, 3) := by decide +kernel
theorem d_Mo_advance_153 : decode b_Mo_advance 153 = .ok (.aload_n 0, 1) := by decide +kernel
theorem d_Mo_advance_154 : decode b_Mo_advance 154 = .ok (.aload_n 0, 1) := by decide +kernel
theorem d_Mo_advance_155 : decode b_Mo_advance 155 = .ok (.getfield 183, 3) := by decide +kernel
theorem d_Mo_advance_158 : decode b_Mo_advance 158 = .ok (.iload 4, 2) := by decide +kernel
theorem d_Mo_advance_160 : decode b_Mo_advance 160 = .ok (.iadd, 1) := by decide +kernel
theorem d_Mo_advance_161 : decode b_Mo_advance 161 = .ok (.invokevirtual 186, 3) := by decide +kernel
theorem d_Mo_advance_164 : decode b_Mo_advance 164 = .ok (.aload_n 0, 1) := by decide +kernel
theorem d_Mo_advance_165 : decode b_Mo_advance 165 = .ok (.getfield 47, 3) := by decide +kernel
theorem d_Mo_advance_168 : decode b_Mo_advance 168 = .ok (.iload_n 2, 1) := by decide +kernel
theorem d_Mo_advance_169 : decode b_Mo_advance 169 = .ok (.aaload, 1) := by decide +kernel
theorem d_Mo_advance_170 : decode b_Mo_advance 170 = .ok (.iload 4, 2) := by decide +kernel
theorem d_Mo_advance_172 : decode b_Mo_advance 172 = .ok (.invokevirtual 203, 3) := by decide +kernel
theorem d_Mo_advance_175 : decode b_Mo_advance 175 = .ok (.if_icmp .eq 5, 3) := by decide +kernel
theorem d_Mo_advance_178 : decode b_Mo_advance 178 = .ok (.iconst 0, 1) := by decide +kernel
theorem d_Mo_advance_179 : decode b_Mo_advance 179 = .ok (.istore_n 3, 1) := by decide +kernel
theorem d_Mo_advance_180 : decode b_Mo_advance 180 = .ok (.iinc 4 1, 3) := by decide +kernel
theorem d_Mo_advance_183 : decode b_Mo_advance 183 = .ok (.goto (-44), 3) := by decide +kernel
theorem d_Mo_advance_186 : decode b_Mo_advance 186 = .ok (.iload_n 3, 1) := by decide +kernel
theorem d_Mo_advance_187 : decode b_Mo_advance 187 = .ok (.ifCond .ne 6, 3) := by decide +kernel
theorem d_Mo_advance_190 : decode b_Mo_advance 190 = .ok (.goto 35, 3) := by decide +kernel
theorem d_Mo_advance_193 : decode b_Mo_advance 193 = .ok (.aload_n 0, 1) := by decide +kernel
theorem d_Mo_advance_194 : decode b_Mo_advance 194 = .ok (.bipush 9, 2) := by decide +kernel
theorem d_Mo_advance_196 : decode b_Mo_advance 196 = .ok (.putfield 234, 3) := by decide +kernel
theorem d_Mo_advance_199 : decode b_Mo_advance 199 = .ok (.aload_n 0, 1) := by decide +kernel
theorem d_Mo_advance_200 : decode b_Mo_advance 200 = .ok (.aload_n 0, 1) := by decide +kernel
theorem d_Mo_advance_201 : decode b_Mo_advance 201 = .ok (.getfield 47, 3) := by decide +kernel
theorem d_Mo_advance_204 : decode b_Mo_advance 204 = .ok (.iload_n 2, 1) := by decide +kernel
theorem d_Mo_advance_205 : decode b_Mo_advance 205 = .ok (.aaload, 1) := by decide +kernel
theorem d_Mo_advance_206 : decode b_Mo_advance 206 = .ok (.putfield 254, 3) := by decide +kernel
theorem d_Mo_advance_209 : decode b_Mo_advance 209 = .ok (.aload_n 0, 1) := by decide +kernel
theorem d_Mo_advance_210 : decode b_Mo_advance 210 = .ok (.dup, 1) := by decide +kernel
theorem d_Mo_advance_211 : decode b_Mo_advance 211 = .ok (.getfield 183, 3) := by decide +kernel
theorem d_Mo_advance_214 : decode b_Mo_advance 214 = .ok (.aload_n 0, 1) := by decide +kernel
theorem d_Mo_advance_215 : decode b_Mo_advance 215 = .ok (.getfield 254, 3) := by decide +kernel
theorem d_Mo_advance_218 : decode b_Mo_advance 218 = .ok (.invokevirtual 202, 3) := by decide +kernel
theorem d_Mo_advance_221 : decode b_Mo_advance 221 = .ok (.iadd, 1) := by decide +kernel
theorem d_Mo_advance_222 : decode b_Mo_advance 222 = .ok (.putfield 183, 3) := by decide +kernel
theorem d_Mo_advance_225 : decode b_Mo_advance 225 = .ok (.iinc 2 1, 3) := by decide +kernel
theorem d_Mo_advance_228 : decode b_Mo_advance 228 = .ok (.goto (-111), 3) := by decide +kernel
theorem d_Mo_advance_231 : decode b_Mo_advance 231 = .ok (.aload_n 0, 1) := by decide +kernel
theorem d_Mo_advance_232 : decode b_Mo_advance 232 = .ok (.aload_n 0, 1) := by decide +kernel
theorem d_Mo_advance_233 : decode b_Mo_advance 233 = .ok (.getfield 183, 3) := by decide +kernel
theorem d_Mo_advance_236 : decode b_Mo_advance 236 = .ok (.putfield 258, 3) := by decide +kernel
theorem d_Mo_advance_239 : decode b_Mo_advance 239 = .ok (.return_, 1) := by decide +kernel
def y_Mo_begin : MethodName := ⟨"SyntaxForgeModel", "begin", "(Z)V"⟩
abbrev b_Mo_begin : ByteArray := prog_15_method_163_code
abbrev cd_Mo_begin : Cond := .code y_Mo_begin b_Mo_begin 2 none
abbrev ws_Mo_begin : List Cond := cd_Mo_begin :: tw_tbl
theorem k_Mo_begin : cd_Mo_begin ∈ tw_tbl := tw_t10 (List.mem_of_getElem? (i := 237) rfl) rfl
theorem d_Mo_begin_0 : decode b_Mo_begin 0 = .ok (.aload_n 0, 1) := by decide +kernel
theorem d_Mo_begin_1 : decode b_Mo_begin 1 = .ok (.iload_n 1, 1) := by decide +kernel
theorem d_Mo_begin_2 : decode b_Mo_begin 2 = .ok (.putfield 291, 3) := by decide +kernel
theorem d_Mo_begin_5 : decode b_Mo_begin 5 = .ok (.aload_n 0, 1) := by decide +kernel
theorem d_Mo_begin_6 : decode b_Mo_begin 6 = .ok (.iconst 0, 1) := by decide +kernel
theorem d_Mo_begin_7 : decode b_Mo_begin 7 = .ok (.putfield 296, 3) := by decide +kernel
theorem d_Mo_begin_10 : decode b_Mo_begin 10 = .ok (.aload_n 0, 1) := by decide +kernel
theorem d_Mo_begin_11 : decode b_Mo_begin 11 = .ok (.iconst 0, 1) := by decide +kernel
theorem d_Mo_begin_12 : decode b_Mo_begin 12 = .ok (.putfield 183, 3) := by decide +kernel
theorem d_Mo_begin_15 : decode b_Mo_begin 15 = .ok (.aload_n 0, 1) := by decide +kernel
theorem d_Mo_begin_16 : decode b_Mo_begin 16 = .ok (.iconst 0, 1) := by decide +kernel
theorem d_Mo_begin_17 : decode b_Mo_begin 17 = .ok (.putfield 457, 3) := by decide +kernel
theorem d_Mo_begin_20 : decode b_Mo_begin 20 = .ok (.aload_n 0, 1) := by decide +kernel
theorem d_Mo_begin_21 : decode b_Mo_begin 21 = .ok (.iconst 0, 1) := by decide +kernel
theorem d_Mo_begin_22 : decode b_Mo_begin 22 = .ok (.putfield 341, 3) := by decide +kernel
theorem d_Mo_begin_25 : decode b_Mo_begin 25 = .ok (.aload_n 0, 1) := by decide +kernel
theorem d_Mo_begin_26 : decode b_Mo_begin 26 = .ok (.iconst (-1), 1) := by decide +kernel
theorem d_Mo_begin_27 : decode b_Mo_begin 27 = .ok (.putfield 17, 3) := by decide +kernel
theorem d_Mo_begin_30 : decode b_Mo_begin 30 = .ok (.aload_n 0, 1) := by decide +kernel
theorem d_Mo_begin_31 : decode b_Mo_begin 31 = .ok (.invokevirtual 288, 3) := by decide +kernel
theorem d_Mo_begin_34 : decode b_Mo_begin 34 = .ok (.return_, 1) := by decide +kernel
def y_Mo_can : MethodName := ⟨"SyntaxForgeModel", "can", "(Z)V"⟩
abbrev b_Mo_can : ByteArray := prog_15_method_17_code
abbrev cd_Mo_can : Cond := .code y_Mo_can b_Mo_can 2 none
abbrev ws_Mo_can : List Cond := cd_Mo_can :: tw_tbl
theorem k_Mo_can : cd_Mo_can ∈ tw_tbl := tw_t12 (List.mem_of_getElem? (i := 79) rfl) rfl
theorem d_Mo_can_0 : decode b_Mo_can 0 = .ok (.iload_n 1, 1) := by decide +kernel
theorem d_Mo_can_1 : decode b_Mo_can 1 = .ok (.ifCond .ne 11, 3) := by decide +kernel
theorem d_Mo_can_4 : decode b_Mo_can 4 = .ok (.new 277, 3) := by decide +kernel
theorem d_Mo_can_7 : decode b_Mo_can 7 = .ok (.dup, 1) := by decide +kernel
theorem d_Mo_can_8 : decode b_Mo_can 8 = .ok (.invokespecial 279, 3) := by decide +kernel
theorem d_Mo_can_11 : decode b_Mo_can 11 = .ok (.athrow, 1) := by decide +kernel
theorem d_Mo_can_12 : decode b_Mo_can 12 = .ok (.return_, 1) := by decide +kernel
set_option maxHeartbeats 4000000 in
set_option maxRecDepth 100000 in
theorem c_Mo_skip (l : Launch) (dC : Nat → ClassId) (dI : Nat → Nat → Nat) (sz : Nat) (y0 : Nat) (m_tape : Nat) (m_result : Nat) (m_signs : Nat) (m_keptWords : Nat) (m_spelled : Nat) (m_pieced : Nat) (m_hexes : Nat) (m_words : Nat) (m_nextWords : Nat) (m_firstWords : Nat) (m_pool : Nat) (m_chain : Nat) (m_waiting : Nat) (m_back : Nat) (m_spare : Nat) (m_packed : Nat) (m_theres : Nat) : Met l y_Mo_skip ws_Mo_skip ({ frames := 0, cells := 0, slots := 0, locals := 0 }) (va_Pc [.ref y0] (fun U => U.heap.size = sz ∧ va_P (dC, dI) classes [(y0, .inr (11, [.int 0, .ref m_tape, .int 0, .ref m_result, .int 0, .int ((-1)), .ref m_signs, .ref m_keptWords, .int 0, .int 0, .int 0, .long 0, .null, .int 0, .int 0, .int 0, .ref m_spelled, .ref m_pieced, .ref m_hexes, .ref m_words, .ref m_nextWords, .ref m_firstWords, .int 0, .ref m_pool, .int 0, .int 0, .null, .null, .ref m_chain, .ref m_waiting, .int 0, .int 0, .ref m_back, .ref m_spare, .int 0, .ref m_packed, .int 0, .int 0, .int 0, .int 0, .int 0, .long 0, .int 0, .int 0, .int 0, .long 0, .long 0, .ref m_theres, .int 0, .int 0, .int 0, .long 0, .int 0]))] U.heap ∧ va_K (dC, dI) classes [] U ∧ va_D (fun _ => True) [(y0, .inr (11, [.int 0, .ref m_tape, .int 0, .ref m_result, .int 0, .int ((-1)), .ref m_signs, .ref m_keptWords, .int 0, .int 0, .int 0, .long 0, .null, .int 0, .int 0, .int 0, .ref m_spelled, .ref m_pieced, .ref m_hexes, .ref m_words, .ref m_nextWords, .ref m_firstWords, .int 0, .ref m_pool, .int 0, .int 0, .null, .null, .ref m_chain, .ref m_waiting, .int 0, .int 0, .ref m_back, .ref m_spare, .int 0, .ref m_packed, .int 0, .int 0, .int 0, .int 0, .int 0, .long 0, .int 0, .int 0, .int 0, .long 0, .long 0, .ref m_theres, .int 0, .int 0, .int 0, .long 0, .int 0]))])) (va_Qv (fun _ : Unit => True) (fun _ t => va_P (dC, dI) classes [(y0, .inr (11, [.int 0, .ref m_tape, .int 0, .ref m_result, .int 0, .int ((-1)), .ref m_signs, .ref m_keptWords, .int 0, .int 0, .int 0, .long 0, .null, .int 0, .int 0, .int 0, .ref m_spelled, .ref m_pieced, .ref m_hexes, .ref m_words, .ref m_nextWords, .ref m_firstWords, .int 0, .ref m_pool, .int 0, .int 0, .null, .null, .ref m_chain, .ref m_waiting, .int 0, .int 0, .ref m_back, .ref m_spare, .int 0, .ref m_packed, .int 0, .int 0, .int 0, .int 0, .int 0, .long 0, .int 0, .int 0, .int 0, .long 0, .long 0, .ref m_theres, .int 0, .int 0, .int 0, .long 0, .int 0]))] t.heap ∧ va_K (dC, dI) classes [] t ∧ va_D (va_A [(y0, .inr (11, [.int 0, .ref m_tape, .int 0, .ref m_result, .int 0, .int ((-1)), .ref m_signs, .ref m_keptWords, .int 0, .int 0, .int 0, .long 0, .null, .int 0, .int 0, .int 0, .ref m_spelled, .ref m_pieced, .ref m_hexes, .ref m_words, .ref m_nextWords, .ref m_firstWords, .int 0, .ref m_pool, .int 0, .int 0, .null, .null, .ref m_chain, .ref m_waiting, .int 0, .int 0, .ref m_back, .ref m_spare, .int 0, .ref m_packed, .int 0, .int 0, .int 0, .int 0, .int 0, .long 0, .int 0, .int 0, .int 0, .long 0, .long 0, .ref m_theres, .int 0, .int 0, .int 0, .long 0, .int 0]))] sz) [(y0, .inr (11, [.int 0, .ref m_tape, .int 0, .ref m_result, .int 0, .int ((-1)), .ref m_signs, .ref m_keptWords, .int 0, .int 0, .int 0, .long 0, .null, .int 0, .int 0, .int 0, .ref m_spelled, .ref m_pieced, .ref m_hexes, .ref m_words, .ref m_nextWords, .ref m_firstWords, .int 0, .ref m_pool, .int 0, .int 0, .null, .null, .ref m_chain, .ref m_waiting, .int 0, .int 0, .ref m_back, .ref m_spare, .int 0, .ref m_packed, .int 0, .int 0, .int 0, .int 0, .int 0, .long 0, .int 0, .int 0, .int 0, .long 0, .long 0, .ref m_theres, .int 0, .int 0, .int 0, .long 0, .int 0]))]) (va_A [(y0, .inr (11, [.int 0, .ref m_tape, .int 0, .ref m_result, .int 0, .int ((-1)), .ref m_signs, .ref m_keptWords, .int 0, .int 0, .int 0, .long 0, .null, .int 0, .int 0, .int 0, .ref m_spelled, .ref m_pieced, .ref m_hexes, .ref m_words, .ref m_nextWords, .ref m_firstWords, .int 0, .ref m_pool, .int 0, .int 0, .null, .null, .ref m_chain, .ref m_waiting, .int 0, .int 0, .ref m_back, .ref m_spare, .int 0, .ref m_packed, .int 0, .int 0, .int 0, .int 0, .int 0, .long 0, .int 0, .int 0, .int 0, .long 0, .long 0, .ref m_theres, .int 0, .int 0, .int 0, .long 0, .int 0]))] sz)) 0 0 (va_A [(y0, .inr (11, [.int 0, .ref m_tape, .int 0, .ref m_result, .int 0, .int ((-1)), .ref m_signs, .ref m_keptWords, .int 0, .int 0, .int 0, .long 0, .null, .int 0, .int 0, .int 0, .ref m_spelled, .ref m_pieced, .ref m_hexes, .ref m_words, .ref m_nextWords, .ref m_firstWords, .int 0, .ref m_pool, .int 0, .int 0, .null, .null, .ref m_chain, .ref m_waiting, .int 0, .int 0, .ref m_back, .ref m_spare, .int 0, .ref m_packed, .int 0, .int 0, .int 0, .int 0, .int 0, .long 0, .int 0, .int 0, .int 0, .long 0, .long 0, .ref m_theres, .int 0, .int 0, .int 0, .long 0, .int 0]))] sz) := by
  refine Met.ofW (cc := b_Mo_skip) (maxL := 1) (ret := none) (by decide) rfl ?_
  intro p e s m args below meth c s₁ B hml hv
  obtain ⟨rfl, hsz, hP, hK, hD0⟩ := hv
  have hx := B.exec
  have hb := B.bytes
  have hr := B.returns
  have hts := atoms_spec (ws := ws_Mo_skip) B.pre
  have htw : ∀ w ∈ tw_tbl, w.before [.ref y0].toArray s = true := fun w h => hts w (List.mem_cons_of_mem _ h)
  have hown : s.vm.findClass R_Mo = some m.cls := findClass_of_methodNamed B.named
  have hlocks := B.notSynchronized
  have hin : meth.name = "skip" := (name_of_methodNamed B.named B.method).1
  subst hsz
  have hD := hD0.self (sz := s.heap.size)
  generalize hAe : va_A [(y0, .inr (11, [.int 0, .ref m_tape, .int 0, .ref m_result, .int 0, .int ((-1)), .ref m_signs, .ref m_keptWords, .int 0, .int 0, .int 0, .long 0, .null, .int 0, .int 0, .int 0, .ref m_spelled, .ref m_pieced, .ref m_hexes, .ref m_words, .ref m_nextWords, .ref m_firstWords, .int 0, .ref m_pool, .int 0, .int 0, .null, .null, .ref m_chain, .ref m_waiting, .int 0, .int 0, .ref m_back, .ref m_spare, .int 0, .ref m_packed, .int 0, .int 0, .int 0, .int 0, .int 0, .long 0, .int 0, .int 0, .int 0, .long 0, .long 0, .ref m_theres, .int 0, .int 0, .int 0, .long 0, .int 0]))] s.heap.size = A at hD ⊢
  have hA : ∀ q : Nat, s.heap.size ≤ q → A q := fun q h => by rw [← hAe]; exact Or.inr h
  have hS : va_S A s.heap s.heap [] := va_S.rf
  have hP : va_P (dC, dI) classes [(y0, .inr (11, [.int 0, .ref m_tape, .int 0, .ref m_result, .int 0, .int ((-1)), .ref m_signs, .ref m_keptWords, .int 0, .int 0, .int 0, .long 0, .null, .int 0, .int 0, .int 0, .ref m_spelled, .ref m_pieced, .ref m_hexes, .ref m_words, .ref m_nextWords, .ref m_firstWords, .int 0, .ref m_pool, .int 0, .int 0, .null, .null, .ref m_chain, .ref m_waiting, .int 0, .int 0, .ref m_back, .ref m_spare, .int 0, .ref m_packed, .int 0, .int 0, .int 0, .int 0, .int 0, .long 0, .int 0, .int 0, .int 0, .long 0, .long 0, .ref m_theres, .int 0, .int 0, .int 0, .long 0, .int 0]))] s.heap := hP
  have hl := lv_entry ([.ref y0]) (n := 1) (Nat.le_of_ble_eq_true rfl)
  rw [lg_entry_eq]
  generalize (lg_sl ([.ref y0]) ++ List.replicate (1 - (lg_sl ([.ref y0])).length) Slot.unset).toArray = ls at hl ⊢
  have hl : lv_has ls 1 [(0, .ref y0)] := hl
  refine lv_aload_n hx hb d_Mo_skip_0 rfl (lv_at hl 0 rfl) ?_
  refine va_get (D := (dC, dI)) (ci := 11) (v := .int 0) (C := R_Mo) (T := F_Mo) (N := 53) hx hb htw i_Mo hown hK hP 0 rfl rfl 13 (by decide) (htw _ wd_10_64) (fun _ h9 => h9) rfl d_Mo_skip_1 ?_
  refine lv_aload_n hx hb d_Mo_skip_4 rfl (lv_at hl 0 rfl) ?_
  refine va_get (D := (dC, dI)) (ci := 11) (v := .int 0) (C := R_Mo) (T := F_Mo) (N := 53) hx hb htw i_Mo hown hK hP 0 rfl rfl 2 (by decide) (htw _ wd_10_53) (fun _ h9 => h9) rfl d_Mo_skip_5 ?_
  refine lv_icmp_ge (tgt := 184) hx hb d_Mo_skip_8 rfl (fun _ => ?_) (fun hn => absurd (by decide) hn)
  have hP9 := hP.sub (ws' := [(y0, .inr (11, [.int 0, .ref m_tape, .int 0, .ref m_result, .int 0, .int ((-1)), .ref m_signs, .ref m_keptWords, .int 0, .int 0, .int 0, .long 0, .null, .int 0, .int 0, .int 0, .ref m_spelled, .ref m_pieced, .ref m_hexes, .ref m_words, .ref m_nextWords, .ref m_firstWords, .int 0, .ref m_pool, .int 0, .int 0, .null, .null, .ref m_chain, .ref m_waiting, .int 0, .int 0, .ref m_back, .ref m_spare, .int 0, .ref m_packed, .int 0, .int 0, .int 0, .int 0, .int 0, .long 0, .int 0, .int 0, .int 0, .long 0, .long 0, .ref m_theres, .int 0, .int 0, .int 0, .long 0, .int 0]))]) [0] rfl
  have hD9 := hD.sub (ws' := [(y0, .inr (11, [.int 0, .ref m_tape, .int 0, .ref m_result, .int 0, .int ((-1)), .ref m_signs, .ref m_keptWords, .int 0, .int 0, .int 0, .long 0, .null, .int 0, .int 0, .int 0, .ref m_spelled, .ref m_pieced, .ref m_hexes, .ref m_words, .ref m_nextWords, .ref m_firstWords, .int 0, .ref m_pool, .int 0, .int 0, .null, .null, .ref m_chain, .ref m_waiting, .int 0, .int 0, .ref m_back, .ref m_spare, .int 0, .ref m_packed, .int 0, .int 0, .int 0, .int 0, .int 0, .long 0, .int 0, .int 0, .int 0, .long 0, .long 0, .ref m_theres, .int 0, .int 0, .int 0, .long 0, .int 0]))]) [0] (by decide) rfl
  have hK9 := hK.sub (tys' := []) [] rfl
  refine W.widen (k := 0) (n := 0) (by omega) (by omega) ?_
  exact W.vret hx hb hr (fun t ht hW => ⟨⟨(), rfl, trivial, by rw [ht]; exact hP9, va_K.moved hW.alike hK9, hD9⟩, hS.F ht⟩) hS.2.2 d_Mo_skip_184
set_option maxHeartbeats 4000000 in
set_option maxRecDepth 100000 in
theorem c_Mo_advance (l : Launch) (dC : Nat → ClassId) (dI : Nat → Nat → Nat) (sz : Nat) (y0 : Nat) (m_tape : Nat) (m_result : Nat) (m_signs : Nat) (m_keptWords : Nat) (m_spelled : Nat) (m_pieced : Nat) (m_hexes : Nat) (m_words : Nat) (m_nextWords : Nat) (m_firstWords : Nat) (m_pool : Nat) (m_chain : Nat) (m_waiting : Nat) (m_back : Nat) (m_spare : Nat) (m_packed : Nat) (m_theres : Nat) : Met l y_Mo_advance ws_Mo_advance ({ frames := 1, cells := 0, slots := 0, locals := 20 }) (va_Pc [.ref y0] (fun U => U.heap.size = sz ∧ va_P (dC, dI) classes [(y0, .inr (11, [.int 0, .ref m_tape, .int 0, .ref m_result, .int 0, .int ((-1)), .ref m_signs, .ref m_keptWords, .int 0, .int 0, .int 0, .long 0, .null, .int 0, .int 0, .int 0, .ref m_spelled, .ref m_pieced, .ref m_hexes, .ref m_words, .ref m_nextWords, .ref m_firstWords, .int 0, .ref m_pool, .int 0, .int 0, .null, .null, .ref m_chain, .ref m_waiting, .int 0, .int 0, .ref m_back, .ref m_spare, .int 0, .ref m_packed, .int 0, .int 0, .int 0, .int 0, .int 0, .long 0, .int 0, .int 0, .int 0, .long 0, .long 0, .ref m_theres, .int 0, .int 0, .int 0, .long 0, .int 0]))] U.heap ∧ va_K (dC, dI) classes [] U ∧ va_D (fun _ => True) [(y0, .inr (11, [.int 0, .ref m_tape, .int 0, .ref m_result, .int 0, .int ((-1)), .ref m_signs, .ref m_keptWords, .int 0, .int 0, .int 0, .long 0, .null, .int 0, .int 0, .int 0, .ref m_spelled, .ref m_pieced, .ref m_hexes, .ref m_words, .ref m_nextWords, .ref m_firstWords, .int 0, .ref m_pool, .int 0, .int 0, .null, .null, .ref m_chain, .ref m_waiting, .int 0, .int 0, .ref m_back, .ref m_spare, .int 0, .ref m_packed, .int 0, .int 0, .int 0, .int 0, .int 0, .long 0, .int 0, .int 0, .int 0, .long 0, .long 0, .ref m_theres, .int 0, .int 0, .int 0, .long 0, .int 0]))])) (va_Qv (fun _ : Unit => True) (fun _ t => va_P (dC, dI) classes [(y0, .inr (11, [.int 0, .ref m_tape, .int 0, .ref m_result, .int 0, .int ((-1)), .ref m_signs, .ref m_keptWords, .int 0, .int 0, .int 0, .long 0, .null, .int 0, .int 0, .int 0, .ref m_spelled, .ref m_pieced, .ref m_hexes, .ref m_words, .ref m_nextWords, .ref m_firstWords, .int 0, .ref m_pool, .int 0, .int 0, .null, .null, .ref m_chain, .ref m_waiting, .int 0, .int 0, .ref m_back, .ref m_spare, .int 0, .ref m_packed, .int 0, .int 0, .int 0, .int 0, .int 0, .long 0, .int 0, .int 0, .int 0, .long 0, .long 0, .ref m_theres, .int 0, .int 0, .int 0, .long 0, .int 0]))] t.heap ∧ va_K (dC, dI) classes [] t ∧ va_D (va_A [(y0, .inr (11, [.int 0, .ref m_tape, .int 0, .ref m_result, .int 0, .int ((-1)), .ref m_signs, .ref m_keptWords, .int 0, .int 0, .int 0, .long 0, .null, .int 0, .int 0, .int 0, .ref m_spelled, .ref m_pieced, .ref m_hexes, .ref m_words, .ref m_nextWords, .ref m_firstWords, .int 0, .ref m_pool, .int 0, .int 0, .null, .null, .ref m_chain, .ref m_waiting, .int 0, .int 0, .ref m_back, .ref m_spare, .int 0, .ref m_packed, .int 0, .int 0, .int 0, .int 0, .int 0, .long 0, .int 0, .int 0, .int 0, .long 0, .long 0, .ref m_theres, .int 0, .int 0, .int 0, .long 0, .int 0]))] sz) [(y0, .inr (11, [.int 0, .ref m_tape, .int 0, .ref m_result, .int 0, .int ((-1)), .ref m_signs, .ref m_keptWords, .int 0, .int 0, .int 0, .long 0, .null, .int 0, .int 0, .int 0, .ref m_spelled, .ref m_pieced, .ref m_hexes, .ref m_words, .ref m_nextWords, .ref m_firstWords, .int 0, .ref m_pool, .int 0, .int 0, .null, .null, .ref m_chain, .ref m_waiting, .int 0, .int 0, .ref m_back, .ref m_spare, .int 0, .ref m_packed, .int 0, .int 0, .int 0, .int 0, .int 0, .long 0, .int 0, .int 0, .int 0, .long 0, .long 0, .ref m_theres, .int 0, .int 0, .int 0, .long 0, .int 0]))]) (va_A [(y0, .inr (11, [.int 0, .ref m_tape, .int 0, .ref m_result, .int 0, .int ((-1)), .ref m_signs, .ref m_keptWords, .int 0, .int 0, .int 0, .long 0, .null, .int 0, .int 0, .int 0, .ref m_spelled, .ref m_pieced, .ref m_hexes, .ref m_words, .ref m_nextWords, .ref m_firstWords, .int 0, .ref m_pool, .int 0, .int 0, .null, .null, .ref m_chain, .ref m_waiting, .int 0, .int 0, .ref m_back, .ref m_spare, .int 0, .ref m_packed, .int 0, .int 0, .int 0, .int 0, .int 0, .long 0, .int 0, .int 0, .int 0, .long 0, .long 0, .ref m_theres, .int 0, .int 0, .int 0, .long 0, .int 0]))] sz)) 0 0 (va_A [(y0, .inr (11, [.int 0, .ref m_tape, .int 0, .ref m_result, .int 0, .int ((-1)), .ref m_signs, .ref m_keptWords, .int 0, .int 0, .int 0, .long 0, .null, .int 0, .int 0, .int 0, .ref m_spelled, .ref m_pieced, .ref m_hexes, .ref m_words, .ref m_nextWords, .ref m_firstWords, .int 0, .ref m_pool, .int 0, .int 0, .null, .null, .ref m_chain, .ref m_waiting, .int 0, .int 0, .ref m_back, .ref m_spare, .int 0, .ref m_packed, .int 0, .int 0, .int 0, .int 0, .int 0, .long 0, .int 0, .int 0, .int 0, .long 0, .long 0, .ref m_theres, .int 0, .int 0, .int 0, .long 0, .int 0]))] sz) := by
  refine Met.ofW (cc := b_Mo_advance) (maxL := 5) (ret := none) (by decide) rfl ?_
  intro p e s m args below meth c s₁ B hml hv
  obtain ⟨rfl, hsz, hP, hK, hD0⟩ := hv
  have hx := B.exec
  have hb := B.bytes
  have hr := B.returns
  have hts := atoms_spec (ws := ws_Mo_advance) B.pre
  have htw : ∀ w ∈ tw_tbl, w.before [.ref y0].toArray s = true := fun w h => hts w (List.mem_cons_of_mem _ h)
  have hown : s.vm.findClass R_Mo = some m.cls := findClass_of_methodNamed B.named
  have hlocks := B.notSynchronized
  have hin : meth.name = "advance" := (name_of_methodNamed B.named B.method).1
  subst hsz
  have hD := hD0.self (sz := s.heap.size)
  generalize hAe : va_A [(y0, .inr (11, [.int 0, .ref m_tape, .int 0, .ref m_result, .int 0, .int ((-1)), .ref m_signs, .ref m_keptWords, .int 0, .int 0, .int 0, .long 0, .null, .int 0, .int 0, .int 0, .ref m_spelled, .ref m_pieced, .ref m_hexes, .ref m_words, .ref m_nextWords, .ref m_firstWords, .int 0, .ref m_pool, .int 0, .int 0, .null, .null, .ref m_chain, .ref m_waiting, .int 0, .int 0, .ref m_back, .ref m_spare, .int 0, .ref m_packed, .int 0, .int 0, .int 0, .int 0, .int 0, .long 0, .int 0, .int 0, .int 0, .long 0, .long 0, .ref m_theres, .int 0, .int 0, .int 0, .long 0, .int 0]))] s.heap.size = A at hD ⊢
  have hA : ∀ q : Nat, s.heap.size ≤ q → A q := fun q h => by rw [← hAe]; exact Or.inr h
  have hS : va_S A s.heap s.heap [] := va_S.rf
  have hP : va_P (dC, dI) classes [(y0, .inr (11, [.int 0, .ref m_tape, .int 0, .ref m_result, .int 0, .int ((-1)), .ref m_signs, .ref m_keptWords, .int 0, .int 0, .int 0, .long 0, .null, .int 0, .int 0, .int 0, .ref m_spelled, .ref m_pieced, .ref m_hexes, .ref m_words, .ref m_nextWords, .ref m_firstWords, .int 0, .ref m_pool, .int 0, .int 0, .null, .null, .ref m_chain, .ref m_waiting, .int 0, .int 0, .ref m_back, .ref m_spare, .int 0, .ref m_packed, .int 0, .int 0, .int 0, .int 0, .int 0, .long 0, .int 0, .int 0, .int 0, .long 0, .long 0, .ref m_theres, .int 0, .int 0, .int 0, .long 0, .int 0]))] s.heap := hP
  have hl := lv_entry ([.ref y0]) (n := 5) (Nat.le_of_ble_eq_true rfl)
  rw [lg_entry_eq]
  generalize (lg_sl ([.ref y0]) ++ List.replicate (5 - (lg_sl ([.ref y0])).length) Slot.unset).toArray = ls at hl ⊢
  have hl : lv_has ls 5 [(0, .ref y0)] := hl
  refine lv_aload_n hx hb d_Mo_advance_0 rfl (lv_at hl 0 rfl) ?_
  have hc0 : 0 + 0 ≤ 0 := by omega
  have hs0 : 0 + 0 ≤ 0 := by omega
  have hPc := hP.sub (ws' := [(y0, .inr (11, [.int 0, .ref m_tape, .int 0, .ref m_result, .int 0, .int ((-1)), .ref m_signs, .ref m_keptWords, .int 0, .int 0, .int 0, .long 0, .null, .int 0, .int 0, .int 0, .ref m_spelled, .ref m_pieced, .ref m_hexes, .ref m_words, .ref m_nextWords, .ref m_firstWords, .int 0, .ref m_pool, .int 0, .int 0, .null, .null, .ref m_chain, .ref m_waiting, .int 0, .int 0, .ref m_back, .ref m_spare, .int 0, .ref m_packed, .int 0, .int 0, .int 0, .int 0, .int 0, .long 0, .int 0, .int 0, .int 0, .long 0, .long 0, .ref m_theres, .int 0, .int 0, .int 0, .long 0, .int 0]))]) [0] rfl
  have hDc := hD.sub (ws' := [(y0, .inr (11, [.int 0, .ref m_tape, .int 0, .ref m_result, .int 0, .int ((-1)), .ref m_signs, .ref m_keptWords, .int 0, .int 0, .int 0, .long 0, .null, .int 0, .int 0, .int 0, .ref m_spelled, .ref m_pieced, .ref m_hexes, .ref m_words, .ref m_nextWords, .ref m_firstWords, .int 0, .ref m_pool, .int 0, .int 0, .null, .null, .ref m_chain, .ref m_waiting, .int 0, .int 0, .ref m_back, .ref m_spare, .int 0, .ref m_packed, .int 0, .int 0, .int 0, .int 0, .int 0, .long 0, .int 0, .int 0, .int 0, .long 0, .long 0, .ref m_theres, .int 0, .int 0, .int 0, .long 0, .int 0]))]) [0] (by decide) rfl
  have hKc := hK.sub (tys' := []) [] rfl
  have hFc := va_free (wc := [(y0, .inr (11, [.int 0, .ref m_tape, .int 0, .ref m_result, .int 0, .int ((-1)), .ref m_signs, .ref m_keptWords, .int 0, .int 0, .int 0, .long 0, .null, .int 0, .int 0, .int 0, .ref m_spelled, .ref m_pieced, .ref m_hexes, .ref m_words, .ref m_nextWords, .ref m_firstWords, .int 0, .ref m_pool, .int 0, .int 0, .null, .null, .ref m_chain, .ref m_waiting, .int 0, .int 0, .ref m_back, .ref m_spare, .int 0, .ref m_packed, .int 0, .int 0, .int 0, .int 0, .int 0, .long 0, .int 0, .int 0, .int 0, .long 0, .long 0, .ref m_theres, .int 0, .int 0, .int 0, .long 0, .int 0]))]) hD hS hA [0] rfl
  refine va_callv (va_runV (As := []) (rest := []) ⟨hx, hb, hml, hown, htw⟩ (c_Mo_skip l dC dI s.heap.size y0 m_tape m_result m_signs m_keptWords m_spelled m_pieced m_hexes m_words m_nextWords m_firstWords m_pool m_chain m_waiting m_back m_spare m_packed m_theres) (cwV 0 htw (tw_V wd_11_2 wd_11_4 wp_9_14 wd_1_21 k_Mo_skip) rfl rfl rfl (by decide +kernel) ⟨Nat.le_of_ble_eq_true rfl, Nat.le_of_ble_eq_true rfl⟩) ⟨fun a U g mk q => by obtain ⟨q0, q1, qP, qK, qD⟩ := q; exact ⟨q0, q1, qP, va_K.moved (u := U) (U := U.calling g mk a) (Vm.Alike.refl U.vm) qK, qD⟩, va_recv hK hP (q := (R_Mo, F_Mo, 53)) (ci := 11) (q0 := 0) rfl rfl, fun U hU hW => ⟨rfl, by rw [hU], by rw [hU]; exact hPc, va_K.moved hW.alike hKc, hDc.weaken (fun _ _ _ _ => trivial)⟩⟩ rfl rfl hl.1 rfl (lv_room (Nat.le_of_ble_eq_true rfl)) d_Mo_advance_1 ⟨hc0, hs0⟩) hS (fun q _ h => hFc q h) hFc (fun u t H1 locs ht hvm hw hB hz1 hk1 hS => ?_)
  obtain ⟨hP1, hK1, hD1⟩ := hB
  rw [ht] at hP1
  have hK1 := va_K.moved hvm.symm hK1
  obtain ⟨hP, hD⟩ := va_join (wr := []) (w1 := [(y0, .inr (11, [.int 0, .ref m_tape, .int 0, .ref m_result, .int 0, .int ((-1)), .ref m_signs, .ref m_keptWords, .int 0, .int 0, .int 0, .long 0, .null, .int 0, .int 0, .int 0, .ref m_spelled, .ref m_pieced, .ref m_hexes, .ref m_words, .ref m_nextWords, .ref m_firstWords, .int 0, .ref m_pool, .int 0, .int 0, .null, .null, .ref m_chain, .ref m_waiting, .int 0, .int 0, .ref m_back, .ref m_spare, .int 0, .ref m_packed, .int 0, .int 0, .int 0, .int 0, .int 0, .long 0, .int 0, .int 0, .int 0, .long 0, .long 0, .ref m_theres, .int 0, .int 0, .int 0, .long 0, .int 0]))]) hP hD [0] [] rfl rfl (by decide) (by decide) hk1 hFc hP1 hD1
  have hK := (hK.sub (tys' := []) [] rfl).app hK1
  generalize H1 = H at hP hS ⊢
  have hP : va_P (dC, dI) classes [(y0, .inr (11, [.int 0, .ref m_tape, .int 0, .ref m_result, .int 0, .int ((-1)), .ref m_signs, .ref m_keptWords, .int 0, .int 0, .int 0, .long 0, .null, .int 0, .int 0, .int 0, .ref m_spelled, .ref m_pieced, .ref m_hexes, .ref m_words, .ref m_nextWords, .ref m_firstWords, .int 0, .ref m_pool, .int 0, .int 0, .null, .null, .ref m_chain, .ref m_waiting, .int 0, .int 0, .ref m_back, .ref m_spare, .int 0, .ref m_packed, .int 0, .int 0, .int 0, .int 0, .int 0, .long 0, .int 0, .int 0, .int 0, .long 0, .long 0, .ref m_theres, .int 0, .int 0, .int 0, .long 0, .int 0]))] H := hP
  have hD : va_D A [(y0, .inr (11, [.int 0, .ref m_tape, .int 0, .ref m_result, .int 0, .int ((-1)), .ref m_signs, .ref m_keptWords, .int 0, .int 0, .int 0, .long 0, .null, .int 0, .int 0, .int 0, .ref m_spelled, .ref m_pieced, .ref m_hexes, .ref m_words, .ref m_nextWords, .ref m_firstWords, .int 0, .ref m_pool, .int 0, .int 0, .null, .null, .ref m_chain, .ref m_waiting, .int 0, .int 0, .ref m_back, .ref m_spare, .int 0, .ref m_packed, .int 0, .int 0, .int 0, .int 0, .int 0, .long 0, .int 0, .int 0, .int 0, .long 0, .long 0, .ref m_theres, .int 0, .int 0, .int 0, .long 0, .int 0]))] := hD
  have hK : va_K (dC, dI) classes [] s := hK
  refine lv_aload_n hx hb d_Mo_advance_4 rfl (lv_at hl 0 rfl) ?_
  refine lv_aload_n hx hb d_Mo_advance_5 rfl (lv_at hl 0 rfl) ?_
  refine va_get (D := (dC, dI)) (ci := 11) (v := .int 0) (C := R_Mo) (T := F_Mo) (N := 53) hx hb htw i_Mo hown hK hP 0 rfl rfl 13 (by decide) (htw _ wd_10_64) (fun _ h9 => h9) rfl d_Mo_advance_6 ?_
  refine va_put (D := (dC, dI)) (ci := 11) (v := .int 0) (ty := .int) (C := R_Mo) (T := F_Mo) (N := 53) hx hb htw i_Mo t_Mo t_Mo_ok n_Mo hown hK hP hD hS 0 rfl rfl 9 (by decide) (htw _ wd_10_60) (fun _ h9 => h9) rfl (by decide +kernel) rfl rfl (Nat.le_of_ble_eq_true rfl) d_Mo_advance_9 (fun H locs hP hD hS => ?_)
  have hP : va_P (dC, dI) classes [(y0, .inr (11, [.int 0, .ref m_tape, .int 0, .ref m_result, .int 0, .int ((-1)), .ref m_signs, .ref m_keptWords, .int 0, .int 0, .int 0, .long 0, .null, .int 0, .int 0, .int 0, .ref m_spelled, .ref m_pieced, .ref m_hexes, .ref m_words, .ref m_nextWords, .ref m_firstWords, .int 0, .ref m_pool, .int 0, .int 0, .null, .null, .ref m_chain, .ref m_waiting, .int 0, .int 0, .ref m_back, .ref m_spare, .int 0, .ref m_packed, .int 0, .int 0, .int 0, .int 0, .int 0, .long 0, .int 0, .int 0, .int 0, .long 0, .long 0, .ref m_theres, .int 0, .int 0, .int 0, .long 0, .int 0]))] H := hP
  have hD : va_D A [(y0, .inr (11, [.int 0, .ref m_tape, .int 0, .ref m_result, .int 0, .int ((-1)), .ref m_signs, .ref m_keptWords, .int 0, .int 0, .int 0, .long 0, .null, .int 0, .int 0, .int 0, .ref m_spelled, .ref m_pieced, .ref m_hexes, .ref m_words, .ref m_nextWords, .ref m_firstWords, .int 0, .ref m_pool, .int 0, .int 0, .null, .null, .ref m_chain, .ref m_waiting, .int 0, .int 0, .ref m_back, .ref m_spare, .int 0, .ref m_packed, .int 0, .int 0, .int 0, .int 0, .int 0, .long 0, .int 0, .int 0, .int 0, .long 0, .long 0, .ref m_theres, .int 0, .int 0, .int 0, .long 0, .int 0]))] := hD
  refine lv_aload_n hx hb d_Mo_advance_12 rfl (lv_at hl 0 rfl) ?_
  refine va_get (D := (dC, dI)) (ci := 11) (v := .int 0) (C := R_Mo) (T := F_Mo) (N := 53) hx hb htw i_Mo hown hK hP 0 rfl rfl 13 (by decide) (htw _ wd_10_64) (fun _ h9 => h9) rfl d_Mo_advance_13 ?_
  refine lv_aload_n hx hb d_Mo_advance_16 rfl (lv_at hl 0 rfl) ?_
  refine va_get (D := (dC, dI)) (ci := 11) (v := .int 0) (C := R_Mo) (T := F_Mo) (N := 53) hx hb htw i_Mo hown hK hP 0 rfl rfl 2 (by decide) (htw _ wd_10_53) (fun _ h9 => h9) rfl d_Mo_advance_17 ?_
  refine lv_icmp_lt (tgt := 45) hx hb d_Mo_advance_20 rfl (fun ht => absurd ht (by decide)) (fun _ => ?_)
  refine lv_aload_n hx hb d_Mo_advance_23 rfl (lv_at hl 0 rfl) ?_
  refine lv_aload_n hx hb d_Mo_advance_24 rfl (lv_at hl 0 rfl) ?_
  refine va_get (D := (dC, dI)) (ci := 11) (v := .int 0) (C := R_Mo) (T := F_Mo) (N := 53) hx hb htw i_Mo hown hK hP 0 rfl rfl 2 (by decide) (htw _ wd_10_53) (fun _ h9 => h9) rfl d_Mo_advance_25 ?_
  refine va_put (D := (dC, dI)) (ci := 11) (v := .int 0) (ty := .int) (C := R_Mo) (T := F_Mo) (N := 53) hx hb htw i_Mo t_Mo t_Mo_ok n_Mo hown hK hP hD hS 0 rfl rfl 13 (by decide) (htw _ wd_10_64) (fun _ h9 => h9) rfl (by decide +kernel) rfl rfl (Nat.le_of_ble_eq_true rfl) d_Mo_advance_28 (fun H locs hP hD hS => ?_)
  have hP : va_P (dC, dI) classes [(y0, .inr (11, [.int 0, .ref m_tape, .int 0, .ref m_result, .int 0, .int ((-1)), .ref m_signs, .ref m_keptWords, .int 0, .int 0, .int 0, .long 0, .null, .int 0, .int 0, .int 0, .ref m_spelled, .ref m_pieced, .ref m_hexes, .ref m_words, .ref m_nextWords, .ref m_firstWords, .int 0, .ref m_pool, .int 0, .int 0, .null, .null, .ref m_chain, .ref m_waiting, .int 0, .int 0, .ref m_back, .ref m_spare, .int 0, .ref m_packed, .int 0, .int 0, .int 0, .int 0, .int 0, .long 0, .int 0, .int 0, .int 0, .long 0, .long 0, .ref m_theres, .int 0, .int 0, .int 0, .long 0, .int 0]))] H := hP
  have hD : va_D A [(y0, .inr (11, [.int 0, .ref m_tape, .int 0, .ref m_result, .int 0, .int ((-1)), .ref m_signs, .ref m_keptWords, .int 0, .int 0, .int 0, .long 0, .null, .int 0, .int 0, .int 0, .ref m_spelled, .ref m_pieced, .ref m_hexes, .ref m_words, .ref m_nextWords, .ref m_firstWords, .int 0, .ref m_pool, .int 0, .int 0, .null, .null, .ref m_chain, .ref m_waiting, .int 0, .int 0, .ref m_back, .ref m_spare, .int 0, .ref m_packed, .int 0, .int 0, .int 0, .int 0, .int 0, .long 0, .int 0, .int 0, .int 0, .long 0, .long 0, .ref m_theres, .int 0, .int 0, .int 0, .long 0, .int 0]))] := hD
  refine lv_aload_n hx hb d_Mo_advance_31 rfl (lv_at hl 0 rfl) ?_
  refine lv_aload_n hx hb d_Mo_advance_32 rfl (lv_at hl 0 rfl) ?_
  refine va_get (D := (dC, dI)) (ci := 11) (v := .int 0) (C := R_Mo) (T := F_Mo) (N := 53) hx hb htw i_Mo hown hK hP 0 rfl rfl 2 (by decide) (htw _ wd_10_53) (fun _ h9 => h9) rfl d_Mo_advance_33 ?_
  refine va_put (D := (dC, dI)) (ci := 11) (v := .int 0) (ty := .int) (C := R_Mo) (T := F_Mo) (N := 53) hx hb htw i_Mo t_Mo t_Mo_ok n_Mo hown hK hP hD hS 0 rfl rfl 9 (by decide) (htw _ wd_10_60) (fun _ h9 => h9) rfl (by decide +kernel) rfl rfl (Nat.le_of_ble_eq_true rfl) d_Mo_advance_36 (fun H locs hP hD hS => ?_)
  have hP : va_P (dC, dI) classes [(y0, .inr (11, [.int 0, .ref m_tape, .int 0, .ref m_result, .int 0, .int ((-1)), .ref m_signs, .ref m_keptWords, .int 0, .int 0, .int 0, .long 0, .null, .int 0, .int 0, .int 0, .ref m_spelled, .ref m_pieced, .ref m_hexes, .ref m_words, .ref m_nextWords, .ref m_firstWords, .int 0, .ref m_pool, .int 0, .int 0, .null, .null, .ref m_chain, .ref m_waiting, .int 0, .int 0, .ref m_back, .ref m_spare, .int 0, .ref m_packed, .int 0, .int 0, .int 0, .int 0, .int 0, .long 0, .int 0, .int 0, .int 0, .long 0, .long 0, .ref m_theres, .int 0, .int 0, .int 0, .long 0, .int 0]))] H := hP
  have hD : va_D A [(y0, .inr (11, [.int 0, .ref m_tape, .int 0, .ref m_result, .int 0, .int ((-1)), .ref m_signs, .ref m_keptWords, .int 0, .int 0, .int 0, .long 0, .null, .int 0, .int 0, .int 0, .ref m_spelled, .ref m_pieced, .ref m_hexes, .ref m_words, .ref m_nextWords, .ref m_firstWords, .int 0, .ref m_pool, .int 0, .int 0, .null, .null, .ref m_chain, .ref m_waiting, .int 0, .int 0, .ref m_back, .ref m_spare, .int 0, .ref m_packed, .int 0, .int 0, .int 0, .int 0, .int 0, .long 0, .int 0, .int 0, .int 0, .long 0, .long 0, .ref m_theres, .int 0, .int 0, .int 0, .long 0, .int 0]))] := hD
  refine lv_aload_n hx hb d_Mo_advance_39 rfl (lv_at hl 0 rfl) ?_
  refine lv_iconst (v := 0) hx hb d_Mo_advance_40 (by decide) ?_
  refine va_put (D := (dC, dI)) (ci := 11) (v := .int 0) (ty := .int) (C := R_Mo) (T := F_Mo) (N := 53) hx hb htw i_Mo t_Mo t_Mo_ok n_Mo hown hK hP hD hS 0 rfl rfl 8 (by decide) (htw _ wd_10_59) (fun _ h9 => h9) rfl (by decide +kernel) rfl rfl (Nat.le_of_ble_eq_true rfl) d_Mo_advance_41 (fun H locs hP hD hS => ?_)
  have hP : va_P (dC, dI) classes [(y0, .inr (11, [.int 0, .ref m_tape, .int 0, .ref m_result, .int 0, .int ((-1)), .ref m_signs, .ref m_keptWords, .int 0, .int 0, .int 0, .long 0, .null, .int 0, .int 0, .int 0, .ref m_spelled, .ref m_pieced, .ref m_hexes, .ref m_words, .ref m_nextWords, .ref m_firstWords, .int 0, .ref m_pool, .int 0, .int 0, .null, .null, .ref m_chain, .ref m_waiting, .int 0, .int 0, .ref m_back, .ref m_spare, .int 0, .ref m_packed, .int 0, .int 0, .int 0, .int 0, .int 0, .long 0, .int 0, .int 0, .int 0, .long 0, .long 0, .ref m_theres, .int 0, .int 0, .int 0, .long 0, .int 0]))] H := hP
  have hD : va_D A [(y0, .inr (11, [.int 0, .ref m_tape, .int 0, .ref m_result, .int 0, .int ((-1)), .ref m_signs, .ref m_keptWords, .int 0, .int 0, .int 0, .long 0, .null, .int 0, .int 0, .int 0, .ref m_spelled, .ref m_pieced, .ref m_hexes, .ref m_words, .ref m_nextWords, .ref m_firstWords, .int 0, .ref m_pool, .int 0, .int 0, .null, .null, .ref m_chain, .ref m_waiting, .int 0, .int 0, .ref m_back, .ref m_spare, .int 0, .ref m_packed, .int 0, .int 0, .int 0, .int 0, .int 0, .long 0, .int 0, .int 0, .int 0, .long 0, .long 0, .ref m_theres, .int 0, .int 0, .int 0, .long 0, .int 0]))] := hD
  have hP9 := hP.sub (ws' := [(y0, .inr (11, [.int 0, .ref m_tape, .int 0, .ref m_result, .int 0, .int ((-1)), .ref m_signs, .ref m_keptWords, .int 0, .int 0, .int 0, .long 0, .null, .int 0, .int 0, .int 0, .ref m_spelled, .ref m_pieced, .ref m_hexes, .ref m_words, .ref m_nextWords, .ref m_firstWords, .int 0, .ref m_pool, .int 0, .int 0, .null, .null, .ref m_chain, .ref m_waiting, .int 0, .int 0, .ref m_back, .ref m_spare, .int 0, .ref m_packed, .int 0, .int 0, .int 0, .int 0, .int 0, .long 0, .int 0, .int 0, .int 0, .long 0, .long 0, .ref m_theres, .int 0, .int 0, .int 0, .long 0, .int 0]))]) [0] rfl
  have hD9 := hD.sub (ws' := [(y0, .inr (11, [.int 0, .ref m_tape, .int 0, .ref m_result, .int 0, .int ((-1)), .ref m_signs, .ref m_keptWords, .int 0, .int 0, .int 0, .long 0, .null, .int 0, .int 0, .int 0, .ref m_spelled, .ref m_pieced, .ref m_hexes, .ref m_words, .ref m_nextWords, .ref m_firstWords, .int 0, .ref m_pool, .int 0, .int 0, .null, .null, .ref m_chain, .ref m_waiting, .int 0, .int 0, .ref m_back, .ref m_spare, .int 0, .ref m_packed, .int 0, .int 0, .int 0, .int 0, .int 0, .long 0, .int 0, .int 0, .int 0, .long 0, .long 0, .ref m_theres, .int 0, .int 0, .int 0, .long 0, .int 0]))]) [0] (by decide) rfl
  have hK9 := hK.sub (tys' := []) [] rfl
  refine W.widen (k := 0) (n := 0) (by omega) (by omega) ?_
  exact W.vret hx hb hr (fun t ht hW => ⟨⟨(), rfl, trivial, by rw [ht]; exact hP9, va_K.moved hW.alike hK9, hD9⟩, hS.F ht⟩) hS.2.2 d_Mo_advance_44
set_option maxHeartbeats 4000000 in
set_option maxRecDepth 100000 in
theorem c_Mo_begin (l : Launch) (dC : Nat → ClassId) (dI : Nat → Nat → Nat) (sz : Nat) (y0 : Nat) (m_tape : Nat) (m_result : Nat) (m_signs : Nat) (m_keptWords : Nat) (m_spelled : Nat) (m_pieced : Nat) (m_hexes : Nat) (m_words : Nat) (m_nextWords : Nat) (m_firstWords : Nat) (m_pool : Nat) (m_chain : Nat) (m_waiting : Nat) (m_back : Nat) (m_spare : Nat) (m_packed : Nat) (m_theres : Nat) : Met l y_Mo_begin ws_Mo_begin ({ frames := 2, cells := 0, slots := 0, locals := 44 }) (va_Pc [.ref y0, .int 0] (fun U => U.heap.size = sz ∧ va_P (dC, dI) classes [(y0, .inr (11, [.int 0, .ref m_tape, .int 0, .ref m_result, .int 0, .int ((-1)), .ref m_signs, .ref m_keptWords, .int 0, .int 0, .int 0, .long 0, .null, .int 0, .int 0, .int 0, .ref m_spelled, .ref m_pieced, .ref m_hexes, .ref m_words, .ref m_nextWords, .ref m_firstWords, .int 0, .ref m_pool, .int 0, .int 0, .null, .null, .ref m_chain, .ref m_waiting, .int 0, .int 0, .ref m_back, .ref m_spare, .int 0, .ref m_packed, .int 0, .int 0, .int 0, .int 0, .int 0, .long 0, .int 0, .int 0, .int 0, .long 0, .long 0, .ref m_theres, .int 0, .int 0, .int 0, .long 0, .int 0]))] U.heap ∧ va_K (dC, dI) classes [] U ∧ va_D (fun _ => True) [(y0, .inr (11, [.int 0, .ref m_tape, .int 0, .ref m_result, .int 0, .int ((-1)), .ref m_signs, .ref m_keptWords, .int 0, .int 0, .int 0, .long 0, .null, .int 0, .int 0, .int 0, .ref m_spelled, .ref m_pieced, .ref m_hexes, .ref m_words, .ref m_nextWords, .ref m_firstWords, .int 0, .ref m_pool, .int 0, .int 0, .null, .null, .ref m_chain, .ref m_waiting, .int 0, .int 0, .ref m_back, .ref m_spare, .int 0, .ref m_packed, .int 0, .int 0, .int 0, .int 0, .int 0, .long 0, .int 0, .int 0, .int 0, .long 0, .long 0, .ref m_theres, .int 0, .int 0, .int 0, .long 0, .int 0]))])) (va_Qv (fun _ : Unit => True) (fun _ t => va_P (dC, dI) classes [(y0, .inr (11, [.int 0, .ref m_tape, .int 0, .ref m_result, .int 0, .int ((-1)), .ref m_signs, .ref m_keptWords, .int 0, .int 0, .int 0, .long 0, .null, .int 0, .int 0, .int 0, .ref m_spelled, .ref m_pieced, .ref m_hexes, .ref m_words, .ref m_nextWords, .ref m_firstWords, .int 0, .ref m_pool, .int 0, .int 0, .null, .null, .ref m_chain, .ref m_waiting, .int 0, .int 0, .ref m_back, .ref m_spare, .int 0, .ref m_packed, .int 0, .int 0, .int 0, .int 0, .int 0, .long 0, .int 0, .int 0, .int 0, .long 0, .long 0, .ref m_theres, .int 0, .int 0, .int 0, .long 0, .int 0]))] t.heap ∧ va_K (dC, dI) classes [] t ∧ va_D (va_A [(y0, .inr (11, [.int 0, .ref m_tape, .int 0, .ref m_result, .int 0, .int ((-1)), .ref m_signs, .ref m_keptWords, .int 0, .int 0, .int 0, .long 0, .null, .int 0, .int 0, .int 0, .ref m_spelled, .ref m_pieced, .ref m_hexes, .ref m_words, .ref m_nextWords, .ref m_firstWords, .int 0, .ref m_pool, .int 0, .int 0, .null, .null, .ref m_chain, .ref m_waiting, .int 0, .int 0, .ref m_back, .ref m_spare, .int 0, .ref m_packed, .int 0, .int 0, .int 0, .int 0, .int 0, .long 0, .int 0, .int 0, .int 0, .long 0, .long 0, .ref m_theres, .int 0, .int 0, .int 0, .long 0, .int 0]))] sz) [(y0, .inr (11, [.int 0, .ref m_tape, .int 0, .ref m_result, .int 0, .int ((-1)), .ref m_signs, .ref m_keptWords, .int 0, .int 0, .int 0, .long 0, .null, .int 0, .int 0, .int 0, .ref m_spelled, .ref m_pieced, .ref m_hexes, .ref m_words, .ref m_nextWords, .ref m_firstWords, .int 0, .ref m_pool, .int 0, .int 0, .null, .null, .ref m_chain, .ref m_waiting, .int 0, .int 0, .ref m_back, .ref m_spare, .int 0, .ref m_packed, .int 0, .int 0, .int 0, .int 0, .int 0, .long 0, .int 0, .int 0, .int 0, .long 0, .long 0, .ref m_theres, .int 0, .int 0, .int 0, .long 0, .int 0]))]) (va_A [(y0, .inr (11, [.int 0, .ref m_tape, .int 0, .ref m_result, .int 0, .int ((-1)), .ref m_signs, .ref m_keptWords, .int 0, .int 0, .int 0, .long 0, .null, .int 0, .int 0, .int 0, .ref m_spelled, .ref m_pieced, .ref m_hexes, .ref m_words, .ref m_nextWords, .ref m_firstWords, .int 0, .ref m_pool, .int 0, .int 0, .null, .null, .ref m_chain, .ref m_waiting, .int 0, .int 0, .ref m_back, .ref m_spare, .int 0, .ref m_packed, .int 0, .int 0, .int 0, .int 0, .int 0, .long 0, .int 0, .int 0, .int 0, .long 0, .long 0, .ref m_theres, .int 0, .int 0, .int 0, .long 0, .int 0]))] sz)) 0 0 (va_A [(y0, .inr (11, [.int 0, .ref m_tape, .int 0, .ref m_result, .int 0, .int ((-1)), .ref m_signs, .ref m_keptWords, .int 0, .int 0, .int 0, .long 0, .null, .int 0, .int 0, .int 0, .ref m_spelled, .ref m_pieced, .ref m_hexes, .ref m_words, .ref m_nextWords, .ref m_firstWords, .int 0, .ref m_pool, .int 0, .int 0, .null, .null, .ref m_chain, .ref m_waiting, .int 0, .int 0, .ref m_back, .ref m_spare, .int 0, .ref m_packed, .int 0, .int 0, .int 0, .int 0, .int 0, .long 0, .int 0, .int 0, .int 0, .long 0, .long 0, .ref m_theres, .int 0, .int 0, .int 0, .long 0, .int 0]))] sz) := by
  refine Met.ofW (cc := b_Mo_begin) (maxL := 2) (ret := none) (by decide) rfl ?_
  intro p e s m args below meth c s₁ B hml hv
  obtain ⟨rfl, hsz, hP, hK, hD0⟩ := hv
  have hx := B.exec
  have hb := B.bytes
  have hr := B.returns
  have hts := atoms_spec (ws := ws_Mo_begin) B.pre
  have htw : ∀ w ∈ tw_tbl, w.before [.ref y0, .int 0].toArray s = true := fun w h => hts w (List.mem_cons_of_mem _ h)
  have hown : s.vm.findClass R_Mo = some m.cls := findClass_of_methodNamed B.named
  have hlocks := B.notSynchronized
  have hin : meth.name = "begin" := (name_of_methodNamed B.named B.method).1
  subst hsz
  have hD := hD0.self (sz := s.heap.size)
  generalize hAe : va_A [(y0, .inr (11, [.int 0, .ref m_tape, .int 0, .ref m_result, .int 0, .int ((-1)), .ref m_signs, .ref m_keptWords, .int 0, .int 0, .int 0, .long 0, .null, .int 0, .int 0, .int 0, .ref m_spelled, .ref m_pieced, .ref m_hexes, .ref m_words, .ref m_nextWords, .ref m_firstWords, .int 0, .ref m_pool, .int 0, .int 0, .null, .null, .ref m_chain, .ref m_waiting, .int 0, .int 0, .ref m_back, .ref m_spare, .int 0, .ref m_packed, .int 0, .int 0, .int 0, .int 0, .int 0, .long 0, .int 0, .int 0, .int 0, .long 0, .long 0, .ref m_theres, .int 0, .int 0, .int 0, .long 0, .int 0]))] s.heap.size = A at hD ⊢
  have hA : ∀ q : Nat, s.heap.size ≤ q → A q := fun q h => by rw [← hAe]; exact Or.inr h
  have hS : va_S A s.heap s.heap [] := va_S.rf
  have hP : va_P (dC, dI) classes [(y0, .inr (11, [.int 0, .ref m_tape, .int 0, .ref m_result, .int 0, .int ((-1)), .ref m_signs, .ref m_keptWords, .int 0, .int 0, .int 0, .long 0, .null, .int 0, .int 0, .int 0, .ref m_spelled, .ref m_pieced, .ref m_hexes, .ref m_words, .ref m_nextWords, .ref m_firstWords, .int 0, .ref m_pool, .int 0, .int 0, .null, .null, .ref m_chain, .ref m_waiting, .int 0, .int 0, .ref m_back, .ref m_spare, .int 0, .ref m_packed, .int 0, .int 0, .int 0, .int 0, .int 0, .long 0, .int 0, .int 0, .int 0, .long 0, .long 0, .ref m_theres, .int 0, .int 0, .int 0, .long 0, .int 0]))] s.heap := hP
  have hl := lv_entry ([.ref y0, .int 0]) (n := 2) (Nat.le_of_ble_eq_true rfl)
  rw [lg_entry_eq]
  generalize (lg_sl ([.ref y0, .int 0]) ++ List.replicate (2 - (lg_sl ([.ref y0, .int 0])).length) Slot.unset).toArray = ls at hl ⊢
  have hl : lv_has ls 2 [(0, .ref y0), (1, .int 0)] := hl
  refine lv_aload_n hx hb d_Mo_begin_0 rfl (lv_at hl 0 rfl) ?_
  refine lv_iload_n hx hb d_Mo_begin_1 rfl (lv_at hl 1 rfl) ?_
  refine va_put (D := (dC, dI)) (ci := 11) (v := .int 0) (ty := .boolean) (C := R_Mo) (T := F_Mo) (N := 53) hx hb htw i_Mo t_Mo t_Mo_ok n_Mo hown hK hP hD hS 0 rfl rfl 25 (by decide) (htw _ wd_10_76) (fun _ h9 => h9) rfl (by decide +kernel) rfl rfl (Nat.le_of_ble_eq_true rfl) d_Mo_begin_2 (fun H locs hP hD hS => ?_)
  have hP : va_P (dC, dI) classes [(y0, .inr (11, [.int 0, .ref m_tape, .int 0, .ref m_result, .int 0, .int ((-1)), .ref m_signs, .ref m_keptWords, .int 0, .int 0, .int 0, .long 0, .null, .int 0, .int 0, .int 0, .ref m_spelled, .ref m_pieced, .ref m_hexes, .ref m_words, .ref m_nextWords, .ref m_firstWords, .int 0, .ref m_pool, .int 0, .int 0, .null, .null, .ref m_chain, .ref m_waiting, .int 0, .int 0, .ref m_back, .ref m_spare, .int 0, .ref m_packed, .int 0, .int 0, .int 0, .int 0, .int 0, .long 0, .int 0, .int 0, .int 0, .long 0, .long 0, .ref m_theres, .int 0, .int 0, .int 0, .long 0, .int 0]))] H := hP
  have hD : va_D A [(y0, .inr (11, [.int 0, .ref m_tape, .int 0, .ref m_result, .int 0, .int ((-1)), .ref m_signs, .ref m_keptWords, .int 0, .int 0, .int 0, .long 0, .null, .int 0, .int 0, .int 0, .ref m_spelled, .ref m_pieced, .ref m_hexes, .ref m_words, .ref m_nextWords, .ref m_firstWords, .int 0, .ref m_pool, .int 0, .int 0, .null, .null, .ref m_chain, .ref m_waiting, .int 0, .int 0, .ref m_back, .ref m_spare, .int 0, .ref m_packed, .int 0, .int 0, .int 0, .int 0, .int 0, .long 0, .int 0, .int 0, .int 0, .long 0, .long 0, .ref m_theres, .int 0, .int 0, .int 0, .long 0, .int 0]))] := hD
  refine lv_aload_n hx hb d_Mo_begin_5 rfl (lv_at hl 0 rfl) ?_
  refine lv_iconst (v := 0) hx hb d_Mo_begin_6 (by decide) ?_
  refine va_put (D := (dC, dI)) (ci := 11) (v := .int 0) (ty := .int) (C := R_Mo) (T := F_Mo) (N := 53) hx hb htw i_Mo t_Mo t_Mo_ok n_Mo hown hK hP hD hS 0 rfl rfl 24 (by decide) (htw _ wd_10_75) (fun _ h9 => h9) rfl (by decide +kernel) rfl rfl (Nat.le_of_ble_eq_true rfl) d_Mo_begin_7 (fun H locs hP hD hS => ?_)
  have hP : va_P (dC, dI) classes [(y0, .inr (11, [.int 0, .ref m_tape, .int 0, .ref m_result, .int 0, .int ((-1)), .ref m_signs, .ref m_keptWords, .int 0, .int 0, .int 0, .long 0, .null, .int 0, .int 0, .int 0, .ref m_spelled, .ref m_pieced, .ref m_hexes, .ref m_words, .ref m_nextWords, .ref m_firstWords, .int 0, .ref m_pool, .int 0, .int 0, .null, .null, .ref m_chain, .ref m_waiting, .int 0, .int 0, .ref m_back, .ref m_spare, .int 0, .ref m_packed, .int 0, .int 0, .int 0, .int 0, .int 0, .long 0, .int 0, .int 0, .int 0, .long 0, .long 0, .ref m_theres, .int 0, .int 0, .int 0, .long 0, .int 0]))] H := hP
  have hD : va_D A [(y0, .inr (11, [.int 0, .ref m_tape, .int 0, .ref m_result, .int 0, .int ((-1)), .ref m_signs, .ref m_keptWords, .int 0, .int 0, .int 0, .long 0, .null, .int 0, .int 0, .int 0, .ref m_spelled, .ref m_pieced, .ref m_hexes, .ref m_words, .ref m_nextWords, .ref m_firstWords, .int 0, .ref m_pool, .int 0, .int 0, .null, .null, .ref m_chain, .ref m_waiting, .int 0, .int 0, .ref m_back, .ref m_spare, .int 0, .ref m_packed, .int 0, .int 0, .int 0, .int 0, .int 0, .long 0, .int 0, .int 0, .int 0, .long 0, .long 0, .ref m_theres, .int 0, .int 0, .int 0, .long 0, .int 0]))] := hD
  refine lv_aload_n hx hb d_Mo_begin_10 rfl (lv_at hl 0 rfl) ?_
  refine lv_iconst (v := 0) hx hb d_Mo_begin_11 (by decide) ?_
  refine va_put (D := (dC, dI)) (ci := 11) (v := .int 0) (ty := .int) (C := R_Mo) (T := F_Mo) (N := 53) hx hb htw i_Mo t_Mo t_Mo_ok n_Mo hown hK hP hD hS 0 rfl rfl 13 (by decide) (htw _ wd_10_64) (fun _ h9 => h9) rfl (by decide +kernel) rfl rfl (Nat.le_of_ble_eq_true rfl) d_Mo_begin_12 (fun H locs hP hD hS => ?_)
  have hP : va_P (dC, dI) classes [(y0, .inr (11, [.int 0, .ref m_tape, .int 0, .ref m_result, .int 0, .int ((-1)), .ref m_signs, .ref m_keptWords, .int 0, .int 0, .int 0, .long 0, .null, .int 0, .int 0, .int 0, .ref m_spelled, .ref m_pieced, .ref m_hexes, .ref m_words, .ref m_nextWords, .ref m_firstWords, .int 0, .ref m_pool, .int 0, .int 0, .null, .null, .ref m_chain, .ref m_waiting, .int 0, .int 0, .ref m_back, .ref m_spare, .int 0, .ref m_packed, .int 0, .int 0, .int 0, .int 0, .int 0, .long 0, .int 0, .int 0, .int 0, .long 0, .long 0, .ref m_theres, .int 0, .int 0, .int 0, .long 0, .int 0]))] H := hP
  have hD : va_D A [(y0, .inr (11, [.int 0, .ref m_tape, .int 0, .ref m_result, .int 0, .int ((-1)), .ref m_signs, .ref m_keptWords, .int 0, .int 0, .int 0, .long 0, .null, .int 0, .int 0, .int 0, .ref m_spelled, .ref m_pieced, .ref m_hexes, .ref m_words, .ref m_nextWords, .ref m_firstWords, .int 0, .ref m_pool, .int 0, .int 0, .null, .null, .ref m_chain, .ref m_waiting, .int 0, .int 0, .ref m_back, .ref m_spare, .int 0, .ref m_packed, .int 0, .int 0, .int 0, .int 0, .int 0, .long 0, .int 0, .int 0, .int 0, .long 0, .long 0, .ref m_theres, .int 0, .int 0, .int 0, .long 0, .int 0]))] := hD
  refine lv_aload_n hx hb d_Mo_begin_15 rfl (lv_at hl 0 rfl) ?_
  refine lv_iconst (v := 0) hx hb d_Mo_begin_16 (by decide) ?_
  refine va_put (D := (dC, dI)) (ci := 11) (v := .int 0) (ty := .int) (C := R_Mo) (T := F_Mo) (N := 53) hx hb htw i_Mo t_Mo t_Mo_ok n_Mo hown hK hP hD hS 0 rfl rfl 14 (by decide) (htw _ wd_10_65) (fun _ h9 => h9) rfl (by decide +kernel) rfl rfl (Nat.le_of_ble_eq_true rfl) d_Mo_begin_17 (fun H locs hP hD hS => ?_)
  have hP : va_P (dC, dI) classes [(y0, .inr (11, [.int 0, .ref m_tape, .int 0, .ref m_result, .int 0, .int ((-1)), .ref m_signs, .ref m_keptWords, .int 0, .int 0, .int 0, .long 0, .null, .int 0, .int 0, .int 0, .ref m_spelled, .ref m_pieced, .ref m_hexes, .ref m_words, .ref m_nextWords, .ref m_firstWords, .int 0, .ref m_pool, .int 0, .int 0, .null, .null, .ref m_chain, .ref m_waiting, .int 0, .int 0, .ref m_back, .ref m_spare, .int 0, .ref m_packed, .int 0, .int 0, .int 0, .int 0, .int 0, .long 0, .int 0, .int 0, .int 0, .long 0, .long 0, .ref m_theres, .int 0, .int 0, .int 0, .long 0, .int 0]))] H := hP
  have hD : va_D A [(y0, .inr (11, [.int 0, .ref m_tape, .int 0, .ref m_result, .int 0, .int ((-1)), .ref m_signs, .ref m_keptWords, .int 0, .int 0, .int 0, .long 0, .null, .int 0, .int 0, .int 0, .ref m_spelled, .ref m_pieced, .ref m_hexes, .ref m_words, .ref m_nextWords, .ref m_firstWords, .int 0, .ref m_pool, .int 0, .int 0, .null, .null, .ref m_chain, .ref m_waiting, .int 0, .int 0, .ref m_back, .ref m_spare, .int 0, .ref m_packed, .int 0, .int 0, .int 0, .int 0, .int 0, .long 0, .int 0, .int 0, .int 0, .long 0, .long 0, .ref m_theres, .int 0, .int 0, .int 0, .long 0, .int 0]))] := hD
  refine lv_aload_n hx hb d_Mo_begin_20 rfl (lv_at hl 0 rfl) ?_
  refine lv_iconst (v := 0) hx hb d_Mo_begin_21 (by decide) ?_
  refine va_put (D := (dC, dI)) (ci := 11) (v := .int 0) (ty := .int) (C := R_Mo) (T := F_Mo) (N := 53) hx hb htw i_Mo t_Mo t_Mo_ok n_Mo hown hK hP hD hS 0 rfl rfl 15 (by decide) (htw _ wd_10_66) (fun _ h9 => h9) rfl (by decide +kernel) rfl rfl (Nat.le_of_ble_eq_true rfl) d_Mo_begin_22 (fun H locs hP hD hS => ?_)
  have hP : va_P (dC, dI) classes [(y0, .inr (11, [.int 0, .ref m_tape, .int 0, .ref m_result, .int 0, .int ((-1)), .ref m_signs, .ref m_keptWords, .int 0, .int 0, .int 0, .long 0, .null, .int 0, .int 0, .int 0, .ref m_spelled, .ref m_pieced, .ref m_hexes, .ref m_words, .ref m_nextWords, .ref m_firstWords, .int 0, .ref m_pool, .int 0, .int 0, .null, .null, .ref m_chain, .ref m_waiting, .int 0, .int 0, .ref m_back, .ref m_spare, .int 0, .ref m_packed, .int 0, .int 0, .int 0, .int 0, .int 0, .long 0, .int 0, .int 0, .int 0, .long 0, .long 0, .ref m_theres, .int 0, .int 0, .int 0, .long 0, .int 0]))] H := hP
  have hD : va_D A [(y0, .inr (11, [.int 0, .ref m_tape, .int 0, .ref m_result, .int 0, .int ((-1)), .ref m_signs, .ref m_keptWords, .int 0, .int 0, .int 0, .long 0, .null, .int 0, .int 0, .int 0, .ref m_spelled, .ref m_pieced, .ref m_hexes, .ref m_words, .ref m_nextWords, .ref m_firstWords, .int 0, .ref m_pool, .int 0, .int 0, .null, .null, .ref m_chain, .ref m_waiting, .int 0, .int 0, .ref m_back, .ref m_spare, .int 0, .ref m_packed, .int 0, .int 0, .int 0, .int 0, .int 0, .long 0, .int 0, .int 0, .int 0, .long 0, .long 0, .ref m_theres, .int 0, .int 0, .int 0, .long 0, .int 0]))] := hD
  refine lv_aload_n hx hb d_Mo_begin_25 rfl (lv_at hl 0 rfl) ?_
  refine lv_iconst (v := (-1)) hx hb d_Mo_begin_26 (by decide) ?_
  refine va_put (D := (dC, dI)) (ci := 11) (v := .int ((-1))) (ty := .int) (C := R_Mo) (T := F_Mo) (N := 53) hx hb htw i_Mo t_Mo t_Mo_ok n_Mo hown hK hP hD hS 0 rfl rfl 5 (by decide) (htw _ wd_10_56) (fun _ h9 => h9) rfl (by decide +kernel) rfl rfl (Nat.le_of_ble_eq_true rfl) d_Mo_begin_27 (fun H locs hP hD hS => ?_)
  have hP : va_P (dC, dI) classes [(y0, .inr (11, [.int 0, .ref m_tape, .int 0, .ref m_result, .int 0, .int ((-1)), .ref m_signs, .ref m_keptWords, .int 0, .int 0, .int 0, .long 0, .null, .int 0, .int 0, .int 0, .ref m_spelled, .ref m_pieced, .ref m_hexes, .ref m_words, .ref m_nextWords, .ref m_firstWords, .int 0, .ref m_pool, .int 0, .int 0, .null, .null, .ref m_chain, .ref m_waiting, .int 0, .int 0, .ref m_back, .ref m_spare, .int 0, .ref m_packed, .int 0, .int 0, .int 0, .int 0, .int 0, .long 0, .int 0, .int 0, .int 0, .long 0, .long 0, .ref m_theres, .int 0, .int 0, .int 0, .long 0, .int 0]))] H := hP
  have hD : va_D A [(y0, .inr (11, [.int 0, .ref m_tape, .int 0, .ref m_result, .int 0, .int ((-1)), .ref m_signs, .ref m_keptWords, .int 0, .int 0, .int 0, .long 0, .null, .int 0, .int 0, .int 0, .ref m_spelled, .ref m_pieced, .ref m_hexes, .ref m_words, .ref m_nextWords, .ref m_firstWords, .int 0, .ref m_pool, .int 0, .int 0, .null, .null, .ref m_chain, .ref m_waiting, .int 0, .int 0, .ref m_back, .ref m_spare, .int 0, .ref m_packed, .int 0, .int 0, .int 0, .int 0, .int 0, .long 0, .int 0, .int 0, .int 0, .long 0, .long 0, .ref m_theres, .int 0, .int 0, .int 0, .long 0, .int 0]))] := hD
  refine lv_aload_n hx hb d_Mo_begin_30 rfl (lv_at hl 0 rfl) ?_
  have hc0 : 0 + 0 ≤ 0 := by omega
  have hs0 : 0 + 0 ≤ 0 := by omega
  have hPc := hP.sub (ws' := [(y0, .inr (11, [.int 0, .ref m_tape, .int 0, .ref m_result, .int 0, .int ((-1)), .ref m_signs, .ref m_keptWords, .int 0, .int 0, .int 0, .long 0, .null, .int 0, .int 0, .int 0, .ref m_spelled, .ref m_pieced, .ref m_hexes, .ref m_words, .ref m_nextWords, .ref m_firstWords, .int 0, .ref m_pool, .int 0, .int 0, .null, .null, .ref m_chain, .ref m_waiting, .int 0, .int 0, .ref m_back, .ref m_spare, .int 0, .ref m_packed, .int 0, .int 0, .int 0, .int 0, .int 0, .long 0, .int 0, .int 0, .int 0, .long 0, .long 0, .ref m_theres, .int 0, .int 0, .int 0, .long 0, .int 0]))]) [0] rfl
  have hDc := hD.sub (ws' := [(y0, .inr (11, [.int 0, .ref m_tape, .int 0, .ref m_result, .int 0, .int ((-1)), .ref m_signs, .ref m_keptWords, .int 0, .int 0, .int 0, .long 0, .null, .int 0, .int 0, .int 0, .ref m_spelled, .ref m_pieced, .ref m_hexes, .ref m_words, .ref m_nextWords, .ref m_firstWords, .int 0, .ref m_pool, .int 0, .int 0, .null, .null, .ref m_chain, .ref m_waiting, .int 0, .int 0, .ref m_back, .ref m_spare, .int 0, .ref m_packed, .int 0, .int 0, .int 0, .int 0, .int 0, .long 0, .int 0, .int 0, .int 0, .long 0, .long 0, .ref m_theres, .int 0, .int 0, .int 0, .long 0, .int 0]))]) [0] (by decide) rfl
  have hKc := hK.sub (tys' := []) [] rfl
  have hFc := va_free (wc := [(y0, .inr (11, [.int 0, .ref m_tape, .int 0, .ref m_result, .int 0, .int ((-1)), .ref m_signs, .ref m_keptWords, .int 0, .int 0, .int 0, .long 0, .null, .int 0, .int 0, .int 0, .ref m_spelled, .ref m_pieced, .ref m_hexes, .ref m_words, .ref m_nextWords, .ref m_firstWords, .int 0, .ref m_pool, .int 0, .int 0, .null, .null, .ref m_chain, .ref m_waiting, .int 0, .int 0, .ref m_back, .ref m_spare, .int 0, .ref m_packed, .int 0, .int 0, .int 0, .int 0, .int 0, .long 0, .int 0, .int 0, .int 0, .long 0, .long 0, .ref m_theres, .int 0, .int 0, .int 0, .long 0, .int 0]))]) hD hS hA [0] rfl
  refine va_callv (va_runV (As := []) (rest := []) ⟨hx, hb, hml, hown, htw⟩ (c_Mo_advance l dC dI H.size y0 m_tape m_result m_signs m_keptWords m_spelled m_pieced m_hexes m_words m_nextWords m_firstWords m_pool m_chain m_waiting m_back m_spare m_packed m_theres) (cwV 0 htw (tw_V wd_10_238 wd_11_0 wp_9_13 wd_1_21 k_Mo_advance) rfl rfl rfl (by decide +kernel) ⟨Nat.le_of_ble_eq_true rfl, Nat.le_of_ble_eq_true rfl⟩) ⟨fun a U g mk q => by obtain ⟨q0, q1, qP, qK, qD⟩ := q; exact ⟨q0, q1, qP, va_K.moved (u := U) (U := U.calling g mk a) (Vm.Alike.refl U.vm) qK, qD⟩, va_recv hK hP (q := (R_Mo, F_Mo, 53)) (ci := 11) (q0 := 0) rfl rfl, fun U hU hW => ⟨rfl, by rw [hU], by rw [hU]; exact hPc, va_K.moved hW.alike hKc, hDc.weaken (fun _ _ _ _ => trivial)⟩⟩ rfl rfl hl.1 rfl (lv_room (Nat.le_of_ble_eq_true rfl)) d_Mo_begin_31 ⟨hc0, hs0⟩) hS (fun q _ h => hFc q h) hFc (fun u t H1 locs ht hvm hw hB hz1 hk1 hS => ?_)
  obtain ⟨hP1, hK1, hD1⟩ := hB
  rw [ht] at hP1
  have hK1 := va_K.moved hvm.symm hK1
  obtain ⟨hP, hD⟩ := va_join (wr := []) (w1 := [(y0, .inr (11, [.int 0, .ref m_tape, .int 0, .ref m_result, .int 0, .int ((-1)), .ref m_signs, .ref m_keptWords, .int 0, .int 0, .int 0, .long 0, .null, .int 0, .int 0, .int 0, .ref m_spelled, .ref m_pieced, .ref m_hexes, .ref m_words, .ref m_nextWords, .ref m_firstWords, .int 0, .ref m_pool, .int 0, .int 0, .null, .null, .ref m_chain, .ref m_waiting, .int 0, .int 0, .ref m_back, .ref m_spare, .int 0, .ref m_packed, .int 0, .int 0, .int 0, .int 0, .int 0, .long 0, .int 0, .int 0, .int 0, .long 0, .long 0, .ref m_theres, .int 0, .int 0, .int 0, .long 0, .int 0]))]) hP hD [0] [] rfl rfl (by decide) (by decide) hk1 hFc hP1 hD1
  have hK := (hK.sub (tys' := []) [] rfl).app hK1
  generalize H1 = H at hP hS ⊢
  have hP : va_P (dC, dI) classes [(y0, .inr (11, [.int 0, .ref m_tape, .int 0, .ref m_result, .int 0, .int ((-1)), .ref m_signs, .ref m_keptWords, .int 0, .int 0, .int 0, .long 0, .null, .int 0, .int 0, .int 0, .ref m_spelled, .ref m_pieced, .ref m_hexes, .ref m_words, .ref m_nextWords, .ref m_firstWords, .int 0, .ref m_pool, .int 0, .int 0, .null, .null, .ref m_chain, .ref m_waiting, .int 0, .int 0, .ref m_back, .ref m_spare, .int 0, .ref m_packed, .int 0, .int 0, .int 0, .int 0, .int 0, .long 0, .int 0, .int 0, .int 0, .long 0, .long 0, .ref m_theres, .int 0, .int 0, .int 0, .long 0, .int 0]))] H := hP
  have hD : va_D A [(y0, .inr (11, [.int 0, .ref m_tape, .int 0, .ref m_result, .int 0, .int ((-1)), .ref m_signs, .ref m_keptWords, .int 0, .int 0, .int 0, .long 0, .null, .int 0, .int 0, .int 0, .ref m_spelled, .ref m_pieced, .ref m_hexes, .ref m_words, .ref m_nextWords, .ref m_firstWords, .int 0, .ref m_pool, .int 0, .int 0, .null, .null, .ref m_chain, .ref m_waiting, .int 0, .int 0, .ref m_back, .ref m_spare, .int 0, .ref m_packed, .int 0, .int 0, .int 0, .int 0, .int 0, .long 0, .int 0, .int 0, .int 0, .long 0, .long 0, .ref m_theres, .int 0, .int 0, .int 0, .long 0, .int 0]))] := hD
  have hK : va_K (dC, dI) classes [] s := hK
  have hP9 := hP.sub (ws' := [(y0, .inr (11, [.int 0, .ref m_tape, .int 0, .ref m_result, .int 0, .int ((-1)), .ref m_signs, .ref m_keptWords, .int 0, .int 0, .int 0, .long 0, .null, .int 0, .int 0, .int 0, .ref m_spelled, .ref m_pieced, .ref m_hexes, .ref m_words, .ref m_nextWords, .ref m_firstWords, .int 0, .ref m_pool, .int 0, .int 0, .null, .null, .ref m_chain, .ref m_waiting, .int 0, .int 0, .ref m_back, .ref m_spare, .int 0, .ref m_packed, .int 0, .int 0, .int 0, .int 0, .int 0, .long 0, .int 0, .int 0, .int 0, .long 0, .long 0, .ref m_theres, .int 0, .int 0, .int 0, .long 0, .int 0]))]) [0] rfl
  have hD9 := hD.sub (ws' := [(y0, .inr (11, [.int 0, .ref m_tape, .int 0, .ref m_result, .int 0, .int ((-1)), .ref m_signs, .ref m_keptWords, .int 0, .int 0, .int 0, .long 0, .null, .int 0, .int 0, .int 0, .ref m_spelled, .ref m_pieced, .ref m_hexes, .ref m_words, .ref m_nextWords, .ref m_firstWords, .int 0, .ref m_pool, .int 0, .int 0, .null, .null, .ref m_chain, .ref m_waiting, .int 0, .int 0, .ref m_back, .ref m_spare, .int 0, .ref m_packed, .int 0, .int 0, .int 0, .int 0, .int 0, .long 0, .int 0, .int 0, .int 0, .long 0, .long 0, .ref m_theres, .int 0, .int 0, .int 0, .long 0, .int 0]))]) [0] (by decide) rfl
  have hK9 := hK.sub (tys' := []) [] rfl
  refine W.widen (k := 0) (n := 0) (by omega) (by omega) ?_
  exact W.vret hx hb hr (fun t ht hW => ⟨⟨(), rfl, trivial, by rw [ht]; exact hP9, va_K.moved hW.alike hK9, hD9⟩, hS.F ht⟩) hS.2.2 d_Mo_begin_34
set_option maxRecDepth 20000 in
theorem oa_Mo_279 {args : Array Value} {s : State} (htw : ∀ w ∈ tw_tbl, w.before args s = true) (h1 : (Cond.isRef (.static "java/lang/Throwable" "UNASSIGNED_STACK" "[Ljava/lang/StackTraceElement;")).before args s = true) (h2 : (Cond.isRef (.static "java/lang/Throwable" "SUPPRESSED_SENTINEL" "Ljava/util/List;")).before args s = true) (h3 : (Cond.laysStatic "java/lang/Throwable" "UNASSIGNED_STACK" "[Ljava/lang/StackTraceElement;").before args s = true) (h4 : (Cond.laysStatic "java/lang/Throwable" "SUPPRESSED_SENTINEL" "Ljava/util/List;").before args s = true) : ∀ w ∈ Bundle.ownAtoms0 "SyntaxForgeModel" 279 "java/lang/IllegalArgumentException" ["java/lang/RuntimeException", "java/lang/Exception"], w.before args s = true := by
  show ∀ w ∈ [Cond.initialized "java/lang/Throwable", Cond.superclass "java/lang/Throwable" "java/lang/Object", Cond.instanceMethod ⟨"java/lang/Throwable", "fillInStackTrace", "()Ljava/lang/Throwable;"⟩, Cond.codeSync ⟨"java/lang/Throwable", "fillInStackTrace", "()Ljava/lang/Throwable;"⟩ prog_40_method_18_code 1 (some (.object "java/lang/Throwable")), Cond.instanceMethod ⟨"java/lang/Throwable", "fillInStackTrace", "(I)Ljava/lang/Throwable;"⟩, Cond.native ⟨"java/lang/Throwable", "fillInStackTrace", "(I)Ljava/lang/Throwable;"⟩, Cond.instanceMethod ⟨"java/lang/Throwable", "<init>", "()V"⟩, Cond.code ⟨"java/lang/Throwable", "<init>", "()V"⟩ prog_40_method_1_code 1 none, Cond.instanceMethod ⟨"java/lang/Object", "<init>", "()V"⟩, Cond.code ⟨"java/lang/Object", "<init>", "()V"⟩ object_method_1_code 1 none, Cond.methodLink "java/lang/Throwable" 1 ⟨"java/lang/Object", "<init>", "()V"⟩, Cond.methodLink "java/lang/Throwable" 27 ⟨"java/lang/Throwable", "fillInStackTrace", "()Ljava/lang/Throwable;"⟩, Cond.methodLink "java/lang/Throwable" 202 ⟨"java/lang/Throwable", "fillInStackTrace", "(I)Ljava/lang/Throwable;"⟩, Cond.fieldLink "java/lang/Throwable" 7 "java/lang/Throwable" "cause" "Ljava/lang/Throwable;", Cond.lays "java/lang/Throwable" "java/lang/Throwable" "cause" "Ljava/lang/Throwable;", Cond.fieldLink "java/lang/Throwable" 17 "java/lang/Throwable" "stackTrace" "[Ljava/lang/StackTraceElement;", Cond.lays "java/lang/Throwable" "java/lang/Throwable" "stackTrace" "[Ljava/lang/StackTraceElement;", Cond.fieldLink "java/lang/Throwable" 24 "java/lang/Throwable" "suppressedExceptions" "Ljava/util/List;", Cond.lays "java/lang/Throwable" "java/lang/Throwable" "suppressedExceptions" "Ljava/util/List;", Cond.fieldLink "java/lang/Throwable" 13 "java/lang/Throwable" "UNASSIGNED_STACK" "[Ljava/lang/StackTraceElement;", Cond.laysStatic "java/lang/Throwable" "UNASSIGNED_STACK" "[Ljava/lang/StackTraceElement;", Cond.fieldLink "java/lang/Throwable" 20 "java/lang/Throwable" "SUPPRESSED_SENTINEL" "Ljava/util/List;", Cond.laysStatic "java/lang/Throwable" "SUPPRESSED_SENTINEL" "Ljava/util/List;", Cond.lays "java/lang/Throwable" "java/lang/Throwable" "detailMessage" "Ljava/lang/String;", Cond.instanceMethod ⟨"java/lang/IllegalArgumentException", "<init>", "()V"⟩, Cond.code ⟨"java/lang/IllegalArgumentException", "<init>", "()V"⟩ prog_27_method_1_code 1 none, Cond.methodLink "java/lang/IllegalArgumentException" 1 ⟨"java/lang/RuntimeException", "<init>", "()V"⟩, Cond.instanceMethod ⟨"java/lang/RuntimeException", "<init>", "()V"⟩, Cond.declares ⟨"java/lang/RuntimeException", "<init>", "()V"⟩, Cond.instanceMethod ⟨"java/lang/RuntimeException", "<init>", "()V"⟩, Cond.code ⟨"java/lang/RuntimeException", "<init>", "()V"⟩ prog_34_method_1_code 1 none, Cond.methodLink "java/lang/RuntimeException" 1 ⟨"java/lang/Exception", "<init>", "()V"⟩, Cond.instanceMethod ⟨"java/lang/Exception", "<init>", "()V"⟩, Cond.declares ⟨"java/lang/Exception", "<init>", "()V"⟩, Cond.instanceMethod ⟨"java/lang/Exception", "<init>", "()V"⟩, Cond.code ⟨"java/lang/Exception", "<init>", "()V"⟩ prog_26_method_1_code 1 none, Cond.methodLink "java/lang/Exception" 1 ⟨"java/lang/Throwable", "<init>", "()V"⟩, Cond.instanceMethod ⟨"java/lang/Throwable", "<init>", "()V"⟩, Cond.declares ⟨"java/lang/Throwable", "<init>", "()V"⟩, Cond.methodLink "SyntaxForgeModel" 279 ⟨"java/lang/IllegalArgumentException", "<init>", "()V"⟩, Cond.instantiable "java/lang/IllegalArgumentException" 6, Cond.castable "java/lang/IllegalArgumentException" "java/lang/IllegalArgumentException", Cond.selects "java/lang/IllegalArgumentException" ⟨"java/lang/Throwable", "fillInStackTrace", "(I)Ljava/lang/Throwable;"⟩ ⟨"java/lang/Throwable", "fillInStackTrace", "(I)Ljava/lang/Throwable;"⟩, Cond.selects "java/lang/IllegalArgumentException" ⟨"java/lang/Throwable", "fillInStackTrace", "()Ljava/lang/Throwable;"⟩ ⟨"java/lang/Throwable", "fillInStackTrace", "()Ljava/lang/Throwable;"⟩, Cond.lays "java/lang/IllegalArgumentException" "java/lang/Throwable" "cause" "Ljava/lang/Throwable;", Cond.lays "java/lang/IllegalArgumentException" "java/lang/Throwable" "stackTrace" "[Ljava/lang/StackTraceElement;", Cond.lays "java/lang/IllegalArgumentException" "java/lang/Throwable" "suppressedExceptions" "Ljava/util/List;", Cond.lays "java/lang/IllegalArgumentException" "java/lang/Throwable" "detailMessage" "Ljava/lang/String;", Cond.isRef (.static "java/lang/Throwable" "UNASSIGNED_STACK" "[Ljava/lang/StackTraceElement;"), Cond.isRef (.static "java/lang/Throwable" "SUPPRESSED_SENTINEL" "Ljava/util/List;"), Cond.fieldLink "java/lang/Throwable" 198 "java/lang/Throwable" "backtrace" "Ljava/lang/Object;", Cond.lays "java/lang/Throwable" "java/lang/Throwable" "backtrace" "Ljava/lang/Object;", Cond.lays "java/lang/IllegalArgumentException" "java/lang/Throwable" "backtrace" "Ljava/lang/Object;"], w.before args s = true
  exact List.forall_mem_cons.mpr ⟨htw _ wd_1_23, List.forall_mem_cons.mpr ⟨htw _ wd_3_80, List.forall_mem_cons.mpr ⟨htw _ wd_3_89, List.forall_mem_cons.mpr ⟨htw _ wd_3_95, List.forall_mem_cons.mpr ⟨htw _ wd_3_98, List.forall_mem_cons.mpr ⟨htw _ wd_3_100, List.forall_mem_cons.mpr ⟨htw _ wd_3_81, List.forall_mem_cons.mpr ⟨htw _ wd_3_82, List.forall_mem_cons.mpr ⟨htw _ wd_1_51, List.forall_mem_cons.mpr ⟨htw _ wd_1_52, List.forall_mem_cons.mpr ⟨htw _ wd_3_83, List.forall_mem_cons.mpr ⟨htw _ wd_3_88, List.forall_mem_cons.mpr ⟨htw _ wd_3_96, List.forall_mem_cons.mpr ⟨htw _ wd_3_113, List.forall_mem_cons.mpr ⟨htw _ wd_3_70, List.forall_mem_cons.mpr ⟨htw _ wd_3_114, List.forall_mem_cons.mpr ⟨htw _ wd_3_72, List.forall_mem_cons.mpr ⟨htw _ wd_3_115, List.forall_mem_cons.mpr ⟨htw _ wd_3_74, List.forall_mem_cons.mpr ⟨htw _ wd_3_84, List.forall_mem_cons.mpr ⟨h3, List.forall_mem_cons.mpr ⟨htw _ wd_3_86, List.forall_mem_cons.mpr ⟨h4, List.forall_mem_cons.mpr ⟨htw _ wd_3_76, List.forall_mem_cons.mpr ⟨htw _ wd_3_147, List.forall_mem_cons.mpr ⟨htw _ wd_3_148, List.forall_mem_cons.mpr ⟨htw _ wd_3_149, List.forall_mem_cons.mpr ⟨htw _ wd_3_105, List.forall_mem_cons.mpr ⟨tz_decl (htw _ wd_3_105) (htw _ wd_3_106), List.forall_mem_cons.mpr ⟨htw _ wd_3_105, List.forall_mem_cons.mpr ⟨htw _ wd_3_106, List.forall_mem_cons.mpr ⟨htw _ wd_3_107, List.forall_mem_cons.mpr ⟨htw _ wd_3_108, List.forall_mem_cons.mpr ⟨tz_decl (htw _ wd_3_108) (htw _ wd_3_109), List.forall_mem_cons.mpr ⟨htw _ wd_3_108, List.forall_mem_cons.mpr ⟨htw _ wd_3_109, List.forall_mem_cons.mpr ⟨htw _ wd_3_110, List.forall_mem_cons.mpr ⟨htw _ wd_3_81, List.forall_mem_cons.mpr ⟨tz_decl (htw _ wd_3_81) (htw _ wd_3_82), List.forall_mem_cons.mpr ⟨htw _ wd_12_80, List.forall_mem_cons.mpr ⟨htw _ wd_3_138, List.forall_mem_cons.mpr ⟨tz_cast (htw _ wd_3_138), List.forall_mem_cons.mpr ⟨htw _ wd_3_140, List.forall_mem_cons.mpr ⟨htw _ wd_3_92, List.forall_mem_cons.mpr ⟨htw _ wd_3_141, List.forall_mem_cons.mpr ⟨htw _ wd_3_142, List.forall_mem_cons.mpr ⟨htw _ wd_3_143, List.forall_mem_cons.mpr ⟨htw _ wd_3_144, List.forall_mem_cons.mpr ⟨h1, List.forall_mem_cons.mpr ⟨h2, List.forall_mem_cons.mpr ⟨htw _ wd_3_79, List.forall_mem_cons.mpr ⟨htw _ wd_3_78, List.forall_mem_cons.mpr ⟨htw _ wd_3_145, fun _ h => absurd h List.not_mem_nil⟩⟩⟩⟩⟩⟩⟩⟩⟩⟩⟩⟩⟩⟩⟩⟩⟩⟩⟩⟩⟩⟩⟩⟩⟩⟩⟩⟩⟩⟩⟩⟩⟩⟩⟩⟩⟩⟩⟩⟩⟩⟩⟩⟩⟩⟩⟩⟩⟩⟩⟩⟩⟩
set_option maxHeartbeats 4000000 in
set_option maxRecDepth 100000 in
theorem x_Mo_can (l : Launch) (hNT : tk_NT l) (dC : Nat → ClassId) (dI : Nat → Nat → Nat) (sz : Nat) (y0 : Nat) : tk_Met l y_Mo_can ws_Mo_can ({ frames := 6, cells := 1, slots := 6, locals := 90 }) (va_Pc [.ref y0, .int 0] (fun U => U.heap.size = sz ∧ va_P (dC, dI) classes [] U.heap ∧ va_K (dC, dI) classes [] U ∧ va_D (fun _ => True) [] ∧ va_Zq "java/lang/Throwable" "UNASSIGNED_STACK" "[Ljava/lang/StackTraceElement;" (va_A [] sz) U U.heap ∧ va_Zq "java/lang/Throwable" "SUPPRESSED_SENTINEL" "Ljava/util/List;" (va_A [] sz) U U.heap ∧ tz_LS "java/lang/Throwable" "UNASSIGNED_STACK" "[Ljava/lang/StackTraceElement;" (va_A [] sz) U U.heap ∧ tz_LS "java/lang/Throwable" "SUPPRESSED_SENTINEL" "Ljava/util/List;" (va_A [] sz) U U.heap)) (tk_Qx "java/lang/IllegalArgumentException") 1 6 (va_A [] sz) := by
  refine tk_Met.ofW (cc := b_Mo_can) (maxL := 2) (ret := none) (by decide) rfl ?_
  intro p e s m args below meth c s₁ B hml hv hnoh
  obtain ⟨rfl, hsz, hP, hK, hD0, hx0, hx1, hx2, hx3⟩ := hv
  have hx := B.exec
  have hb := B.bytes
  have hr := B.returns
  have hts := atoms_spec (ws := ws_Mo_can) B.pre
  have htw : ∀ w ∈ tw_tbl, w.before [.ref y0, .int 0].toArray s = true := fun w h => hts w (List.mem_cons_of_mem _ h)
  have hown : s.vm.findClass R_Mo = some m.cls := findClass_of_methodNamed B.named
  have hlocks := B.notSynchronized
  have hin : meth.name = "can" := (name_of_methodNamed B.named B.method).1
  subst hsz
  have hP0 := hP
  have hD := hD0.self (sz := s.heap.size)
  generalize hAe : va_A [] s.heap.size = A at hD hx0 hx1 hx2 hx3 ⊢
  have hA : ∀ q : Nat, s.heap.size ≤ q → A q := fun q h => by rw [← hAe]; exact Or.inr h
  have hS : va_S A s.heap s.heap [] := va_S.rf
  have hP : va_P (dC, dI) classes [] s.heap := hP
  have hl := lv_entry ([.ref y0, .int 0]) (n := 2) (Nat.le_of_ble_eq_true rfl)
  rw [lg_entry_eq]
  generalize (lg_sl ([.ref y0, .int 0]) ++ List.replicate (2 - (lg_sl ([.ref y0, .int 0])).length) Slot.unset).toArray = ls at hl ⊢
  have hl : lv_has ls 2 [(0, .ref y0), (1, .int 0)] := hl
  refine lv_iload_n hx hb d_Mo_can_0 rfl (lv_at hl 1 rfl) ?_
  refine lv_if_ne (tgt := 12) hx hb d_Mo_can_1 rfl (fun ht => absurd ht (fun h => h rfl)) (fun _ => ?_)
  exact tk_throw0 (names := ["java/lang/RuntimeException", "java/lang/Exception"]) hx hb hnoh hlocks hNT hown (by decide +kernel) (by decide +kernel) (htw _ wd_10_232) (htw _ wd_1_27) (oa_Mo_279 htw (tz_zq hx0) (tz_zq hx1) (tz_LS.use hx2) (tz_LS.use hx3)) (fun z hz cell hc => tz_nost hP0 (by rw [hAe]; exact hS.2.2 z hz) hc) hS.2.2 hS.1 (by rw [hml]; exact hl.1) d_Mo_can_4 d_Mo_can_7 d_Mo_can_8 d_Mo_can_11 (Nat.le_of_ble_eq_true rfl) (Nat.le_of_ble_eq_true rfl) (Nat.le_of_ble_eq_true rfl) (Nat.le_of_ble_eq_true rfl)
