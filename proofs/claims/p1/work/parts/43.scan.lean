/-! by program (wip/p1) -/
theorem wd_2_95 : Cond.fieldLink "SyntaxForge$Scanner" 40 "SyntaxForge$Scanner" "count" "I" ∈ tw_tbl := tw_t2 (List.mem_of_getElem? (i := 95) rfl) rfl
theorem wd_2_99 : Cond.fieldLink "SyntaxForge$Scanner" 28 "SyntaxForge$Scanner" "tape" "LSyntaxForge$Bytes;" ∈ tw_tbl := tw_t2 (List.mem_of_getElem? (i := 99) rfl) rfl
theorem wd_1_72 : Cond.fieldLink "SyntaxForge$Scanner" 47 "SyntaxForge$Bytes" "length" "I" ∈ tw_tbl := tw_t1 (List.mem_of_getElem? (i := 72) rfl) rfl
theorem wd_2_100 : Cond.fieldLink "SyntaxForge$Scanner" 32 "SyntaxForge$Scanner" "names" "LSyntaxForge$Schema;" ∈ tw_tbl := tw_t2 (List.mem_of_getElem? (i := 100) rfl) rfl
theorem wd_2_101 : Cond.fieldLink "SyntaxForge$Scanner" 36 "SyntaxForge$Scanner" "adding" "Z" ∈ tw_tbl := tw_t2 (List.mem_of_getElem? (i := 101) rfl) rfl
theorem wd_3_170 : Cond.methodLink "SyntaxForge$Scanner" 43 ⟨"SyntaxForge$Scanner", "blanks", "(I)I"⟩ ∈ tw_tbl := tw_t3 (List.mem_of_getElem? (i := 170) rfl) rfl
theorem wd_3_171 : Cond.instanceMethod ⟨"SyntaxForge$Scanner", "blanks", "(I)I"⟩ ∈ tw_tbl := tw_t3 (List.mem_of_getElem? (i := 171) rfl) rfl
theorem wd_3_172 : Cond.selects "SyntaxForge$Scanner" ⟨"SyntaxForge$Scanner", "blanks", "(I)I"⟩ ⟨"SyntaxForge$Scanner", "blanks", "(I)I"⟩ ∈ tw_tbl := tw_t3 (List.mem_of_getElem? (i := 172) rfl) rfl
theorem wd_3_194 : Cond.methodLink "SyntaxForge$Scanner" 55 ⟨"SyntaxForge$Scanner", "keep", "(IIJ)V"⟩ ∈ tw_tbl := tw_t3 (List.mem_of_getElem? (i := 194) rfl) rfl
theorem wd_3_196 : Cond.instanceMethod ⟨"SyntaxForge$Scanner", "keep", "(IIJ)V"⟩ ∈ tw_tbl := tw_t3 (List.mem_of_getElem? (i := 196) rfl) rfl
theorem wp_1_8 : Cond.selects "SyntaxForge$Scanner" ⟨"SyntaxForge$Scanner", "keep", "(IIJ)V"⟩ ⟨"SyntaxForge$Scanner", "keep", "(IIJ)V"⟩ ∈ tw_tbl := tw_p1 (q := (⟨"SyntaxForge$Scanner", "keep", "(IIJ)V"⟩, 8)) (List.mem_of_getElem? (i := 8) rfl)
def y_SF_takeTape : MethodName := ⟨"SyntaxForge", "takeTape", "()LSyntaxForge$Bytes;"⟩
abbrev b_SF_takeTape : ByteArray := prog_1_method_11_code
abbrev cd_SF_takeTape : Cond := .code y_SF_takeTape b_SF_takeTape 2 (some (.object "SyntaxForge$Bytes"))
abbrev ws_SF_takeTape : List Cond := cd_SF_takeTape :: tw_tbl
theorem k_SF_takeTape : cd_SF_takeTape ∈ tw_tbl := tw_t3 (List.mem_of_getElem? (i := 164) rfl) rfl
theorem d_SF_takeTape_0 : decode b_SF_takeTape 0 = .ok (.aload_n 0, 1) := by decide +kernel
theorem d_SF_takeTape_1 : decode b_SF_takeTape 1 = .ok (.getfield 12, 3) := by decide +kernel
theorem d_SF_takeTape_4 : decode b_SF_takeTape 4 = .ok (.astore_n 1, 1) := by decide +kernel
theorem d_SF_takeTape_5 : decode b_SF_takeTape 5 = .ok (.aload_n 0, 1) := by decide +kernel
theorem d_SF_takeTape_6 : decode b_SF_takeTape 6 = .ok (.aload_n 0, 1) := by decide +kernel
theorem d_SF_takeTape_7 : decode b_SF_takeTape 7 = .ok (.getfield 18, 3) := by decide +kernel
theorem d_SF_takeTape_10 : decode b_SF_takeTape 10 = .ok (.putfield 12, 3) := by decide +kernel
theorem d_SF_takeTape_13 : decode b_SF_takeTape 13 = .ok (.aload_n 0, 1) := by decide +kernel
theorem d_SF_takeTape_14 : decode b_SF_takeTape 14 = .ok (.getfield 12, 3) := by decide +kernel
theorem d_SF_takeTape_17 : decode b_SF_takeTape 17 = .ok (.iconst 0, 1) := by decide +kernel
theorem d_SF_takeTape_18 : decode b_SF_takeTape 18 = .ok (.putfield 96, 3) := by decide +kernel
theorem d_SF_takeTape_21 : decode b_SF_takeTape 21 = .ok (.aload_n 0, 1) := by decide +kernel
theorem d_SF_takeTape_22 : decode b_SF_takeTape 22 = .ok (.aload_n 1, 1) := by decide +kernel
theorem d_SF_takeTape_23 : decode b_SF_takeTape 23 = .ok (.putfield 18, 3) := by decide +kernel
theorem d_SF_takeTape_26 : decode b_SF_takeTape 26 = .ok (.aload_n 1, 1) := by decide +kernel
theorem d_SF_takeTape_27 : decode b_SF_takeTape 27 = .ok (.areturn, 1) := by decide +kernel
def y_Scanner_keep : MethodName := ⟨"SyntaxForge$Scanner", "keep", "(IIJ)V"⟩
abbrev b_Scanner_keep : ByteArray := prog_9_method_9_code
abbrev cd_Scanner_keep : Cond := .code y_Scanner_keep b_Scanner_keep 5 none
abbrev ws_Scanner_keep : List Cond := cd_Scanner_keep :: tw_tbl
theorem k_Scanner_keep : cd_Scanner_keep ∈ tw_tbl := tw_t3 (List.mem_of_getElem? (i := 197) rfl) rfl
theorem d_Scanner_keep_0 : decode b_Scanner_keep 0 = .ok (.aload_n 0, 1) := by decide +kernel
theorem d_Scanner_keep_1 : decode b_Scanner_keep 1 = .ok (.getfield 40, 3) := by decide +kernel
theorem d_Scanner_keep_4 : decode b_Scanner_keep 4 = .ok (.aload_n 0, 1) := by decide +kernel
theorem d_Scanner_keep_5 : decode b_Scanner_keep 5 = .ok (.getfield 7, 3) := by decide +kernel
theorem d_Scanner_keep_8 : decode b_Scanner_keep 8 = .ok (.arraylength, 1) := by decide +kernel
theorem d_Scanner_keep_9 : decode b_Scanner_keep 9 = .ok (.if_icmp .lt 63, 3) := by decide +kernel
theorem d_Scanner_keep_12 : decode b_Scanner_keep 12 = .ok (.aload_n 0, 1) := by decide +kernel
theorem d_Scanner_keep_13 : decode b_Scanner_keep 13 = .ok (.aload_n 0, 1) := by decide +kernel
theorem d_Scanner_keep_14 : decode b_Scanner_keep 14 = .ok (.getfield 7, 3) := by decide +kernel
theorem d_Scanner_keep_17 : decode b_Scanner_keep 17 = .ok (.iconst 2, 1) := by decide +kernel
theorem d_Scanner_keep_18 : decode b_Scanner_keep 18 = .ok (.aload_n 0, 1) := by decide +kernel
theorem d_Scanner_keep_19 : decode b_Scanner_keep 19 = .ok (.getfield 40, 3) := by decide +kernel
theorem d_Scanner_keep_22 : decode b_Scanner_keep 22 = .ok (.imul, 1) := by decide +kernel
theorem d_Scanner_keep_23 : decode b_Scanner_keep 23 = .ok (.bipush 16, 2) := by decide +kernel
theorem d_Scanner_keep_25 : decode b_Scanner_keep 25 = .ok (.iadd, 1) := by decide +kernel
theorem d_Scanner_keep_26 : decode b_Scanner_keep 26 = .ok (.invokestatic 81, 3) := by decide +kernel
theorem d_Scanner_keep_29 : decode b_Scanner_keep 29 = .ok (.putfield 7, 3) := by decide +kernel
theorem d_Scanner_keep_32 : decode b_Scanner_keep 32 = .ok (.aload_n 0, 1) := by decide +kernel
theorem d_Scanner_keep_33 : decode b_Scanner_keep 33 = .ok (.aload_n 0, 1) := by decide +kernel
theorem d_Scanner_keep_34 : decode b_Scanner_keep 34 = .ok (.getfield 13, 3) := by decide +kernel
theorem d_Scanner_keep_37 : decode b_Scanner_keep 37 = .ok (.iconst 2, 1) := by decide +kernel
theorem d_Scanner_keep_38 : decode b_Scanner_keep 38 = .ok (.aload_n 0, 1) := by decide +kernel
theorem d_Scanner_keep_39 : decode b_Scanner_keep 39 = .ok (.getfield 40, 3) := by decide +kernel
theorem d_Scanner_keep_42 : decode b_Scanner_keep 42 = .ok (.imul, 1) := by decide +kernel
theorem d_Scanner_keep_43 : decode b_Scanner_keep 43 = .ok (.bipush 16, 2) := by decide +kernel
theorem d_Scanner_keep_45 : decode b_Scanner_keep 45 = .ok (.iadd, 1) := by decide +kernel
theorem d_Scanner_keep_46 : decode b_Scanner_keep 46 = .ok (.invokestatic 81, 3) := by decide +kernel
theorem d_Scanner_keep_49 : decode b_Scanner_keep 49 = .ok (.putfield 13, 3) := by decide +kernel
theorem d_Scanner_keep_52 : decode b_Scanner_keep 52 = .ok (.aload_n 0, 1) := by decide +kernel
theorem d_Scanner_keep_53 : decode b_Scanner_keep 53 = .ok (.aload_n 0, 1) := by decide +kernel
theorem d_Scanner_keep_54 : decode b_Scanner_keep 54 = .ok (.getfield 16, 3) := by decide +kernel
theorem d_Scanner_keep_57 : decode b_Scanner_keep 57 = .ok (.iconst 2, 1) := by decide +kernel
theorem d_Scanner_keep_58 : decode b_Scanner_keep 58 = .ok (.aload_n 0, 1) := by decide +kernel
theorem d_Scanner_keep_59 : decode b_Scanner_keep 59 = .ok (.getfield 40, 3) := by decide +kernel
theorem d_Scanner_keep_62 : decode b_Scanner_keep 62 = .ok (.imul, 1) := by decide +kernel
theorem d_Scanner_keep_63 : decode b_Scanner_keep 63 = .ok (.bipush 16, 2) := by decide +kernel
theorem d_Scanner_keep_65 : decode b_Scanner_keep 65 = .ok (.iadd, 1) := by decide +kernel
theorem d_Scanner_keep_66 : decode b_Scanner_keep 66 = .ok (.invokestatic 87, 3) := by decide +kernel
theorem d_Scanner_keep_69 : decode b_Scanner_keep 69 = .ok (.putfield 16, 3) := by decide +kernel
theorem d_Scanner_keep_72 : decode b_Scanner_keep 72 = .ok (.aload_n 0, 1) := by decide +kernel
theorem d_Scanner_keep_73 : decode b_Scanner_keep 73 = .ok (.getfield 7, 3) := by decide +kernel
theorem d_Scanner_keep_76 : decode b_Scanner_keep 76 = .ok (.aload_n 0, 1) := by decide +kernel
theorem d_Scanner_keep_77 : decode b_Scanner_keep 77 = .ok (.getfield 40, 3) := by decide +kernel
theorem d_Scanner_keep_80 : decode b_Scanner_keep 80 = .ok (.iload_n 1, 1) := by decide +kernel
theorem d_Scanner_keep_81 : decode b_Scanner_keep 81 = .ok (.iastore, 1) := by decide +kernel
theorem d_Scanner_keep_82 : decode b_Scanner_keep 82 = .ok (.aload_n 0, 1) := by decide +kernel
theorem d_Scanner_keep_83 : decode b_Scanner_keep 83 = .ok (.getfield 13, 3) := by decide +kernel
theorem d_Scanner_keep_86 : decode b_Scanner_keep 86 = .ok (.aload_n 0, 1) := by decide +kernel
theorem d_Scanner_keep_87 : decode b_Scanner_keep 87 = .ok (.getfield 40, 3) := by decide +kernel
theorem d_Scanner_keep_90 : decode b_Scanner_keep 90 = .ok (.iload_n 2, 1) := by decide +kernel
theorem d_Scanner_keep_91 : decode b_Scanner_keep 91 = .ok (.iastore, 1) := by decide +kernel
theorem d_Scanner_keep_92 : decode b_Scanner_keep 92 = .ok (.aload_n 0, 1) := by decide +kernel
theorem d_Scanner_keep_93 : decode b_Scanner_keep 93 = .ok (.getfield 16, 3) := by decide +kernel
theorem d_Scanner_keep_96 : decode b_Scanner_keep 96 = .ok (.aload_n 0, 1) := by decide +kernel
theorem d_Scanner_keep_97 : decode b_Scanner_keep 97 = .ok (.getfield 40, 3) := by decide +kernel
theorem d_Scanner_keep_100 : decode b_Scanner_keep 100 = .ok (.lload_n 3, 1) := by decide +kernel
theorem d_Scanner_keep_101 : decode b_Scanner_keep 101 = .ok (.lastore, 1) := by decide +kernel
theorem d_Scanner_keep_102 : decode b_Scanner_keep 102 = .ok (.aload_n 0, 1) := by decide +kernel
theorem d_Scanner_keep_103 : decode b_Scanner_keep 103 = .ok (.dup, 1) := by decide +kernel
theorem d_Scanner_keep_104 : decode b_Scanner_keep 104 = .ok (.getfield 40, 3) := by decide +kernel
theorem d_Scanner_keep_107 : decode b_Scanner_keep 107 = .ok (.iconst 1, 1) := by decide +kernel
theorem d_Scanner_keep_108 : decode b_Scanner_keep 108 = .ok (.iadd, 1) := by decide +kernel
theorem d_Scanner_keep_109 : decode b_Scanner_keep 109 = .ok (.putfield 40, 3) := by decide +kernel
theorem d_Scanner_keep_112 : decode b_Scanner_keep 112 = .ok (.return_, 1) := by decide +kernel
def y_Scanner_blanks : MethodName := ⟨"SyntaxForge$Scanner", "blanks", "(I)I"⟩
abbrev b_Scanner_blanks : ByteArray := prog_9_method_7_code
abbrev cd_Scanner_blanks : Cond := .code y_Scanner_blanks b_Scanner_blanks 5 (some .int)
abbrev ws_Scanner_blanks : List Cond := cd_Scanner_blanks :: tw_tbl
theorem k_Scanner_blanks : cd_Scanner_blanks ∈ tw_tbl := tw_t3 (List.mem_of_getElem? (i := 173) rfl) rfl
theorem d_Scanner_blanks_0 : decode b_Scanner_blanks 0 = .ok (.iconst 0, 1) := by decide +kernel
theorem d_Scanner_blanks_1 : decode b_Scanner_blanks 1 = .ok (.istore_n 2, 1) := by decide +kernel
theorem d_Scanner_blanks_2 : decode b_Scanner_blanks 2 = .ok (.iload_n 1, 1) := by decide +kernel
theorem d_Scanner_blanks_3 : decode b_Scanner_blanks 3 = .ok (.istore_n 3, 1) := by decide +kernel
theorem d_Scanner_blanks_4 : decode b_Scanner_blanks 4 = .ok (.iload_n 3, 1) := by decide +kernel
theorem d_Scanner_blanks_5 : decode b_Scanner_blanks 5 = .ok (.aload_n 0, 1) := by decide +kernel
theorem d_Scanner_blanks_6 : decode b_Scanner_blanks 6 = .ok (.getfield 28, 3) := by decide +kernel
theorem d_Scanner_blanks_9 : decode b_Scanner_blanks 9 = .ok (.getfield 47, 3) := by decide +kernel
theorem d_Scanner_blanks_12 : decode b_Scanner_blanks 12 = .ok (.if_icmp .ge 107, 3) := by decide +kernel
theorem d_Scanner_blanks_15 : decode b_Scanner_blanks 15 = .ok (.aload_n 0, 1) := by decide +kernel
theorem d_Scanner_blanks_16 : decode b_Scanner_blanks 16 = .ok (.getfield 28, 3) := by decide +kernel
theorem d_Scanner_blanks_19 : decode b_Scanner_blanks 19 = .ok (.iload_n 3, 1) := by decide +kernel
theorem d_Scanner_blanks_20 : decode b_Scanner_blanks 20 = .ok (.invokevirtual 59, 3) := by decide +kernel
theorem d_Scanner_blanks_23 : decode b_Scanner_blanks 23 = .ok (.istore 4, 2) := by decide +kernel
theorem d_Scanner_blanks_25 : decode b_Scanner_blanks 25 = .ok (.iload 4, 2) := by decide +kernel
theorem d_Scanner_blanks_27 : decode b_Scanner_blanks 27 = .ok (.bipush 45, 2) := by decide +kernel
theorem d_Scanner_blanks_29 : decode b_Scanner_blanks 29 = .ok (.if_icmp .ne 34, 3) := by decide +kernel
theorem d_Scanner_blanks_32 : decode b_Scanner_blanks 32 = .ok (.aload_n 0, 1) := by decide +kernel
theorem d_Scanner_blanks_33 : decode b_Scanner_blanks 33 = .ok (.getfield 28, 3) := by decide +kernel
theorem d_Scanner_blanks_36 : decode b_Scanner_blanks 36 = .ok (.iload_n 3, 1) := by decide +kernel
theorem d_Scanner_blanks_37 : decode b_Scanner_blanks 37 = .ok (.iconst 1, 1) := by decide +kernel
theorem d_Scanner_blanks_38 : decode b_Scanner_blanks 38 = .ok (.iadd, 1) := by decide +kernel
theorem d_Scanner_blanks_39 : decode b_Scanner_blanks 39 = .ok (.invokevirtual 59, 3) := by decide +kernel
theorem d_Scanner_blanks_42 : decode b_Scanner_blanks 42 = .ok (.bipush 45, 2) := by decide +kernel
theorem d_Scanner_blanks_44 : decode b_Scanner_blanks 44 = .ok (.if_icmp .ne 19, 3) := by decide +kernel
theorem d_Scanner_blanks_47 : decode b_Scanner_blanks 47 = .ok (.iload_n 2, 1) := by decide +kernel
theorem d_Scanner_blanks_48 : decode b_Scanner_blanks 48 = .ok (.ifCond .ne 7, 3) := by decide +kernel
theorem d_Scanner_blanks_51 : decode b_Scanner_blanks 51 = .ok (.iconst 1, 1) := by decide +kernel
theorem d_Scanner_blanks_52 : decode b_Scanner_blanks 52 = .ok (.goto 4, 3) := by decide +kernel
theorem d_Scanner_blanks_55 : decode b_Scanner_blanks 55 = .ok (.iconst 0, 1) := by decide +kernel
theorem d_Scanner_blanks_56 : decode b_Scanner_blanks 56 = .ok (.istore_n 2, 1) := by decide +kernel
theorem d_Scanner_blanks_57 : decode b_Scanner_blanks 57 = .ok (.iinc 3 1, 3) := by decide +kernel
theorem d_Scanner_blanks_60 : decode b_Scanner_blanks 60 = .ok (.goto 53, 3) := by decide +kernel
theorem d_Scanner_blanks_63 : decode b_Scanner_blanks 63 = .ok (.iload_n 2, 1) := by decide +kernel
theorem d_Scanner_blanks_64 : decode b_Scanner_blanks 64 = .ok (.ifCond .eq 19, 3) := by decide +kernel
theorem d_Scanner_blanks_67 : decode b_Scanner_blanks 67 = .ok (.iload 4, 2) := by decide +kernel
theorem d_Scanner_blanks_69 : decode b_Scanner_blanks 69 = .ok (.bipush 10, 2) := by decide +kernel
theorem d_Scanner_blanks_71 : decode b_Scanner_blanks 71 = .ok (.if_icmp .eq 7, 3) := by decide +kernel
theorem d_Scanner_blanks_74 : decode b_Scanner_blanks 74 = .ok (.iconst 1, 1) := by decide +kernel
theorem d_Scanner_blanks_75 : decode b_Scanner_blanks 75 = .ok (.goto 4, 3) := by decide +kernel
theorem d_Scanner_blanks_78 : decode b_Scanner_blanks 78 = .ok (.iconst 0, 1) := by decide +kernel
theorem d_Scanner_blanks_79 : decode b_Scanner_blanks 79 = .ok (.istore_n 2, 1) := by decide +kernel
theorem d_Scanner_blanks_80 : decode b_Scanner_blanks 80 = .ok (.goto 33, 3) := by decide +kernel
theorem d_Scanner_blanks_83 : decode b_Scanner_blanks 83 = .ok (.iload 4, 2) := by decide +kernel
theorem d_Scanner_blanks_85 : decode b_Scanner_blanks 85 = .ok (.bipush 9, 2) := by decide +kernel
theorem d_Scanner_blanks_87 : decode b_Scanner_blanks 87 = .ok (.if_icmp .eq 26, 3) := by decide +kernel
theorem d_Scanner_blanks_90 : decode b_Scanner_blanks 90 = .ok (.iload 4, 2) := by decide +kernel
theorem d_Scanner_blanks_92 : decode b_Scanner_blanks 92 = .ok (.bipush 10, 2) := by decide +kernel
theorem d_Scanner_blanks_94 : decode b_Scanner_blanks 94 = .ok (.if_icmp .eq 19, 3) := by decide +kernel
theorem d_Scanner_blanks_97 : decode b_Scanner_blanks 97 = .ok (.iload 4, 2) := by decide +kernel
theorem d_Scanner_blanks_99 : decode b_Scanner_blanks 99 = .ok (.bipush 13, 2) := by decide +kernel
theorem d_Scanner_blanks_101 : decode b_Scanner_blanks 101 = .ok (.if_icmp .eq 12, 3) := by decide +kernel
theorem d_Scanner_blanks_104 : decode b_Scanner_blanks 104 = .ok (.iload 4, 2) := by decide +kernel
theorem d_Scanner_blanks_106 : decode b_Scanner_blanks 106 = .ok (.bipush 32, 2) := by decide +kernel
theorem d_Scanner_blanks_108 : decode b_Scanner_blanks 108 = .ok (.if_icmp .eq 5, 3) := by decide +kernel
theorem d_Scanner_blanks_111 : decode b_Scanner_blanks 111 = .ok (.iload_n 3, 1) := by decide +kernel
theorem d_Scanner_blanks_112 : decode b_Scanner_blanks 112 = .ok (.ireturn, 1) := by decide +kernel
theorem d_Scanner_blanks_113 : decode b_Scanner_blanks 113 = .ok (.iinc 3 1, 3) := by decide +kernel
theorem d_Scanner_blanks_116 : decode b_Scanner_blanks 116 = .ok (.goto (-112), 3) := by decide +kernel
theorem d_Scanner_blanks_119 : decode b_Scanner_blanks 119 = .ok (.aload_n 0, 1) := by decide +kernel
theorem d_Scanner_blanks_120 : decode b_Scanner_blanks 120 = .ok (.getfield 28, 3) := by decide +kernel
theorem d_Scanner_blanks_123 : decode b_Scanner_blanks 123 = .ok (.getfield 47, 3) := by decide +kernel
theorem d_Scanner_blanks_126 : decode b_Scanner_blanks 126 = .ok (.ireturn, 1) := by decide +kernel
def y_Scanner_scan : MethodName := ⟨"SyntaxForge$Scanner", "scan", "(LSyntaxForge$Bytes;LSyntaxForge$Schema;Z)V"⟩
abbrev b_Scanner_scan : ByteArray := prog_9_method_6_code
abbrev cd_Scanner_scan : Cond := .code y_Scanner_scan b_Scanner_scan 6 none
abbrev ws_Scanner_scan : List Cond := cd_Scanner_scan :: tw_tbl
theorem k_Scanner_scan : cd_Scanner_scan ∈ tw_tbl := tw_t3 (List.mem_of_getElem? (i := 169) rfl) rfl
theorem d_Scanner_scan_0 : decode b_Scanner_scan 0 = .ok (.aload_n 0, 1) := by decide +kernel
theorem d_Scanner_scan_1 : decode b_Scanner_scan 1 = .ok (.aload_n 1, 1) := by decide +kernel
theorem d_Scanner_scan_2 : decode b_Scanner_scan 2 = .ok (.putfield 28, 3) := by decide +kernel
theorem d_Scanner_scan_5 : decode b_Scanner_scan 5 = .ok (.aload_n 0, 1) := by decide +kernel
theorem d_Scanner_scan_6 : decode b_Scanner_scan 6 = .ok (.aload_n 2, 1) := by decide +kernel
theorem d_Scanner_scan_7 : decode b_Scanner_scan 7 = .ok (.putfield 32, 3) := by decide +kernel
theorem d_Scanner_scan_10 : decode b_Scanner_scan 10 = .ok (.aload_n 0, 1) := by decide +kernel
theorem d_Scanner_scan_11 : decode b_Scanner_scan 11 = .ok (.iload_n 3, 1) := by decide +kernel
theorem d_Scanner_scan_12 : decode b_Scanner_scan 12 = .ok (.putfield 36, 3) := by decide +kernel
theorem d_Scanner_scan_15 : decode b_Scanner_scan 15 = .ok (.aload_n 0, 1) := by decide +kernel
theorem d_Scanner_scan_16 : decode b_Scanner_scan 16 = .ok (.iconst (-1), 1) := by decide +kernel
theorem d_Scanner_scan_17 : decode b_Scanner_scan 17 = .ok (.putfield 20, 3) := by decide +kernel
theorem d_Scanner_scan_20 : decode b_Scanner_scan 20 = .ok (.aload_n 0, 1) := by decide +kernel
theorem d_Scanner_scan_21 : decode b_Scanner_scan 21 = .ok (.iconst 0, 1) := by decide +kernel
theorem d_Scanner_scan_22 : decode b_Scanner_scan 22 = .ok (.putfield 40, 3) := by decide +kernel
theorem d_Scanner_scan_25 : decode b_Scanner_scan 25 = .ok (.aload_n 0, 1) := by decide +kernel
theorem d_Scanner_scan_26 : decode b_Scanner_scan 26 = .ok (.iconst 0, 1) := by decide +kernel
theorem d_Scanner_scan_27 : decode b_Scanner_scan 27 = .ok (.invokevirtual 43, 3) := by decide +kernel
theorem d_Scanner_scan_30 : decode b_Scanner_scan 30 = .ok (.istore 4, 2) := by decide +kernel
theorem d_Scanner_scan_32 : decode b_Scanner_scan 32 = .ok (.iload 4, 2) := by decide +kernel
theorem d_Scanner_scan_34 : decode b_Scanner_scan 34 = .ok (.aload_n 0, 1) := by decide +kernel
theorem d_Scanner_scan_35 : decode b_Scanner_scan 35 = .ok (.getfield 28, 3) := by decide +kernel
theorem d_Scanner_scan_38 : decode b_Scanner_scan 38 = .ok (.getfield 47, 3) := by decide +kernel
theorem d_Scanner_scan_41 : decode b_Scanner_scan 41 = .ok (.if_icmp .ge 38, 3) := by decide +kernel
theorem d_Scanner_scan_44 : decode b_Scanner_scan 44 = .ok (.aload_n 0, 1) := by decide +kernel
theorem d_Scanner_scan_45 : decode b_Scanner_scan 45 = .ok (.iload 4, 2) := by decide +kernel
theorem d_Scanner_scan_47 : decode b_Scanner_scan 47 = .ok (.invokevirtual 52, 3) := by decide +kernel
theorem d_Scanner_scan_50 : decode b_Scanner_scan 50 = .ok (.istore 5, 2) := by decide +kernel
theorem d_Scanner_scan_52 : decode b_Scanner_scan 52 = .ok (.iload 5, 2) := by decide +kernel
theorem d_Scanner_scan_54 : decode b_Scanner_scan 54 = .ok (.iload 4, 2) := by decide +kernel
theorem d_Scanner_scan_56 : decode b_Scanner_scan 56 = .ok (.if_icmp .gt 12, 3) := by decide +kernel
theorem d_Scanner_scan_59 : decode b_Scanner_scan 59 = .ok (.aload_n 0, 1) := by decide +kernel
theorem d_Scanner_scan_60 : decode b_Scanner_scan 60 = .ok (.iconst 1, 1) := by decide +kernel
theorem d_Scanner_scan_61 : decode b_Scanner_scan 61 = .ok (.iload 4, 2) := by decide +kernel
theorem d_Scanner_scan_63 : decode b_Scanner_scan 63 = .ok (.lconst 0, 1) := by decide +kernel
theorem d_Scanner_scan_64 : decode b_Scanner_scan 64 = .ok (.invokevirtual 55, 3) := by decide +kernel
theorem d_Scanner_scan_67 : decode b_Scanner_scan 67 = .ok (.return_, 1) := by decide +kernel
theorem d_Scanner_scan_68 : decode b_Scanner_scan 68 = .ok (.aload_n 0, 1) := by decide +kernel
theorem d_Scanner_scan_69 : decode b_Scanner_scan 69 = .ok (.iload 5, 2) := by decide +kernel
theorem d_Scanner_scan_71 : decode b_Scanner_scan 71 = .ok (.invokevirtual 43, 3) := by decide +kernel
theorem d_Scanner_scan_74 : decode b_Scanner_scan 74 = .ok (.istore 4, 2) := by decide +kernel
theorem d_Scanner_scan_76 : decode b_Scanner_scan 76 = .ok (.goto (-44), 3) := by decide +kernel
theorem d_Scanner_scan_79 : decode b_Scanner_scan 79 = .ok (.aload_n 0, 1) := by decide +kernel
theorem d_Scanner_scan_80 : decode b_Scanner_scan 80 = .ok (.iconst 0, 1) := by decide +kernel
theorem d_Scanner_scan_81 : decode b_Scanner_scan 81 = .ok (.aload_n 0, 1) := by decide +kernel
theorem d_Scanner_scan_82 : decode b_Scanner_scan 82 = .ok (.getfield 28, 3) := by decide +kernel
theorem d_Scanner_scan_85 : decode b_Scanner_scan 85 = .ok (.getfield 47, 3) := by decide +kernel
theorem d_Scanner_scan_88 : decode b_Scanner_scan 88 = .ok (.lconst 0, 1) := by decide +kernel
theorem d_Scanner_scan_89 : decode b_Scanner_scan 89 = .ok (.invokevirtual 55, 3) := by decide +kernel
theorem d_Scanner_scan_92 : decode b_Scanner_scan 92 = .ok (.return_, 1) := by decide +kernel
set_option maxHeartbeats 4000000 in
set_option maxRecDepth 100000 in
theorem c_SF_takeTape (l : Launch) (dC : Nat → ClassId) (dI : Nat → Nat → Nat) (sz : Nat) (x0 : Nat) (tp : Nat) (tk : Nat) (rs : Nat) (ou : Nat) (sc0 : Nat) (h0 : Nat) (sn0 : Nat) (pa0 : Nat) (vl : Nat) (de : Nat) (br : Nat) (pw : Nat) (pr : Nat) (tka : Nat) (tkk : Int32) : Met l y_SF_takeTape ws_SF_takeTape ({ frames := 0, cells := 0, slots := 0, locals := 0 }) (va_Pc [.ref x0] (fun U => U.heap.size = sz ∧ va_P (dC, dI) classes [(x0, .inr (10, [.ref tp, .ref tk, .ref rs, .ref ou, .int 0, .ref sc0, .ref h0, .ref sn0, .ref pa0, .ref vl, .ref de, .ref br, .ref pw, .ref pr])), (tk, .inr (0, [.ref tka, .int tkk]))] U.heap ∧ va_K (dC, dI) classes [] U ∧ va_D (fun _ => True) [(x0, .inr (10, [.ref tp, .ref tk, .ref rs, .ref ou, .int 0, .ref sc0, .ref h0, .ref sn0, .ref pa0, .ref vl, .ref de, .ref br, .ref pw, .ref pr])), (tk, .inr (0, [.ref tka, .int tkk]))])) (va_Qr (fun _ : Unit => True) (fun _ ra t => ra = tp ∧ va_P (dC, dI) classes [(x0, .inr (10, [.ref tk, .ref tp, .ref rs, .ref ou, .int 0, .ref sc0, .ref h0, .ref sn0, .ref pa0, .ref vl, .ref de, .ref br, .ref pw, .ref pr])), (tk, .inr (0, [.ref tka, .int 0]))] t.heap ∧ va_K (dC, dI) classes [] t ∧ va_D (va_A [(x0, .inr (10, [.ref tp, .ref tk, .ref rs, .ref ou, .int 0, .ref sc0, .ref h0, .ref sn0, .ref pa0, .ref vl, .ref de, .ref br, .ref pw, .ref pr])), (tk, .inr (0, [.ref tka, .int tkk]))] sz) [(x0, .inr (10, [.ref tk, .ref tp, .ref rs, .ref ou, .int 0, .ref sc0, .ref h0, .ref sn0, .ref pa0, .ref vl, .ref de, .ref br, .ref pw, .ref pr])), (tk, .inr (0, [.ref tka, .int 0]))]) (va_A [(x0, .inr (10, [.ref tp, .ref tk, .ref rs, .ref ou, .int 0, .ref sc0, .ref h0, .ref sn0, .ref pa0, .ref vl, .ref de, .ref br, .ref pw, .ref pr])), (tk, .inr (0, [.ref tka, .int tkk]))] sz)) 0 0 (va_A [(x0, .inr (10, [.ref tp, .ref tk, .ref rs, .ref ou, .int 0, .ref sc0, .ref h0, .ref sn0, .ref pa0, .ref vl, .ref de, .ref br, .ref pw, .ref pr])), (tk, .inr (0, [.ref tka, .int tkk]))] sz) := by
  refine Met.ofW (cc := b_SF_takeTape) (maxL := 2) (ret := (some (.object "SyntaxForge$Bytes"))) (by decide) rfl ?_
  intro p e s m args below meth c s₁ B hml hv
  obtain ⟨rfl, hsz, hP, hK, hD0⟩ := hv
  have hx := B.exec
  have hb := B.bytes
  have hr := B.returns
  have hts := atoms_spec (ws := ws_SF_takeTape) B.pre
  have htw : ∀ w ∈ tw_tbl, w.before [.ref x0].toArray s = true := fun w h => hts w (List.mem_cons_of_mem _ h)
  have hown : s.vm.findClass R_SF = some m.cls := findClass_of_methodNamed B.named
  have hlocks := B.notSynchronized
  have hin : meth.name = "takeTape" := (name_of_methodNamed B.named B.method).1
  subst hsz
  have hD := hD0.self (sz := s.heap.size)
  generalize hAe : va_A [(x0, .inr (10, [.ref tp, .ref tk, .ref rs, .ref ou, .int 0, .ref sc0, .ref h0, .ref sn0, .ref pa0, .ref vl, .ref de, .ref br, .ref pw, .ref pr])), (tk, .inr (0, [.ref tka, .int tkk]))] s.heap.size = A at hD ⊢
  have hA : ∀ q : Nat, s.heap.size ≤ q → A q := fun q h => by rw [← hAe]; exact Or.inr h
  have hS : va_S A s.heap s.heap [] := va_S.rf
  have hP : va_P (dC, dI) classes [(x0, .inr (10, [.ref tp, .ref tk, .ref rs, .ref ou, .int 0, .ref sc0, .ref h0, .ref sn0, .ref pa0, .ref vl, .ref de, .ref br, .ref pw, .ref pr])), (tk, .inr (0, [.ref tka, .int tkk]))] s.heap := hP
  have hl := lv_entry ([.ref x0]) (n := 2) (Nat.le_of_ble_eq_true rfl)
  rw [lg_entry_eq]
  generalize (lg_sl ([.ref x0]) ++ List.replicate (2 - (lg_sl ([.ref x0])).length) Slot.unset).toArray = ls at hl ⊢
  have hl : lv_has ls 2 [(0, .ref x0)] := hl
  refine lv_aload_n hx hb d_SF_takeTape_0 rfl (lv_at hl 0 rfl) ?_
  refine va_get (D := (dC, dI)) (ci := 10) (v := .ref tp) (C := R_SF) (T := F_SF) (N := 14) hx hb htw i_SF hown hK hP 0 rfl rfl 0 (by decide) (htw _ wd_3_6) (fun _ h9 => h9) rfl d_SF_takeTape_1 ?_
  refine lv_astore_n hx hb d_SF_takeTape_4 rfl hl (by decide) rfl (fun ls hl => ?_)
  have hl : lv_has ls 2 [(1, .ref tp), (0, .ref x0)] := hl
  refine lv_aload_n hx hb d_SF_takeTape_5 rfl (lv_at hl 1 rfl) ?_
  refine lv_aload_n hx hb d_SF_takeTape_6 rfl (lv_at hl 1 rfl) ?_
  refine va_get (D := (dC, dI)) (ci := 10) (v := .ref tk) (C := R_SF) (T := F_SF) (N := 14) hx hb htw i_SF hown hK hP 0 rfl rfl 1 (by decide) (htw _ wd_3_7) (fun _ h9 => h9) rfl d_SF_takeTape_7 ?_
  refine va_put (D := (dC, dI)) (ci := 10) (v := .ref tk) (ty := .object "SyntaxForge$Bytes") (C := R_SF) (T := F_SF) (N := 14) hx hb htw i_SF t_SF t_SF_ok n_SF hown hK hP hD hS 0 rfl rfl 0 (by decide) (htw _ wd_3_6) (fun _ h9 => h9) rfl (by decide +kernel) rfl rfl (Nat.le_of_ble_eq_true rfl) d_SF_takeTape_10 (fun H locs hP hD hS => ?_)
  have hP : va_P (dC, dI) classes [(x0, .inr (10, [.ref tk, .ref tk, .ref rs, .ref ou, .int 0, .ref sc0, .ref h0, .ref sn0, .ref pa0, .ref vl, .ref de, .ref br, .ref pw, .ref pr])), (tk, .inr (0, [.ref tka, .int tkk]))] H := hP
  have hD : va_D A [(x0, .inr (10, [.ref tk, .ref tk, .ref rs, .ref ou, .int 0, .ref sc0, .ref h0, .ref sn0, .ref pa0, .ref vl, .ref de, .ref br, .ref pw, .ref pr])), (tk, .inr (0, [.ref tka, .int tkk]))] := hD
  refine lv_aload_n hx hb d_SF_takeTape_13 rfl (lv_at hl 1 rfl) ?_
  refine va_get (D := (dC, dI)) (ci := 10) (v := .ref tk) (C := R_SF) (T := F_SF) (N := 14) hx hb htw i_SF hown hK hP 0 rfl rfl 0 (by decide) (htw _ wd_3_6) (fun _ h9 => h9) rfl d_SF_takeTape_14 ?_
  refine lv_iconst (v := 0) hx hb d_SF_takeTape_17 (by decide) ?_
  refine va_put (D := (dC, dI)) (ci := 0) (v := .int 0) (ty := .int) (C := R_Bytes) (T := F_Bytes) (N := 2) hx hb htw i_Bytes t_Bytes t_Bytes_ok n_Bytes hown hK hP hD hS 1 rfl rfl 1 (by decide) (htw _ wd_1_65) (fun _ h9 => h9) rfl (by decide +kernel) rfl rfl (Nat.le_of_ble_eq_true rfl) d_SF_takeTape_18 (fun H locs hP hD hS => ?_)
  have hP : va_P (dC, dI) classes [(x0, .inr (10, [.ref tk, .ref tk, .ref rs, .ref ou, .int 0, .ref sc0, .ref h0, .ref sn0, .ref pa0, .ref vl, .ref de, .ref br, .ref pw, .ref pr])), (tk, .inr (0, [.ref tka, .int 0]))] H := hP
  have hD : va_D A [(x0, .inr (10, [.ref tk, .ref tk, .ref rs, .ref ou, .int 0, .ref sc0, .ref h0, .ref sn0, .ref pa0, .ref vl, .ref de, .ref br, .ref pw, .ref pr])), (tk, .inr (0, [.ref tka, .int 0]))] := hD
  refine lv_aload_n hx hb d_SF_takeTape_21 rfl (lv_at hl 1 rfl) ?_
  refine lv_aload_n hx hb d_SF_takeTape_22 rfl (lv_at hl 0 rfl) ?_
  refine va_put (D := (dC, dI)) (ci := 10) (v := .ref tp) (ty := .object "SyntaxForge$Bytes") (C := R_SF) (T := F_SF) (N := 14) hx hb htw i_SF t_SF t_SF_ok n_SF hown hK hP hD hS 0 rfl rfl 1 (by decide) (htw _ wd_3_7) (fun _ h9 => h9) rfl (by decide +kernel) rfl rfl (Nat.le_of_ble_eq_true rfl) d_SF_takeTape_23 (fun H locs hP hD hS => ?_)
  have hP : va_P (dC, dI) classes [(x0, .inr (10, [.ref tk, .ref tp, .ref rs, .ref ou, .int 0, .ref sc0, .ref h0, .ref sn0, .ref pa0, .ref vl, .ref de, .ref br, .ref pw, .ref pr])), (tk, .inr (0, [.ref tka, .int 0]))] H := hP
  have hD : va_D A [(x0, .inr (10, [.ref tk, .ref tp, .ref rs, .ref ou, .int 0, .ref sc0, .ref h0, .ref sn0, .ref pa0, .ref vl, .ref de, .ref br, .ref pw, .ref pr])), (tk, .inr (0, [.ref tka, .int 0]))] := hD
  refine lv_aload_n hx hb d_SF_takeTape_26 rfl (lv_at hl 0 rfl) ?_
  have hP9 := hP.sub (ws' := [(x0, .inr (10, [.ref tk, .ref tp, .ref rs, .ref ou, .int 0, .ref sc0, .ref h0, .ref sn0, .ref pa0, .ref vl, .ref de, .ref br, .ref pw, .ref pr])), (tk, .inr (0, [.ref tka, .int 0]))]) [0, 1] rfl
  have hD9 := hD.sub (ws' := [(x0, .inr (10, [.ref tk, .ref tp, .ref rs, .ref ou, .int 0, .ref sc0, .ref h0, .ref sn0, .ref pa0, .ref vl, .ref de, .ref br, .ref pw, .ref pr])), (tk, .inr (0, [.ref tka, .int 0]))]) [0, 1] (by decide) rfl
  have hK9 := hK.sub (tys' := []) [] rfl
  refine W.widen (k := 0) (n := 0) (by omega) (by omega) ?_
  exact W.aret (v := .ref tp) hx hb hr (by first | exact Or.inl ⟨_, rfl⟩ | exact Or.inr ⟨_, rfl⟩) (Or.inr ⟨_, rfl⟩) (fun t ht hW => ⟨⟨(), _, rfl, trivial, rfl, by rw [ht]; exact hP9, va_K.moved hW.alike hK9, hD9⟩, hS.F ht⟩) hS.2.2 d_SF_takeTape_27
set_option maxHeartbeats 4000000 in
set_option maxRecDepth 100000 in
theorem c_Scanner_keep (l : Launch) (dC : Nat → ClassId) (dI : Nat → Nat → Nat) (sz : Nat) (sn0 : Nat) (kk1 : Nat) (kk2 : Nat) (kk3 : Nat) (ck1 : ClassId) (ck2 : ClassId) (ck3 : ClassId) (f1 : Nat → Int32) (f2 : Nat → Int32) (f3 : Nat → Int64) (td : Int32) (tp : Nat) (nm : Nat) (ad : Int32) (z1 : Int32) (z2 : Int32) (n1 : Int64) : Met l y_Scanner_keep ws_Scanner_keep ({ frames := 0, cells := 0, slots := 0, locals := 0 }) (va_Pc [.ref sn0, .int z1, .int z2, .long n1] (fun U => U.heap.size = sz ∧ va_P (dC, dI) classes [(sn0, .inr (4, [.ref kk1, .ref kk2, .ref kk3, .int 0, .int td, .ref tp, .ref nm, .int ad])), (kk1, .inl (ck1, 64, .inl f1)), (kk2, .inl (ck2, 64, .inl f2)), (kk3, .inl (ck3, 64, .inr (.inl f3)))] U.heap ∧ va_K (dC, dI) classes [(ck1, .int), (ck2, .int), (ck3, .long)] U ∧ va_D (fun _ => True) [(sn0, .inr (4, [.ref kk1, .ref kk2, .ref kk3, .int 0, .int td, .ref tp, .ref nm, .int ad])), (kk1, .inl (ck1, 64, .inl f1)), (kk2, .inl (ck2, 64, .inl f2)), (kk3, .inl (ck3, 64, .inr (.inl f3)))])) (va_Qv (fun _ : Unit => True) (fun _ t => va_P (dC, dI) classes [(sn0, .inr (4, [.ref kk1, .ref kk2, .ref kk3, .int (0 + 1), .int td, .ref tp, .ref nm, .int ad])), (kk1, .inl (ck1, 64, .inl (upd f1 (0 : Int32).toNatClampNeg z1))), (kk2, .inl (ck2, 64, .inl (upd f2 (0 : Int32).toNatClampNeg z2))), (kk3, .inl (ck3, 64, .inr (.inl (vp_updL f3 (0 : Int32).toNatClampNeg n1))))] t.heap ∧ va_K (dC, dI) classes [(ck1, .int), (ck2, .int), (ck3, .long)] t ∧ va_D (va_A [(sn0, .inr (4, [.ref kk1, .ref kk2, .ref kk3, .int 0, .int td, .ref tp, .ref nm, .int ad])), (kk1, .inl (ck1, 64, .inl f1)), (kk2, .inl (ck2, 64, .inl f2)), (kk3, .inl (ck3, 64, .inr (.inl f3)))] sz) [(sn0, .inr (4, [.ref kk1, .ref kk2, .ref kk3, .int (0 + 1), .int td, .ref tp, .ref nm, .int ad])), (kk1, .inl (ck1, 64, .inl (upd f1 (0 : Int32).toNatClampNeg z1))), (kk2, .inl (ck2, 64, .inl (upd f2 (0 : Int32).toNatClampNeg z2))), (kk3, .inl (ck3, 64, .inr (.inl (vp_updL f3 (0 : Int32).toNatClampNeg n1))))]) (va_A [(sn0, .inr (4, [.ref kk1, .ref kk2, .ref kk3, .int 0, .int td, .ref tp, .ref nm, .int ad])), (kk1, .inl (ck1, 64, .inl f1)), (kk2, .inl (ck2, 64, .inl f2)), (kk3, .inl (ck3, 64, .inr (.inl f3)))] sz)) 0 0 (va_A [(sn0, .inr (4, [.ref kk1, .ref kk2, .ref kk3, .int 0, .int td, .ref tp, .ref nm, .int ad])), (kk1, .inl (ck1, 64, .inl f1)), (kk2, .inl (ck2, 64, .inl f2)), (kk3, .inl (ck3, 64, .inr (.inl f3)))] sz) := by
  refine Met.ofW (cc := b_Scanner_keep) (maxL := 5) (ret := none) (by decide) rfl ?_
  intro p e s m args below meth c s₁ B hml hv
  obtain ⟨rfl, hsz, hP, hK, hD0⟩ := hv
  have hx := B.exec
  have hb := B.bytes
  have hr := B.returns
  have hts := atoms_spec (ws := ws_Scanner_keep) B.pre
  have htw : ∀ w ∈ tw_tbl, w.before [.ref sn0, .int z1, .int z2, .long n1].toArray s = true := fun w h => hts w (List.mem_cons_of_mem _ h)
  have hown : s.vm.findClass R_Scanner = some m.cls := findClass_of_methodNamed B.named
  have hlocks := B.notSynchronized
  have hin : meth.name = "keep" := (name_of_methodNamed B.named B.method).1
  subst hsz
  have hD := hD0.self (sz := s.heap.size)
  generalize hAe : va_A [(sn0, .inr (4, [.ref kk1, .ref kk2, .ref kk3, .int 0, .int td, .ref tp, .ref nm, .int ad])), (kk1, .inl (ck1, 64, .inl f1)), (kk2, .inl (ck2, 64, .inl f2)), (kk3, .inl (ck3, 64, .inr (.inl f3)))] s.heap.size = A at hD ⊢
  have hA : ∀ q : Nat, s.heap.size ≤ q → A q := fun q h => by rw [← hAe]; exact Or.inr h
  have hS : va_S A s.heap s.heap [] := va_S.rf
  have hP : va_P (dC, dI) classes [(sn0, .inr (4, [.ref kk1, .ref kk2, .ref kk3, .int 0, .int td, .ref tp, .ref nm, .int ad])), (kk1, .inl (ck1, 64, .inl f1)), (kk2, .inl (ck2, 64, .inl f2)), (kk3, .inl (ck3, 64, .inr (.inl f3)))] s.heap := hP
  have hl := lv_entry ([.ref sn0, .int z1, .int z2, .long n1]) (n := 5) (Nat.le_of_ble_eq_true rfl)
  rw [lg_entry_eq]
  generalize (lg_sl ([.ref sn0, .int z1, .int z2, .long n1]) ++ List.replicate (5 - (lg_sl ([.ref sn0, .int z1, .int z2, .long n1])).length) Slot.unset).toArray = ls at hl ⊢
  have hl : lv_has ls 5 [(0, .ref sn0), (1, .int z1), (2, .int z2), (3, .long n1)] := hl
  refine lv_aload_n hx hb d_Scanner_keep_0 rfl (lv_at hl 0 rfl) ?_
  refine va_get (D := (dC, dI)) (ci := 4) (v := .int 0) (C := R_Scanner) (T := F_Scanner) (N := 8) hx hb htw i_Scanner hown hK hP 0 rfl rfl 3 (by decide) (htw _ wd_2_95) (fun _ h9 => h9) rfl d_Scanner_keep_1 ?_
  refine lv_aload_n hx hb d_Scanner_keep_4 rfl (lv_at hl 0 rfl) ?_
  refine va_get (D := (dC, dI)) (ci := 4) (v := .ref kk1) (C := R_Scanner) (T := F_Scanner) (N := 8) hx hb htw i_Scanner hown hK hP 0 rfl rfl 0 (by decide) (htw _ wd_2_88) (fun _ h9 => h9) rfl d_Scanner_keep_5 ?_
  refine va_alen (v := 64) hx hb hK hP 1 0 rfl rfl rfl d_Scanner_keep_8 ?_
  refine lv_icmp_lt (tgt := 72) hx hb d_Scanner_keep_9 rfl (fun _ => ?_) (fun hn => absurd (by decide) hn)
  refine lv_aload_n hx hb d_Scanner_keep_72 rfl (lv_at hl 0 rfl) ?_
  refine va_get (D := (dC, dI)) (ci := 4) (v := .ref kk1) (C := R_Scanner) (T := F_Scanner) (N := 8) hx hb htw i_Scanner hown hK hP 0 rfl rfl 0 (by decide) (htw _ wd_2_88) (fun _ h9 => h9) rfl d_Scanner_keep_73 ?_
  refine lv_aload_n hx hb d_Scanner_keep_76 rfl (lv_at hl 0 rfl) ?_
  refine va_get (D := (dC, dI)) (ci := 4) (v := .int 0) (C := R_Scanner) (T := F_Scanner) (N := 8) hx hb htw i_Scanner hown hK hP 0 rfl rfl 3 (by decide) (htw _ wd_2_95) (fun _ h9 => h9) rfl d_Scanner_keep_77 ?_
  refine lv_iload_n hx hb d_Scanner_keep_80 rfl (lv_at hl 1 rfl) ?_
  refine va_iast hx hb hK hP hD hS 1 0 rfl rfl (by unfold vp_in; decide) d_Scanner_keep_81 (fun H locs hP hD hS => ?_)
  have hP : va_P (dC, dI) classes [(sn0, .inr (4, [.ref kk1, .ref kk2, .ref kk3, .int 0, .int td, .ref tp, .ref nm, .int ad])), (kk1, .inl (ck1, 64, .inl (upd f1 (0 : Int32).toNatClampNeg z1))), (kk2, .inl (ck2, 64, .inl f2)), (kk3, .inl (ck3, 64, .inr (.inl f3)))] H := hP
  have hD : va_D A [(sn0, .inr (4, [.ref kk1, .ref kk2, .ref kk3, .int 0, .int td, .ref tp, .ref nm, .int ad])), (kk1, .inl (ck1, 64, .inl (upd f1 (0 : Int32).toNatClampNeg z1))), (kk2, .inl (ck2, 64, .inl f2)), (kk3, .inl (ck3, 64, .inr (.inl f3)))] := hD
  refine lv_aload_n hx hb d_Scanner_keep_82 rfl (lv_at hl 0 rfl) ?_
  refine va_get (D := (dC, dI)) (ci := 4) (v := .ref kk2) (C := R_Scanner) (T := F_Scanner) (N := 8) hx hb htw i_Scanner hown hK hP 0 rfl rfl 1 (by decide) (htw _ wd_2_90) (fun _ h9 => h9) rfl d_Scanner_keep_83 ?_
  refine lv_aload_n hx hb d_Scanner_keep_86 rfl (lv_at hl 0 rfl) ?_
  refine va_get (D := (dC, dI)) (ci := 4) (v := .int 0) (C := R_Scanner) (T := F_Scanner) (N := 8) hx hb htw i_Scanner hown hK hP 0 rfl rfl 3 (by decide) (htw _ wd_2_95) (fun _ h9 => h9) rfl d_Scanner_keep_87 ?_
  refine lv_iload_n hx hb d_Scanner_keep_90 rfl (lv_at hl 2 rfl) ?_
  refine va_iast hx hb hK hP hD hS 2 1 rfl rfl (by unfold vp_in; decide) d_Scanner_keep_91 (fun H locs hP hD hS => ?_)
  have hP : va_P (dC, dI) classes [(sn0, .inr (4, [.ref kk1, .ref kk2, .ref kk3, .int 0, .int td, .ref tp, .ref nm, .int ad])), (kk1, .inl (ck1, 64, .inl (upd f1 (0 : Int32).toNatClampNeg z1))), (kk2, .inl (ck2, 64, .inl (upd f2 (0 : Int32).toNatClampNeg z2))), (kk3, .inl (ck3, 64, .inr (.inl f3)))] H := hP
  have hD : va_D A [(sn0, .inr (4, [.ref kk1, .ref kk2, .ref kk3, .int 0, .int td, .ref tp, .ref nm, .int ad])), (kk1, .inl (ck1, 64, .inl (upd f1 (0 : Int32).toNatClampNeg z1))), (kk2, .inl (ck2, 64, .inl (upd f2 (0 : Int32).toNatClampNeg z2))), (kk3, .inl (ck3, 64, .inr (.inl f3)))] := hD
  refine lv_aload_n hx hb d_Scanner_keep_92 rfl (lv_at hl 0 rfl) ?_
  refine va_get (D := (dC, dI)) (ci := 4) (v := .ref kk3) (C := R_Scanner) (T := F_Scanner) (N := 8) hx hb htw i_Scanner hown hK hP 0 rfl rfl 2 (by decide) (htw _ wd_2_92) (fun _ h9 => h9) rfl d_Scanner_keep_93 ?_
  refine lv_aload_n hx hb d_Scanner_keep_96 rfl (lv_at hl 0 rfl) ?_
  refine va_get (D := (dC, dI)) (ci := 4) (v := .int 0) (C := R_Scanner) (T := F_Scanner) (N := 8) hx hb htw i_Scanner hown hK hP 0 rfl rfl 3 (by decide) (htw _ wd_2_95) (fun _ h9 => h9) rfl d_Scanner_keep_97 ?_
  refine lv_lload_n hx hb d_Scanner_keep_100 rfl (lv_at hl 3 rfl) ?_
  refine va_last hx hb hK hP hD hS 3 2 rfl rfl (by unfold vp_in; decide) d_Scanner_keep_101 (fun H locs hP hD hS => ?_)
  have hP : va_P (dC, dI) classes [(sn0, .inr (4, [.ref kk1, .ref kk2, .ref kk3, .int 0, .int td, .ref tp, .ref nm, .int ad])), (kk1, .inl (ck1, 64, .inl (upd f1 (0 : Int32).toNatClampNeg z1))), (kk2, .inl (ck2, 64, .inl (upd f2 (0 : Int32).toNatClampNeg z2))), (kk3, .inl (ck3, 64, .inr (.inl (vp_updL f3 (0 : Int32).toNatClampNeg n1))))] H := hP
  have hD : va_D A [(sn0, .inr (4, [.ref kk1, .ref kk2, .ref kk3, .int 0, .int td, .ref tp, .ref nm, .int ad])), (kk1, .inl (ck1, 64, .inl (upd f1 (0 : Int32).toNatClampNeg z1))), (kk2, .inl (ck2, 64, .inl (upd f2 (0 : Int32).toNatClampNeg z2))), (kk3, .inl (ck3, 64, .inr (.inl (vp_updL f3 (0 : Int32).toNatClampNeg n1))))] := hD
  refine lv_aload_n hx hb d_Scanner_keep_102 rfl (lv_at hl 0 rfl) ?_
  refine lv_dup hx hb d_Scanner_keep_103 rfl ?_
  refine va_get (D := (dC, dI)) (ci := 4) (v := .int 0) (C := R_Scanner) (T := F_Scanner) (N := 8) hx hb htw i_Scanner hown hK hP 0 rfl rfl 3 (by decide) (htw _ wd_2_95) (fun _ h9 => h9) rfl d_Scanner_keep_104 ?_
  refine lv_iconst (v := 1) hx hb d_Scanner_keep_107 (by decide) ?_
  refine lv_iadd hx hb d_Scanner_keep_108 ?_
  refine va_put (D := (dC, dI)) (ci := 4) (v := .int (0 + 1)) (ty := .int) (C := R_Scanner) (T := F_Scanner) (N := 8) hx hb htw i_Scanner t_Scanner t_Scanner_ok n_Scanner hown hK hP hD hS 0 rfl rfl 3 (by decide) (htw _ wd_2_95) (fun _ h9 => h9) rfl (by decide +kernel) rfl rfl (Nat.le_of_ble_eq_true rfl) d_Scanner_keep_109 (fun H locs hP hD hS => ?_)
  have hP : va_P (dC, dI) classes [(sn0, .inr (4, [.ref kk1, .ref kk2, .ref kk3, .int (0 + 1), .int td, .ref tp, .ref nm, .int ad])), (kk1, .inl (ck1, 64, .inl (upd f1 (0 : Int32).toNatClampNeg z1))), (kk2, .inl (ck2, 64, .inl (upd f2 (0 : Int32).toNatClampNeg z2))), (kk3, .inl (ck3, 64, .inr (.inl (vp_updL f3 (0 : Int32).toNatClampNeg n1))))] H := hP
  have hD : va_D A [(sn0, .inr (4, [.ref kk1, .ref kk2, .ref kk3, .int (0 + 1), .int td, .ref tp, .ref nm, .int ad])), (kk1, .inl (ck1, 64, .inl (upd f1 (0 : Int32).toNatClampNeg z1))), (kk2, .inl (ck2, 64, .inl (upd f2 (0 : Int32).toNatClampNeg z2))), (kk3, .inl (ck3, 64, .inr (.inl (vp_updL f3 (0 : Int32).toNatClampNeg n1))))] := hD
  have hP9 := hP.sub (ws' := [(sn0, .inr (4, [.ref kk1, .ref kk2, .ref kk3, .int (0 + 1), .int td, .ref tp, .ref nm, .int ad])), (kk1, .inl (ck1, 64, .inl (upd f1 (0 : Int32).toNatClampNeg z1))), (kk2, .inl (ck2, 64, .inl (upd f2 (0 : Int32).toNatClampNeg z2))), (kk3, .inl (ck3, 64, .inr (.inl (vp_updL f3 (0 : Int32).toNatClampNeg n1))))]) [0, 1, 2, 3] rfl
  have hD9 := hD.sub (ws' := [(sn0, .inr (4, [.ref kk1, .ref kk2, .ref kk3, .int (0 + 1), .int td, .ref tp, .ref nm, .int ad])), (kk1, .inl (ck1, 64, .inl (upd f1 (0 : Int32).toNatClampNeg z1))), (kk2, .inl (ck2, 64, .inl (upd f2 (0 : Int32).toNatClampNeg z2))), (kk3, .inl (ck3, 64, .inr (.inl (vp_updL f3 (0 : Int32).toNatClampNeg n1))))]) [0, 1, 2, 3] (by decide) rfl
  have hK9 := hK.sub (tys' := [(ck1, .int), (ck2, .int), (ck3, .long)]) [0, 1, 2] rfl
  refine W.widen (k := 0) (n := 0) (by omega) (by omega) ?_
  exact W.vret hx hb hr (fun t ht hW => ⟨⟨(), rfl, trivial, by rw [ht]; exact hP9, va_K.moved hW.alike hK9, hD9⟩, hS.F ht⟩) hS.2.2 d_Scanner_keep_112
set_option maxHeartbeats 4000000 in
set_option maxRecDepth 100000 in
theorem c_Scanner_blanks (l : Launch) (dC : Nat → ClassId) (dI : Nat → Nat → Nat) (sz : Nat) (sn0 : Nat) (kk1 : Nat) (kk2 : Nat) (kk3 : Nat) (td : Int32) (cn : Int32) (tp : Nat) (tpa : Nat) (nm : Nat) (ad : Int32) : Met l y_Scanner_blanks ws_Scanner_blanks ({ frames := 0, cells := 0, slots := 0, locals := 0 }) (va_Pc [.ref sn0, .int 0] (fun U => U.heap.size = sz ∧ va_P (dC, dI) classes [(sn0, .inr (4, [.ref kk1, .ref kk2, .ref kk3, .int cn, .int td, .ref tp, .ref nm, .int ad])), (tp, .inr (0, [.ref tpa, .int 0]))] U.heap ∧ va_K (dC, dI) classes [] U ∧ va_D (fun _ => True) [(sn0, .inr (4, [.ref kk1, .ref kk2, .ref kk3, .int cn, .int td, .ref tp, .ref nm, .int ad])), (tp, .inr (0, [.ref tpa, .int 0]))])) (va_Qi (fun (r : Int32) (_ : Unit) => r = 0) (fun _ t => va_P (dC, dI) classes [(sn0, .inr (4, [.ref kk1, .ref kk2, .ref kk3, .int cn, .int td, .ref tp, .ref nm, .int ad])), (tp, .inr (0, [.ref tpa, .int 0]))] t.heap ∧ va_K (dC, dI) classes [] t ∧ va_D (va_A [(sn0, .inr (4, [.ref kk1, .ref kk2, .ref kk3, .int cn, .int td, .ref tp, .ref nm, .int ad])), (tp, .inr (0, [.ref tpa, .int 0]))] sz) [(sn0, .inr (4, [.ref kk1, .ref kk2, .ref kk3, .int cn, .int td, .ref tp, .ref nm, .int ad])), (tp, .inr (0, [.ref tpa, .int 0]))]) (va_A [(sn0, .inr (4, [.ref kk1, .ref kk2, .ref kk3, .int cn, .int td, .ref tp, .ref nm, .int ad])), (tp, .inr (0, [.ref tpa, .int 0]))] sz)) 0 0 (va_A [(sn0, .inr (4, [.ref kk1, .ref kk2, .ref kk3, .int cn, .int td, .ref tp, .ref nm, .int ad])), (tp, .inr (0, [.ref tpa, .int 0]))] sz) := by
  refine Met.ofW (cc := b_Scanner_blanks) (maxL := 5) (ret := (some .int)) (by decide) rfl ?_
  intro p e s m args below meth c s₁ B hml hv
  obtain ⟨rfl, hsz, hP, hK, hD0⟩ := hv
  have hx := B.exec
  have hb := B.bytes
  have hr := B.returns
  have hts := atoms_spec (ws := ws_Scanner_blanks) B.pre
  have htw : ∀ w ∈ tw_tbl, w.before [.ref sn0, .int 0].toArray s = true := fun w h => hts w (List.mem_cons_of_mem _ h)
  have hown : s.vm.findClass R_Scanner = some m.cls := findClass_of_methodNamed B.named
  have hlocks := B.notSynchronized
  have hin : meth.name = "blanks" := (name_of_methodNamed B.named B.method).1
  subst hsz
  have hD := hD0.self (sz := s.heap.size)
  generalize hAe : va_A [(sn0, .inr (4, [.ref kk1, .ref kk2, .ref kk3, .int cn, .int td, .ref tp, .ref nm, .int ad])), (tp, .inr (0, [.ref tpa, .int 0]))] s.heap.size = A at hD ⊢
  have hA : ∀ q : Nat, s.heap.size ≤ q → A q := fun q h => by rw [← hAe]; exact Or.inr h
  have hS : va_S A s.heap s.heap [] := va_S.rf
  have hP : va_P (dC, dI) classes [(sn0, .inr (4, [.ref kk1, .ref kk2, .ref kk3, .int cn, .int td, .ref tp, .ref nm, .int ad])), (tp, .inr (0, [.ref tpa, .int 0]))] s.heap := hP
  have hl := lv_entry ([.ref sn0, .int 0]) (n := 5) (Nat.le_of_ble_eq_true rfl)
  rw [lg_entry_eq]
  generalize (lg_sl ([.ref sn0, .int 0]) ++ List.replicate (5 - (lg_sl ([.ref sn0, .int 0])).length) Slot.unset).toArray = ls at hl ⊢
  have hl : lv_has ls 5 [(0, .ref sn0), (1, .int 0)] := hl
  refine lv_iconst (v := 0) hx hb d_Scanner_blanks_0 (by decide) ?_
  refine lv_istore_n hx hb d_Scanner_blanks_1 rfl hl (by decide) rfl (fun ls hl => ?_)
  have hl : lv_has ls 5 [(2, .int 0), (0, .ref sn0), (1, .int 0)] := hl
  refine lv_iload_n hx hb d_Scanner_blanks_2 rfl (lv_at hl 2 rfl) ?_
  refine lv_istore_n hx hb d_Scanner_blanks_3 rfl hl (by decide) rfl (fun ls hl => ?_)
  have hl : lv_has ls 5 [(3, .int 0), (2, .int 0), (0, .ref sn0), (1, .int 0)] := hl
  refine lv_iload_n hx hb d_Scanner_blanks_4 rfl (lv_at hl 0 rfl) ?_
  refine lv_aload_n hx hb d_Scanner_blanks_5 rfl (lv_at hl 2 rfl) ?_
  refine va_get (D := (dC, dI)) (ci := 4) (v := .ref tp) (C := R_Scanner) (T := F_Scanner) (N := 8) hx hb htw i_Scanner hown hK hP 0 rfl rfl 5 (by decide) (htw _ wd_2_99) (fun _ h9 => h9) rfl d_Scanner_blanks_6 ?_
  refine va_get (D := (dC, dI)) (ci := 0) (v := .int 0) (C := R_Bytes) (T := F_Bytes) (N := 2) hx hb htw i_Bytes hown hK hP 1 rfl rfl 1 (by decide) (htw _ wd_1_72) (fun _ h9 => h9) rfl d_Scanner_blanks_9 ?_
  refine lv_icmp_ge (tgt := 119) hx hb d_Scanner_blanks_12 rfl (fun _ => ?_) (fun hn => absurd (by decide) hn)
  refine lv_aload_n hx hb d_Scanner_blanks_119 rfl (lv_at hl 2 rfl) ?_
  refine va_get (D := (dC, dI)) (ci := 4) (v := .ref tp) (C := R_Scanner) (T := F_Scanner) (N := 8) hx hb htw i_Scanner hown hK hP 0 rfl rfl 5 (by decide) (htw _ wd_2_99) (fun _ h9 => h9) rfl d_Scanner_blanks_120 ?_
  refine va_get (D := (dC, dI)) (ci := 0) (v := .int 0) (C := R_Bytes) (T := F_Bytes) (N := 2) hx hb htw i_Bytes hown hK hP 1 rfl rfl 1 (by decide) (htw _ wd_1_72) (fun _ h9 => h9) rfl d_Scanner_blanks_123 ?_
  have hP9 := hP.sub (ws' := [(sn0, .inr (4, [.ref kk1, .ref kk2, .ref kk3, .int cn, .int td, .ref tp, .ref nm, .int ad])), (tp, .inr (0, [.ref tpa, .int 0]))]) [0, 1] rfl
  have hD9 := hD.sub (ws' := [(sn0, .inr (4, [.ref kk1, .ref kk2, .ref kk3, .int cn, .int td, .ref tp, .ref nm, .int ad])), (tp, .inr (0, [.ref tpa, .int 0]))]) [0, 1] (by decide) rfl
  have hK9 := hK.sub (tys' := []) [] rfl
  refine W.widen (k := 0) (n := 0) (by omega) (by omega) ?_
  exact W.iret (v := 0) hx hb hr (fun t ht hW => ⟨⟨0, (), rfl, rfl, by rw [ht]; exact hP9, va_K.moved hW.alike hK9, hD9⟩, hS.F ht⟩) hS.2.2 d_Scanner_blanks_126
set_option maxHeartbeats 4000000 in
set_option maxRecDepth 100000 in
theorem c_Scanner_scan (l : Launch) (dC : Nat → ClassId) (dI : Nat → Nat → Nat) (sz : Nat) (sn0 : Nat) (kk1 : Nat) (kk2 : Nat) (kk3 : Nat) (ck1 : ClassId) (ck2 : ClassId) (ck3 : ClassId) (f1 : Nat → Int32) (f2 : Nat → Int32) (f3 : Nat → Int64) (td : Int32) (cn : Int32) (tp : Nat) (tpa : Nat) (nm : Nat) : Met l y_Scanner_scan ws_Scanner_scan ({ frames := 1, cells := 0, slots := 0, locals := 24 }) (va_Pc [.ref sn0, .ref tp, .ref nm, .int 1] (fun U => U.heap.size = sz ∧ va_P (dC, dI) classes [(sn0, .inr (4, [.ref kk1, .ref kk2, .ref kk3, .int cn, .int td, .null, .null, .int 0])), (kk1, .inl (ck1, 64, .inl f1)), (kk2, .inl (ck2, 64, .inl f2)), (kk3, .inl (ck3, 64, .inr (.inl f3))), (tp, .inr (0, [.ref tpa, .int 0]))] U.heap ∧ va_K (dC, dI) classes [(ck1, .int), (ck2, .int), (ck3, .long)] U ∧ va_D (fun _ => True) [(sn0, .inr (4, [.ref kk1, .ref kk2, .ref kk3, .int cn, .int td, .null, .null, .int 0])), (kk1, .inl (ck1, 64, .inl f1)), (kk2, .inl (ck2, 64, .inl f2)), (kk3, .inl (ck3, 64, .inr (.inl f3))), (tp, .inr (0, [.ref tpa, .int 0]))])) (va_Qv (fun _ : Unit => True) (fun _ t => ∃ (g1 : Nat → Int32) (g2 : Nat → Int32) (g3 : Nat → Int64), g1 0 = 0 ∧ va_P (dC, dI) classes [(sn0, .inr (4, [.ref kk1, .ref kk2, .ref kk3, .int (0 + 1), .int ((-1)), .ref tp, .ref nm, .int 1])), (kk1, .inl (ck1, 64, .inl g1)), (kk2, .inl (ck2, 64, .inl g2)), (kk3, .inl (ck3, 64, .inr (.inl g3))), (tp, .inr (0, [.ref tpa, .int 0]))] t.heap ∧ va_K (dC, dI) classes [(ck1, .int), (ck2, .int), (ck3, .long)] t ∧ va_D (va_A [(sn0, .inr (4, [.ref kk1, .ref kk2, .ref kk3, .int cn, .int td, .null, .null, .int 0])), (kk1, .inl (ck1, 64, .inl f1)), (kk2, .inl (ck2, 64, .inl f2)), (kk3, .inl (ck3, 64, .inr (.inl f3))), (tp, .inr (0, [.ref tpa, .int 0]))] sz) [(sn0, .inr (4, [.ref kk1, .ref kk2, .ref kk3, .int (0 + 1), .int ((-1)), .ref tp, .ref nm, .int 1])), (kk1, .inl (ck1, 64, .inl g1)), (kk2, .inl (ck2, 64, .inl g2)), (kk3, .inl (ck3, 64, .inr (.inl g3))), (tp, .inr (0, [.ref tpa, .int 0]))]) (va_A [(sn0, .inr (4, [.ref kk1, .ref kk2, .ref kk3, .int cn, .int td, .null, .null, .int 0])), (kk1, .inl (ck1, 64, .inl f1)), (kk2, .inl (ck2, 64, .inl f2)), (kk3, .inl (ck3, 64, .inr (.inl f3))), (tp, .inr (0, [.ref tpa, .int 0]))] sz)) 0 0 (va_A [(sn0, .inr (4, [.ref kk1, .ref kk2, .ref kk3, .int cn, .int td, .null, .null, .int 0])), (kk1, .inl (ck1, 64, .inl f1)), (kk2, .inl (ck2, 64, .inl f2)), (kk3, .inl (ck3, 64, .inr (.inl f3))), (tp, .inr (0, [.ref tpa, .int 0]))] sz) := by
  refine Met.ofW (cc := b_Scanner_scan) (maxL := 6) (ret := none) (by decide) rfl ?_
  intro p e s m args below meth c s₁ B hml hv
  obtain ⟨rfl, hsz, hP, hK, hD0⟩ := hv
  have hx := B.exec
  have hb := B.bytes
  have hr := B.returns
  have hts := atoms_spec (ws := ws_Scanner_scan) B.pre
  have htw : ∀ w ∈ tw_tbl, w.before [.ref sn0, .ref tp, .ref nm, .int 1].toArray s = true := fun w h => hts w (List.mem_cons_of_mem _ h)
  have hown : s.vm.findClass R_Scanner = some m.cls := findClass_of_methodNamed B.named
  have hlocks := B.notSynchronized
  have hin : meth.name = "scan" := (name_of_methodNamed B.named B.method).1
  subst hsz
  have hD := hD0.self (sz := s.heap.size)
  generalize hAe : va_A [(sn0, .inr (4, [.ref kk1, .ref kk2, .ref kk3, .int cn, .int td, .null, .null, .int 0])), (kk1, .inl (ck1, 64, .inl f1)), (kk2, .inl (ck2, 64, .inl f2)), (kk3, .inl (ck3, 64, .inr (.inl f3))), (tp, .inr (0, [.ref tpa, .int 0]))] s.heap.size = A at hD ⊢
  have hA : ∀ q : Nat, s.heap.size ≤ q → A q := fun q h => by rw [← hAe]; exact Or.inr h
  have hS : va_S A s.heap s.heap [] := va_S.rf
  have hP : va_P (dC, dI) classes [(sn0, .inr (4, [.ref kk1, .ref kk2, .ref kk3, .int cn, .int td, .null, .null, .int 0])), (kk1, .inl (ck1, 64, .inl f1)), (kk2, .inl (ck2, 64, .inl f2)), (kk3, .inl (ck3, 64, .inr (.inl f3))), (tp, .inr (0, [.ref tpa, .int 0]))] s.heap := hP
  have hl := lv_entry ([.ref sn0, .ref tp, .ref nm, .int 1]) (n := 6) (Nat.le_of_ble_eq_true rfl)
  rw [lg_entry_eq]
  generalize (lg_sl ([.ref sn0, .ref tp, .ref nm, .int 1]) ++ List.replicate (6 - (lg_sl ([.ref sn0, .ref tp, .ref nm, .int 1])).length) Slot.unset).toArray = ls at hl ⊢
  have hl : lv_has ls 6 [(0, .ref sn0), (1, .ref tp), (2, .ref nm), (3, .int 1)] := hl
  refine lv_aload_n hx hb d_Scanner_scan_0 rfl (lv_at hl 0 rfl) ?_
  refine lv_aload_n hx hb d_Scanner_scan_1 rfl (lv_at hl 1 rfl) ?_
  refine va_put (D := (dC, dI)) (ci := 4) (v := .ref tp) (ty := .object "SyntaxForge$Bytes") (C := R_Scanner) (T := F_Scanner) (N := 8) hx hb htw i_Scanner t_Scanner t_Scanner_ok n_Scanner hown hK hP hD hS 0 rfl rfl 5 (by decide) (htw _ wd_2_99) (fun _ h9 => h9) rfl (by decide +kernel) rfl rfl (Nat.le_of_ble_eq_true rfl) d_Scanner_scan_2 (fun H locs hP hD hS => ?_)
  have hP : va_P (dC, dI) classes [(sn0, .inr (4, [.ref kk1, .ref kk2, .ref kk3, .int cn, .int td, .ref tp, .null, .int 0])), (kk1, .inl (ck1, 64, .inl f1)), (kk2, .inl (ck2, 64, .inl f2)), (kk3, .inl (ck3, 64, .inr (.inl f3))), (tp, .inr (0, [.ref tpa, .int 0]))] H := hP
  have hD : va_D A [(sn0, .inr (4, [.ref kk1, .ref kk2, .ref kk3, .int cn, .int td, .ref tp, .null, .int 0])), (kk1, .inl (ck1, 64, .inl f1)), (kk2, .inl (ck2, 64, .inl f2)), (kk3, .inl (ck3, 64, .inr (.inl f3))), (tp, .inr (0, [.ref tpa, .int 0]))] := hD
  refine lv_aload_n hx hb d_Scanner_scan_5 rfl (lv_at hl 0 rfl) ?_
  refine lv_aload_n hx hb d_Scanner_scan_6 rfl (lv_at hl 2 rfl) ?_
  refine va_put (D := (dC, dI)) (ci := 4) (v := .ref nm) (ty := .object "SyntaxForge$Schema") (C := R_Scanner) (T := F_Scanner) (N := 8) hx hb htw i_Scanner t_Scanner t_Scanner_ok n_Scanner hown hK hP hD hS 0 rfl rfl 6 (by decide) (htw _ wd_2_100) (fun _ h9 => h9) rfl (by decide +kernel) rfl rfl (Nat.le_of_ble_eq_true rfl) d_Scanner_scan_7 (fun H locs hP hD hS => ?_)
  have hP : va_P (dC, dI) classes [(sn0, .inr (4, [.ref kk1, .ref kk2, .ref kk3, .int cn, .int td, .ref tp, .ref nm, .int 0])), (kk1, .inl (ck1, 64, .inl f1)), (kk2, .inl (ck2, 64, .inl f2)), (kk3, .inl (ck3, 64, .inr (.inl f3))), (tp, .inr (0, [.ref tpa, .int 0]))] H := hP
  have hD : va_D A [(sn0, .inr (4, [.ref kk1, .ref kk2, .ref kk3, .int cn, .int td, .ref tp, .ref nm, .int 0])), (kk1, .inl (ck1, 64, .inl f1)), (kk2, .inl (ck2, 64, .inl f2)), (kk3, .inl (ck3, 64, .inr (.inl f3))), (tp, .inr (0, [.ref tpa, .int 0]))] := hD
  refine lv_aload_n hx hb d_Scanner_scan_10 rfl (lv_at hl 0 rfl) ?_
  refine lv_iload_n hx hb d_Scanner_scan_11 rfl (lv_at hl 3 rfl) ?_
  refine va_put (D := (dC, dI)) (ci := 4) (v := .int 1) (ty := .boolean) (C := R_Scanner) (T := F_Scanner) (N := 8) hx hb htw i_Scanner t_Scanner t_Scanner_ok n_Scanner hown hK hP hD hS 0 rfl rfl 7 (by decide) (htw _ wd_2_101) (fun _ h9 => h9) rfl (by decide +kernel) rfl rfl (Nat.le_of_ble_eq_true rfl) d_Scanner_scan_12 (fun H locs hP hD hS => ?_)
  have hP : va_P (dC, dI) classes [(sn0, .inr (4, [.ref kk1, .ref kk2, .ref kk3, .int cn, .int td, .ref tp, .ref nm, .int 1])), (kk1, .inl (ck1, 64, .inl f1)), (kk2, .inl (ck2, 64, .inl f2)), (kk3, .inl (ck3, 64, .inr (.inl f3))), (tp, .inr (0, [.ref tpa, .int 0]))] H := hP
  have hD : va_D A [(sn0, .inr (4, [.ref kk1, .ref kk2, .ref kk3, .int cn, .int td, .ref tp, .ref nm, .int 1])), (kk1, .inl (ck1, 64, .inl f1)), (kk2, .inl (ck2, 64, .inl f2)), (kk3, .inl (ck3, 64, .inr (.inl f3))), (tp, .inr (0, [.ref tpa, .int 0]))] := hD
  refine lv_aload_n hx hb d_Scanner_scan_15 rfl (lv_at hl 0 rfl) ?_
  refine lv_iconst (v := (-1)) hx hb d_Scanner_scan_16 (by decide) ?_
  refine va_put (D := (dC, dI)) (ci := 4) (v := .int ((-1))) (ty := .int) (C := R_Scanner) (T := F_Scanner) (N := 8) hx hb htw i_Scanner t_Scanner t_Scanner_ok n_Scanner hown hK hP hD hS 0 rfl rfl 4 (by decide) (htw _ wd_2_96) (fun _ h9 => h9) rfl (by decide +kernel) rfl rfl (Nat.le_of_ble_eq_true rfl) d_Scanner_scan_17 (fun H locs hP hD hS => ?_)
  have hP : va_P (dC, dI) classes [(sn0, .inr (4, [.ref kk1, .ref kk2, .ref kk3, .int cn, .int ((-1)), .ref tp, .ref nm, .int 1])), (kk1, .inl (ck1, 64, .inl f1)), (kk2, .inl (ck2, 64, .inl f2)), (kk3, .inl (ck3, 64, .inr (.inl f3))), (tp, .inr (0, [.ref tpa, .int 0]))] H := hP
  have hD : va_D A [(sn0, .inr (4, [.ref kk1, .ref kk2, .ref kk3, .int cn, .int ((-1)), .ref tp, .ref nm, .int 1])), (kk1, .inl (ck1, 64, .inl f1)), (kk2, .inl (ck2, 64, .inl f2)), (kk3, .inl (ck3, 64, .inr (.inl f3))), (tp, .inr (0, [.ref tpa, .int 0]))] := hD
  refine lv_aload_n hx hb d_Scanner_scan_20 rfl (lv_at hl 0 rfl) ?_
  refine lv_iconst (v := 0) hx hb d_Scanner_scan_21 (by decide) ?_
  refine va_put (D := (dC, dI)) (ci := 4) (v := .int 0) (ty := .int) (C := R_Scanner) (T := F_Scanner) (N := 8) hx hb htw i_Scanner t_Scanner t_Scanner_ok n_Scanner hown hK hP hD hS 0 rfl rfl 3 (by decide) (htw _ wd_2_95) (fun _ h9 => h9) rfl (by decide +kernel) rfl rfl (Nat.le_of_ble_eq_true rfl) d_Scanner_scan_22 (fun H locs hP hD hS => ?_)
  have hP : va_P (dC, dI) classes [(sn0, .inr (4, [.ref kk1, .ref kk2, .ref kk3, .int 0, .int ((-1)), .ref tp, .ref nm, .int 1])), (kk1, .inl (ck1, 64, .inl f1)), (kk2, .inl (ck2, 64, .inl f2)), (kk3, .inl (ck3, 64, .inr (.inl f3))), (tp, .inr (0, [.ref tpa, .int 0]))] H := hP
  have hD : va_D A [(sn0, .inr (4, [.ref kk1, .ref kk2, .ref kk3, .int 0, .int ((-1)), .ref tp, .ref nm, .int 1])), (kk1, .inl (ck1, 64, .inl f1)), (kk2, .inl (ck2, 64, .inl f2)), (kk3, .inl (ck3, 64, .inr (.inl f3))), (tp, .inr (0, [.ref tpa, .int 0]))] := hD
  refine lv_aload_n hx hb d_Scanner_scan_25 rfl (lv_at hl 0 rfl) ?_
  refine lv_iconst (v := 0) hx hb d_Scanner_scan_26 (by decide) ?_
  have hc0 : 0 + 0 ≤ 0 := by omega
  have hs0 : 0 + 0 ≤ 0 := by omega
  have hPc := hP.sub (ws' := [(sn0, .inr (4, [.ref kk1, .ref kk2, .ref kk3, .int 0, .int ((-1)), .ref tp, .ref nm, .int 1])), (tp, .inr (0, [.ref tpa, .int 0]))]) [0, 4] rfl
  have hDc := hD.sub (ws' := [(sn0, .inr (4, [.ref kk1, .ref kk2, .ref kk3, .int 0, .int ((-1)), .ref tp, .ref nm, .int 1])), (tp, .inr (0, [.ref tpa, .int 0]))]) [0, 4] (by decide) rfl
  have hKc := hK.sub (tys' := []) [] rfl
  have hFc := va_free (wc := [(sn0, .inr (4, [.ref kk1, .ref kk2, .ref kk3, .int 0, .int ((-1)), .ref tp, .ref nm, .int 1])), (tp, .inr (0, [.ref tpa, .int 0]))]) hD hS hA [0, 4] rfl
  refine va_calli (va_runV (As := [.int 0]) (rest := []) ⟨hx, hb, hml, hown, htw⟩ (c_Scanner_blanks l dC dI H.size sn0 kk1 kk2 kk3 ((-1)) 0 tp tpa nm 1) (cwV 1 htw (tw_V wd_3_170 wd_3_171 wd_3_172 wd_1_15 k_Scanner_blanks) rfl rfl rfl (by decide +kernel) ⟨Nat.le_of_ble_eq_true rfl, Nat.le_of_ble_eq_true rfl⟩) ⟨fun a U g mk q => by obtain ⟨q0, q1, qP, qK, qD⟩ := q; exact ⟨q0, q1, qP, va_K.moved (u := U) (U := U.calling g mk a) (Vm.Alike.refl U.vm) qK, qD⟩, va_recv hK hP (q := (R_Scanner, F_Scanner, 8)) (ci := 4) (q0 := 0) rfl rfl, fun U hU hW => ⟨rfl, by rw [hU], by rw [hU]; exact hPc, va_K.moved hW.alike hKc, hDc.weaken (fun _ _ _ _ => trivial)⟩⟩ rfl rfl hl.1 rfl (lv_room (Nat.le_of_ble_eq_true rfl)) d_Scanner_scan_27 ⟨hc0, hs0⟩) hS (fun q _ h => hFc q h) hFc (fun r1 u t H1 locs ht hvm hw hB hz1 hk1 hS => ?_)
  obtain ⟨hP1, hK1, hD1⟩ := hB
  rw [ht] at hP1
  have hK1 := va_K.moved hvm.symm hK1
  obtain ⟨hP, hD⟩ := va_join (wr := [(kk1, .inl (ck1, 64, .inl f1)), (kk2, .inl (ck2, 64, .inl f2)), (kk3, .inl (ck3, 64, .inr (.inl f3)))]) (w1 := [(sn0, .inr (4, [.ref kk1, .ref kk2, .ref kk3, .int 0, .int ((-1)), .ref tp, .ref nm, .int 1])), (tp, .inr (0, [.ref tpa, .int 0]))]) hP hD [0, 4] [1, 2, 3] rfl rfl (by decide) (by decide) hk1 hFc hP1 hD1
  have hK := (hK.sub (tys' := [(ck1, .int), (ck2, .int), (ck3, .long)]) [0, 1, 2] rfl).app hK1
  generalize H1 = H at hP hS ⊢
  have hP : va_P (dC, dI) classes [(kk1, .inl (ck1, 64, .inl f1)), (kk2, .inl (ck2, 64, .inl f2)), (kk3, .inl (ck3, 64, .inr (.inl f3))), (sn0, .inr (4, [.ref kk1, .ref kk2, .ref kk3, .int 0, .int ((-1)), .ref tp, .ref nm, .int 1])), (tp, .inr (0, [.ref tpa, .int 0]))] H := hP
  have hD : va_D A [(kk1, .inl (ck1, 64, .inl f1)), (kk2, .inl (ck2, 64, .inl f2)), (kk3, .inl (ck3, 64, .inr (.inl f3))), (sn0, .inr (4, [.ref kk1, .ref kk2, .ref kk3, .int 0, .int ((-1)), .ref tp, .ref nm, .int 1])), (tp, .inr (0, [.ref tpa, .int 0]))] := hD
  have hK : va_K (dC, dI) classes [(ck1, .int), (ck2, .int), (ck3, .long)] s := hK
  subst hw
  refine lv_istore hx hb d_Scanner_scan_30 hl (by decide) rfl (fun ls hl => ?_)
  have hl : lv_has ls 6 [(4, .int 0), (0, .ref sn0), (1, .ref tp), (2, .ref nm), (3, .int 1)] := hl
  refine lv_iload hx hb d_Scanner_scan_32 (lv_at hl 0 rfl) ?_
  refine lv_aload_n hx hb d_Scanner_scan_34 rfl (lv_at hl 1 rfl) ?_
  refine va_get (D := (dC, dI)) (ci := 4) (v := .ref tp) (C := R_Scanner) (T := F_Scanner) (N := 8) hx hb htw i_Scanner hown hK hP 3 rfl rfl 5 (by decide) (htw _ wd_2_99) (fun _ h9 => h9) rfl d_Scanner_scan_35 ?_
  refine va_get (D := (dC, dI)) (ci := 0) (v := .int 0) (C := R_Bytes) (T := F_Bytes) (N := 2) hx hb htw i_Bytes hown hK hP 4 rfl rfl 1 (by decide) (htw _ wd_1_72) (fun _ h9 => h9) rfl d_Scanner_scan_38 ?_
  refine lv_icmp_ge (tgt := 79) hx hb d_Scanner_scan_41 rfl (fun _ => ?_) (fun hn => absurd (by decide) hn)
  refine lv_aload_n hx hb d_Scanner_scan_79 rfl (lv_at hl 1 rfl) ?_
  refine lv_iconst (v := 0) hx hb d_Scanner_scan_80 (by decide) ?_
  refine lv_aload_n hx hb d_Scanner_scan_81 rfl (lv_at hl 1 rfl) ?_
  refine va_get (D := (dC, dI)) (ci := 4) (v := .ref tp) (C := R_Scanner) (T := F_Scanner) (N := 8) hx hb htw i_Scanner hown hK hP 3 rfl rfl 5 (by decide) (htw _ wd_2_99) (fun _ h9 => h9) rfl d_Scanner_scan_82 ?_
  refine va_get (D := (dC, dI)) (ci := 0) (v := .int 0) (C := R_Bytes) (T := F_Bytes) (N := 2) hx hb htw i_Bytes hown hK hP 4 rfl rfl 1 (by decide) (htw _ wd_1_72) (fun _ h9 => h9) rfl d_Scanner_scan_85 ?_
  refine lv_lconst (v := 0) hx hb d_Scanner_scan_88 (by decide) ?_
  have hc0 : 0 + 0 ≤ 0 := by omega
  have hs0 : 0 + 0 ≤ 0 := by omega
  have hPc := hP.sub (ws' := [(sn0, .inr (4, [.ref kk1, .ref kk2, .ref kk3, .int 0, .int ((-1)), .ref tp, .ref nm, .int 1])), (kk1, .inl (ck1, 64, .inl f1)), (kk2, .inl (ck2, 64, .inl f2)), (kk3, .inl (ck3, 64, .inr (.inl f3)))]) [3, 0, 1, 2] rfl
  have hDc := hD.sub (ws' := [(sn0, .inr (4, [.ref kk1, .ref kk2, .ref kk3, .int 0, .int ((-1)), .ref tp, .ref nm, .int 1])), (kk1, .inl (ck1, 64, .inl f1)), (kk2, .inl (ck2, 64, .inl f2)), (kk3, .inl (ck3, 64, .inr (.inl f3)))]) [3, 0, 1, 2] (by decide) rfl
  have hKc := hK.sub (tys' := [(ck1, .int), (ck2, .int), (ck3, .long)]) [0, 1, 2] rfl
  have hFc := va_free (wc := [(sn0, .inr (4, [.ref kk1, .ref kk2, .ref kk3, .int 0, .int ((-1)), .ref tp, .ref nm, .int 1])), (kk1, .inl (ck1, 64, .inl f1)), (kk2, .inl (ck2, 64, .inl f2)), (kk3, .inl (ck3, 64, .inr (.inl f3)))]) hD hS hA [3, 0, 1, 2] rfl
  refine va_callv (va_runV (As := [.int 0, .int 0, .long 0]) (rest := []) ⟨hx, hb, hml, hown, htw⟩ (c_Scanner_keep l dC dI H.size sn0 kk1 kk2 kk3 ck1 ck2 ck3 f1 f2 f3 ((-1)) tp nm 1 0 0 0) (cwV 3 htw (tw_V wd_3_194 wd_3_196 wp_1_8 wd_1_15 k_Scanner_keep) rfl rfl rfl (by decide +kernel) ⟨Nat.le_of_ble_eq_true rfl, Nat.le_of_ble_eq_true rfl⟩) ⟨fun a U g mk q => by obtain ⟨q0, q1, qP, qK, qD⟩ := q; exact ⟨q0, q1, qP, va_K.moved (u := U) (U := U.calling g mk a) (Vm.Alike.refl U.vm) qK, qD⟩, va_recv hK hP (q := (R_Scanner, F_Scanner, 8)) (ci := 4) (q0 := 3) rfl rfl, fun U hU hW => ⟨rfl, by rw [hU], by rw [hU]; exact hPc, va_K.moved hW.alike hKc, hDc.weaken (fun _ _ _ _ => trivial)⟩⟩ rfl rfl hl.1 rfl (lv_room (Nat.le_of_ble_eq_true rfl)) d_Scanner_scan_89 ⟨hc0, hs0⟩) hS (fun q _ h => hFc q h) hFc (fun u t H1 locs ht hvm hw hB hz1 hk1 hS => ?_)
  obtain ⟨hP1, hK1, hD1⟩ := hB
  rw [ht] at hP1
  have hK1 := va_K.moved hvm.symm hK1
  obtain ⟨hP, hD⟩ := va_join (wr := [(tp, .inr (0, [.ref tpa, .int 0]))]) (w1 := [(sn0, .inr (4, [.ref kk1, .ref kk2, .ref kk3, .int (0 + 1), .int ((-1)), .ref tp, .ref nm, .int 1])), (kk1, .inl (ck1, 64, .inl (upd f1 (0 : Int32).toNatClampNeg 0))), (kk2, .inl (ck2, 64, .inl (upd f2 (0 : Int32).toNatClampNeg 0))), (kk3, .inl (ck3, 64, .inr (.inl (vp_updL f3 (0 : Int32).toNatClampNeg 0))))]) hP hD [3, 0, 1, 2] [4] rfl rfl (by decide) (by decide) hk1 hFc hP1 hD1
  have hK := (hK.sub (tys' := []) [] rfl).app hK1
  generalize H1 = H at hP hS ⊢
  have hP : va_P (dC, dI) classes [(tp, .inr (0, [.ref tpa, .int 0])), (sn0, .inr (4, [.ref kk1, .ref kk2, .ref kk3, .int (0 + 1), .int ((-1)), .ref tp, .ref nm, .int 1])), (kk1, .inl (ck1, 64, .inl (upd f1 (0 : Int32).toNatClampNeg 0))), (kk2, .inl (ck2, 64, .inl (upd f2 (0 : Int32).toNatClampNeg 0))), (kk3, .inl (ck3, 64, .inr (.inl (vp_updL f3 (0 : Int32).toNatClampNeg 0))))] H := hP
  have hD : va_D A [(tp, .inr (0, [.ref tpa, .int 0])), (sn0, .inr (4, [.ref kk1, .ref kk2, .ref kk3, .int (0 + 1), .int ((-1)), .ref tp, .ref nm, .int 1])), (kk1, .inl (ck1, 64, .inl (upd f1 (0 : Int32).toNatClampNeg 0))), (kk2, .inl (ck2, 64, .inl (upd f2 (0 : Int32).toNatClampNeg 0))), (kk3, .inl (ck3, 64, .inr (.inl (vp_updL f3 (0 : Int32).toNatClampNeg 0))))] := hD
  have hK : va_K (dC, dI) classes [(ck1, .int), (ck2, .int), (ck3, .long)] s := hK
  have hP9 := hP.sub (ws' := [(sn0, .inr (4, [.ref kk1, .ref kk2, .ref kk3, .int (0 + 1), .int ((-1)), .ref tp, .ref nm, .int 1])), (kk1, .inl (ck1, 64, .inl (upd f1 (0 : Int32).toNatClampNeg 0))), (kk2, .inl (ck2, 64, .inl (upd f2 (0 : Int32).toNatClampNeg 0))), (kk3, .inl (ck3, 64, .inr (.inl (vp_updL f3 (0 : Int32).toNatClampNeg 0)))), (tp, .inr (0, [.ref tpa, .int 0]))]) [1, 2, 3, 4, 0] rfl
  have hD9 := hD.sub (ws' := [(sn0, .inr (4, [.ref kk1, .ref kk2, .ref kk3, .int (0 + 1), .int ((-1)), .ref tp, .ref nm, .int 1])), (kk1, .inl (ck1, 64, .inl (upd f1 (0 : Int32).toNatClampNeg 0))), (kk2, .inl (ck2, 64, .inl (upd f2 (0 : Int32).toNatClampNeg 0))), (kk3, .inl (ck3, 64, .inr (.inl (vp_updL f3 (0 : Int32).toNatClampNeg 0)))), (tp, .inr (0, [.ref tpa, .int 0]))]) [1, 2, 3, 4, 0] (by decide) rfl
  have hK9 := hK.sub (tys' := [(ck1, .int), (ck2, .int), (ck3, .long)]) [0, 1, 2] rfl
  refine W.widen (k := 0) (n := 0) (by omega) (by omega) ?_
  exact W.vret hx hb hr (fun t ht hW => ⟨⟨(), rfl, trivial, (upd f1 (0 : Int32).toNatClampNeg 0), (upd f2 (0 : Int32).toNatClampNeg 0), (vp_updL f3 (0 : Int32).toNatClampNeg 0), rfl, by rw [ht]; exact hP9, va_K.moved hW.alike hK9, hD9⟩, hS.F ht⟩) hS.2.2 d_Scanner_scan_92
