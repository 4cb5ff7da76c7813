/-! by program (wip/p1) -/
theorem wd_3_53 : Cond.methodLink "SyntaxForgeLaw" 7 ⟨"SyntaxForge", "feed", "(IIIII)I"⟩ ∈ tw_tbl := tw_t3 (List.mem_of_getElem? (i := 53) rfl) rfl
theorem wd_3_54 : Cond.instanceMethod ⟨"SyntaxForge", "feed", "(IIIII)I"⟩ ∈ tw_tbl := tw_t3 (List.mem_of_getElem? (i := 54) rfl) rfl
theorem wd_3_55 : Cond.selects "SyntaxForge" ⟨"SyntaxForge", "feed", "(IIIII)I"⟩ ⟨"SyntaxForge", "feed", "(IIIII)I"⟩ ∈ tw_tbl := tw_t3 (List.mem_of_getElem? (i := 55) rfl) rfl
theorem wd_3_133 : Cond.methodLink "SyntaxForgeLaw" 15 ⟨"SyntaxForge", "end", "(I)I"⟩ ∈ tw_tbl := tw_t3 (List.mem_of_getElem? (i := 133) rfl) rfl
theorem wd_3_134 : Cond.instanceMethod ⟨"SyntaxForge", "end", "(I)I"⟩ ∈ tw_tbl := tw_t3 (List.mem_of_getElem? (i := 134) rfl) rfl
theorem wd_3_135 : Cond.selects "SyntaxForge" ⟨"SyntaxForge", "end", "(I)I"⟩ ⟨"SyntaxForge", "end", "(I)I"⟩ ∈ tw_tbl := tw_t3 (List.mem_of_getElem? (i := 135) rfl) rfl
theorem wd_9_210 : Cond.methodLink "SyntaxForgeLaw" 45 ⟨"SyntaxForge", "count", "(I)I"⟩ ∈ tw_tbl := tw_t9 (List.mem_of_getElem? (i := 210) rfl) rfl
theorem wd_9_211 : Cond.instanceMethod ⟨"SyntaxForge", "count", "(I)I"⟩ ∈ tw_tbl := tw_t9 (List.mem_of_getElem? (i := 211) rfl) rfl
theorem wd_9_212 : Cond.selects "SyntaxForge" ⟨"SyntaxForge", "count", "(I)I"⟩ ⟨"SyntaxForge", "count", "(I)I"⟩ ∈ tw_tbl := tw_t9 (List.mem_of_getElem? (i := 212) rfl) rfl
theorem wd_3_132 : Cond.classLink "SyntaxForgeLaw" 19 "java/lang/IllegalArgumentException" ∈ tw_tbl := tw_t3 (List.mem_of_getElem? (i := 132) rfl) rfl
theorem wd_9_201 : Cond.methodLink "SyntaxForgeLaw" 42 ⟨"SyntaxForge", "word", "(I)J"⟩ ∈ tw_tbl := tw_t9 (List.mem_of_getElem? (i := 201) rfl) rfl
theorem wd_9_202 : Cond.instanceMethod ⟨"SyntaxForge", "word", "(I)J"⟩ ∈ tw_tbl := tw_t9 (List.mem_of_getElem? (i := 202) rfl) rfl
theorem wd_9_203 : Cond.selects "SyntaxForge" ⟨"SyntaxForge", "word", "(I)J"⟩ ⟨"SyntaxForge", "word", "(I)J"⟩ ∈ tw_tbl := tw_t9 (List.mem_of_getElem? (i := 203) rfl) rfl
theorem wd_3_52 : Cond.classLink "SyntaxForgeLaw" 13 "java/lang/IndexOutOfBoundsException" ∈ tw_tbl := tw_t3 (List.mem_of_getElem? (i := 52) rfl) rfl
theorem wd_7_193 : Cond.methodLink "SyntaxForgeLaw" 29 ⟨"SyntaxForge", "encode", "(II)I"⟩ ∈ tw_tbl := tw_t7 (List.mem_of_getElem? (i := 193) rfl) rfl
theorem wd_7_194 : Cond.instanceMethod ⟨"SyntaxForge", "encode", "(II)I"⟩ ∈ tw_tbl := tw_t7 (List.mem_of_getElem? (i := 194) rfl) rfl
theorem wd_7_195 : Cond.selects "SyntaxForge" ⟨"SyntaxForge", "encode", "(II)I"⟩ ⟨"SyntaxForge", "encode", "(II)I"⟩ ∈ tw_tbl := tw_t7 (List.mem_of_getElem? (i := 195) rfl) rfl
theorem wd_7_192 : Cond.classLink "SyntaxForgeLaw" 33 "java/lang/IllegalStateException" ∈ tw_tbl := tw_t7 (List.mem_of_getElem? (i := 192) rfl) rfl
theorem wd_8_118 : Cond.methodLink "SyntaxForgeLaw" 35 ⟨"SyntaxForge", "decode", "(II)I"⟩ ∈ tw_tbl := tw_t8 (List.mem_of_getElem? (i := 118) rfl) rfl
theorem wd_8_119 : Cond.instanceMethod ⟨"SyntaxForge", "decode", "(II)I"⟩ ∈ tw_tbl := tw_t8 (List.mem_of_getElem? (i := 119) rfl) rfl
theorem wd_8_120 : Cond.selects "SyntaxForge" ⟨"SyntaxForge", "decode", "(II)I"⟩ ⟨"SyntaxForge", "decode", "(II)I"⟩ ∈ tw_tbl := tw_t8 (List.mem_of_getElem? (i := 120) rfl) rfl
theorem wd_9_194 : Cond.methodLink "SyntaxForgeLaw" 38 ⟨"SyntaxForge", "tag", "(I)J"⟩ ∈ tw_tbl := tw_t9 (List.mem_of_getElem? (i := 194) rfl) rfl
theorem wd_9_195 : Cond.instanceMethod ⟨"SyntaxForge", "tag", "(I)J"⟩ ∈ tw_tbl := tw_t9 (List.mem_of_getElem? (i := 195) rfl) rfl
theorem wd_9_196 : Cond.selects "SyntaxForge" ⟨"SyntaxForge", "tag", "(I)J"⟩ ⟨"SyntaxForge", "tag", "(I)J"⟩ ∈ tw_tbl := tw_t9 (List.mem_of_getElem? (i := 196) rfl) rfl
theorem wd_3_157 : Cond.methodLink "SyntaxForgeLaw" 21 ⟨"SyntaxForge", "read", "()I"⟩ ∈ tw_tbl := tw_t3 (List.mem_of_getElem? (i := 157) rfl) rfl
theorem wd_3_158 : Cond.instanceMethod ⟨"SyntaxForge", "read", "()I"⟩ ∈ tw_tbl := tw_t3 (List.mem_of_getElem? (i := 158) rfl) rfl
theorem wd_3_159 : Cond.selects "SyntaxForge" ⟨"SyntaxForge", "read", "()I"⟩ ⟨"SyntaxForge", "read", "()I"⟩ ∈ tw_tbl := tw_t3 (List.mem_of_getElem? (i := 159) rfl) rfl
theorem wd_3_155 : Cond.classLink "SyntaxForgeLaw" 25 "java/lang/UnsupportedOperationException" ∈ tw_tbl := tw_t3 (List.mem_of_getElem? (i := 155) rfl) rfl
def y_Law_feed : MethodName := ⟨"SyntaxForgeLaw", "feed", "(LSyntaxForge;IIIII[J)I"⟩
abbrev b_Law_feed : ByteArray := method_3_code
abbrev cd_Law_feed : Cond := .codeWith y_Law_feed b_Law_feed 8 (some .int) [(0, 16, 19, 13)]
abbrev ws_Law_feed : List Cond := cd_Law_feed :: tw_tbl
theorem k_Law_feed : cd_Law_feed ∈ tw_tbl := tw_t3 (List.mem_of_getElem? (i := 51) rfl) rfl
theorem d_Law_feed_0 : decode b_Law_feed 0 = .ok (.aload 6, 2) := by decide +kernel
theorem d_Law_feed_2 : decode b_Law_feed 2 = .ok (.iconst 0, 1) := by decide +kernel
theorem d_Law_feed_3 : decode b_Law_feed 3 = .ok (.aload_n 0, 1) := by decide +kernel
theorem d_Law_feed_4 : decode b_Law_feed 4 = .ok (.iload_n 1, 1) := by decide +kernel
theorem d_Law_feed_5 : decode b_Law_feed 5 = .ok (.iload_n 2, 1) := by decide +kernel
theorem d_Law_feed_6 : decode b_Law_feed 6 = .ok (.iload_n 3, 1) := by decide +kernel
theorem d_Law_feed_7 : decode b_Law_feed 7 = .ok (.iload 4, 2) := by decide +kernel
theorem d_Law_feed_9 : decode b_Law_feed 9 = .ok (.iload 5, 2) := by decide +kernel
theorem d_Law_feed_11 : decode b_Law_feed 11 = .ok (.invokevirtual 7, 3) := by decide +kernel
theorem d_Law_feed_14 : decode b_Law_feed 14 = .ok (.i2l, 1) := by decide +kernel
theorem d_Law_feed_15 : decode b_Law_feed 15 = .ok (.lastore, 1) := by decide +kernel
theorem d_Law_feed_16 : decode b_Law_feed 16 = .ok (.goto 7, 3) := by decide +kernel
theorem d_Law_feed_19 : decode b_Law_feed 19 = .ok (.astore 7, 2) := by decide +kernel
theorem d_Law_feed_21 : decode b_Law_feed 21 = .ok (.iconst 1, 1) := by decide +kernel
theorem d_Law_feed_22 : decode b_Law_feed 22 = .ok (.ireturn, 1) := by decide +kernel
theorem d_Law_feed_23 : decode b_Law_feed 23 = .ok (.iconst 0, 1) := by decide +kernel
theorem d_Law_feed_24 : decode b_Law_feed 24 = .ok (.ireturn, 1) := by decide +kernel
def y_Law_end : MethodName := ⟨"SyntaxForgeLaw", "end", "(LSyntaxForge;I[J)I"⟩
abbrev b_Law_end : ByteArray := method_4_code
abbrev cd_Law_end : Cond := .codeWith y_Law_end b_Law_end 4 (some .int) [(0, 9, 12, 19)]
abbrev ws_Law_end : List Cond := cd_Law_end :: tw_tbl
theorem k_Law_end : cd_Law_end ∈ tw_tbl := tw_t3 (List.mem_of_getElem? (i := 131) rfl) rfl
theorem d_Law_end_0 : decode b_Law_end 0 = .ok (.aload_n 2, 1) := by decide +kernel
theorem d_Law_end_1 : decode b_Law_end 1 = .ok (.iconst 0, 1) := by decide +kernel
theorem d_Law_end_2 : decode b_Law_end 2 = .ok (.aload_n 0, 1) := by decide +kernel
theorem d_Law_end_3 : decode b_Law_end 3 = .ok (.iload_n 1, 1) := by decide +kernel
theorem d_Law_end_4 : decode b_Law_end 4 = .ok (.invokevirtual 15, 3) := by decide +kernel
theorem d_Law_end_7 : decode b_Law_end 7 = .ok (.i2l, 1) := by decide +kernel
theorem d_Law_end_8 : decode b_Law_end 8 = .ok (.lastore, 1) := by decide +kernel
theorem d_Law_end_9 : decode b_Law_end 9 = .ok (.goto 6, 3) := by decide +kernel
theorem d_Law_end_12 : decode b_Law_end 12 = .ok (.astore_n 3, 1) := by decide +kernel
theorem d_Law_end_13 : decode b_Law_end 13 = .ok (.iconst 1, 1) := by decide +kernel
theorem d_Law_end_14 : decode b_Law_end 14 = .ok (.ireturn, 1) := by decide +kernel
theorem d_Law_end_15 : decode b_Law_end 15 = .ok (.iconst 0, 1) := by decide +kernel
theorem d_Law_end_16 : decode b_Law_end 16 = .ok (.ireturn, 1) := by decide +kernel
def y_Law_count : MethodName := ⟨"SyntaxForgeLaw", "count", "(LSyntaxForge;I[J)I"⟩
abbrev b_Law_count : ByteArray := method_10_code
abbrev cd_Law_count : Cond := .codeWith y_Law_count b_Law_count 4 (some .int) [(0, 9, 12, 19)]
abbrev ws_Law_count : List Cond := cd_Law_count :: tw_tbl
theorem k_Law_count : cd_Law_count ∈ tw_tbl := tw_t9 (List.mem_of_getElem? (i := 209) rfl) rfl
theorem d_Law_count_0 : decode b_Law_count 0 = .ok (.aload_n 2, 1) := by decide +kernel
theorem d_Law_count_1 : decode b_Law_count 1 = .ok (.iconst 0, 1) := by decide +kernel
theorem d_Law_count_2 : decode b_Law_count 2 = .ok (.aload_n 0, 1) := by decide +kernel
theorem d_Law_count_3 : decode b_Law_count 3 = .ok (.iload_n 1, 1) := by decide +kernel
theorem d_Law_count_4 : decode b_Law_count 4 = .ok (.invokevirtual 45, 3) := by decide +kernel
theorem d_Law_count_7 : decode b_Law_count 7 = .ok (.i2l, 1) := by decide +kernel
theorem d_Law_count_8 : decode b_Law_count 8 = .ok (.lastore, 1) := by decide +kernel
theorem d_Law_count_9 : decode b_Law_count 9 = .ok (.goto 6, 3) := by decide +kernel
theorem d_Law_count_12 : decode b_Law_count 12 = .ok (.astore_n 3, 1) := by decide +kernel
theorem d_Law_count_13 : decode b_Law_count 13 = .ok (.iconst 1, 1) := by decide +kernel
theorem d_Law_count_14 : decode b_Law_count 14 = .ok (.ireturn, 1) := by decide +kernel
theorem d_Law_count_15 : decode b_Law_count 15 = .ok (.iconst 0, 1) := by decide +kernel
theorem d_Law_count_16 : decode b_Law_count 16 = .ok (.ireturn, 1) := by decide +kernel
def y_Law_word : MethodName := ⟨"SyntaxForgeLaw", "word", "(LSyntaxForge;I[J)I"⟩
abbrev b_Law_word : ByteArray := method_9_code
abbrev cd_Law_word : Cond := .codeWith y_Law_word b_Law_word 4 (some .int) [(0, 8, 11, 13)]
abbrev ws_Law_word : List Cond := cd_Law_word :: tw_tbl
theorem k_Law_word : cd_Law_word ∈ tw_tbl := tw_t9 (List.mem_of_getElem? (i := 200) rfl) rfl
theorem d_Law_word_0 : decode b_Law_word 0 = .ok (.aload_n 2, 1) := by decide +kernel
theorem d_Law_word_1 : decode b_Law_word 1 = .ok (.iconst 0, 1) := by decide +kernel
theorem d_Law_word_2 : decode b_Law_word 2 = .ok (.aload_n 0, 1) := by decide +kernel
theorem d_Law_word_3 : decode b_Law_word 3 = .ok (.iload_n 1, 1) := by decide +kernel
theorem d_Law_word_4 : decode b_Law_word 4 = .ok (.invokevirtual 42, 3) := by decide +kernel
theorem d_Law_word_7 : decode b_Law_word 7 = .ok (.lastore, 1) := by decide +kernel
theorem d_Law_word_8 : decode b_Law_word 8 = .ok (.goto 6, 3) := by decide +kernel
theorem d_Law_word_11 : decode b_Law_word 11 = .ok (.astore_n 3, 1) := by decide +kernel
theorem d_Law_word_12 : decode b_Law_word 12 = .ok (.iconst 1, 1) := by decide +kernel
theorem d_Law_word_13 : decode b_Law_word 13 = .ok (.ireturn, 1) := by decide +kernel
theorem d_Law_word_14 : decode b_Law_word 14 = .ok (.iconst 0, 1) := by decide +kernel
theorem d_Law_word_15 : decode b_Law_word 15 = .ok (.ireturn, 1) := by decide +kernel
def y_Law_encode : MethodName := ⟨"SyntaxForgeLaw", "encode", "(LSyntaxForge;II[J)I"⟩
abbrev b_Law_encode : ByteArray := method_6_code
abbrev cd_Law_encode : Cond := .codeWith y_Law_encode b_Law_encode 5 (some .int) [(0, 10, 13, 19), (0, 10, 17, 33), (0, 10, 21, 25), (0, 10, 25, 13)]
abbrev ws_Law_encode : List Cond := cd_Law_encode :: tw_tbl
theorem k_Law_encode : cd_Law_encode ∈ tw_tbl := tw_t7 (List.mem_of_getElem? (i := 191) rfl) rfl
theorem d_Law_encode_0 : decode b_Law_encode 0 = .ok (.aload_n 3, 1) := by decide +kernel
theorem d_Law_encode_1 : decode b_Law_encode 1 = .ok (.iconst 0, 1) := by decide +kernel
theorem d_Law_encode_2 : decode b_Law_encode 2 = .ok (.aload_n 0, 1) := by decide +kernel
theorem d_Law_encode_3 : decode b_Law_encode 3 = .ok (.iload_n 1, 1) := by decide +kernel
theorem d_Law_encode_4 : decode b_Law_encode 4 = .ok (.iload_n 2, 1) := by decide +kernel
theorem d_Law_encode_5 : decode b_Law_encode 5 = .ok (.invokevirtual 29, 3) := by decide +kernel
theorem d_Law_encode_8 : decode b_Law_encode 8 = .ok (.i2l, 1) := by decide +kernel
theorem d_Law_encode_9 : decode b_Law_encode 9 = .ok (.lastore, 1) := by decide +kernel
theorem d_Law_encode_10 : decode b_Law_encode 10 = .ok (.goto 19, 3) := by decide +kernel
theorem d_Law_encode_13 : decode b_Law_encode 13 = .ok (.astore 4, 2) := by decide +kernel
theorem d_Law_encode_15 : decode b_Law_encode 15 = .ok (.iconst 1, 1) := by decide +kernel
theorem d_Law_encode_16 : decode b_Law_encode 16 = .ok (.ireturn, 1) := by decide +kernel
theorem d_Law_encode_17 : decode b_Law_encode 17 = .ok (.astore 4, 2) := by decide +kernel
theorem d_Law_encode_19 : decode b_Law_encode 19 = .ok (.iconst 2, 1) := by decide +kernel
theorem d_Law_encode_20 : decode b_Law_encode 20 = .ok (.ireturn, 1) := by decide +kernel
theorem d_Law_encode_21 : decode b_Law_encode 21 = .ok (.astore 4, 2) := by decide +kernel
theorem d_Law_encode_23 : decode b_Law_encode 23 = .ok (.iconst 3, 1) := by decide +kernel
theorem d_Law_encode_24 : decode b_Law_encode 24 = .ok (.ireturn, 1) := by decide +kernel
theorem d_Law_encode_25 : decode b_Law_encode 25 = .ok (.astore 4, 2) := by decide +kernel
theorem d_Law_encode_27 : decode b_Law_encode 27 = .ok (.iconst 4, 1) := by decide +kernel
theorem d_Law_encode_28 : decode b_Law_encode 28 = .ok (.ireturn, 1) := by decide +kernel
theorem d_Law_encode_29 : decode b_Law_encode 29 = .ok (.iconst 0, 1) := by decide +kernel
theorem d_Law_encode_30 : decode b_Law_encode 30 = .ok (.ireturn, 1) := by decide +kernel
def y_Law_decode : MethodName := ⟨"SyntaxForgeLaw", "decode", "(LSyntaxForge;II[J)I"⟩
abbrev b_Law_decode : ByteArray := method_7_code
abbrev cd_Law_decode : Cond := .codeWith y_Law_decode b_Law_decode 5 (some .int) [(0, 10, 13, 19), (0, 10, 17, 33), (0, 10, 21, 25), (0, 10, 25, 13)]
abbrev ws_Law_decode : List Cond := cd_Law_decode :: tw_tbl
theorem k_Law_decode : cd_Law_decode ∈ tw_tbl := tw_t8 (List.mem_of_getElem? (i := 117) rfl) rfl
theorem d_Law_decode_0 : decode b_Law_decode 0 = .ok (.aload_n 3, 1) := by decide +kernel
theorem d_Law_decode_1 : decode b_Law_decode 1 = .ok (.iconst 0, 1) := by decide +kernel
theorem d_Law_decode_2 : decode b_Law_decode 2 = .ok (.aload_n 0, 1) := by decide +kernel
theorem d_Law_decode_3 : decode b_Law_decode 3 = .ok (.iload_n 1, 1) := by decide +kernel
theorem d_Law_decode_4 : decode b_Law_decode 4 = .ok (.iload_n 2, 1) := by decide +kernel
theorem d_Law_decode_5 : decode b_Law_decode 5 = .ok (.invokevirtual 35, 3) := by decide +kernel
theorem d_Law_decode_8 : decode b_Law_decode 8 = .ok (.i2l, 1) := by decide +kernel
theorem d_Law_decode_9 : decode b_Law_decode 9 = .ok (.lastore, 1) := by decide +kernel
theorem d_Law_decode_10 : decode b_Law_decode 10 = .ok (.goto 19, 3) := by decide +kernel
theorem d_Law_decode_13 : decode b_Law_decode 13 = .ok (.astore 4, 2) := by decide +kernel
theorem d_Law_decode_15 : decode b_Law_decode 15 = .ok (.iconst 1, 1) := by decide +kernel
theorem d_Law_decode_16 : decode b_Law_decode 16 = .ok (.ireturn, 1) := by decide +kernel
theorem d_Law_decode_17 : decode b_Law_decode 17 = .ok (.astore 4, 2) := by decide +kernel
theorem d_Law_decode_19 : decode b_Law_decode 19 = .ok (.iconst 2, 1) := by decide +kernel
theorem d_Law_decode_20 : decode b_Law_decode 20 = .ok (.ireturn, 1) := by decide +kernel
theorem d_Law_decode_21 : decode b_Law_decode 21 = .ok (.astore 4, 2) := by decide +kernel
theorem d_Law_decode_23 : decode b_Law_decode 23 = .ok (.iconst 3, 1) := by decide +kernel
theorem d_Law_decode_24 : decode b_Law_decode 24 = .ok (.ireturn, 1) := by decide +kernel
theorem d_Law_decode_25 : decode b_Law_decode 25 = .ok (.astore 4, 2) := by decide +kernel
theorem d_Law_decode_27 : decode b_Law_decode 27 = .ok (.iconst 4, 1) := by decide +kernel
theorem d_Law_decode_28 : decode b_Law_decode 28 = .ok (.ireturn, 1) := by decide +kernel
theorem d_Law_decode_29 : decode b_Law_decode 29 = .ok (.iconst 0, 1) := by decide +kernel
theorem d_Law_decode_30 : decode b_Law_decode 30 = .ok (.ireturn, 1) := by decide +kernel
def y_Law_tag : MethodName := ⟨"SyntaxForgeLaw", "tag", "(LSyntaxForge;I[J)I"⟩
abbrev b_Law_tag : ByteArray := method_8_code
abbrev cd_Law_tag : Cond := .codeWith y_Law_tag b_Law_tag 4 (some .int) [(0, 8, 11, 19), (0, 8, 14, 33)]
abbrev ws_Law_tag : List Cond := cd_Law_tag :: tw_tbl
theorem k_Law_tag : cd_Law_tag ∈ tw_tbl := tw_t9 (List.mem_of_getElem? (i := 193) rfl) rfl
theorem d_Law_tag_0 : decode b_Law_tag 0 = .ok (.aload_n 2, 1) := by decide +kernel
theorem d_Law_tag_1 : decode b_Law_tag 1 = .ok (.iconst 0, 1) := by decide +kernel
theorem d_Law_tag_2 : decode b_Law_tag 2 = .ok (.aload_n 0, 1) := by decide +kernel
theorem d_Law_tag_3 : decode b_Law_tag 3 = .ok (.iload_n 1, 1) := by decide +kernel
theorem d_Law_tag_4 : decode b_Law_tag 4 = .ok (.invokevirtual 38, 3) := by decide +kernel
theorem d_Law_tag_7 : decode b_Law_tag 7 = .ok (.lastore, 1) := by decide +kernel
theorem d_Law_tag_8 : decode b_Law_tag 8 = .ok (.goto 9, 3) := by decide +kernel
theorem d_Law_tag_11 : decode b_Law_tag 11 = .ok (.astore_n 3, 1) := by decide +kernel
theorem d_Law_tag_12 : decode b_Law_tag 12 = .ok (.iconst 1, 1) := by decide +kernel
theorem d_Law_tag_13 : decode b_Law_tag 13 = .ok (.ireturn, 1) := by decide +kernel
theorem d_Law_tag_14 : decode b_Law_tag 14 = .ok (.astore_n 3, 1) := by decide +kernel
theorem d_Law_tag_15 : decode b_Law_tag 15 = .ok (.iconst 2, 1) := by decide +kernel
theorem d_Law_tag_16 : decode b_Law_tag 16 = .ok (.ireturn, 1) := by decide +kernel
theorem d_Law_tag_17 : decode b_Law_tag 17 = .ok (.iconst 0, 1) := by decide +kernel
theorem d_Law_tag_18 : decode b_Law_tag 18 = .ok (.ireturn, 1) := by decide +kernel
def y_Law_read : MethodName := ⟨"SyntaxForgeLaw", "read", "(LSyntaxForge;[J)I"⟩
abbrev b_Law_read : ByteArray := method_5_code
abbrev cd_Law_read : Cond := .codeWith y_Law_read b_Law_read 3 (some .int) [(0, 8, 11, 25), (0, 8, 14, 27)]
abbrev ws_Law_read : List Cond := cd_Law_read :: tw_tbl
theorem k_Law_read : cd_Law_read ∈ tw_tbl := tw_t3 (List.mem_of_getElem? (i := 154) rfl) rfl
theorem d_Law_read_0 : decode b_Law_read 0 = .ok (.aload_n 1, 1) := by decide +kernel
theorem d_Law_read_1 : decode b_Law_read 1 = .ok (.iconst 0, 1) := by decide +kernel
theorem d_Law_read_2 : decode b_Law_read 2 = .ok (.aload_n 0, 1) := by decide +kernel
theorem d_Law_read_3 : decode b_Law_read 3 = .ok (.invokevirtual 21, 3) := by decide +kernel
theorem d_Law_read_6 : decode b_Law_read 6 = .ok (.i2l, 1) := by decide +kernel
theorem d_Law_read_7 : decode b_Law_read 7 = .ok (.lastore, 1) := by decide +kernel
theorem d_Law_read_8 : decode b_Law_read 8 = .ok (.goto 9, 3) := by decide +kernel
theorem d_Law_read_11 : decode b_Law_read 11 = .ok (.astore_n 2, 1) := by decide +kernel
theorem d_Law_read_12 : decode b_Law_read 12 = .ok (.iconst 1, 1) := by decide +kernel
theorem d_Law_read_13 : decode b_Law_read 13 = .ok (.ireturn, 1) := by decide +kernel
theorem d_Law_read_14 : decode b_Law_read 14 = .ok (.astore_n 2, 1) := by decide +kernel
theorem d_Law_read_15 : decode b_Law_read 15 = .ok (.iconst 2, 1) := by decide +kernel
theorem d_Law_read_16 : decode b_Law_read 16 = .ok (.ireturn, 1) := by decide +kernel
theorem d_Law_read_17 : decode b_Law_read 17 = .ok (.iconst 0, 1) := by decide +kernel
theorem d_Law_read_18 : decode b_Law_read 18 = .ok (.ireturn, 1) := by decide +kernel
set_option maxHeartbeats 4000000 in
set_option maxRecDepth 100000 in
theorem c_Law_feed (l : Launch) (dC : Nat → ClassId) (dI : Nat → Nat → Nat) (sz : Nat) (x0 : Nat) (tp : Nat) (tk : Nat) (rs : Nat) (ou : Nat) (sc0 : Nat) (h0 : Nat) (sn0 : Nat) (pa0 : Nat) (vl : Nat) (de : Nat) (br : Nat) (pw : Nat) (pr : Nat) (tpa : Nat) (ctp : ClassId) (z1 : Int32) (z2 : Int32) (z3 : Int32) (z4 : Int32) (z5 : Int32) (oq : Nat) (coq : ClassId) (f0 : Nat → Int64) : Met l y_Law_feed ws_Law_feed ({ frames := 3, cells := 0, slots := 0, locals := 67 }) (va_Pc [.ref x0, .int z1, .int z2, .int z3, .int z4, .int z5, .ref oq] (fun U => U.heap.size = sz ∧ va_P (dC, dI) classes [(x0, .inr (10, [.ref tp, .ref tk, .ref rs, .ref ou, .int 0, .ref sc0, .ref h0, .ref sn0, .ref pa0, .ref vl, .ref de, .ref br, .ref pw, .ref pr])), (tp, .inr (0, [.ref tpa, .int 0])), (tpa, .inl (ctp, 256, .inl ((fun _ => 0)))), (oq, .inl (coq, 1, .inr (.inl f0)))] U.heap ∧ va_K (dC, dI) classes [(ctp, .byte), (coq, .long)] U ∧ va_D (fun _ => True) [(x0, .inr (10, [.ref tp, .ref tk, .ref rs, .ref ou, .int 0, .ref sc0, .ref h0, .ref sn0, .ref pa0, .ref vl, .ref de, .ref br, .ref pw, .ref pr])), (tp, .inr (0, [.ref tpa, .int 0])), (tpa, .inl (ctp, 256, .inl ((fun _ => 0)))), (oq, .inl (coq, 1, .inr (.inl f0)))])) (va_Qi (fun (r : Int32) (_ : Unit) => r = 0) (fun _ t => ∃ (g9 : Nat → Int64), g9 0 = (nI 20 : Int32).toInt64 ∧ va_P (dC, dI) classes [(oq, .inl (coq, 1, .inr (.inl g9)))] t.heap ∧ va_K (dC, dI) classes [(coq, .long)] t ∧ va_D (va_A [(x0, .inr (10, [.ref tp, .ref tk, .ref rs, .ref ou, .int 0, .ref sc0, .ref h0, .ref sn0, .ref pa0, .ref vl, .ref de, .ref br, .ref pw, .ref pr])), (tp, .inr (0, [.ref tpa, .int 0])), (tpa, .inl (ctp, 256, .inl ((fun _ => 0)))), (oq, .inl (coq, 1, .inr (.inl f0)))] sz) [(oq, .inl (coq, 1, .inr (.inl g9)))]) (va_A [(x0, .inr (10, [.ref tp, .ref tk, .ref rs, .ref ou, .int 0, .ref sc0, .ref h0, .ref sn0, .ref pa0, .ref vl, .ref de, .ref br, .ref pw, .ref pr])), (tp, .inr (0, [.ref tpa, .int 0])), (tpa, .inl (ctp, 256, .inl ((fun _ => 0)))), (oq, .inl (coq, 1, .inr (.inl f0)))] sz)) 0 0 (va_A [(x0, .inr (10, [.ref tp, .ref tk, .ref rs, .ref ou, .int 0, .ref sc0, .ref h0, .ref sn0, .ref pa0, .ref vl, .ref de, .ref br, .ref pw, .ref pr])), (tp, .inr (0, [.ref tpa, .int 0])), (tpa, .inl (ctp, 256, .inl ((fun _ => 0)))), (oq, .inl (coq, 1, .inr (.inl f0)))] sz) := by
  refine va_MetW (cc := b_Law_feed) (maxL := 8) (ret := (some .int)) (hh := [(0, 16, 19, 13)]) (by decide) rfl ?_
  intro p e s m args below meth c s₁ B hml hv
  obtain ⟨rfl, hsz, hP, hK, hD0⟩ := hv
  have hx := B.exec
  have hb := B.bytes
  have hr := B.returns
  have hts := atoms_spec (ws := ws_Law_feed) B.pre
  have htw : ∀ w ∈ tw_tbl, w.before [.ref x0, .int z1, .int z2, .int z3, .int z4, .int z5, .ref oq].toArray s = true := fun w h => hts w (List.mem_cons_of_mem _ h)
  have hown : s.vm.findClass R_Law = some m.cls := findClass_of_methodNamed B.named
  have hlocks := B.notSynchronized
  have hin : meth.name = "feed" := (name_of_methodNamed B.named B.method).1
  subst hsz
  have hD := hD0.self (sz := s.heap.size)
  generalize hAe : va_A [(x0, .inr (10, [.ref tp, .ref tk, .ref rs, .ref ou, .int 0, .ref sc0, .ref h0, .ref sn0, .ref pa0, .ref vl, .ref de, .ref br, .ref pw, .ref pr])), (tp, .inr (0, [.ref tpa, .int 0])), (tpa, .inl (ctp, 256, .inl ((fun _ => 0)))), (oq, .inl (coq, 1, .inr (.inl f0)))] s.heap.size = A at hD ⊢
  have hA : ∀ q : Nat, s.heap.size ≤ q → A q := fun q h => by rw [← hAe]; exact Or.inr h
  have hS : va_S A s.heap s.heap [] := va_S.rf
  have hP : va_P (dC, dI) classes [(x0, .inr (10, [.ref tp, .ref tk, .ref rs, .ref ou, .int 0, .ref sc0, .ref h0, .ref sn0, .ref pa0, .ref vl, .ref de, .ref br, .ref pw, .ref pr])), (tp, .inr (0, [.ref tpa, .int 0])), (tpa, .inl (ctp, 256, .inl ((fun _ => 0)))), (oq, .inl (coq, 1, .inr (.inl f0)))] s.heap := hP
  have hl := lv_entry ([.ref x0, .int z1, .int z2, .int z3, .int z4, .int z5, .ref oq]) (n := 8) (Nat.le_of_ble_eq_true rfl)
  rw [lg_entry_eq]
  generalize (lg_sl ([.ref x0, .int z1, .int z2, .int z3, .int z4, .int z5, .ref oq]) ++ List.replicate (8 - (lg_sl ([.ref x0, .int z1, .int z2, .int z3, .int z4, .int z5, .ref oq])).length) Slot.unset).toArray = ls at hl ⊢
  have hl : lv_has ls 8 [(0, .ref x0), (1, .int z1), (2, .int z2), (3, .int z3), (4, .int z4), (5, .int z5), (6, .ref oq)] := hl
  refine lv_aload hx hb d_Law_feed_0 (lv_at hl 6 rfl) ?_
  refine lv_iconst (v := 0) hx hb d_Law_feed_2 (by decide) ?_
  refine lv_aload_n hx hb d_Law_feed_3 rfl (lv_at hl 0 rfl) ?_
  refine lv_iload_n hx hb d_Law_feed_4 rfl (lv_at hl 1 rfl) ?_
  refine lv_iload_n hx hb d_Law_feed_5 rfl (lv_at hl 2 rfl) ?_
  refine lv_iload_n hx hb d_Law_feed_6 rfl (lv_at hl 3 rfl) ?_
  refine lv_iload hx hb d_Law_feed_7 (lv_at hl 4 rfl) ?_
  refine lv_iload hx hb d_Law_feed_9 (lv_at hl 5 rfl) ?_
  have hc0 : 0 + 0 ≤ 0 := by omega
  have hs0 : 0 + 0 ≤ 0 := by omega
  have hPc := hP.sub (ws' := [(x0, .inr (10, [.ref tp, .ref tk, .ref rs, .ref ou, .int 0, .ref sc0, .ref h0, .ref sn0, .ref pa0, .ref vl, .ref de, .ref br, .ref pw, .ref pr])), (tp, .inr (0, [.ref tpa, .int 0])), (tpa, .inl (ctp, 256, .inl ((fun _ => 0))))]) [0, 1, 2] rfl
  have hDc := hD.sub (ws' := [(x0, .inr (10, [.ref tp, .ref tk, .ref rs, .ref ou, .int 0, .ref sc0, .ref h0, .ref sn0, .ref pa0, .ref vl, .ref de, .ref br, .ref pw, .ref pr])), (tp, .inr (0, [.ref tpa, .int 0])), (tpa, .inl (ctp, 256, .inl ((fun _ => 0))))]) [0, 1, 2] (by decide) rfl
  have hKc := hK.sub (tys' := [(ctp, .byte)]) [0] rfl
  have hFc := va_free (wc := [(x0, .inr (10, [.ref tp, .ref tk, .ref rs, .ref ou, .int 0, .ref sc0, .ref h0, .ref sn0, .ref pa0, .ref vl, .ref de, .ref br, .ref pw, .ref pr])), (tp, .inr (0, [.ref tpa, .int 0])), (tpa, .inl (ctp, 256, .inl ((fun _ => 0))))]) hD hS hA [0, 1, 2] rfl
  refine va_calli (va_runV (As := [.int z1, .int z2, .int z3, .int z4, .int z5]) (rest := [.int 0, .ref oq]) ⟨hx, hb, hml, hown, htw⟩ (c_SF_feed l dC dI s.heap.size x0 tp tk rs ou sc0 h0 sn0 pa0 vl de br pw pr tpa ctp z1 z2 z3 z4 z5) (cwV 5 htw (tw_V wd_3_53 wd_3_54 wd_3_55 wd_1_1 k_SF_feed) rfl rfl rfl (by decide +kernel) ⟨Nat.le_of_ble_eq_true rfl, Nat.le_of_ble_eq_true rfl⟩) ⟨fun a U g mk q => by obtain ⟨q0, q1, qP, qK, qD⟩ := q; exact ⟨q0, q1, qP, va_K.moved (u := U) (U := U.calling g mk a) (Vm.Alike.refl U.vm) qK, qD⟩, va_recv hK hP (q := (R_SF, F_SF, 14)) (ci := 10) (q0 := 0) rfl rfl, fun U hU hW => ⟨rfl, by rw [hU], by rw [hU]; exact hPc, va_K.moved hW.alike hKc, hDc.weaken (fun _ _ _ _ => trivial)⟩⟩ rfl rfl hl.1 rfl (lv_room (Nat.le_of_ble_eq_true rfl)) d_Law_feed_11 ⟨hc0, hs0⟩) hS (fun q _ h => hFc q h) hFc (fun r1 u t H1 locs ht hvm hw hB hz1 hk1 hS => ?_)
  obtain ⟨g2_2, hP1, hK1, hD1⟩ := hB
  rw [ht] at hP1
  have hK1 := va_K.moved hvm.symm hK1
  obtain ⟨hP, hD⟩ := va_join (wr := [(oq, .inl (coq, 1, .inr (.inl f0)))]) (w1 := [(x0, .inr (10, [.ref tp, .ref tk, .ref rs, .ref ou, .int 0, .ref sc0, .ref h0, .ref sn0, .ref pa0, .ref vl, .ref de, .ref br, .ref pw, .ref pr])), (tp, .inr (0, [.ref tpa, .int (nI 20)])), (tpa, .inl (ctp, 256, .inl g2_2))]) hP hD [0, 1, 2] [3] rfl rfl (by decide) (by decide) hk1 hFc hP1 hD1
  have hK := (hK.sub (tys' := [(coq, .long)]) [1] rfl).app hK1
  generalize H1 = H at hP hS ⊢
  have hP : va_P (dC, dI) classes [(oq, .inl (coq, 1, .inr (.inl f0))), (x0, .inr (10, [.ref tp, .ref tk, .ref rs, .ref ou, .int 0, .ref sc0, .ref h0, .ref sn0, .ref pa0, .ref vl, .ref de, .ref br, .ref pw, .ref pr])), (tp, .inr (0, [.ref tpa, .int (nI 20)])), (tpa, .inl (ctp, 256, .inl g2_2))] H := hP
  have hD : va_D A [(oq, .inl (coq, 1, .inr (.inl f0))), (x0, .inr (10, [.ref tp, .ref tk, .ref rs, .ref ou, .int 0, .ref sc0, .ref h0, .ref sn0, .ref pa0, .ref vl, .ref de, .ref br, .ref pw, .ref pr])), (tp, .inr (0, [.ref tpa, .int (nI 20)])), (tpa, .inl (ctp, 256, .inl g2_2))] := hD
  have hK : va_K (dC, dI) classes [(coq, .long), (ctp, .byte)] s := hK
  subst hw
  refine lv_i2l hx hb d_Law_feed_14 rfl ?_
  refine va_last hx hb hK hP hD hS 0 0 rfl rfl (by unfold vp_in; decide) d_Law_feed_15 (fun H locs hP hD hS => ?_)
  have hP : va_P (dC, dI) classes [(oq, .inl (coq, 1, .inr (.inl (vp_updL f0 (0 : Int32).toNatClampNeg (((nI 20) : Int32).toInt64))))), (x0, .inr (10, [.ref tp, .ref tk, .ref rs, .ref ou, .int 0, .ref sc0, .ref h0, .ref sn0, .ref pa0, .ref vl, .ref de, .ref br, .ref pw, .ref pr])), (tp, .inr (0, [.ref tpa, .int (nI 20)])), (tpa, .inl (ctp, 256, .inl g2_2))] H := hP
  have hD : va_D A [(oq, .inl (coq, 1, .inr (.inl (vp_updL f0 (0 : Int32).toNatClampNeg (((nI 20) : Int32).toInt64))))), (x0, .inr (10, [.ref tp, .ref tk, .ref rs, .ref ou, .int 0, .ref sc0, .ref h0, .ref sn0, .ref pa0, .ref vl, .ref de, .ref br, .ref pw, .ref pr])), (tp, .inr (0, [.ref tpa, .int (nI 20)])), (tpa, .inl (ctp, 256, .inl g2_2))] := hD
  refine lv_goto (tgt := 23) hx hb d_Law_feed_16 rfl ?_
  refine lv_iconst (v := 0) hx hb d_Law_feed_23 (by decide) ?_
  have hP9 := hP.sub (ws' := [(oq, .inl (coq, 1, .inr (.inl (vp_updL f0 (0 : Int32).toNatClampNeg (((nI 20) : Int32).toInt64)))))]) [0] rfl
  have hD9 := hD.sub (ws' := [(oq, .inl (coq, 1, .inr (.inl (vp_updL f0 (0 : Int32).toNatClampNeg (((nI 20) : Int32).toInt64)))))]) [0] (by decide) rfl
  have hK9 := hK.sub (tys' := [(coq, .long)]) [0] rfl
  refine W.widen (k := 0) (n := 0) (by omega) (by omega) ?_
  exact W.iret (v := 0) hx hb hr (fun t ht hW => ⟨⟨0, (), rfl, rfl, (vp_updL f0 (0 : Int32).toNatClampNeg (((nI 20) : Int32).toInt64)), rfl, by rw [ht]; exact hP9, va_K.moved hW.alike hK9, hD9⟩, hS.F ht⟩) hS.2.2 d_Law_feed_24
set_option maxHeartbeats 4000000 in
set_option maxRecDepth 100000 in
theorem c_Law_end (l : Launch) (dC : Nat → ClassId) (dI : Nat → Nat → Nat) (sz : Nat) (x0 : Nat) (tp : Nat) (tk : Nat) (rs : Nat) (ou : Nat) (sc0 : Nat) (h0 : Nat) (sn0 : Nat) (pa0 : Nat) (vl : Nat) (de : Nat) (br : Nat) (pw : Nat) (pr : Nat) (tpa : Nat) (ctp : ClassId) (oq : Nat) (coq : ClassId) (f0 : Nat → Int64) : Met l y_Law_end ws_Law_end ({ frames := 1, cells := 0, slots := 0, locals := 21 }) (va_Pc [.ref x0, .int 0, .ref oq] (fun U => U.heap.size = sz ∧ va_P (dC, dI) classes [(x0, .inr (10, [.ref tp, .ref tk, .ref rs, .ref ou, .int 0, .ref sc0, .ref h0, .ref sn0, .ref pa0, .ref vl, .ref de, .ref br, .ref pw, .ref pr])), (tp, .inr (0, [.ref tpa, .int 0])), (tpa, .inl (ctp, 256, .inl ((fun _ => 0)))), (oq, .inl (coq, 1, .inr (.inl f0)))] U.heap ∧ va_K (dC, dI) classes [(ctp, .byte), (coq, .long)] U ∧ va_D (fun _ => True) [(x0, .inr (10, [.ref tp, .ref tk, .ref rs, .ref ou, .int 0, .ref sc0, .ref h0, .ref sn0, .ref pa0, .ref vl, .ref de, .ref br, .ref pw, .ref pr])), (tp, .inr (0, [.ref tpa, .int 0])), (tpa, .inl (ctp, 256, .inl ((fun _ => 0)))), (oq, .inl (coq, 1, .inr (.inl f0)))])) (va_Qi (fun (r : Int32) (_ : Unit) => r = 0) (fun _ t => ∃ (g9 : Nat → Int64), g9 0 = (0 : Int32).toInt64 ∧ va_P (dC, dI) classes [(oq, .inl (coq, 1, .inr (.inl g9)))] t.heap ∧ va_K (dC, dI) classes [(coq, .long)] t ∧ va_D (va_A [(x0, .inr (10, [.ref tp, .ref tk, .ref rs, .ref ou, .int 0, .ref sc0, .ref h0, .ref sn0, .ref pa0, .ref vl, .ref de, .ref br, .ref pw, .ref pr])), (tp, .inr (0, [.ref tpa, .int 0])), (tpa, .inl (ctp, 256, .inl ((fun _ => 0)))), (oq, .inl (coq, 1, .inr (.inl f0)))] sz) [(oq, .inl (coq, 1, .inr (.inl g9)))]) (va_A [(x0, .inr (10, [.ref tp, .ref tk, .ref rs, .ref ou, .int 0, .ref sc0, .ref h0, .ref sn0, .ref pa0, .ref vl, .ref de, .ref br, .ref pw, .ref pr])), (tp, .inr (0, [.ref tpa, .int 0])), (tpa, .inl (ctp, 256, .inl ((fun _ => 0)))), (oq, .inl (coq, 1, .inr (.inl f0)))] sz)) 0 0 (va_A [(x0, .inr (10, [.ref tp, .ref tk, .ref rs, .ref ou, .int 0, .ref sc0, .ref h0, .ref sn0, .ref pa0, .ref vl, .ref de, .ref br, .ref pw, .ref pr])), (tp, .inr (0, [.ref tpa, .int 0])), (tpa, .inl (ctp, 256, .inl ((fun _ => 0)))), (oq, .inl (coq, 1, .inr (.inl f0)))] sz) := by
  refine va_MetW (cc := b_Law_end) (maxL := 4) (ret := (some .int)) (hh := [(0, 9, 12, 19)]) (by decide) rfl ?_
  intro p e s m args below meth c s₁ B hml hv
  obtain ⟨rfl, hsz, hP, hK, hD0⟩ := hv
  have hx := B.exec
  have hb := B.bytes
  have hr := B.returns
  have hts := atoms_spec (ws := ws_Law_end) B.pre
  have htw : ∀ w ∈ tw_tbl, w.before [.ref x0, .int 0, .ref oq].toArray s = true := fun w h => hts w (List.mem_cons_of_mem _ h)
  have hown : s.vm.findClass R_Law = some m.cls := findClass_of_methodNamed B.named
  have hlocks := B.notSynchronized
  have hin : meth.name = "end" := (name_of_methodNamed B.named B.method).1
  subst hsz
  have hD := hD0.self (sz := s.heap.size)
  generalize hAe : va_A [(x0, .inr (10, [.ref tp, .ref tk, .ref rs, .ref ou, .int 0, .ref sc0, .ref h0, .ref sn0, .ref pa0, .ref vl, .ref de, .ref br, .ref pw, .ref pr])), (tp, .inr (0, [.ref tpa, .int 0])), (tpa, .inl (ctp, 256, .inl ((fun _ => 0)))), (oq, .inl (coq, 1, .inr (.inl f0)))] s.heap.size = A at hD ⊢
  have hA : ∀ q : Nat, s.heap.size ≤ q → A q := fun q h => by rw [← hAe]; exact Or.inr h
  have hS : va_S A s.heap s.heap [] := va_S.rf
  have hP : va_P (dC, dI) classes [(x0, .inr (10, [.ref tp, .ref tk, .ref rs, .ref ou, .int 0, .ref sc0, .ref h0, .ref sn0, .ref pa0, .ref vl, .ref de, .ref br, .ref pw, .ref pr])), (tp, .inr (0, [.ref tpa, .int 0])), (tpa, .inl (ctp, 256, .inl ((fun _ => 0)))), (oq, .inl (coq, 1, .inr (.inl f0)))] s.heap := hP
  have hl := lv_entry ([.ref x0, .int 0, .ref oq]) (n := 4) (Nat.le_of_ble_eq_true rfl)
  rw [lg_entry_eq]
  generalize (lg_sl ([.ref x0, .int 0, .ref oq]) ++ List.replicate (4 - (lg_sl ([.ref x0, .int 0, .ref oq])).length) Slot.unset).toArray = ls at hl ⊢
  have hl : lv_has ls 4 [(0, .ref x0), (1, .int 0), (2, .ref oq)] := hl
  refine lv_aload_n hx hb d_Law_end_0 rfl (lv_at hl 2 rfl) ?_
  refine lv_iconst (v := 0) hx hb d_Law_end_1 (by decide) ?_
  refine lv_aload_n hx hb d_Law_end_2 rfl (lv_at hl 0 rfl) ?_
  refine lv_iload_n hx hb d_Law_end_3 rfl (lv_at hl 1 rfl) ?_
  have hc0 : 0 + 0 ≤ 0 := by omega
  have hs0 : 0 + 0 ≤ 0 := by omega
  have hPc := hP.sub (ws' := [(x0, .inr (10, [.ref tp, .ref tk, .ref rs, .ref ou, .int 0, .ref sc0, .ref h0, .ref sn0, .ref pa0, .ref vl, .ref de, .ref br, .ref pw, .ref pr])), (tp, .inr (0, [.ref tpa, .int 0])), (tpa, .inl (ctp, 256, .inl ((fun _ => 0))))]) [0, 1, 2] rfl
  have hDc := hD.sub (ws' := [(x0, .inr (10, [.ref tp, .ref tk, .ref rs, .ref ou, .int 0, .ref sc0, .ref h0, .ref sn0, .ref pa0, .ref vl, .ref de, .ref br, .ref pw, .ref pr])), (tp, .inr (0, [.ref tpa, .int 0])), (tpa, .inl (ctp, 256, .inl ((fun _ => 0))))]) [0, 1, 2] (by decide) rfl
  have hKc := hK.sub (tys' := [(ctp, .byte)]) [0] rfl
  have hFc := va_free (wc := [(x0, .inr (10, [.ref tp, .ref tk, .ref rs, .ref ou, .int 0, .ref sc0, .ref h0, .ref sn0, .ref pa0, .ref vl, .ref de, .ref br, .ref pw, .ref pr])), (tp, .inr (0, [.ref tpa, .int 0])), (tpa, .inl (ctp, 256, .inl ((fun _ => 0))))]) hD hS hA [0, 1, 2] rfl
  refine va_calli (va_runV (As := [.int 0]) (rest := [.int 0, .ref oq]) ⟨hx, hb, hml, hown, htw⟩ (c_SF_end l dC dI s.heap.size x0 tp tk rs ou sc0 h0 sn0 pa0 vl de br pw pr tpa ctp) (cwV 1 htw (tw_V wd_3_133 wd_3_134 wd_3_135 wd_1_1 k_SF_end) rfl rfl rfl (by decide +kernel) ⟨Nat.le_of_ble_eq_true rfl, Nat.le_of_ble_eq_true rfl⟩) ⟨fun a U g mk q => by obtain ⟨q0, q1, qP, qK, qD⟩ := q; exact ⟨q0, q1, qP, va_K.moved (u := U) (U := U.calling g mk a) (Vm.Alike.refl U.vm) qK, qD⟩, va_recv hK hP (q := (R_SF, F_SF, 14)) (ci := 10) (q0 := 0) rfl rfl, fun U hU hW => ⟨rfl, by rw [hU], by rw [hU]; exact hPc, va_K.moved hW.alike hKc, hDc.weaken (fun _ _ _ _ => trivial)⟩⟩ rfl rfl hl.1 rfl (lv_room (Nat.le_of_ble_eq_true rfl)) d_Law_end_4 ⟨hc0, hs0⟩) hS (fun q _ h => hFc q h) hFc (fun r1 u t H1 locs ht hvm hw hB hz1 hk1 hS => ?_)
  obtain ⟨hP1, hK1, hD1⟩ := hB
  rw [ht] at hP1
  have hK1 := va_K.moved hvm.symm hK1
  obtain ⟨hP, hD⟩ := va_join (wr := [(oq, .inl (coq, 1, .inr (.inl f0)))]) (w1 := [(x0, .inr (10, [.ref tp, .ref tk, .ref rs, .ref ou, .int 0, .ref sc0, .ref h0, .ref sn0, .ref pa0, .ref vl, .ref de, .ref br, .ref pw, .ref pr])), (tp, .inr (0, [.ref tpa, .int 0])), (tpa, .inl (ctp, 256, .inl (fun _ => 0)))]) hP hD [0, 1, 2] [3] rfl rfl (by decide) (by decide) hk1 hFc hP1 hD1
  have hK := (hK.sub (tys' := [(coq, .long)]) [1] rfl).app hK1
  generalize H1 = H at hP hS ⊢
  have hP : va_P (dC, dI) classes [(oq, .inl (coq, 1, .inr (.inl f0))), (x0, .inr (10, [.ref tp, .ref tk, .ref rs, .ref ou, .int 0, .ref sc0, .ref h0, .ref sn0, .ref pa0, .ref vl, .ref de, .ref br, .ref pw, .ref pr])), (tp, .inr (0, [.ref tpa, .int 0])), (tpa, .inl (ctp, 256, .inl (fun _ => 0)))] H := hP
  have hD : va_D A [(oq, .inl (coq, 1, .inr (.inl f0))), (x0, .inr (10, [.ref tp, .ref tk, .ref rs, .ref ou, .int 0, .ref sc0, .ref h0, .ref sn0, .ref pa0, .ref vl, .ref de, .ref br, .ref pw, .ref pr])), (tp, .inr (0, [.ref tpa, .int 0])), (tpa, .inl (ctp, 256, .inl (fun _ => 0)))] := hD
  have hK : va_K (dC, dI) classes [(coq, .long), (ctp, .byte)] s := hK
  subst hw
  refine lv_i2l hx hb d_Law_end_7 rfl ?_
  refine va_last hx hb hK hP hD hS 0 0 rfl rfl (by unfold vp_in; decide) d_Law_end_8 (fun H locs hP hD hS => ?_)
  have hP : va_P (dC, dI) classes [(oq, .inl (coq, 1, .inr (.inl (vp_updL f0 (0 : Int32).toNatClampNeg ((0 : Int32).toInt64))))), (x0, .inr (10, [.ref tp, .ref tk, .ref rs, .ref ou, .int 0, .ref sc0, .ref h0, .ref sn0, .ref pa0, .ref vl, .ref de, .ref br, .ref pw, .ref pr])), (tp, .inr (0, [.ref tpa, .int 0])), (tpa, .inl (ctp, 256, .inl (fun _ => 0)))] H := hP
  have hD : va_D A [(oq, .inl (coq, 1, .inr (.inl (vp_updL f0 (0 : Int32).toNatClampNeg ((0 : Int32).toInt64))))), (x0, .inr (10, [.ref tp, .ref tk, .ref rs, .ref ou, .int 0, .ref sc0, .ref h0, .ref sn0, .ref pa0, .ref vl, .ref de, .ref br, .ref pw, .ref pr])), (tp, .inr (0, [.ref tpa, .int 0])), (tpa, .inl (ctp, 256, .inl (fun _ => 0)))] := hD
  refine lv_goto (tgt := 15) hx hb d_Law_end_9 rfl ?_
  refine lv_iconst (v := 0) hx hb d_Law_end_15 (by decide) ?_
  have hP9 := hP.sub (ws' := [(oq, .inl (coq, 1, .inr (.inl (vp_updL f0 (0 : Int32).toNatClampNeg ((0 : Int32).toInt64)))))]) [0] rfl
  have hD9 := hD.sub (ws' := [(oq, .inl (coq, 1, .inr (.inl (vp_updL f0 (0 : Int32).toNatClampNeg ((0 : Int32).toInt64)))))]) [0] (by decide) rfl
  have hK9 := hK.sub (tys' := [(coq, .long)]) [0] rfl
  refine W.widen (k := 0) (n := 0) (by omega) (by omega) ?_
  exact W.iret (v := 0) hx hb hr (fun t ht hW => ⟨⟨0, (), rfl, rfl, (vp_updL f0 (0 : Int32).toNatClampNeg ((0 : Int32).toInt64)), rfl, by rw [ht]; exact hP9, va_K.moved hW.alike hK9, hD9⟩, hS.F ht⟩) hS.2.2 d_Law_end_16
set_option maxHeartbeats 4000000 in
set_option maxRecDepth 100000 in
theorem c_Law_count (l : Launch) (dC : Nat → ClassId) (dI : Nat → Nat → Nat) (sz : Nat) (x0 : Nat) (tp : Nat) (tk : Nat) (rs : Nat) (ou : Nat) (sc0 : Nat) (h0 : Nat) (sn0 : Nat) (pa0 : Nat) (vl : Nat) (de : Nat) (br : Nat) (pw : Nat) (pr : Nat) (tpa : Nat) (rsa : Nat) (kk1 : Nat) (kk2 : Nat) (kk3 : Nat) (oq : Nat) (coq : ClassId) (f0 : Nat → Int64) : Met l y_Law_count ws_Law_count ({ frames := 1, cells := 0, slots := 0, locals := 21 }) (va_Pc [.ref x0, .int 0, .ref oq] (fun U => U.heap.size = sz ∧ va_P (dC, dI) classes [(x0, .inr (10, [.ref tp, .ref tk, .ref rs, .ref ou, .int 0, .ref sc0, .ref h0, .ref sn0, .ref pa0, .ref vl, .ref de, .ref br, .ref pw, .ref pr])), (tp, .inr (0, [.ref tpa, .int 0])), (rs, .inr (0, [.ref rsa, .int 0])), (sn0, .inr (4, [.ref kk1, .ref kk2, .ref kk3, .int 0, .int ((-1)), .null, .null, .int 0])), (oq, .inl (coq, 1, .inr (.inl f0)))] U.heap ∧ va_K (dC, dI) classes [(coq, .long)] U ∧ va_D (fun _ => True) [(x0, .inr (10, [.ref tp, .ref tk, .ref rs, .ref ou, .int 0, .ref sc0, .ref h0, .ref sn0, .ref pa0, .ref vl, .ref de, .ref br, .ref pw, .ref pr])), (tp, .inr (0, [.ref tpa, .int 0])), (rs, .inr (0, [.ref rsa, .int 0])), (sn0, .inr (4, [.ref kk1, .ref kk2, .ref kk3, .int 0, .int ((-1)), .null, .null, .int 0])), (oq, .inl (coq, 1, .inr (.inl f0)))])) (va_Qi (fun (r : Int32) (_ : Unit) => r = 0) (fun _ t => ∃ (g9 : Nat → Int64), g9 0 = (0 : Int32).toInt64 ∧ va_P (dC, dI) classes [(oq, .inl (coq, 1, .inr (.inl g9)))] t.heap ∧ va_K (dC, dI) classes [(coq, .long)] t ∧ va_D (va_A [(x0, .inr (10, [.ref tp, .ref tk, .ref rs, .ref ou, .int 0, .ref sc0, .ref h0, .ref sn0, .ref pa0, .ref vl, .ref de, .ref br, .ref pw, .ref pr])), (tp, .inr (0, [.ref tpa, .int 0])), (rs, .inr (0, [.ref rsa, .int 0])), (sn0, .inr (4, [.ref kk1, .ref kk2, .ref kk3, .int 0, .int ((-1)), .null, .null, .int 0])), (oq, .inl (coq, 1, .inr (.inl f0)))] sz) [(oq, .inl (coq, 1, .inr (.inl g9)))]) (va_A [(x0, .inr (10, [.ref tp, .ref tk, .ref rs, .ref ou, .int 0, .ref sc0, .ref h0, .ref sn0, .ref pa0, .ref vl, .ref de, .ref br, .ref pw, .ref pr])), (tp, .inr (0, [.ref tpa, .int 0])), (rs, .inr (0, [.ref rsa, .int 0])), (sn0, .inr (4, [.ref kk1, .ref kk2, .ref kk3, .int 0, .int ((-1)), .null, .null, .int 0])), (oq, .inl (coq, 1, .inr (.inl f0)))] sz)) 0 0 (va_A [(x0, .inr (10, [.ref tp, .ref tk, .ref rs, .ref ou, .int 0, .ref sc0, .ref h0, .ref sn0, .ref pa0, .ref vl, .ref de, .ref br, .ref pw, .ref pr])), (tp, .inr (0, [.ref tpa, .int 0])), (rs, .inr (0, [.ref rsa, .int 0])), (sn0, .inr (4, [.ref kk1, .ref kk2, .ref kk3, .int 0, .int ((-1)), .null, .null, .int 0])), (oq, .inl (coq, 1, .inr (.inl f0)))] sz) := by
  refine va_MetW (cc := b_Law_count) (maxL := 4) (ret := (some .int)) (hh := [(0, 9, 12, 19)]) (by decide) rfl ?_
  intro p e s m args below meth c s₁ B hml hv
  obtain ⟨rfl, hsz, hP, hK, hD0⟩ := hv
  have hx := B.exec
  have hb := B.bytes
  have hr := B.returns
  have hts := atoms_spec (ws := ws_Law_count) B.pre
  have htw : ∀ w ∈ tw_tbl, w.before [.ref x0, .int 0, .ref oq].toArray s = true := fun w h => hts w (List.mem_cons_of_mem _ h)
  have hown : s.vm.findClass R_Law = some m.cls := findClass_of_methodNamed B.named
  have hlocks := B.notSynchronized
  have hin : meth.name = "count" := (name_of_methodNamed B.named B.method).1
  subst hsz
  have hD := hD0.self (sz := s.heap.size)
  generalize hAe : va_A [(x0, .inr (10, [.ref tp, .ref tk, .ref rs, .ref ou, .int 0, .ref sc0, .ref h0, .ref sn0, .ref pa0, .ref vl, .ref de, .ref br, .ref pw, .ref pr])), (tp, .inr (0, [.ref tpa, .int 0])), (rs, .inr (0, [.ref rsa, .int 0])), (sn0, .inr (4, [.ref kk1, .ref kk2, .ref kk3, .int 0, .int ((-1)), .null, .null, .int 0])), (oq, .inl (coq, 1, .inr (.inl f0)))] s.heap.size = A at hD ⊢
  have hA : ∀ q : Nat, s.heap.size ≤ q → A q := fun q h => by rw [← hAe]; exact Or.inr h
  have hS : va_S A s.heap s.heap [] := va_S.rf
  have hP : va_P (dC, dI) classes [(x0, .inr (10, [.ref tp, .ref tk, .ref rs, .ref ou, .int 0, .ref sc0, .ref h0, .ref sn0, .ref pa0, .ref vl, .ref de, .ref br, .ref pw, .ref pr])), (tp, .inr (0, [.ref tpa, .int 0])), (rs, .inr (0, [.ref rsa, .int 0])), (sn0, .inr (4, [.ref kk1, .ref kk2, .ref kk3, .int 0, .int ((-1)), .null, .null, .int 0])), (oq, .inl (coq, 1, .inr (.inl f0)))] s.heap := hP
  have hl := lv_entry ([.ref x0, .int 0, .ref oq]) (n := 4) (Nat.le_of_ble_eq_true rfl)
  rw [lg_entry_eq]
  generalize (lg_sl ([.ref x0, .int 0, .ref oq]) ++ List.replicate (4 - (lg_sl ([.ref x0, .int 0, .ref oq])).length) Slot.unset).toArray = ls at hl ⊢
  have hl : lv_has ls 4 [(0, .ref x0), (1, .int 0), (2, .ref oq)] := hl
  refine lv_aload_n hx hb d_Law_count_0 rfl (lv_at hl 2 rfl) ?_
  refine lv_iconst (v := 0) hx hb d_Law_count_1 (by decide) ?_
  refine lv_aload_n hx hb d_Law_count_2 rfl (lv_at hl 0 rfl) ?_
  refine lv_iload_n hx hb d_Law_count_3 rfl (lv_at hl 1 rfl) ?_
  have hc0 : 0 + 0 ≤ 0 := by omega
  have hs0 : 0 + 0 ≤ 0 := by omega
  have hPc := hP.sub (ws' := [(x0, .inr (10, [.ref tp, .ref tk, .ref rs, .ref ou, .int 0, .ref sc0, .ref h0, .ref sn0, .ref pa0, .ref vl, .ref de, .ref br, .ref pw, .ref pr])), (tp, .inr (0, [.ref tpa, .int 0])), (rs, .inr (0, [.ref rsa, .int 0])), (sn0, .inr (4, [.ref kk1, .ref kk2, .ref kk3, .int 0, .int ((-1)), .null, .null, .int 0]))]) [0, 1, 2, 3] rfl
  have hDc := hD.sub (ws' := [(x0, .inr (10, [.ref tp, .ref tk, .ref rs, .ref ou, .int 0, .ref sc0, .ref h0, .ref sn0, .ref pa0, .ref vl, .ref de, .ref br, .ref pw, .ref pr])), (tp, .inr (0, [.ref tpa, .int 0])), (rs, .inr (0, [.ref rsa, .int 0])), (sn0, .inr (4, [.ref kk1, .ref kk2, .ref kk3, .int 0, .int ((-1)), .null, .null, .int 0]))]) [0, 1, 2, 3] (by decide) rfl
  have hKc := hK.sub (tys' := []) [] rfl
  have hFc := va_free (wc := [(x0, .inr (10, [.ref tp, .ref tk, .ref rs, .ref ou, .int 0, .ref sc0, .ref h0, .ref sn0, .ref pa0, .ref vl, .ref de, .ref br, .ref pw, .ref pr])), (tp, .inr (0, [.ref tpa, .int 0])), (rs, .inr (0, [.ref rsa, .int 0])), (sn0, .inr (4, [.ref kk1, .ref kk2, .ref kk3, .int 0, .int ((-1)), .null, .null, .int 0]))]) hD hS hA [0, 1, 2, 3] rfl
  refine va_calli (va_runV (As := [.int 0]) (rest := [.int 0, .ref oq]) ⟨hx, hb, hml, hown, htw⟩ (c_SF_count l dC dI s.heap.size x0 tp tk rs ou sc0 h0 sn0 pa0 vl de br pw pr tpa rsa kk1 kk2 kk3) (cwV 1 htw (tw_V wd_9_210 wd_9_211 wd_9_212 wd_1_1 k_SF_count) rfl rfl rfl (by decide +kernel) ⟨Nat.le_of_ble_eq_true rfl, Nat.le_of_ble_eq_true rfl⟩) ⟨fun a U g mk q => by obtain ⟨q0, q1, qP, qK, qD⟩ := q; exact ⟨q0, q1, qP, va_K.moved (u := U) (U := U.calling g mk a) (Vm.Alike.refl U.vm) qK, qD⟩, va_recv hK hP (q := (R_SF, F_SF, 14)) (ci := 10) (q0 := 0) rfl rfl, fun U hU hW => ⟨rfl, by rw [hU], by rw [hU]; exact hPc, va_K.moved hW.alike hKc, hDc.weaken (fun _ _ _ _ => trivial)⟩⟩ rfl rfl hl.1 rfl (lv_room (Nat.le_of_ble_eq_true rfl)) d_Law_count_4 ⟨hc0, hs0⟩) hS (fun q _ h => hFc q h) hFc (fun r1 u t H1 locs ht hvm hw hB hz1 hk1 hS => ?_)
  obtain ⟨hP1, hK1, hD1⟩ := hB
  rw [ht] at hP1
  have hK1 := va_K.moved hvm.symm hK1
  obtain ⟨hP, hD⟩ := va_join (wr := [(oq, .inl (coq, 1, .inr (.inl f0)))]) (w1 := [(x0, .inr (10, [.ref tp, .ref tk, .ref rs, .ref ou, .int 0, .ref sc0, .ref h0, .ref sn0, .ref pa0, .ref vl, .ref de, .ref br, .ref pw, .ref pr])), (tp, .inr (0, [.ref tpa, .int 0])), (rs, .inr (0, [.ref rsa, .int 0])), (sn0, .inr (4, [.ref kk1, .ref kk2, .ref kk3, .int 0, .int ((-1)), .null, .null, .int 0]))]) hP hD [0, 1, 2, 3] [4] rfl rfl (by decide) (by decide) hk1 hFc hP1 hD1
  have hK := (hK.sub (tys' := [(coq, .long)]) [0] rfl).app hK1
  generalize H1 = H at hP hS ⊢
  have hP : va_P (dC, dI) classes [(oq, .inl (coq, 1, .inr (.inl f0))), (x0, .inr (10, [.ref tp, .ref tk, .ref rs, .ref ou, .int 0, .ref sc0, .ref h0, .ref sn0, .ref pa0, .ref vl, .ref de, .ref br, .ref pw, .ref pr])), (tp, .inr (0, [.ref tpa, .int 0])), (rs, .inr (0, [.ref rsa, .int 0])), (sn0, .inr (4, [.ref kk1, .ref kk2, .ref kk3, .int 0, .int ((-1)), .null, .null, .int 0]))] H := hP
  have hD : va_D A [(oq, .inl (coq, 1, .inr (.inl f0))), (x0, .inr (10, [.ref tp, .ref tk, .ref rs, .ref ou, .int 0, .ref sc0, .ref h0, .ref sn0, .ref pa0, .ref vl, .ref de, .ref br, .ref pw, .ref pr])), (tp, .inr (0, [.ref tpa, .int 0])), (rs, .inr (0, [.ref rsa, .int 0])), (sn0, .inr (4, [.ref kk1, .ref kk2, .ref kk3, .int 0, .int ((-1)), .null, .null, .int 0]))] := hD
  have hK : va_K (dC, dI) classes [(coq, .long)] s := hK
  subst hw
  refine lv_i2l hx hb d_Law_count_7 rfl ?_
  refine va_last hx hb hK hP hD hS 0 0 rfl rfl (by unfold vp_in; decide) d_Law_count_8 (fun H locs hP hD hS => ?_)
  have hP : va_P (dC, dI) classes [(oq, .inl (coq, 1, .inr (.inl (vp_updL f0 (0 : Int32).toNatClampNeg ((0 : Int32).toInt64))))), (x0, .inr (10, [.ref tp, .ref tk, .ref rs, .ref ou, .int 0, .ref sc0, .ref h0, .ref sn0, .ref pa0, .ref vl, .ref de, .ref br, .ref pw, .ref pr])), (tp, .inr (0, [.ref tpa, .int 0])), (rs, .inr (0, [.ref rsa, .int 0])), (sn0, .inr (4, [.ref kk1, .ref kk2, .ref kk3, .int 0, .int ((-1)), .null, .null, .int 0]))] H := hP
  have hD : va_D A [(oq, .inl (coq, 1, .inr (.inl (vp_updL f0 (0 : Int32).toNatClampNeg ((0 : Int32).toInt64))))), (x0, .inr (10, [.ref tp, .ref tk, .ref rs, .ref ou, .int 0, .ref sc0, .ref h0, .ref sn0, .ref pa0, .ref vl, .ref de, .ref br, .ref pw, .ref pr])), (tp, .inr (0, [.ref tpa, .int 0])), (rs, .inr (0, [.ref rsa, .int 0])), (sn0, .inr (4, [.ref kk1, .ref kk2, .ref kk3, .int 0, .int ((-1)), .null, .null, .int 0]))] := hD
  refine lv_goto (tgt := 15) hx hb d_Law_count_9 rfl ?_
  refine lv_iconst (v := 0) hx hb d_Law_count_15 (by decide) ?_
  have hP9 := hP.sub (ws' := [(oq, .inl (coq, 1, .inr (.inl (vp_updL f0 (0 : Int32).toNatClampNeg ((0 : Int32).toInt64)))))]) [0] rfl
  have hD9 := hD.sub (ws' := [(oq, .inl (coq, 1, .inr (.inl (vp_updL f0 (0 : Int32).toNatClampNeg ((0 : Int32).toInt64)))))]) [0] (by decide) rfl
  have hK9 := hK.sub (tys' := [(coq, .long)]) [0] rfl
  refine W.widen (k := 0) (n := 0) (by omega) (by omega) ?_
  exact W.iret (v := 0) hx hb hr (fun t ht hW => ⟨⟨0, (), rfl, rfl, (vp_updL f0 (0 : Int32).toNatClampNeg ((0 : Int32).toInt64)), rfl, by rw [ht]; exact hP9, va_K.moved hW.alike hK9, hD9⟩, hS.F ht⟩) hS.2.2 d_Law_count_16
set_option maxHeartbeats 4000000 in
set_option maxRecDepth 100000 in
theorem c_Law_count_v2 (l : Launch) (dC : Nat → ClassId) (dI : Nat → Nat → Nat) (sz : Nat) (x0 : Nat) (tp : Nat) (tk : Nat) (rs : Nat) (ou : Nat) (sc0 : Nat) (h0 : Nat) (sn0 : Nat) (pa0 : Nat) (vl : Nat) (de : Nat) (br : Nat) (pw : Nat) (pr : Nat) (tpa : Nat) (rsa : Nat) (kk1 : Nat) (kk2 : Nat) (kk3 : Nat) (oq : Nat) (coq : ClassId) (f0 : Nat → Int64) : Met l y_Law_count ws_Law_count ({ frames := 1, cells := 0, slots := 0, locals := 21 }) (va_Pc [.ref x0, .int 1, .ref oq] (fun U => U.heap.size = sz ∧ va_P (dC, dI) classes [(x0, .inr (10, [.ref tp, .ref tk, .ref rs, .ref ou, .int 0, .ref sc0, .ref h0, .ref sn0, .ref pa0, .ref vl, .ref de, .ref br, .ref pw, .ref pr])), (tp, .inr (0, [.ref tpa, .int 0])), (rs, .inr (0, [.ref rsa, .int 0])), (sn0, .inr (4, [.ref kk1, .ref kk2, .ref kk3, .int 0, .int ((-1)), .null, .null, .int 0])), (oq, .inl (coq, 1, .inr (.inl f0)))] U.heap ∧ va_K (dC, dI) classes [(coq, .long)] U ∧ va_D (fun _ => True) [(x0, .inr (10, [.ref tp, .ref tk, .ref rs, .ref ou, .int 0, .ref sc0, .ref h0, .ref sn0, .ref pa0, .ref vl, .ref de, .ref br, .ref pw, .ref pr])), (tp, .inr (0, [.ref tpa, .int 0])), (rs, .inr (0, [.ref rsa, .int 0])), (sn0, .inr (4, [.ref kk1, .ref kk2, .ref kk3, .int 0, .int ((-1)), .null, .null, .int 0])), (oq, .inl (coq, 1, .inr (.inl f0)))])) (va_Qi (fun (r : Int32) (_ : Unit) => r = 0) (fun _ t => ∃ (g9 : Nat → Int64), g9 0 = (0 : Int32).toInt64 ∧ va_P (dC, dI) classes [(oq, .inl (coq, 1, .inr (.inl g9)))] t.heap ∧ va_K (dC, dI) classes [(coq, .long)] t ∧ va_D (va_A [(x0, .inr (10, [.ref tp, .ref tk, .ref rs, .ref ou, .int 0, .ref sc0, .ref h0, .ref sn0, .ref pa0, .ref vl, .ref de, .ref br, .ref pw, .ref pr])), (tp, .inr (0, [.ref tpa, .int 0])), (rs, .inr (0, [.ref rsa, .int 0])), (sn0, .inr (4, [.ref kk1, .ref kk2, .ref kk3, .int 0, .int ((-1)), .null, .null, .int 0])), (oq, .inl (coq, 1, .inr (.inl f0)))] sz) [(oq, .inl (coq, 1, .inr (.inl g9)))]) (va_A [(x0, .inr (10, [.ref tp, .ref tk, .ref rs, .ref ou, .int 0, .ref sc0, .ref h0, .ref sn0, .ref pa0, .ref vl, .ref de, .ref br, .ref pw, .ref pr])), (tp, .inr (0, [.ref tpa, .int 0])), (rs, .inr (0, [.ref rsa, .int 0])), (sn0, .inr (4, [.ref kk1, .ref kk2, .ref kk3, .int 0, .int ((-1)), .null, .null, .int 0])), (oq, .inl (coq, 1, .inr (.inl f0)))] sz)) 0 0 (va_A [(x0, .inr (10, [.ref tp, .ref tk, .ref rs, .ref ou, .int 0, .ref sc0, .ref h0, .ref sn0, .ref pa0, .ref vl, .ref de, .ref br, .ref pw, .ref pr])), (tp, .inr (0, [.ref tpa, .int 0])), (rs, .inr (0, [.ref rsa, .int 0])), (sn0, .inr (4, [.ref kk1, .ref kk2, .ref kk3, .int 0, .int ((-1)), .null, .null, .int 0])), (oq, .inl (coq, 1, .inr (.inl f0)))] sz) := by
  refine va_MetW (cc := b_Law_count) (maxL := 4) (ret := (some .int)) (hh := [(0, 9, 12, 19)]) (by decide) rfl ?_
  intro p e s m args below meth c s₁ B hml hv
  obtain ⟨rfl, hsz, hP, hK, hD0⟩ := hv
  have hx := B.exec
  have hb := B.bytes
  have hr := B.returns
  have hts := atoms_spec (ws := ws_Law_count) B.pre
  have htw : ∀ w ∈ tw_tbl, w.before [.ref x0, .int 1, .ref oq].toArray s = true := fun w h => hts w (List.mem_cons_of_mem _ h)
  have hown : s.vm.findClass R_Law = some m.cls := findClass_of_methodNamed B.named
  have hlocks := B.notSynchronized
  have hin : meth.name = "count" := (name_of_methodNamed B.named B.method).1
  subst hsz
  have hD := hD0.self (sz := s.heap.size)
  generalize hAe : va_A [(x0, .inr (10, [.ref tp, .ref tk, .ref rs, .ref ou, .int 0, .ref sc0, .ref h0, .ref sn0, .ref pa0, .ref vl, .ref de, .ref br, .ref pw, .ref pr])), (tp, .inr (0, [.ref tpa, .int 0])), (rs, .inr (0, [.ref rsa, .int 0])), (sn0, .inr (4, [.ref kk1, .ref kk2, .ref kk3, .int 0, .int ((-1)), .null, .null, .int 0])), (oq, .inl (coq, 1, .inr (.inl f0)))] s.heap.size = A at hD ⊢
  have hA : ∀ q : Nat, s.heap.size ≤ q → A q := fun q h => by rw [← hAe]; exact Or.inr h
  have hS : va_S A s.heap s.heap [] := va_S.rf
  have hP : va_P (dC, dI) classes [(x0, .inr (10, [.ref tp, .ref tk, .ref rs, .ref ou, .int 0, .ref sc0, .ref h0, .ref sn0, .ref pa0, .ref vl, .ref de, .ref br, .ref pw, .ref pr])), (tp, .inr (0, [.ref tpa, .int 0])), (rs, .inr (0, [.ref rsa, .int 0])), (sn0, .inr (4, [.ref kk1, .ref kk2, .ref kk3, .int 0, .int ((-1)), .null, .null, .int 0])), (oq, .inl (coq, 1, .inr (.inl f0)))] s.heap := hP
  have hl := lv_entry ([.ref x0, .int 1, .ref oq]) (n := 4) (Nat.le_of_ble_eq_true rfl)
  rw [lg_entry_eq]
  generalize (lg_sl ([.ref x0, .int 1, .ref oq]) ++ List.replicate (4 - (lg_sl ([.ref x0, .int 1, .ref oq])).length) Slot.unset).toArray = ls at hl ⊢
  have hl : lv_has ls 4 [(0, .ref x0), (1, .int 1), (2, .ref oq)] := hl
  refine lv_aload_n hx hb d_Law_count_0 rfl (lv_at hl 2 rfl) ?_
  refine lv_iconst (v := 0) hx hb d_Law_count_1 (by decide) ?_
  refine lv_aload_n hx hb d_Law_count_2 rfl (lv_at hl 0 rfl) ?_
  refine lv_iload_n hx hb d_Law_count_3 rfl (lv_at hl 1 rfl) ?_
  have hc0 : 0 + 0 ≤ 0 := by omega
  have hs0 : 0 + 0 ≤ 0 := by omega
  have hPc := hP.sub (ws' := [(x0, .inr (10, [.ref tp, .ref tk, .ref rs, .ref ou, .int 0, .ref sc0, .ref h0, .ref sn0, .ref pa0, .ref vl, .ref de, .ref br, .ref pw, .ref pr])), (tp, .inr (0, [.ref tpa, .int 0])), (rs, .inr (0, [.ref rsa, .int 0])), (sn0, .inr (4, [.ref kk1, .ref kk2, .ref kk3, .int 0, .int ((-1)), .null, .null, .int 0]))]) [0, 1, 2, 3] rfl
  have hDc := hD.sub (ws' := [(x0, .inr (10, [.ref tp, .ref tk, .ref rs, .ref ou, .int 0, .ref sc0, .ref h0, .ref sn0, .ref pa0, .ref vl, .ref de, .ref br, .ref pw, .ref pr])), (tp, .inr (0, [.ref tpa, .int 0])), (rs, .inr (0, [.ref rsa, .int 0])), (sn0, .inr (4, [.ref kk1, .ref kk2, .ref kk3, .int 0, .int ((-1)), .null, .null, .int 0]))]) [0, 1, 2, 3] (by decide) rfl
  have hKc := hK.sub (tys' := []) [] rfl
  have hFc := va_free (wc := [(x0, .inr (10, [.ref tp, .ref tk, .ref rs, .ref ou, .int 0, .ref sc0, .ref h0, .ref sn0, .ref pa0, .ref vl, .ref de, .ref br, .ref pw, .ref pr])), (tp, .inr (0, [.ref tpa, .int 0])), (rs, .inr (0, [.ref rsa, .int 0])), (sn0, .inr (4, [.ref kk1, .ref kk2, .ref kk3, .int 0, .int ((-1)), .null, .null, .int 0]))]) hD hS hA [0, 1, 2, 3] rfl
  refine va_calli (va_runV (As := [.int 1]) (rest := [.int 0, .ref oq]) ⟨hx, hb, hml, hown, htw⟩ (c_SF_count_v2 l dC dI s.heap.size x0 tp tk rs ou sc0 h0 sn0 pa0 vl de br pw pr tpa rsa kk1 kk2 kk3) (cwV 1 htw (tw_V wd_9_210 wd_9_211 wd_9_212 wd_1_1 k_SF_count) rfl rfl rfl (by decide +kernel) ⟨Nat.le_of_ble_eq_true rfl, Nat.le_of_ble_eq_true rfl⟩) ⟨fun a U g mk q => by obtain ⟨q0, q1, qP, qK, qD⟩ := q; exact ⟨q0, q1, qP, va_K.moved (u := U) (U := U.calling g mk a) (Vm.Alike.refl U.vm) qK, qD⟩, va_recv hK hP (q := (R_SF, F_SF, 14)) (ci := 10) (q0 := 0) rfl rfl, fun U hU hW => ⟨rfl, by rw [hU], by rw [hU]; exact hPc, va_K.moved hW.alike hKc, hDc.weaken (fun _ _ _ _ => trivial)⟩⟩ rfl rfl hl.1 rfl (lv_room (Nat.le_of_ble_eq_true rfl)) d_Law_count_4 ⟨hc0, hs0⟩) hS (fun q _ h => hFc q h) hFc (fun r1 u t H1 locs ht hvm hw hB hz1 hk1 hS => ?_)
  obtain ⟨hP1, hK1, hD1⟩ := hB
  rw [ht] at hP1
  have hK1 := va_K.moved hvm.symm hK1
  obtain ⟨hP, hD⟩ := va_join (wr := [(oq, .inl (coq, 1, .inr (.inl f0)))]) (w1 := [(x0, .inr (10, [.ref tp, .ref tk, .ref rs, .ref ou, .int 0, .ref sc0, .ref h0, .ref sn0, .ref pa0, .ref vl, .ref de, .ref br, .ref pw, .ref pr])), (tp, .inr (0, [.ref tpa, .int 0])), (rs, .inr (0, [.ref rsa, .int 0])), (sn0, .inr (4, [.ref kk1, .ref kk2, .ref kk3, .int 0, .int ((-1)), .null, .null, .int 0]))]) hP hD [0, 1, 2, 3] [4] rfl rfl (by decide) (by decide) hk1 hFc hP1 hD1
  have hK := (hK.sub (tys' := [(coq, .long)]) [0] rfl).app hK1
  generalize H1 = H at hP hS ⊢
  have hP : va_P (dC, dI) classes [(oq, .inl (coq, 1, .inr (.inl f0))), (x0, .inr (10, [.ref tp, .ref tk, .ref rs, .ref ou, .int 0, .ref sc0, .ref h0, .ref sn0, .ref pa0, .ref vl, .ref de, .ref br, .ref pw, .ref pr])), (tp, .inr (0, [.ref tpa, .int 0])), (rs, .inr (0, [.ref rsa, .int 0])), (sn0, .inr (4, [.ref kk1, .ref kk2, .ref kk3, .int 0, .int ((-1)), .null, .null, .int 0]))] H := hP
  have hD : va_D A [(oq, .inl (coq, 1, .inr (.inl f0))), (x0, .inr (10, [.ref tp, .ref tk, .ref rs, .ref ou, .int 0, .ref sc0, .ref h0, .ref sn0, .ref pa0, .ref vl, .ref de, .ref br, .ref pw, .ref pr])), (tp, .inr (0, [.ref tpa, .int 0])), (rs, .inr (0, [.ref rsa, .int 0])), (sn0, .inr (4, [.ref kk1, .ref kk2, .ref kk3, .int 0, .int ((-1)), .null, .null, .int 0]))] := hD
  have hK : va_K (dC, dI) classes [(coq, .long)] s := hK
  subst hw
  refine lv_i2l hx hb d_Law_count_7 rfl ?_
  refine va_last hx hb hK hP hD hS 0 0 rfl rfl (by unfold vp_in; decide) d_Law_count_8 (fun H locs hP hD hS => ?_)
  have hP : va_P (dC, dI) classes [(oq, .inl (coq, 1, .inr (.inl (vp_updL f0 (0 : Int32).toNatClampNeg ((0 : Int32).toInt64))))), (x0, .inr (10, [.ref tp, .ref tk, .ref rs, .ref ou, .int 0, .ref sc0, .ref h0, .ref sn0, .ref pa0, .ref vl, .ref de, .ref br, .ref pw, .ref pr])), (tp, .inr (0, [.ref tpa, .int 0])), (rs, .inr (0, [.ref rsa, .int 0])), (sn0, .inr (4, [.ref kk1, .ref kk2, .ref kk3, .int 0, .int ((-1)), .null, .null, .int 0]))] H := hP
  have hD : va_D A [(oq, .inl (coq, 1, .inr (.inl (vp_updL f0 (0 : Int32).toNatClampNeg ((0 : Int32).toInt64))))), (x0, .inr (10, [.ref tp, .ref tk, .ref rs, .ref ou, .int 0, .ref sc0, .ref h0, .ref sn0, .ref pa0, .ref vl, .ref de, .ref br, .ref pw, .ref pr])), (tp, .inr (0, [.ref tpa, .int 0])), (rs, .inr (0, [.ref rsa, .int 0])), (sn0, .inr (4, [.ref kk1, .ref kk2, .ref kk3, .int 0, .int ((-1)), .null, .null, .int 0]))] := hD
  refine lv_goto (tgt := 15) hx hb d_Law_count_9 rfl ?_
  refine lv_iconst (v := 0) hx hb d_Law_count_15 (by decide) ?_
  have hP9 := hP.sub (ws' := [(oq, .inl (coq, 1, .inr (.inl (vp_updL f0 (0 : Int32).toNatClampNeg ((0 : Int32).toInt64)))))]) [0] rfl
  have hD9 := hD.sub (ws' := [(oq, .inl (coq, 1, .inr (.inl (vp_updL f0 (0 : Int32).toNatClampNeg ((0 : Int32).toInt64)))))]) [0] (by decide) rfl
  have hK9 := hK.sub (tys' := [(coq, .long)]) [0] rfl
  refine W.widen (k := 0) (n := 0) (by omega) (by omega) ?_
  exact W.iret (v := 0) hx hb hr (fun t ht hW => ⟨⟨0, (), rfl, rfl, (vp_updL f0 (0 : Int32).toNatClampNeg ((0 : Int32).toInt64)), rfl, by rw [ht]; exact hP9, va_K.moved hW.alike hK9, hD9⟩, hS.F ht⟩) hS.2.2 d_Law_count_16
set_option maxHeartbeats 4000000 in
set_option maxRecDepth 100000 in
theorem c_Law_count_v3 (l : Launch) (dC : Nat → ClassId) (dI : Nat → Nat → Nat) (sz : Nat) (x0 : Nat) (tp : Nat) (tk : Nat) (rs : Nat) (ou : Nat) (sc0 : Nat) (h0 : Nat) (sn0 : Nat) (pa0 : Nat) (vl : Nat) (de : Nat) (br : Nat) (pw : Nat) (pr : Nat) (tpa : Nat) (rsa : Nat) (kk1 : Nat) (kk2 : Nat) (kk3 : Nat) (oq : Nat) (coq : ClassId) (f0 : Nat → Int64) : Met l y_Law_count ws_Law_count ({ frames := 1, cells := 0, slots := 0, locals := 21 }) (va_Pc [.ref x0, .int 2, .ref oq] (fun U => U.heap.size = sz ∧ va_P (dC, dI) classes [(x0, .inr (10, [.ref tp, .ref tk, .ref rs, .ref ou, .int 0, .ref sc0, .ref h0, .ref sn0, .ref pa0, .ref vl, .ref de, .ref br, .ref pw, .ref pr])), (tp, .inr (0, [.ref tpa, .int 0])), (rs, .inr (0, [.ref rsa, .int 0])), (sn0, .inr (4, [.ref kk1, .ref kk2, .ref kk3, .int 0, .int ((-1)), .null, .null, .int 0])), (oq, .inl (coq, 1, .inr (.inl f0)))] U.heap ∧ va_K (dC, dI) classes [(coq, .long)] U ∧ va_D (fun _ => True) [(x0, .inr (10, [.ref tp, .ref tk, .ref rs, .ref ou, .int 0, .ref sc0, .ref h0, .ref sn0, .ref pa0, .ref vl, .ref de, .ref br, .ref pw, .ref pr])), (tp, .inr (0, [.ref tpa, .int 0])), (rs, .inr (0, [.ref rsa, .int 0])), (sn0, .inr (4, [.ref kk1, .ref kk2, .ref kk3, .int 0, .int ((-1)), .null, .null, .int 0])), (oq, .inl (coq, 1, .inr (.inl f0)))])) (va_Qi (fun (r : Int32) (_ : Unit) => r = 0) (fun _ t => ∃ (g9 : Nat → Int64), g9 0 = (0 : Int32).toInt64 ∧ va_P (dC, dI) classes [(oq, .inl (coq, 1, .inr (.inl g9)))] t.heap ∧ va_K (dC, dI) classes [(coq, .long)] t ∧ va_D (va_A [(x0, .inr (10, [.ref tp, .ref tk, .ref rs, .ref ou, .int 0, .ref sc0, .ref h0, .ref sn0, .ref pa0, .ref vl, .ref de, .ref br, .ref pw, .ref pr])), (tp, .inr (0, [.ref tpa, .int 0])), (rs, .inr (0, [.ref rsa, .int 0])), (sn0, .inr (4, [.ref kk1, .ref kk2, .ref kk3, .int 0, .int ((-1)), .null, .null, .int 0])), (oq, .inl (coq, 1, .inr (.inl f0)))] sz) [(oq, .inl (coq, 1, .inr (.inl g9)))]) (va_A [(x0, .inr (10, [.ref tp, .ref tk, .ref rs, .ref ou, .int 0, .ref sc0, .ref h0, .ref sn0, .ref pa0, .ref vl, .ref de, .ref br, .ref pw, .ref pr])), (tp, .inr (0, [.ref tpa, .int 0])), (rs, .inr (0, [.ref rsa, .int 0])), (sn0, .inr (4, [.ref kk1, .ref kk2, .ref kk3, .int 0, .int ((-1)), .null, .null, .int 0])), (oq, .inl (coq, 1, .inr (.inl f0)))] sz)) 0 0 (va_A [(x0, .inr (10, [.ref tp, .ref tk, .ref rs, .ref ou, .int 0, .ref sc0, .ref h0, .ref sn0, .ref pa0, .ref vl, .ref de, .ref br, .ref pw, .ref pr])), (tp, .inr (0, [.ref tpa, .int 0])), (rs, .inr (0, [.ref rsa, .int 0])), (sn0, .inr (4, [.ref kk1, .ref kk2, .ref kk3, .int 0, .int ((-1)), .null, .null, .int 0])), (oq, .inl (coq, 1, .inr (.inl f0)))] sz) := by
  refine va_MetW (cc := b_Law_count) (maxL := 4) (ret := (some .int)) (hh := [(0, 9, 12, 19)]) (by decide) rfl ?_
  intro p e s m args below meth c s₁ B hml hv
  obtain ⟨rfl, hsz, hP, hK, hD0⟩ := hv
  have hx := B.exec
  have hb := B.bytes
  have hr := B.returns
  have hts := atoms_spec (ws := ws_Law_count) B.pre
  have htw : ∀ w ∈ tw_tbl, w.before [.ref x0, .int 2, .ref oq].toArray s = true := fun w h => hts w (List.mem_cons_of_mem _ h)
  have hown : s.vm.findClass R_Law = some m.cls := findClass_of_methodNamed B.named
  have hlocks := B.notSynchronized
  have hin : meth.name = "count" := (name_of_methodNamed B.named B.method).1
  subst hsz
  have hD := hD0.self (sz := s.heap.size)
  generalize hAe : va_A [(x0, .inr (10, [.ref tp, .ref tk, .ref rs, .ref ou, .int 0, .ref sc0, .ref h0, .ref sn0, .ref pa0, .ref vl, .ref de, .ref br, .ref pw, .ref pr])), (tp, .inr (0, [.ref tpa, .int 0])), (rs, .inr (0, [.ref rsa, .int 0])), (sn0, .inr (4, [.ref kk1, .ref kk2, .ref kk3, .int 0, .int ((-1)), .null, .null, .int 0])), (oq, .inl (coq, 1, .inr (.inl f0)))] s.heap.size = A at hD ⊢
  have hA : ∀ q : Nat, s.heap.size ≤ q → A q := fun q h => by rw [← hAe]; exact Or.inr h
  have hS : va_S A s.heap s.heap [] := va_S.rf
  have hP : va_P (dC, dI) classes [(x0, .inr (10, [.ref tp, .ref tk, .ref rs, .ref ou, .int 0, .ref sc0, .ref h0, .ref sn0, .ref pa0, .ref vl, .ref de, .ref br, .ref pw, .ref pr])), (tp, .inr (0, [.ref tpa, .int 0])), (rs, .inr (0, [.ref rsa, .int 0])), (sn0, .inr (4, [.ref kk1, .ref kk2, .ref kk3, .int 0, .int ((-1)), .null, .null, .int 0])), (oq, .inl (coq, 1, .inr (.inl f0)))] s.heap := hP
  have hl := lv_entry ([.ref x0, .int 2, .ref oq]) (n := 4) (Nat.le_of_ble_eq_true rfl)
  rw [lg_entry_eq]
  generalize (lg_sl ([.ref x0, .int 2, .ref oq]) ++ List.replicate (4 - (lg_sl ([.ref x0, .int 2, .ref oq])).length) Slot.unset).toArray = ls at hl ⊢
  have hl : lv_has ls 4 [(0, .ref x0), (1, .int 2), (2, .ref oq)] := hl
  refine lv_aload_n hx hb d_Law_count_0 rfl (lv_at hl 2 rfl) ?_
  refine lv_iconst (v := 0) hx hb d_Law_count_1 (by decide) ?_
  refine lv_aload_n hx hb d_Law_count_2 rfl (lv_at hl 0 rfl) ?_
  refine lv_iload_n hx hb d_Law_count_3 rfl (lv_at hl 1 rfl) ?_
  have hc0 : 0 + 0 ≤ 0 := by omega
  have hs0 : 0 + 0 ≤ 0 := by omega
  have hPc := hP.sub (ws' := [(x0, .inr (10, [.ref tp, .ref tk, .ref rs, .ref ou, .int 0, .ref sc0, .ref h0, .ref sn0, .ref pa0, .ref vl, .ref de, .ref br, .ref pw, .ref pr])), (tp, .inr (0, [.ref tpa, .int 0])), (rs, .inr (0, [.ref rsa, .int 0])), (sn0, .inr (4, [.ref kk1, .ref kk2, .ref kk3, .int 0, .int ((-1)), .null, .null, .int 0]))]) [0, 1, 2, 3] rfl
  have hDc := hD.sub (ws' := [(x0, .inr (10, [.ref tp, .ref tk, .ref rs, .ref ou, .int 0, .ref sc0, .ref h0, .ref sn0, .ref pa0, .ref vl, .ref de, .ref br, .ref pw, .ref pr])), (tp, .inr (0, [.ref tpa, .int 0])), (rs, .inr (0, [.ref rsa, .int 0])), (sn0, .inr (4, [.ref kk1, .ref kk2, .ref kk3, .int 0, .int ((-1)), .null, .null, .int 0]))]) [0, 1, 2, 3] (by decide) rfl
  have hKc := hK.sub (tys' := []) [] rfl
  have hFc := va_free (wc := [(x0, .inr (10, [.ref tp, .ref tk, .ref rs, .ref ou, .int 0, .ref sc0, .ref h0, .ref sn0, .ref pa0, .ref vl, .ref de, .ref br, .ref pw, .ref pr])), (tp, .inr (0, [.ref tpa, .int 0])), (rs, .inr (0, [.ref rsa, .int 0])), (sn0, .inr (4, [.ref kk1, .ref kk2, .ref kk3, .int 0, .int ((-1)), .null, .null, .int 0]))]) hD hS hA [0, 1, 2, 3] rfl
  refine va_calli (va_runV (As := [.int 2]) (rest := [.int 0, .ref oq]) ⟨hx, hb, hml, hown, htw⟩ (c_SF_count_v3 l dC dI s.heap.size x0 tp tk rs ou sc0 h0 sn0 pa0 vl de br pw pr tpa rsa kk1 kk2 kk3) (cwV 1 htw (tw_V wd_9_210 wd_9_211 wd_9_212 wd_1_1 k_SF_count) rfl rfl rfl (by decide +kernel) ⟨Nat.le_of_ble_eq_true rfl, Nat.le_of_ble_eq_true rfl⟩) ⟨fun a U g mk q => by obtain ⟨q0, q1, qP, qK, qD⟩ := q; exact ⟨q0, q1, qP, va_K.moved (u := U) (U := U.calling g mk a) (Vm.Alike.refl U.vm) qK, qD⟩, va_recv hK hP (q := (R_SF, F_SF, 14)) (ci := 10) (q0 := 0) rfl rfl, fun U hU hW => ⟨rfl, by rw [hU], by rw [hU]; exact hPc, va_K.moved hW.alike hKc, hDc.weaken (fun _ _ _ _ => trivial)⟩⟩ rfl rfl hl.1 rfl (lv_room (Nat.le_of_ble_eq_true rfl)) d_Law_count_4 ⟨hc0, hs0⟩) hS (fun q _ h => hFc q h) hFc (fun r1 u t H1 locs ht hvm hw hB hz1 hk1 hS => ?_)
  obtain ⟨hP1, hK1, hD1⟩ := hB
  rw [ht] at hP1
  have hK1 := va_K.moved hvm.symm hK1
  obtain ⟨hP, hD⟩ := va_join (wr := [(oq, .inl (coq, 1, .inr (.inl f0)))]) (w1 := [(x0, .inr (10, [.ref tp, .ref tk, .ref rs, .ref ou, .int 0, .ref sc0, .ref h0, .ref sn0, .ref pa0, .ref vl, .ref de, .ref br, .ref pw, .ref pr])), (tp, .inr (0, [.ref tpa, .int 0])), (rs, .inr (0, [.ref rsa, .int 0])), (sn0, .inr (4, [.ref kk1, .ref kk2, .ref kk3, .int 0, .int ((-1)), .null, .null, .int 0]))]) hP hD [0, 1, 2, 3] [4] rfl rfl (by decide) (by decide) hk1 hFc hP1 hD1
  have hK := (hK.sub (tys' := [(coq, .long)]) [0] rfl).app hK1
  generalize H1 = H at hP hS ⊢
  have hP : va_P (dC, dI) classes [(oq, .inl (coq, 1, .inr (.inl f0))), (x0, .inr (10, [.ref tp, .ref tk, .ref rs, .ref ou, .int 0, .ref sc0, .ref h0, .ref sn0, .ref pa0, .ref vl, .ref de, .ref br, .ref pw, .ref pr])), (tp, .inr (0, [.ref tpa, .int 0])), (rs, .inr (0, [.ref rsa, .int 0])), (sn0, .inr (4, [.ref kk1, .ref kk2, .ref kk3, .int 0, .int ((-1)), .null, .null, .int 0]))] H := hP
  have hD : va_D A [(oq, .inl (coq, 1, .inr (.inl f0))), (x0, .inr (10, [.ref tp, .ref tk, .ref rs, .ref ou, .int 0, .ref sc0, .ref h0, .ref sn0, .ref pa0, .ref vl, .ref de, .ref br, .ref pw, .ref pr])), (tp, .inr (0, [.ref tpa, .int 0])), (rs, .inr (0, [.ref rsa, .int 0])), (sn0, .inr (4, [.ref kk1, .ref kk2, .ref kk3, .int 0, .int ((-1)), .null, .null, .int 0]))] := hD
  have hK : va_K (dC, dI) classes [(coq, .long)] s := hK
  subst hw
  refine lv_i2l hx hb d_Law_count_7 rfl ?_
  refine va_last hx hb hK hP hD hS 0 0 rfl rfl (by unfold vp_in; decide) d_Law_count_8 (fun H locs hP hD hS => ?_)
  have hP : va_P (dC, dI) classes [(oq, .inl (coq, 1, .inr (.inl (vp_updL f0 (0 : Int32).toNatClampNeg ((0 : Int32).toInt64))))), (x0, .inr (10, [.ref tp, .ref tk, .ref rs, .ref ou, .int 0, .ref sc0, .ref h0, .ref sn0, .ref pa0, .ref vl, .ref de, .ref br, .ref pw, .ref pr])), (tp, .inr (0, [.ref tpa, .int 0])), (rs, .inr (0, [.ref rsa, .int 0])), (sn0, .inr (4, [.ref kk1, .ref kk2, .ref kk3, .int 0, .int ((-1)), .null, .null, .int 0]))] H := hP
  have hD : va_D A [(oq, .inl (coq, 1, .inr (.inl (vp_updL f0 (0 : Int32).toNatClampNeg ((0 : Int32).toInt64))))), (x0, .inr (10, [.ref tp, .ref tk, .ref rs, .ref ou, .int 0, .ref sc0, .ref h0, .ref sn0, .ref pa0, .ref vl, .ref de, .ref br, .ref pw, .ref pr])), (tp, .inr (0, [.ref tpa, .int 0])), (rs, .inr (0, [.ref rsa, .int 0])), (sn0, .inr (4, [.ref kk1, .ref kk2, .ref kk3, .int 0, .int ((-1)), .null, .null, .int 0]))] := hD
  refine lv_goto (tgt := 15) hx hb d_Law_count_9 rfl ?_
  refine lv_iconst (v := 0) hx hb d_Law_count_15 (by decide) ?_
  have hP9 := hP.sub (ws' := [(oq, .inl (coq, 1, .inr (.inl (vp_updL f0 (0 : Int32).toNatClampNeg ((0 : Int32).toInt64)))))]) [0] rfl
  have hD9 := hD.sub (ws' := [(oq, .inl (coq, 1, .inr (.inl (vp_updL f0 (0 : Int32).toNatClampNeg ((0 : Int32).toInt64)))))]) [0] (by decide) rfl
  have hK9 := hK.sub (tys' := [(coq, .long)]) [0] rfl
  refine W.widen (k := 0) (n := 0) (by omega) (by omega) ?_
  exact W.iret (v := 0) hx hb hr (fun t ht hW => ⟨⟨0, (), rfl, rfl, (vp_updL f0 (0 : Int32).toNatClampNeg ((0 : Int32).toInt64)), rfl, by rw [ht]; exact hP9, va_K.moved hW.alike hK9, hD9⟩, hS.F ht⟩) hS.2.2 d_Law_count_16
set_option maxHeartbeats 4000000 in
set_option maxRecDepth 100000 in
theorem c_Law_count_v4 (l : Launch) (dC : Nat → ClassId) (dI : Nat → Nat → Nat) (sz : Nat) (x0 : Nat) (tp : Nat) (tk : Nat) (rs : Nat) (ou : Nat) (sc0 : Nat) (h0 : Nat) (sn0 : Nat) (pa0 : Nat) (vl : Nat) (de : Nat) (br : Nat) (pw : Nat) (pr : Nat) (tpa : Nat) (rsa : Nat) (kk1 : Nat) (kk2 : Nat) (kk3 : Nat) (oq : Nat) (coq : ClassId) (f0 : Nat → Int64) : Met l y_Law_count ws_Law_count ({ frames := 1, cells := 0, slots := 0, locals := 21 }) (va_Pc [.ref x0, .int 3, .ref oq] (fun U => U.heap.size = sz ∧ va_P (dC, dI) classes [(x0, .inr (10, [.ref tp, .ref tk, .ref rs, .ref ou, .int 0, .ref sc0, .ref h0, .ref sn0, .ref pa0, .ref vl, .ref de, .ref br, .ref pw, .ref pr])), (tp, .inr (0, [.ref tpa, .int 0])), (rs, .inr (0, [.ref rsa, .int 0])), (sn0, .inr (4, [.ref kk1, .ref kk2, .ref kk3, .int 0, .int ((-1)), .null, .null, .int 0])), (oq, .inl (coq, 1, .inr (.inl f0)))] U.heap ∧ va_K (dC, dI) classes [(coq, .long)] U ∧ va_D (fun _ => True) [(x0, .inr (10, [.ref tp, .ref tk, .ref rs, .ref ou, .int 0, .ref sc0, .ref h0, .ref sn0, .ref pa0, .ref vl, .ref de, .ref br, .ref pw, .ref pr])), (tp, .inr (0, [.ref tpa, .int 0])), (rs, .inr (0, [.ref rsa, .int 0])), (sn0, .inr (4, [.ref kk1, .ref kk2, .ref kk3, .int 0, .int ((-1)), .null, .null, .int 0])), (oq, .inl (coq, 1, .inr (.inl f0)))])) (va_Qi (fun (r : Int32) (_ : Unit) => r = 0) (fun _ t => ∃ (g9 : Nat → Int64), g9 0 = ((-1) : Int32).toInt64 ∧ va_P (dC, dI) classes [(oq, .inl (coq, 1, .inr (.inl g9)))] t.heap ∧ va_K (dC, dI) classes [(coq, .long)] t ∧ va_D (va_A [(x0, .inr (10, [.ref tp, .ref tk, .ref rs, .ref ou, .int 0, .ref sc0, .ref h0, .ref sn0, .ref pa0, .ref vl, .ref de, .ref br, .ref pw, .ref pr])), (tp, .inr (0, [.ref tpa, .int 0])), (rs, .inr (0, [.ref rsa, .int 0])), (sn0, .inr (4, [.ref kk1, .ref kk2, .ref kk3, .int 0, .int ((-1)), .null, .null, .int 0])), (oq, .inl (coq, 1, .inr (.inl f0)))] sz) [(oq, .inl (coq, 1, .inr (.inl g9)))]) (va_A [(x0, .inr (10, [.ref tp, .ref tk, .ref rs, .ref ou, .int 0, .ref sc0, .ref h0, .ref sn0, .ref pa0, .ref vl, .ref de, .ref br, .ref pw, .ref pr])), (tp, .inr (0, [.ref tpa, .int 0])), (rs, .inr (0, [.ref rsa, .int 0])), (sn0, .inr (4, [.ref kk1, .ref kk2, .ref kk3, .int 0, .int ((-1)), .null, .null, .int 0])), (oq, .inl (coq, 1, .inr (.inl f0)))] sz)) 0 0 (va_A [(x0, .inr (10, [.ref tp, .ref tk, .ref rs, .ref ou, .int 0, .ref sc0, .ref h0, .ref sn0, .ref pa0, .ref vl, .ref de, .ref br, .ref pw, .ref pr])), (tp, .inr (0, [.ref tpa, .int 0])), (rs, .inr (0, [.ref rsa, .int 0])), (sn0, .inr (4, [.ref kk1, .ref kk2, .ref kk3, .int 0, .int ((-1)), .null, .null, .int 0])), (oq, .inl (coq, 1, .inr (.inl f0)))] sz) := by
  refine va_MetW (cc := b_Law_count) (maxL := 4) (ret := (some .int)) (hh := [(0, 9, 12, 19)]) (by decide) rfl ?_
  intro p e s m args below meth c s₁ B hml hv
  obtain ⟨rfl, hsz, hP, hK, hD0⟩ := hv
  have hx := B.exec
  have hb := B.bytes
  have hr := B.returns
  have hts := atoms_spec (ws := ws_Law_count) B.pre
  have htw : ∀ w ∈ tw_tbl, w.before [.ref x0, .int 3, .ref oq].toArray s = true := fun w h => hts w (List.mem_cons_of_mem _ h)
  have hown : s.vm.findClass R_Law = some m.cls := findClass_of_methodNamed B.named
  have hlocks := B.notSynchronized
  have hin : meth.name = "count" := (name_of_methodNamed B.named B.method).1
  subst hsz
  have hD := hD0.self (sz := s.heap.size)
  generalize hAe : va_A [(x0, .inr (10, [.ref tp, .ref tk, .ref rs, .ref ou, .int 0, .ref sc0, .ref h0, .ref sn0, .ref pa0, .ref vl, .ref de, .ref br, .ref pw, .ref pr])), (tp, .inr (0, [.ref tpa, .int 0])), (rs, .inr (0, [.ref rsa, .int 0])), (sn0, .inr (4, [.ref kk1, .ref kk2, .ref kk3, .int 0, .int ((-1)), .null, .null, .int 0])), (oq, .inl (coq, 1, .inr (.inl f0)))] s.heap.size = A at hD ⊢
  have hA : ∀ q : Nat, s.heap.size ≤ q → A q := fun q h => by rw [← hAe]; exact Or.inr h
  have hS : va_S A s.heap s.heap [] := va_S.rf
  have hP : va_P (dC, dI) classes [(x0, .inr (10, [.ref tp, .ref tk, .ref rs, .ref ou, .int 0, .ref sc0, .ref h0, .ref sn0, .ref pa0, .ref vl, .ref de, .ref br, .ref pw, .ref pr])), (tp, .inr (0, [.ref tpa, .int 0])), (rs, .inr (0, [.ref rsa, .int 0])), (sn0, .inr (4, [.ref kk1, .ref kk2, .ref kk3, .int 0, .int ((-1)), .null, .null, .int 0])), (oq, .inl (coq, 1, .inr (.inl f0)))] s.heap := hP
  have hl := lv_entry ([.ref x0, .int 3, .ref oq]) (n := 4) (Nat.le_of_ble_eq_true rfl)
  rw [lg_entry_eq]
  generalize (lg_sl ([.ref x0, .int 3, .ref oq]) ++ List.replicate (4 - (lg_sl ([.ref x0, .int 3, .ref oq])).length) Slot.unset).toArray = ls at hl ⊢
  have hl : lv_has ls 4 [(0, .ref x0), (1, .int 3), (2, .ref oq)] := hl
  refine lv_aload_n hx hb d_Law_count_0 rfl (lv_at hl 2 rfl) ?_
  refine lv_iconst (v := 0) hx hb d_Law_count_1 (by decide) ?_
  refine lv_aload_n hx hb d_Law_count_2 rfl (lv_at hl 0 rfl) ?_
  refine lv_iload_n hx hb d_Law_count_3 rfl (lv_at hl 1 rfl) ?_
  have hc0 : 0 + 0 ≤ 0 := by omega
  have hs0 : 0 + 0 ≤ 0 := by omega
  have hPc := hP.sub (ws' := [(x0, .inr (10, [.ref tp, .ref tk, .ref rs, .ref ou, .int 0, .ref sc0, .ref h0, .ref sn0, .ref pa0, .ref vl, .ref de, .ref br, .ref pw, .ref pr])), (tp, .inr (0, [.ref tpa, .int 0])), (rs, .inr (0, [.ref rsa, .int 0])), (sn0, .inr (4, [.ref kk1, .ref kk2, .ref kk3, .int 0, .int ((-1)), .null, .null, .int 0]))]) [0, 1, 2, 3] rfl
  have hDc := hD.sub (ws' := [(x0, .inr (10, [.ref tp, .ref tk, .ref rs, .ref ou, .int 0, .ref sc0, .ref h0, .ref sn0, .ref pa0, .ref vl, .ref de, .ref br, .ref pw, .ref pr])), (tp, .inr (0, [.ref tpa, .int 0])), (rs, .inr (0, [.ref rsa, .int 0])), (sn0, .inr (4, [.ref kk1, .ref kk2, .ref kk3, .int 0, .int ((-1)), .null, .null, .int 0]))]) [0, 1, 2, 3] (by decide) rfl
  have hKc := hK.sub (tys' := []) [] rfl
  have hFc := va_free (wc := [(x0, .inr (10, [.ref tp, .ref tk, .ref rs, .ref ou, .int 0, .ref sc0, .ref h0, .ref sn0, .ref pa0, .ref vl, .ref de, .ref br, .ref pw, .ref pr])), (tp, .inr (0, [.ref tpa, .int 0])), (rs, .inr (0, [.ref rsa, .int 0])), (sn0, .inr (4, [.ref kk1, .ref kk2, .ref kk3, .int 0, .int ((-1)), .null, .null, .int 0]))]) hD hS hA [0, 1, 2, 3] rfl
  refine va_calli (va_runV (As := [.int 3]) (rest := [.int 0, .ref oq]) ⟨hx, hb, hml, hown, htw⟩ (c_SF_count_v4 l dC dI s.heap.size x0 tp tk rs ou sc0 h0 sn0 pa0 vl de br pw pr tpa rsa kk1 kk2 kk3) (cwV 1 htw (tw_V wd_9_210 wd_9_211 wd_9_212 wd_1_1 k_SF_count) rfl rfl rfl (by decide +kernel) ⟨Nat.le_of_ble_eq_true rfl, Nat.le_of_ble_eq_true rfl⟩) ⟨fun a U g mk q => by obtain ⟨q0, q1, qP, qK, qD⟩ := q; exact ⟨q0, q1, qP, va_K.moved (u := U) (U := U.calling g mk a) (Vm.Alike.refl U.vm) qK, qD⟩, va_recv hK hP (q := (R_SF, F_SF, 14)) (ci := 10) (q0 := 0) rfl rfl, fun U hU hW => ⟨rfl, by rw [hU], by rw [hU]; exact hPc, va_K.moved hW.alike hKc, hDc.weaken (fun _ _ _ _ => trivial)⟩⟩ rfl rfl hl.1 rfl (lv_room (Nat.le_of_ble_eq_true rfl)) d_Law_count_4 ⟨hc0, hs0⟩) hS (fun q _ h => hFc q h) hFc (fun r1 u t H1 locs ht hvm hw hB hz1 hk1 hS => ?_)
  obtain ⟨hP1, hK1, hD1⟩ := hB
  rw [ht] at hP1
  have hK1 := va_K.moved hvm.symm hK1
  obtain ⟨hP, hD⟩ := va_join (wr := [(oq, .inl (coq, 1, .inr (.inl f0)))]) (w1 := [(x0, .inr (10, [.ref tp, .ref tk, .ref rs, .ref ou, .int 0, .ref sc0, .ref h0, .ref sn0, .ref pa0, .ref vl, .ref de, .ref br, .ref pw, .ref pr])), (tp, .inr (0, [.ref tpa, .int 0])), (rs, .inr (0, [.ref rsa, .int 0])), (sn0, .inr (4, [.ref kk1, .ref kk2, .ref kk3, .int 0, .int ((-1)), .null, .null, .int 0]))]) hP hD [0, 1, 2, 3] [4] rfl rfl (by decide) (by decide) hk1 hFc hP1 hD1
  have hK := (hK.sub (tys' := [(coq, .long)]) [0] rfl).app hK1
  generalize H1 = H at hP hS ⊢
  have hP : va_P (dC, dI) classes [(oq, .inl (coq, 1, .inr (.inl f0))), (x0, .inr (10, [.ref tp, .ref tk, .ref rs, .ref ou, .int 0, .ref sc0, .ref h0, .ref sn0, .ref pa0, .ref vl, .ref de, .ref br, .ref pw, .ref pr])), (tp, .inr (0, [.ref tpa, .int 0])), (rs, .inr (0, [.ref rsa, .int 0])), (sn0, .inr (4, [.ref kk1, .ref kk2, .ref kk3, .int 0, .int ((-1)), .null, .null, .int 0]))] H := hP
  have hD : va_D A [(oq, .inl (coq, 1, .inr (.inl f0))), (x0, .inr (10, [.ref tp, .ref tk, .ref rs, .ref ou, .int 0, .ref sc0, .ref h0, .ref sn0, .ref pa0, .ref vl, .ref de, .ref br, .ref pw, .ref pr])), (tp, .inr (0, [.ref tpa, .int 0])), (rs, .inr (0, [.ref rsa, .int 0])), (sn0, .inr (4, [.ref kk1, .ref kk2, .ref kk3, .int 0, .int ((-1)), .null, .null, .int 0]))] := hD
  have hK : va_K (dC, dI) classes [(coq, .long)] s := hK
  subst hw
  refine lv_i2l hx hb d_Law_count_7 rfl ?_
  refine va_last hx hb hK hP hD hS 0 0 rfl rfl (by unfold vp_in; decide) d_Law_count_8 (fun H locs hP hD hS => ?_)
  have hP : va_P (dC, dI) classes [(oq, .inl (coq, 1, .inr (.inl (vp_updL f0 (0 : Int32).toNatClampNeg ((((-1)) : Int32).toInt64))))), (x0, .inr (10, [.ref tp, .ref tk, .ref rs, .ref ou, .int 0, .ref sc0, .ref h0, .ref sn0, .ref pa0, .ref vl, .ref de, .ref br, .ref pw, .ref pr])), (tp, .inr (0, [.ref tpa, .int 0])), (rs, .inr (0, [.ref rsa, .int 0])), (sn0, .inr (4, [.ref kk1, .ref kk2, .ref kk3, .int 0, .int ((-1)), .null, .null, .int 0]))] H := hP
  have hD : va_D A [(oq, .inl (coq, 1, .inr (.inl (vp_updL f0 (0 : Int32).toNatClampNeg ((((-1)) : Int32).toInt64))))), (x0, .inr (10, [.ref tp, .ref tk, .ref rs, .ref ou, .int 0, .ref sc0, .ref h0, .ref sn0, .ref pa0, .ref vl, .ref de, .ref br, .ref pw, .ref pr])), (tp, .inr (0, [.ref tpa, .int 0])), (rs, .inr (0, [.ref rsa, .int 0])), (sn0, .inr (4, [.ref kk1, .ref kk2, .ref kk3, .int 0, .int ((-1)), .null, .null, .int 0]))] := hD
  refine lv_goto (tgt := 15) hx hb d_Law_count_9 rfl ?_
  refine lv_iconst (v := 0) hx hb d_Law_count_15 (by decide) ?_
  have hP9 := hP.sub (ws' := [(oq, .inl (coq, 1, .inr (.inl (vp_updL f0 (0 : Int32).toNatClampNeg ((((-1)) : Int32).toInt64)))))]) [0] rfl
  have hD9 := hD.sub (ws' := [(oq, .inl (coq, 1, .inr (.inl (vp_updL f0 (0 : Int32).toNatClampNeg ((((-1)) : Int32).toInt64)))))]) [0] (by decide) rfl
  have hK9 := hK.sub (tys' := [(coq, .long)]) [0] rfl
  refine W.widen (k := 0) (n := 0) (by omega) (by omega) ?_
  exact W.iret (v := 0) hx hb hr (fun t ht hW => ⟨⟨0, (), rfl, rfl, (vp_updL f0 (0 : Int32).toNatClampNeg ((((-1)) : Int32).toInt64)), rfl, by rw [ht]; exact hP9, va_K.moved hW.alike hK9, hD9⟩, hS.F ht⟩) hS.2.2 d_Law_count_16
set_option maxHeartbeats 4000000 in
set_option maxRecDepth 100000 in
theorem c_Law_end_v2 (l : Launch) (dC : Nat → ClassId) (dI : Nat → Nat → Nat) (sz : Nat) (x0 : Nat) (tp : Nat) (tk : Nat) (rs : Nat) (ou : Nat) (sc0 : Nat) (h0 : Nat) (sn0 : Nat) (pa0 : Nat) (vl : Nat) (de : Nat) (br : Nat) (pw : Nat) (pr : Nat) (tpa : Nat) (ctp : ClassId) (z1 : Int32) (oq : Nat) (hz : ¬ z1 = 0) (hNT : tk_NT l) : Met l y_Law_end ws_Law_end ({ frames := 7, cells := 1, slots := 6, locals := 111 }) (va_Pc [.ref x0, .int z1, .ref oq] (fun U => U.heap.size = sz ∧ va_P (dC, dI) classes [(x0, .inr (10, [.ref tp, .ref tk, .ref rs, .ref ou, .int 0, .ref sc0, .ref h0, .ref sn0, .ref pa0, .ref vl, .ref de, .ref br, .ref pw, .ref pr])), (tp, .inr (0, [.ref tpa, .int 0])), (tpa, .inl (ctp, 256, .inl ((fun _ => 0))))] U.heap ∧ va_K (dC, dI) classes [(ctp, .byte)] U ∧ va_D (fun _ => True) [(x0, .inr (10, [.ref tp, .ref tk, .ref rs, .ref ou, .int 0, .ref sc0, .ref h0, .ref sn0, .ref pa0, .ref vl, .ref de, .ref br, .ref pw, .ref pr])), (tp, .inr (0, [.ref tpa, .int 0])), (tpa, .inl (ctp, 256, .inl ((fun _ => 0))))] ∧ va_Zq "java/lang/Throwable" "UNASSIGNED_STACK" "[Ljava/lang/StackTraceElement;" (va_A [(x0, .inr (10, [.ref tp, .ref tk, .ref rs, .ref ou, .int 0, .ref sc0, .ref h0, .ref sn0, .ref pa0, .ref vl, .ref de, .ref br, .ref pw, .ref pr])), (tp, .inr (0, [.ref tpa, .int 0])), (tpa, .inl (ctp, 256, .inl ((fun _ => 0))))] sz) U U.heap ∧ va_Zq "java/lang/Throwable" "SUPPRESSED_SENTINEL" "Ljava/util/List;" (va_A [(x0, .inr (10, [.ref tp, .ref tk, .ref rs, .ref ou, .int 0, .ref sc0, .ref h0, .ref sn0, .ref pa0, .ref vl, .ref de, .ref br, .ref pw, .ref pr])), (tp, .inr (0, [.ref tpa, .int 0])), (tpa, .inl (ctp, 256, .inl ((fun _ => 0))))] sz) U U.heap ∧ tz_LS "java/lang/Throwable" "UNASSIGNED_STACK" "[Ljava/lang/StackTraceElement;" (va_A [(x0, .inr (10, [.ref tp, .ref tk, .ref rs, .ref ou, .int 0, .ref sc0, .ref h0, .ref sn0, .ref pa0, .ref vl, .ref de, .ref br, .ref pw, .ref pr])), (tp, .inr (0, [.ref tpa, .int 0])), (tpa, .inl (ctp, 256, .inl ((fun _ => 0))))] sz) U U.heap ∧ tz_LS "java/lang/Throwable" "SUPPRESSED_SENTINEL" "Ljava/util/List;" (va_A [(x0, .inr (10, [.ref tp, .ref tk, .ref rs, .ref ou, .int 0, .ref sc0, .ref h0, .ref sn0, .ref pa0, .ref vl, .ref de, .ref br, .ref pw, .ref pr])), (tp, .inr (0, [.ref tpa, .int 0])), (tpa, .inl (ctp, 256, .inl ((fun _ => 0))))] sz) U U.heap)) (va_Qi (fun (r : Int32) (_ : Unit) => r = 1) (fun _ t => va_P (dC, dI) classes [] t.heap ∧ va_K (dC, dI) classes [] t ∧ va_D (va_A [(x0, .inr (10, [.ref tp, .ref tk, .ref rs, .ref ou, .int 0, .ref sc0, .ref h0, .ref sn0, .ref pa0, .ref vl, .ref de, .ref br, .ref pw, .ref pr])), (tp, .inr (0, [.ref tpa, .int 0])), (tpa, .inl (ctp, 256, .inl ((fun _ => 0))))] sz) []) (va_A [(x0, .inr (10, [.ref tp, .ref tk, .ref rs, .ref ou, .int 0, .ref sc0, .ref h0, .ref sn0, .ref pa0, .ref vl, .ref de, .ref br, .ref pw, .ref pr])), (tp, .inr (0, [.ref tpa, .int 0])), (tpa, .inl (ctp, 256, .inl ((fun _ => 0))))] sz)) 1 6 (va_A [(x0, .inr (10, [.ref tp, .ref tk, .ref rs, .ref ou, .int 0, .ref sc0, .ref h0, .ref sn0, .ref pa0, .ref vl, .ref de, .ref br, .ref pw, .ref pr])), (tp, .inr (0, [.ref tpa, .int 0])), (tpa, .inl (ctp, 256, .inl ((fun _ => 0))))] sz) := by
  refine va_MetW (cc := b_Law_end) (maxL := 4) (ret := (some .int)) (hh := [(0, 9, 12, 19)]) (by decide) rfl ?_
  intro p e s m args below meth c s₁ B hml hv
  obtain ⟨rfl, hsz, hP, hK, hD0, hx0, hx1, hx2, hx3⟩ := hv
  have hx := B.exec
  have hb := B.bytes
  have hr := B.returns
  have hts := atoms_spec (ws := ws_Law_end) B.pre
  have htw : ∀ w ∈ tw_tbl, w.before [.ref x0, .int z1, .ref oq].toArray s = true := fun w h => hts w (List.mem_cons_of_mem _ h)
  have hown : s.vm.findClass R_Law = some m.cls := findClass_of_methodNamed B.named
  have hlocks := B.notSynchronized
  have hin : meth.name = "end" := (name_of_methodNamed B.named B.method).1
  subst hsz
  have hD := hD0.self (sz := s.heap.size)
  generalize hAe : va_A [(x0, .inr (10, [.ref tp, .ref tk, .ref rs, .ref ou, .int 0, .ref sc0, .ref h0, .ref sn0, .ref pa0, .ref vl, .ref de, .ref br, .ref pw, .ref pr])), (tp, .inr (0, [.ref tpa, .int 0])), (tpa, .inl (ctp, 256, .inl ((fun _ => 0))))] s.heap.size = A at hD hx0 hx1 hx2 hx3 ⊢
  have hA : ∀ q : Nat, s.heap.size ≤ q → A q := fun q h => by rw [← hAe]; exact Or.inr h
  have hS : va_S A s.heap s.heap [] := va_S.rf
  have hP : va_P (dC, dI) classes [(x0, .inr (10, [.ref tp, .ref tk, .ref rs, .ref ou, .int 0, .ref sc0, .ref h0, .ref sn0, .ref pa0, .ref vl, .ref de, .ref br, .ref pw, .ref pr])), (tp, .inr (0, [.ref tpa, .int 0])), (tpa, .inl (ctp, 256, .inl ((fun _ => 0))))] s.heap := hP
  have hl := lv_entry ([.ref x0, .int z1, .ref oq]) (n := 4) (Nat.le_of_ble_eq_true rfl)
  rw [lg_entry_eq]
  generalize (lg_sl ([.ref x0, .int z1, .ref oq]) ++ List.replicate (4 - (lg_sl ([.ref x0, .int z1, .ref oq])).length) Slot.unset).toArray = ls at hl ⊢
  have hl : lv_has ls 4 [(0, .ref x0), (1, .int z1), (2, .ref oq)] := hl
  refine lv_aload_n hx hb d_Law_end_0 rfl (lv_at hl 2 rfl) ?_
  refine lv_iconst (v := 0) hx hb d_Law_end_1 (by decide) ?_
  refine lv_aload_n hx hb d_Law_end_2 rfl (lv_at hl 0 rfl) ?_
  refine lv_iload_n hx hb d_Law_end_3 rfl (lv_at hl 1 rfl) ?_
  have hc0 : 0 + 1 ≤ 1 := by omega
  have hs0 : 0 + 6 ≤ 6 := by omega
  have hPc := hP.sub (ws' := [(x0, .inr (10, [.ref tp, .ref tk, .ref rs, .ref ou, .int 0, .ref sc0, .ref h0, .ref sn0, .ref pa0, .ref vl, .ref de, .ref br, .ref pw, .ref pr])), (tp, .inr (0, [.ref tpa, .int 0])), (tpa, .inl (ctp, 256, .inl ((fun _ => 0))))]) [0, 1, 2] rfl
  have hDc := hD.sub (ws' := [(x0, .inr (10, [.ref tp, .ref tk, .ref rs, .ref ou, .int 0, .ref sc0, .ref h0, .ref sn0, .ref pa0, .ref vl, .ref de, .ref br, .ref pw, .ref pr])), (tp, .inr (0, [.ref tpa, .int 0])), (tpa, .inl (ctp, 256, .inl ((fun _ => 0))))]) [0, 1, 2] (by decide) rfl
  have hKc := hK.sub (tys' := [(ctp, .byte)]) [0] rfl
  have hFc := va_free (wc := [(x0, .inr (10, [.ref tp, .ref tk, .ref rs, .ref ou, .int 0, .ref sc0, .ref h0, .ref sn0, .ref pa0, .ref vl, .ref de, .ref br, .ref pw, .ref pr])), (tp, .inr (0, [.ref tpa, .int 0])), (tpa, .inl (ctp, 256, .inl ((fun _ => 0))))]) hD hS hA [0, 1, 2] rfl
  have hadm := B.admits
  have htab := tk_table (hh := [(0, 9, 12, 19)]) B List.mem_cons_self
  obtain ⟨cE9, hcE9⟩ := tk_found (htw _ wd_3_138)
  refine tk_catch (cE := cE9) (tk_runV (As := [.int z1]) (rest := [.int 0, .ref oq]) ⟨hx, hb, hml, hown, htw⟩ (x_SF_end l hNT dC dI s.heap.size x0 tp tk rs ou sc0 h0 sn0 pa0 vl de br pw pr tpa ctp z1 (by first | omega | assumption)) (tk_cw (Ts := tw_tbl) (cwV 1 htw (tw_V wd_3_133 wd_3_134 wd_3_135 wd_1_1 k_SF_end) rfl rfl rfl (by decide +kernel) ⟨Nat.le_of_ble_eq_true rfl, Nat.le_of_ble_eq_true rfl⟩)) ⟨fun a U g mk q => by obtain ⟨q0, q1, qP, qK, qD, hq0, hq1, hq2, hq3⟩ := q; exact ⟨q0, q1, qP, va_K.moved (u := U) (U := U.calling g mk a) (Vm.Alike.refl U.vm) qK, qD, va_Zq.moved (u := U) (U := U.calling g mk a) (Vm.Alike.refl U.vm) hq0, va_Zq.moved (u := U) (U := U.calling g mk a) (Vm.Alike.refl U.vm) hq1, tz_LS.moved (u := U) (U := U.calling g mk a) (Vm.Alike.refl U.vm) hq2, tz_LS.moved (u := U) (U := U.calling g mk a) (Vm.Alike.refl U.vm) hq3⟩, va_recv hK hP (q := (R_SF, F_SF, 14)) (ci := 10) (q0 := 0) rfl rfl, fun U hU hW => ⟨rfl, by rw [hU], by rw [hU]; exact hPc, va_K.moved hW.alike hKc, hDc.weaken (fun _ _ _ _ => trivial), by rw [hU]; exact va_Zq.moved hW.alike ((va_Zq.kept hx0 hS.2.1).narrow hFc), by rw [hU]; exact va_Zq.moved hW.alike ((va_Zq.kept hx1 hS.2.1).narrow hFc), by rw [hU]; exact tz_LS.moved hW.alike ((tz_LS.kept hx2 hS.2.1).narrow hFc), by rw [hU]; exact tz_LS.moved hW.alike ((tz_LS.kept hx3 hS.2.1).narrow hFc)⟩⟩ rfl rfl hl.1 rfl (lv_room (Nat.le_of_ble_eq_true rfl)) d_Law_end_4 ⟨hc0, hs0⟩) (fun st9 x9 t9 h8 hw9 hq9 => tk_qe hcE9 hw9 hq9) (tk_find1 hadm hown hcE9 htab (by decide) (by decide) (by decide) (htw _ wd_3_132)) (fun x2 H1 L9 hL9 hz9 hk9 hz1 hk1 => ?_)
  have hS := tk_S hS hFc hL9 hz9 hk9
  obtain ⟨hP, hD⟩ := va_join (wr := []) (w1 := []) hP hD [0, 1, 2] [] rfl rfl (by decide) (by decide) hk1 hFc tk_P0 tk_D0
  clear hL9 hz9 hk9 hz1 hk1
  generalize H1 = H at hP hS ⊢
  have hP : va_P (dC, dI) classes [] H := hP
  have hD : va_D A [] := hD
  refine lv_astore_n hx hb d_Law_end_12 rfl hl (by decide) rfl (fun ls hl => ?_)
  have hl : lv_has ls 4 [(3, .ref x2), (0, .ref x0), (1, .int z1), (2, .ref oq)] := hl
  refine lv_iconst (v := 1) hx hb d_Law_end_13 (by decide) ?_
  have hP9 := hP.sub (ws' := []) [] rfl
  have hD9 := hD.sub (ws' := []) [] (by decide) rfl
  have hK9 := hK.sub (tys' := []) [] rfl
  refine W.widen (k := 1) (n := 6) (by omega) (by omega) ?_
  exact W.iret (v := 1) hx hb hr (fun t ht hW => ⟨⟨1, (), rfl, rfl, by rw [ht]; exact hP9, va_K.moved hW.alike hK9, hD9⟩, hS.F ht⟩) hS.2.2 d_Law_end_14
set_option maxHeartbeats 4000000 in
set_option maxRecDepth 100000 in
theorem c_Law_word (l : Launch) (dC : Nat → ClassId) (dI : Nat → Nat → Nat) (sz : Nat) (x0 : Nat) (tp : Nat) (tk : Nat) (rs : Nat) (ou : Nat) (sc0 : Nat) (h0 : Nat) (sn0 : Nat) (pa0 : Nat) (vl : Nat) (de : Nat) (br : Nat) (pw : Nat) (pr : Nat) (rsa : Nat) (z1 : Int32) (oq : Nat) (hNT : tk_NT l) : Met l y_Law_word ws_Law_word ({ frames := 7, cells := 1, slots := 6, locals := 114 }) (va_Pc [.ref x0, .int z1, .ref oq] (fun U => U.heap.size = sz ∧ va_P (dC, dI) classes [(x0, .inr (10, [.ref tp, .ref tk, .ref rs, .ref ou, .int 0, .ref sc0, .ref h0, .ref sn0, .ref pa0, .ref vl, .ref de, .ref br, .ref pw, .ref pr])), (rs, .inr (0, [.ref rsa, .int 0]))] U.heap ∧ va_K (dC, dI) classes [] U ∧ va_D (fun _ => True) [(x0, .inr (10, [.ref tp, .ref tk, .ref rs, .ref ou, .int 0, .ref sc0, .ref h0, .ref sn0, .ref pa0, .ref vl, .ref de, .ref br, .ref pw, .ref pr])), (rs, .inr (0, [.ref rsa, .int 0]))] ∧ va_Zq "java/lang/Throwable" "UNASSIGNED_STACK" "[Ljava/lang/StackTraceElement;" (va_A [(x0, .inr (10, [.ref tp, .ref tk, .ref rs, .ref ou, .int 0, .ref sc0, .ref h0, .ref sn0, .ref pa0, .ref vl, .ref de, .ref br, .ref pw, .ref pr])), (rs, .inr (0, [.ref rsa, .int 0]))] sz) U U.heap ∧ va_Zq "java/lang/Throwable" "SUPPRESSED_SENTINEL" "Ljava/util/List;" (va_A [(x0, .inr (10, [.ref tp, .ref tk, .ref rs, .ref ou, .int 0, .ref sc0, .ref h0, .ref sn0, .ref pa0, .ref vl, .ref de, .ref br, .ref pw, .ref pr])), (rs, .inr (0, [.ref rsa, .int 0]))] sz) U U.heap ∧ tz_LS "java/lang/Throwable" "UNASSIGNED_STACK" "[Ljava/lang/StackTraceElement;" (va_A [(x0, .inr (10, [.ref tp, .ref tk, .ref rs, .ref ou, .int 0, .ref sc0, .ref h0, .ref sn0, .ref pa0, .ref vl, .ref de, .ref br, .ref pw, .ref pr])), (rs, .inr (0, [.ref rsa, .int 0]))] sz) U U.heap ∧ tz_LS "java/lang/Throwable" "SUPPRESSED_SENTINEL" "Ljava/util/List;" (va_A [(x0, .inr (10, [.ref tp, .ref tk, .ref rs, .ref ou, .int 0, .ref sc0, .ref h0, .ref sn0, .ref pa0, .ref vl, .ref de, .ref br, .ref pw, .ref pr])), (rs, .inr (0, [.ref rsa, .int 0]))] sz) U U.heap)) (va_Qi (fun (r : Int32) (_ : Unit) => r = 1) (fun _ t => va_P (dC, dI) classes [] t.heap ∧ va_K (dC, dI) classes [] t ∧ va_D (va_A [(x0, .inr (10, [.ref tp, .ref tk, .ref rs, .ref ou, .int 0, .ref sc0, .ref h0, .ref sn0, .ref pa0, .ref vl, .ref de, .ref br, .ref pw, .ref pr])), (rs, .inr (0, [.ref rsa, .int 0]))] sz) []) (va_A [(x0, .inr (10, [.ref tp, .ref tk, .ref rs, .ref ou, .int 0, .ref sc0, .ref h0, .ref sn0, .ref pa0, .ref vl, .ref de, .ref br, .ref pw, .ref pr])), (rs, .inr (0, [.ref rsa, .int 0]))] sz)) 1 6 (va_A [(x0, .inr (10, [.ref tp, .ref tk, .ref rs, .ref ou, .int 0, .ref sc0, .ref h0, .ref sn0, .ref pa0, .ref vl, .ref de, .ref br, .ref pw, .ref pr])), (rs, .inr (0, [.ref rsa, .int 0]))] sz) := by
  refine va_MetW (cc := b_Law_word) (maxL := 4) (ret := (some .int)) (hh := [(0, 8, 11, 13)]) (by decide) rfl ?_
  intro p e s m args below meth c s₁ B hml hv
  obtain ⟨rfl, hsz, hP, hK, hD0, hx0, hx1, hx2, hx3⟩ := hv
  have hx := B.exec
  have hb := B.bytes
  have hr := B.returns
  have hts := atoms_spec (ws := ws_Law_word) B.pre
  have htw : ∀ w ∈ tw_tbl, w.before [.ref x0, .int z1, .ref oq].toArray s = true := fun w h => hts w (List.mem_cons_of_mem _ h)
  have hown : s.vm.findClass R_Law = some m.cls := findClass_of_methodNamed B.named
  have hlocks := B.notSynchronized
  have hin : meth.name = "word" := (name_of_methodNamed B.named B.method).1
  subst hsz
  have hD := hD0.self (sz := s.heap.size)
  generalize hAe : va_A [(x0, .inr (10, [.ref tp, .ref tk, .ref rs, .ref ou, .int 0, .ref sc0, .ref h0, .ref sn0, .ref pa0, .ref vl, .ref de, .ref br, .ref pw, .ref pr])), (rs, .inr (0, [.ref rsa, .int 0]))] s.heap.size = A at hD hx0 hx1 hx2 hx3 ⊢
  have hA : ∀ q : Nat, s.heap.size ≤ q → A q := fun q h => by rw [← hAe]; exact Or.inr h
  have hS : va_S A s.heap s.heap [] := va_S.rf
  have hP : va_P (dC, dI) classes [(x0, .inr (10, [.ref tp, .ref tk, .ref rs, .ref ou, .int 0, .ref sc0, .ref h0, .ref sn0, .ref pa0, .ref vl, .ref de, .ref br, .ref pw, .ref pr])), (rs, .inr (0, [.ref rsa, .int 0]))] s.heap := hP
  have hl := lv_entry ([.ref x0, .int z1, .ref oq]) (n := 4) (Nat.le_of_ble_eq_true rfl)
  rw [lg_entry_eq]
  generalize (lg_sl ([.ref x0, .int z1, .ref oq]) ++ List.replicate (4 - (lg_sl ([.ref x0, .int z1, .ref oq])).length) Slot.unset).toArray = ls at hl ⊢
  have hl : lv_has ls 4 [(0, .ref x0), (1, .int z1), (2, .ref oq)] := hl
  refine lv_aload_n hx hb d_Law_word_0 rfl (lv_at hl 2 rfl) ?_
  refine lv_iconst (v := 0) hx hb d_Law_word_1 (by decide) ?_
  refine lv_aload_n hx hb d_Law_word_2 rfl (lv_at hl 0 rfl) ?_
  refine lv_iload_n hx hb d_Law_word_3 rfl (lv_at hl 1 rfl) ?_
  have hc0 : 0 + 1 ≤ 1 := by omega
  have hs0 : 0 + 6 ≤ 6 := by omega
  have hPc := hP.sub (ws' := [(x0, .inr (10, [.ref tp, .ref tk, .ref rs, .ref ou, .int 0, .ref sc0, .ref h0, .ref sn0, .ref pa0, .ref vl, .ref de, .ref br, .ref pw, .ref pr])), (rs, .inr (0, [.ref rsa, .int 0]))]) [0, 1] rfl
  have hDc := hD.sub (ws' := [(x0, .inr (10, [.ref tp, .ref tk, .ref rs, .ref ou, .int 0, .ref sc0, .ref h0, .ref sn0, .ref pa0, .ref vl, .ref de, .ref br, .ref pw, .ref pr])), (rs, .inr (0, [.ref rsa, .int 0]))]) [0, 1] (by decide) rfl
  have hKc := hK.sub (tys' := []) [] rfl
  have hFc := va_free (wc := [(x0, .inr (10, [.ref tp, .ref tk, .ref rs, .ref ou, .int 0, .ref sc0, .ref h0, .ref sn0, .ref pa0, .ref vl, .ref de, .ref br, .ref pw, .ref pr])), (rs, .inr (0, [.ref rsa, .int 0]))]) hD hS hA [0, 1] rfl
  have hadm := B.admits
  have htab := tk_table (hh := [(0, 8, 11, 13)]) B List.mem_cons_self
  obtain ⟨cE9, hcE9⟩ := tk_found (htw _ wd_3_59)
  refine tk_catch (cE := cE9) (tk_runV (As := [.int z1]) (rest := [.int 0, .ref oq]) ⟨hx, hb, hml, hown, htw⟩ (x_SF_word l hNT dC dI s.heap.size x0 tp tk rs ou sc0 h0 sn0 pa0 vl de br pw pr rsa z1) (tk_cw (Ts := tw_tbl) (cwV 1 htw (tw_V wd_9_201 wd_9_202 wd_9_203 wd_1_1 k_SF_word) rfl rfl rfl (by decide +kernel) ⟨Nat.le_of_ble_eq_true rfl, Nat.le_of_ble_eq_true rfl⟩)) ⟨fun a U g mk q => by obtain ⟨q0, q1, qP, qK, qD, hq0, hq1, hq2, hq3⟩ := q; exact ⟨q0, q1, qP, va_K.moved (u := U) (U := U.calling g mk a) (Vm.Alike.refl U.vm) qK, qD, va_Zq.moved (u := U) (U := U.calling g mk a) (Vm.Alike.refl U.vm) hq0, va_Zq.moved (u := U) (U := U.calling g mk a) (Vm.Alike.refl U.vm) hq1, tz_LS.moved (u := U) (U := U.calling g mk a) (Vm.Alike.refl U.vm) hq2, tz_LS.moved (u := U) (U := U.calling g mk a) (Vm.Alike.refl U.vm) hq3⟩, va_recv hK hP (q := (R_SF, F_SF, 14)) (ci := 10) (q0 := 0) rfl rfl, fun U hU hW => ⟨rfl, by rw [hU], by rw [hU]; exact hPc, va_K.moved hW.alike hKc, hDc.weaken (fun _ _ _ _ => trivial), by rw [hU]; exact va_Zq.moved hW.alike ((va_Zq.kept hx0 hS.2.1).narrow hFc), by rw [hU]; exact va_Zq.moved hW.alike ((va_Zq.kept hx1 hS.2.1).narrow hFc), by rw [hU]; exact tz_LS.moved hW.alike ((tz_LS.kept hx2 hS.2.1).narrow hFc), by rw [hU]; exact tz_LS.moved hW.alike ((tz_LS.kept hx3 hS.2.1).narrow hFc)⟩⟩ rfl rfl hl.1 rfl (lv_room (Nat.le_of_ble_eq_true rfl)) d_Law_word_4 ⟨hc0, hs0⟩) (fun st9 x9 t9 h8 hw9 hq9 => tk_qe hcE9 hw9 hq9) (tk_find1 hadm hown hcE9 htab (by decide) (by decide) (by decide) (htw _ wd_3_52)) (fun x2 H1 L9 hL9 hz9 hk9 hz1 hk1 => ?_)
  have hS := tk_S hS hFc hL9 hz9 hk9
  obtain ⟨hP, hD⟩ := va_join (wr := []) (w1 := []) hP hD [0, 1] [] rfl rfl (by decide) (by decide) hk1 hFc tk_P0 tk_D0
  clear hL9 hz9 hk9 hz1 hk1
  generalize H1 = H at hP hS ⊢
  have hP : va_P (dC, dI) classes [] H := hP
  have hD : va_D A [] := hD
  refine lv_astore_n hx hb d_Law_word_11 rfl hl (by decide) rfl (fun ls hl => ?_)
  have hl : lv_has ls 4 [(3, .ref x2), (0, .ref x0), (1, .int z1), (2, .ref oq)] := hl
  refine lv_iconst (v := 1) hx hb d_Law_word_12 (by decide) ?_
  have hP9 := hP.sub (ws' := []) [] rfl
  have hD9 := hD.sub (ws' := []) [] (by decide) rfl
  have hK9 := hK.sub (tys' := []) [] rfl
  refine W.widen (k := 1) (n := 6) (by omega) (by omega) ?_
  exact W.iret (v := 1) hx hb hr (fun t ht hW => ⟨⟨1, (), rfl, rfl, by rw [ht]; exact hP9, va_K.moved hW.alike hK9, hD9⟩, hS.F ht⟩) hS.2.2 d_Law_word_13
set_option maxHeartbeats 4000000 in
set_option maxRecDepth 100000 in
theorem c_Law_count_v5 (l : Launch) (dC : Nat → ClassId) (dI : Nat → Nat → Nat) (sz : Nat) (x0 : Nat) (tp : Nat) (tk : Nat) (rs : Nat) (ou : Nat) (sc0 : Nat) (h0 : Nat) (sn0 : Nat) (pa0 : Nat) (vl : Nat) (de : Nat) (br : Nat) (pw : Nat) (pr : Nat) (z1 : Int32) (oq : Nat) (hz : z1.toInt < 0 ∨ 3 < z1.toInt) (hNT : tk_NT l) : Met l y_Law_count ws_Law_count ({ frames := 7, cells := 1, slots := 6, locals := 111 }) (va_Pc [.ref x0, .int z1, .ref oq] (fun U => U.heap.size = sz ∧ va_P (dC, dI) classes [(x0, .inr (10, [.ref tp, .ref tk, .ref rs, .ref ou, .int 0, .ref sc0, .ref h0, .ref sn0, .ref pa0, .ref vl, .ref de, .ref br, .ref pw, .ref pr]))] U.heap ∧ va_K (dC, dI) classes [] U ∧ va_D (fun _ => True) [(x0, .inr (10, [.ref tp, .ref tk, .ref rs, .ref ou, .int 0, .ref sc0, .ref h0, .ref sn0, .ref pa0, .ref vl, .ref de, .ref br, .ref pw, .ref pr]))] ∧ va_Zq "java/lang/Throwable" "UNASSIGNED_STACK" "[Ljava/lang/StackTraceElement;" (va_A [(x0, .inr (10, [.ref tp, .ref tk, .ref rs, .ref ou, .int 0, .ref sc0, .ref h0, .ref sn0, .ref pa0, .ref vl, .ref de, .ref br, .ref pw, .ref pr]))] sz) U U.heap ∧ va_Zq "java/lang/Throwable" "SUPPRESSED_SENTINEL" "Ljava/util/List;" (va_A [(x0, .inr (10, [.ref tp, .ref tk, .ref rs, .ref ou, .int 0, .ref sc0, .ref h0, .ref sn0, .ref pa0, .ref vl, .ref de, .ref br, .ref pw, .ref pr]))] sz) U U.heap ∧ tz_LS "java/lang/Throwable" "UNASSIGNED_STACK" "[Ljava/lang/StackTraceElement;" (va_A [(x0, .inr (10, [.ref tp, .ref tk, .ref rs, .ref ou, .int 0, .ref sc0, .ref h0, .ref sn0, .ref pa0, .ref vl, .ref de, .ref br, .ref pw, .ref pr]))] sz) U U.heap ∧ tz_LS "java/lang/Throwable" "SUPPRESSED_SENTINEL" "Ljava/util/List;" (va_A [(x0, .inr (10, [.ref tp, .ref tk, .ref rs, .ref ou, .int 0, .ref sc0, .ref h0, .ref sn0, .ref pa0, .ref vl, .ref de, .ref br, .ref pw, .ref pr]))] sz) U U.heap)) (va_Qi (fun (r : Int32) (_ : Unit) => r = 1) (fun _ t => va_P (dC, dI) classes [] t.heap ∧ va_K (dC, dI) classes [] t ∧ va_D (va_A [(x0, .inr (10, [.ref tp, .ref tk, .ref rs, .ref ou, .int 0, .ref sc0, .ref h0, .ref sn0, .ref pa0, .ref vl, .ref de, .ref br, .ref pw, .ref pr]))] sz) []) (va_A [(x0, .inr (10, [.ref tp, .ref tk, .ref rs, .ref ou, .int 0, .ref sc0, .ref h0, .ref sn0, .ref pa0, .ref vl, .ref de, .ref br, .ref pw, .ref pr]))] sz)) 1 6 (va_A [(x0, .inr (10, [.ref tp, .ref tk, .ref rs, .ref ou, .int 0, .ref sc0, .ref h0, .ref sn0, .ref pa0, .ref vl, .ref de, .ref br, .ref pw, .ref pr]))] sz) := by
  refine va_MetW (cc := b_Law_count) (maxL := 4) (ret := (some .int)) (hh := [(0, 9, 12, 19)]) (by decide) rfl ?_
  intro p e s m args below meth c s₁ B hml hv
  obtain ⟨rfl, hsz, hP, hK, hD0, hx0, hx1, hx2, hx3⟩ := hv
  have hx := B.exec
  have hb := B.bytes
  have hr := B.returns
  have hts := atoms_spec (ws := ws_Law_count) B.pre
  have htw : ∀ w ∈ tw_tbl, w.before [.ref x0, .int z1, .ref oq].toArray s = true := fun w h => hts w (List.mem_cons_of_mem _ h)
  have hown : s.vm.findClass R_Law = some m.cls := findClass_of_methodNamed B.named
  have hlocks := B.notSynchronized
  have hin : meth.name = "count" := (name_of_methodNamed B.named B.method).1
  subst hsz
  have hD := hD0.self (sz := s.heap.size)
  generalize hAe : va_A [(x0, .inr (10, [.ref tp, .ref tk, .ref rs, .ref ou, .int 0, .ref sc0, .ref h0, .ref sn0, .ref pa0, .ref vl, .ref de, .ref br, .ref pw, .ref pr]))] s.heap.size = A at hD hx0 hx1 hx2 hx3 ⊢
  have hA : ∀ q : Nat, s.heap.size ≤ q → A q := fun q h => by rw [← hAe]; exact Or.inr h
  have hS : va_S A s.heap s.heap [] := va_S.rf
  have hP : va_P (dC, dI) classes [(x0, .inr (10, [.ref tp, .ref tk, .ref rs, .ref ou, .int 0, .ref sc0, .ref h0, .ref sn0, .ref pa0, .ref vl, .ref de, .ref br, .ref pw, .ref pr]))] s.heap := hP
  have hl := lv_entry ([.ref x0, .int z1, .ref oq]) (n := 4) (Nat.le_of_ble_eq_true rfl)
  rw [lg_entry_eq]
  generalize (lg_sl ([.ref x0, .int z1, .ref oq]) ++ List.replicate (4 - (lg_sl ([.ref x0, .int z1, .ref oq])).length) Slot.unset).toArray = ls at hl ⊢
  have hl : lv_has ls 4 [(0, .ref x0), (1, .int z1), (2, .ref oq)] := hl
  refine lv_aload_n hx hb d_Law_count_0 rfl (lv_at hl 2 rfl) ?_
  refine lv_iconst (v := 0) hx hb d_Law_count_1 (by decide) ?_
  refine lv_aload_n hx hb d_Law_count_2 rfl (lv_at hl 0 rfl) ?_
  refine lv_iload_n hx hb d_Law_count_3 rfl (lv_at hl 1 rfl) ?_
  have hc0 : 0 + 1 ≤ 1 := by omega
  have hs0 : 0 + 6 ≤ 6 := by omega
  have hPc := hP.sub (ws' := [(x0, .inr (10, [.ref tp, .ref tk, .ref rs, .ref ou, .int 0, .ref sc0, .ref h0, .ref sn0, .ref pa0, .ref vl, .ref de, .ref br, .ref pw, .ref pr]))]) [0] rfl
  have hDc := hD.sub (ws' := [(x0, .inr (10, [.ref tp, .ref tk, .ref rs, .ref ou, .int 0, .ref sc0, .ref h0, .ref sn0, .ref pa0, .ref vl, .ref de, .ref br, .ref pw, .ref pr]))]) [0] (by decide) rfl
  have hKc := hK.sub (tys' := []) [] rfl
  have hFc := va_free (wc := [(x0, .inr (10, [.ref tp, .ref tk, .ref rs, .ref ou, .int 0, .ref sc0, .ref h0, .ref sn0, .ref pa0, .ref vl, .ref de, .ref br, .ref pw, .ref pr]))]) hD hS hA [0] rfl
  have hadm := B.admits
  have htab := tk_table (hh := [(0, 9, 12, 19)]) B List.mem_cons_self
  obtain ⟨cE9, hcE9⟩ := tk_found (htw _ wd_3_138)
  refine tk_catch (cE := cE9) (tk_runV (As := [.int z1]) (rest := [.int 0, .ref oq]) ⟨hx, hb, hml, hown, htw⟩ (x_SF_count l hNT dC dI s.heap.size x0 tp tk rs ou sc0 h0 sn0 pa0 vl de br pw pr z1 (by first | omega | assumption)) (tk_cw (Ts := tw_tbl) (cwV 1 htw (tw_V wd_9_210 wd_9_211 wd_9_212 wd_1_1 k_SF_count) rfl rfl rfl (by decide +kernel) ⟨Nat.le_of_ble_eq_true rfl, Nat.le_of_ble_eq_true rfl⟩)) ⟨fun a U g mk q => by obtain ⟨q0, q1, qP, qK, qD, hq0, hq1, hq2, hq3⟩ := q; exact ⟨q0, q1, qP, va_K.moved (u := U) (U := U.calling g mk a) (Vm.Alike.refl U.vm) qK, qD, va_Zq.moved (u := U) (U := U.calling g mk a) (Vm.Alike.refl U.vm) hq0, va_Zq.moved (u := U) (U := U.calling g mk a) (Vm.Alike.refl U.vm) hq1, tz_LS.moved (u := U) (U := U.calling g mk a) (Vm.Alike.refl U.vm) hq2, tz_LS.moved (u := U) (U := U.calling g mk a) (Vm.Alike.refl U.vm) hq3⟩, va_recv hK hP (q := (R_SF, F_SF, 14)) (ci := 10) (q0 := 0) rfl rfl, fun U hU hW => ⟨rfl, by rw [hU], by rw [hU]; exact hPc, va_K.moved hW.alike hKc, hDc.weaken (fun _ _ _ _ => trivial), by rw [hU]; exact va_Zq.moved hW.alike ((va_Zq.kept hx0 hS.2.1).narrow hFc), by rw [hU]; exact va_Zq.moved hW.alike ((va_Zq.kept hx1 hS.2.1).narrow hFc), by rw [hU]; exact tz_LS.moved hW.alike ((tz_LS.kept hx2 hS.2.1).narrow hFc), by rw [hU]; exact tz_LS.moved hW.alike ((tz_LS.kept hx3 hS.2.1).narrow hFc)⟩⟩ rfl rfl hl.1 rfl (lv_room (Nat.le_of_ble_eq_true rfl)) d_Law_count_4 ⟨hc0, hs0⟩) (fun st9 x9 t9 h8 hw9 hq9 => tk_qe hcE9 hw9 hq9) (tk_find1 hadm hown hcE9 htab (by decide) (by decide) (by decide) (htw _ wd_3_132)) (fun x2 H1 L9 hL9 hz9 hk9 hz1 hk1 => ?_)
  have hS := tk_S hS hFc hL9 hz9 hk9
  obtain ⟨hP, hD⟩ := va_join (wr := []) (w1 := []) hP hD [0] [] rfl rfl (by decide) (by decide) hk1 hFc tk_P0 tk_D0
  clear hL9 hz9 hk9 hz1 hk1
  generalize H1 = H at hP hS ⊢
  have hP : va_P (dC, dI) classes [] H := hP
  have hD : va_D A [] := hD
  refine lv_astore_n hx hb d_Law_count_12 rfl hl (by decide) rfl (fun ls hl => ?_)
  have hl : lv_has ls 4 [(3, .ref x2), (0, .ref x0), (1, .int z1), (2, .ref oq)] := hl
  refine lv_iconst (v := 1) hx hb d_Law_count_13 (by decide) ?_
  have hP9 := hP.sub (ws' := []) [] rfl
  have hD9 := hD.sub (ws' := []) [] (by decide) rfl
  have hK9 := hK.sub (tys' := []) [] rfl
  refine W.widen (k := 1) (n := 6) (by omega) (by omega) ?_
  exact W.iret (v := 1) hx hb hr (fun t ht hW => ⟨⟨1, (), rfl, rfl, by rw [ht]; exact hP9, va_K.moved hW.alike hK9, hD9⟩, hS.F ht⟩) hS.2.2 d_Law_count_14
set_option maxHeartbeats 4000000 in
set_option maxRecDepth 100000 in
theorem c_Law_encode (l : Launch) (dC : Nat → ClassId) (dI : Nat → Nat → Nat) (sz : Nat) (x0 : Nat) (tp : Nat) (tk : Nat) (rs : Nat) (ou : Nat) (sc0 : Nat) (h0 : Nat) (sn0 : Nat) (pa0 : Nat) (vl : Nat) (de : Nat) (br : Nat) (pw : Nat) (pr : Nat) (z1 : Int32) (z2 : Int32) (oq : Nat) (hz : ¬ z1 < 0 → ¬ z2 < 0 → (1 : Int32) < z2) (hNT : tk_NT l) : Met l y_Law_encode ws_Law_encode ({ frames := 8, cells := 1, slots := 6, locals := 139 }) (va_Pc [.ref x0, .int z1, .int z2, .ref oq] (fun U => U.heap.size = sz ∧ va_P (dC, dI) classes [(x0, .inr (10, [.ref tp, .ref tk, .ref rs, .ref ou, .int 0, .ref sc0, .ref h0, .ref sn0, .ref pa0, .ref vl, .ref de, .ref br, .ref pw, .ref pr]))] U.heap ∧ va_K (dC, dI) classes [] U ∧ va_D (fun _ => True) [(x0, .inr (10, [.ref tp, .ref tk, .ref rs, .ref ou, .int 0, .ref sc0, .ref h0, .ref sn0, .ref pa0, .ref vl, .ref de, .ref br, .ref pw, .ref pr]))] ∧ va_Zq "java/lang/Throwable" "UNASSIGNED_STACK" "[Ljava/lang/StackTraceElement;" (va_A [(x0, .inr (10, [.ref tp, .ref tk, .ref rs, .ref ou, .int 0, .ref sc0, .ref h0, .ref sn0, .ref pa0, .ref vl, .ref de, .ref br, .ref pw, .ref pr]))] sz) U U.heap ∧ va_Zq "java/lang/Throwable" "SUPPRESSED_SENTINEL" "Ljava/util/List;" (va_A [(x0, .inr (10, [.ref tp, .ref tk, .ref rs, .ref ou, .int 0, .ref sc0, .ref h0, .ref sn0, .ref pa0, .ref vl, .ref de, .ref br, .ref pw, .ref pr]))] sz) U U.heap ∧ tz_LS "java/lang/Throwable" "UNASSIGNED_STACK" "[Ljava/lang/StackTraceElement;" (va_A [(x0, .inr (10, [.ref tp, .ref tk, .ref rs, .ref ou, .int 0, .ref sc0, .ref h0, .ref sn0, .ref pa0, .ref vl, .ref de, .ref br, .ref pw, .ref pr]))] sz) U U.heap ∧ tz_LS "java/lang/Throwable" "SUPPRESSED_SENTINEL" "Ljava/util/List;" (va_A [(x0, .inr (10, [.ref tp, .ref tk, .ref rs, .ref ou, .int 0, .ref sc0, .ref h0, .ref sn0, .ref pa0, .ref vl, .ref de, .ref br, .ref pw, .ref pr]))] sz) U U.heap)) (va_Qi (fun (r : Int32) (_ : Unit) => r = 1) (fun _ t => va_P (dC, dI) classes [] t.heap ∧ va_K (dC, dI) classes [] t ∧ va_D (va_A [(x0, .inr (10, [.ref tp, .ref tk, .ref rs, .ref ou, .int 0, .ref sc0, .ref h0, .ref sn0, .ref pa0, .ref vl, .ref de, .ref br, .ref pw, .ref pr]))] sz) []) (va_A [(x0, .inr (10, [.ref tp, .ref tk, .ref rs, .ref ou, .int 0, .ref sc0, .ref h0, .ref sn0, .ref pa0, .ref vl, .ref de, .ref br, .ref pw, .ref pr]))] sz)) 1 6 (va_A [(x0, .inr (10, [.ref tp, .ref tk, .ref rs, .ref ou, .int 0, .ref sc0, .ref h0, .ref sn0, .ref pa0, .ref vl, .ref de, .ref br, .ref pw, .ref pr]))] sz) := by
  refine va_MetW (cc := b_Law_encode) (maxL := 5) (ret := (some .int)) (hh := [(0, 10, 13, 19), (0, 10, 17, 33), (0, 10, 21, 25), (0, 10, 25, 13)]) (by decide) rfl ?_
  intro p e s m args below meth c s₁ B hml hv
  obtain ⟨rfl, hsz, hP, hK, hD0, hx0, hx1, hx2, hx3⟩ := hv
  have hx := B.exec
  have hb := B.bytes
  have hr := B.returns
  have hts := atoms_spec (ws := ws_Law_encode) B.pre
  have htw : ∀ w ∈ tw_tbl, w.before [.ref x0, .int z1, .int z2, .ref oq].toArray s = true := fun w h => hts w (List.mem_cons_of_mem _ h)
  have hown : s.vm.findClass R_Law = some m.cls := findClass_of_methodNamed B.named
  have hlocks := B.notSynchronized
  have hin : meth.name = "encode" := (name_of_methodNamed B.named B.method).1
  subst hsz
  have hD := hD0.self (sz := s.heap.size)
  generalize hAe : va_A [(x0, .inr (10, [.ref tp, .ref tk, .ref rs, .ref ou, .int 0, .ref sc0, .ref h0, .ref sn0, .ref pa0, .ref vl, .ref de, .ref br, .ref pw, .ref pr]))] s.heap.size = A at hD hx0 hx1 hx2 hx3 ⊢
  have hA : ∀ q : Nat, s.heap.size ≤ q → A q := fun q h => by rw [← hAe]; exact Or.inr h
  have hS : va_S A s.heap s.heap [] := va_S.rf
  have hP : va_P (dC, dI) classes [(x0, .inr (10, [.ref tp, .ref tk, .ref rs, .ref ou, .int 0, .ref sc0, .ref h0, .ref sn0, .ref pa0, .ref vl, .ref de, .ref br, .ref pw, .ref pr]))] s.heap := hP
  have hl := lv_entry ([.ref x0, .int z1, .int z2, .ref oq]) (n := 5) (Nat.le_of_ble_eq_true rfl)
  rw [lg_entry_eq]
  generalize (lg_sl ([.ref x0, .int z1, .int z2, .ref oq]) ++ List.replicate (5 - (lg_sl ([.ref x0, .int z1, .int z2, .ref oq])).length) Slot.unset).toArray = ls at hl ⊢
  have hl : lv_has ls 5 [(0, .ref x0), (1, .int z1), (2, .int z2), (3, .ref oq)] := hl
  refine lv_aload_n hx hb d_Law_encode_0 rfl (lv_at hl 3 rfl) ?_
  refine lv_iconst (v := 0) hx hb d_Law_encode_1 (by decide) ?_
  refine lv_aload_n hx hb d_Law_encode_2 rfl (lv_at hl 0 rfl) ?_
  refine lv_iload_n hx hb d_Law_encode_3 rfl (lv_at hl 1 rfl) ?_
  refine lv_iload_n hx hb d_Law_encode_4 rfl (lv_at hl 2 rfl) ?_
  have hc0 : 0 + 1 ≤ 1 := by omega
  have hs0 : 0 + 6 ≤ 6 := by omega
  have hPc := hP.sub (ws' := [(x0, .inr (10, [.ref tp, .ref tk, .ref rs, .ref ou, .int 0, .ref sc0, .ref h0, .ref sn0, .ref pa0, .ref vl, .ref de, .ref br, .ref pw, .ref pr]))]) [0] rfl
  have hDc := hD.sub (ws' := [(x0, .inr (10, [.ref tp, .ref tk, .ref rs, .ref ou, .int 0, .ref sc0, .ref h0, .ref sn0, .ref pa0, .ref vl, .ref de, .ref br, .ref pw, .ref pr]))]) [0] (by decide) rfl
  have hKc := hK.sub (tys' := []) [] rfl
  have hFc := va_free (wc := [(x0, .inr (10, [.ref tp, .ref tk, .ref rs, .ref ou, .int 0, .ref sc0, .ref h0, .ref sn0, .ref pa0, .ref vl, .ref de, .ref br, .ref pw, .ref pr]))]) hD hS hA [0] rfl
  have hadm := B.admits
  have htab := tk_table (hh := [(0, 10, 13, 19), (0, 10, 17, 33), (0, 10, 21, 25), (0, 10, 25, 13)]) B List.mem_cons_self
  obtain ⟨cE9, hcE9⟩ := tk_found (htw _ wd_3_138)
  refine tk_catch (cE := cE9) (tk_runV (As := [.int z1, .int z2]) (rest := [.int 0, .ref oq]) ⟨hx, hb, hml, hown, htw⟩ (x_SF_encode l hNT dC dI s.heap.size x0 tp tk rs ou sc0 h0 sn0 pa0 vl de br pw pr z1 z2 (by first | omega | assumption)) (tk_cw (Ts := tw_tbl) (cwV 2 htw (tw_V wd_7_193 wd_7_194 wd_7_195 wd_1_1 k_SF_encode) rfl rfl rfl (by decide +kernel) ⟨Nat.le_of_ble_eq_true rfl, Nat.le_of_ble_eq_true rfl⟩)) ⟨fun a U g mk q => by obtain ⟨q0, q1, qP, qK, qD, hq0, hq1, hq2, hq3⟩ := q; exact ⟨q0, q1, qP, va_K.moved (u := U) (U := U.calling g mk a) (Vm.Alike.refl U.vm) qK, qD, va_Zq.moved (u := U) (U := U.calling g mk a) (Vm.Alike.refl U.vm) hq0, va_Zq.moved (u := U) (U := U.calling g mk a) (Vm.Alike.refl U.vm) hq1, tz_LS.moved (u := U) (U := U.calling g mk a) (Vm.Alike.refl U.vm) hq2, tz_LS.moved (u := U) (U := U.calling g mk a) (Vm.Alike.refl U.vm) hq3⟩, va_recv hK hP (q := (R_SF, F_SF, 14)) (ci := 10) (q0 := 0) rfl rfl, fun U hU hW => ⟨rfl, by rw [hU], by rw [hU]; exact hPc, va_K.moved hW.alike hKc, hDc.weaken (fun _ _ _ _ => trivial), by rw [hU]; exact va_Zq.moved hW.alike ((va_Zq.kept hx0 hS.2.1).narrow hFc), by rw [hU]; exact va_Zq.moved hW.alike ((va_Zq.kept hx1 hS.2.1).narrow hFc), by rw [hU]; exact tz_LS.moved hW.alike ((tz_LS.kept hx2 hS.2.1).narrow hFc), by rw [hU]; exact tz_LS.moved hW.alike ((tz_LS.kept hx3 hS.2.1).narrow hFc)⟩⟩ rfl rfl hl.1 rfl (lv_room (Nat.le_of_ble_eq_true rfl)) d_Law_encode_5 ⟨hc0, hs0⟩) (fun st9 x9 t9 h8 hw9 hq9 => tk_qe hcE9 hw9 hq9) (tk_find1 hadm hown hcE9 htab (by decide) (by decide) (by decide) (htw _ wd_3_132)) (fun x2 H1 L9 hL9 hz9 hk9 hz1 hk1 => ?_)
  have hS := tk_S hS hFc hL9 hz9 hk9
  obtain ⟨hP, hD⟩ := va_join (wr := []) (w1 := []) hP hD [0] [] rfl rfl (by decide) (by decide) hk1 hFc tk_P0 tk_D0
  clear hL9 hz9 hk9 hz1 hk1
  generalize H1 = H at hP hS ⊢
  have hP : va_P (dC, dI) classes [] H := hP
  have hD : va_D A [] := hD
  refine lv_astore hx hb d_Law_encode_13 hl (by decide) rfl (fun ls hl => ?_)
  have hl : lv_has ls 5 [(4, .ref x2), (0, .ref x0), (1, .int z1), (2, .int z2), (3, .ref oq)] := hl
  refine lv_iconst (v := 1) hx hb d_Law_encode_15 (by decide) ?_
  have hP9 := hP.sub (ws' := []) [] rfl
  have hD9 := hD.sub (ws' := []) [] (by decide) rfl
  have hK9 := hK.sub (tys' := []) [] rfl
  refine W.widen (k := 1) (n := 6) (by omega) (by omega) ?_
  exact W.iret (v := 1) hx hb hr (fun t ht hW => ⟨⟨1, (), rfl, rfl, by rw [ht]; exact hP9, va_K.moved hW.alike hK9, hD9⟩, hS.F ht⟩) hS.2.2 d_Law_encode_16
set_option maxHeartbeats 4000000 in
set_option maxRecDepth 100000 in
theorem c_Law_encode_v2 (l : Launch) (dC : Nat → ClassId) (dI : Nat → Nat → Nat) (sz : Nat) (x0 : Nat) (tp : Nat) (tk : Nat) (rs : Nat) (ou : Nat) (sc0 : Nat) (h0 : Nat) (sn0 : Nat) (pa0 : Nat) (vl : Nat) (de : Nat) (br : Nat) (pw : Nat) (pr : Nat) (z1 : Int32) (z2 : Int32) (oq : Nat) (hz : ¬ z1 < 0 ∧ ¬ z2 < 0 ∧ ¬ (1 : Int32) < z2) (hNT : tk_NT l) : Met l y_Law_encode ws_Law_encode ({ frames := 8, cells := 1, slots := 6, locals := 139 }) (va_Pc [.ref x0, .int z1, .int z2, .ref oq] (fun U => U.heap.size = sz ∧ va_P (dC, dI) classes [(x0, .inr (10, [.ref tp, .ref tk, .ref rs, .ref ou, .int 0, .ref sc0, .ref h0, .ref sn0, .ref pa0, .ref vl, .ref de, .ref br, .ref pw, .ref pr]))] U.heap ∧ va_K (dC, dI) classes [] U ∧ va_D (fun _ => True) [(x0, .inr (10, [.ref tp, .ref tk, .ref rs, .ref ou, .int 0, .ref sc0, .ref h0, .ref sn0, .ref pa0, .ref vl, .ref de, .ref br, .ref pw, .ref pr]))] ∧ va_Zq "java/lang/Throwable" "UNASSIGNED_STACK" "[Ljava/lang/StackTraceElement;" (va_A [(x0, .inr (10, [.ref tp, .ref tk, .ref rs, .ref ou, .int 0, .ref sc0, .ref h0, .ref sn0, .ref pa0, .ref vl, .ref de, .ref br, .ref pw, .ref pr]))] sz) U U.heap ∧ va_Zq "java/lang/Throwable" "SUPPRESSED_SENTINEL" "Ljava/util/List;" (va_A [(x0, .inr (10, [.ref tp, .ref tk, .ref rs, .ref ou, .int 0, .ref sc0, .ref h0, .ref sn0, .ref pa0, .ref vl, .ref de, .ref br, .ref pw, .ref pr]))] sz) U U.heap ∧ tz_LS "java/lang/Throwable" "UNASSIGNED_STACK" "[Ljava/lang/StackTraceElement;" (va_A [(x0, .inr (10, [.ref tp, .ref tk, .ref rs, .ref ou, .int 0, .ref sc0, .ref h0, .ref sn0, .ref pa0, .ref vl, .ref de, .ref br, .ref pw, .ref pr]))] sz) U U.heap ∧ tz_LS "java/lang/Throwable" "SUPPRESSED_SENTINEL" "Ljava/util/List;" (va_A [(x0, .inr (10, [.ref tp, .ref tk, .ref rs, .ref ou, .int 0, .ref sc0, .ref h0, .ref sn0, .ref pa0, .ref vl, .ref de, .ref br, .ref pw, .ref pr]))] sz) U U.heap ∧ tz_NC "java/lang/IllegalStateException" "java/lang/IllegalArgumentException" U)) (va_Qi (fun (r : Int32) (_ : Unit) => r = 2) (fun _ t => va_P (dC, dI) classes [] t.heap ∧ va_K (dC, dI) classes [] t ∧ va_D (va_A [(x0, .inr (10, [.ref tp, .ref tk, .ref rs, .ref ou, .int 0, .ref sc0, .ref h0, .ref sn0, .ref pa0, .ref vl, .ref de, .ref br, .ref pw, .ref pr]))] sz) []) (va_A [(x0, .inr (10, [.ref tp, .ref tk, .ref rs, .ref ou, .int 0, .ref sc0, .ref h0, .ref sn0, .ref pa0, .ref vl, .ref de, .ref br, .ref pw, .ref pr]))] sz)) 1 6 (va_A [(x0, .inr (10, [.ref tp, .ref tk, .ref rs, .ref ou, .int 0, .ref sc0, .ref h0, .ref sn0, .ref pa0, .ref vl, .ref de, .ref br, .ref pw, .ref pr]))] sz) := by
  refine va_MetW (cc := b_Law_encode) (maxL := 5) (ret := (some .int)) (hh := [(0, 10, 13, 19), (0, 10, 17, 33), (0, 10, 21, 25), (0, 10, 25, 13)]) (by decide) rfl ?_
  intro p e s m args below meth c s₁ B hml hv
  obtain ⟨rfl, hsz, hP, hK, hD0, hx0, hx1, hx2, hx3, hx4⟩ := hv
  have hx := B.exec
  have hb := B.bytes
  have hr := B.returns
  have hts := atoms_spec (ws := ws_Law_encode) B.pre
  have htw : ∀ w ∈ tw_tbl, w.before [.ref x0, .int z1, .int z2, .ref oq].toArray s = true := fun w h => hts w (List.mem_cons_of_mem _ h)
  have hown : s.vm.findClass R_Law = some m.cls := findClass_of_methodNamed B.named
  have hlocks := B.notSynchronized
  have hin : meth.name = "encode" := (name_of_methodNamed B.named B.method).1
  subst hsz
  have hD := hD0.self (sz := s.heap.size)
  generalize hAe : va_A [(x0, .inr (10, [.ref tp, .ref tk, .ref rs, .ref ou, .int 0, .ref sc0, .ref h0, .ref sn0, .ref pa0, .ref vl, .ref de, .ref br, .ref pw, .ref pr]))] s.heap.size = A at hD hx0 hx1 hx2 hx3 hx4 ⊢
  have hA : ∀ q : Nat, s.heap.size ≤ q → A q := fun q h => by rw [← hAe]; exact Or.inr h
  have hS : va_S A s.heap s.heap [] := va_S.rf
  have hP : va_P (dC, dI) classes [(x0, .inr (10, [.ref tp, .ref tk, .ref rs, .ref ou, .int 0, .ref sc0, .ref h0, .ref sn0, .ref pa0, .ref vl, .ref de, .ref br, .ref pw, .ref pr]))] s.heap := hP
  have hl := lv_entry ([.ref x0, .int z1, .int z2, .ref oq]) (n := 5) (Nat.le_of_ble_eq_true rfl)
  rw [lg_entry_eq]
  generalize (lg_sl ([.ref x0, .int z1, .int z2, .ref oq]) ++ List.replicate (5 - (lg_sl ([.ref x0, .int z1, .int z2, .ref oq])).length) Slot.unset).toArray = ls at hl ⊢
  have hl : lv_has ls 5 [(0, .ref x0), (1, .int z1), (2, .int z2), (3, .ref oq)] := hl
  refine lv_aload_n hx hb d_Law_encode_0 rfl (lv_at hl 3 rfl) ?_
  refine lv_iconst (v := 0) hx hb d_Law_encode_1 (by decide) ?_
  refine lv_aload_n hx hb d_Law_encode_2 rfl (lv_at hl 0 rfl) ?_
  refine lv_iload_n hx hb d_Law_encode_3 rfl (lv_at hl 1 rfl) ?_
  refine lv_iload_n hx hb d_Law_encode_4 rfl (lv_at hl 2 rfl) ?_
  have hc0 : 0 + 1 ≤ 1 := by omega
  have hs0 : 0 + 6 ≤ 6 := by omega
  have hPc := hP.sub (ws' := [(x0, .inr (10, [.ref tp, .ref tk, .ref rs, .ref ou, .int 0, .ref sc0, .ref h0, .ref sn0, .ref pa0, .ref vl, .ref de, .ref br, .ref pw, .ref pr]))]) [0] rfl
  have hDc := hD.sub (ws' := [(x0, .inr (10, [.ref tp, .ref tk, .ref rs, .ref ou, .int 0, .ref sc0, .ref h0, .ref sn0, .ref pa0, .ref vl, .ref de, .ref br, .ref pw, .ref pr]))]) [0] (by decide) rfl
  have hKc := hK.sub (tys' := []) [] rfl
  have hFc := va_free (wc := [(x0, .inr (10, [.ref tp, .ref tk, .ref rs, .ref ou, .int 0, .ref sc0, .ref h0, .ref sn0, .ref pa0, .ref vl, .ref de, .ref br, .ref pw, .ref pr]))]) hD hS hA [0] rfl
  have hadm := B.admits
  have htab := tk_table (hh := [(0, 10, 13, 19), (0, 10, 17, 33), (0, 10, 21, 25), (0, 10, 25, 13)]) B List.mem_cons_self
  obtain ⟨cE9, hcE9⟩ := tk_found (htw _ wd_7_202)
  refine tk_catch (cE := cE9) (tk_runV (As := [.int z1, .int z2]) (rest := [.int 0, .ref oq]) ⟨hx, hb, hml, hown, htw⟩ (x_SF_encode_v2 l hNT dC dI s.heap.size x0 tp tk rs ou sc0 h0 sn0 pa0 vl de br pw pr z1 z2 (by first | omega | assumption)) (tk_cw (Ts := tw_tbl) (cwV 2 htw (tw_V wd_7_193 wd_7_194 wd_7_195 wd_1_1 k_SF_encode) rfl rfl rfl (by decide +kernel) ⟨Nat.le_of_ble_eq_true rfl, Nat.le_of_ble_eq_true rfl⟩)) ⟨fun a U g mk q => by obtain ⟨q0, q1, qP, qK, qD, hq0, hq1, hq2, hq3⟩ := q; exact ⟨q0, q1, qP, va_K.moved (u := U) (U := U.calling g mk a) (Vm.Alike.refl U.vm) qK, qD, va_Zq.moved (u := U) (U := U.calling g mk a) (Vm.Alike.refl U.vm) hq0, va_Zq.moved (u := U) (U := U.calling g mk a) (Vm.Alike.refl U.vm) hq1, tz_LS.moved (u := U) (U := U.calling g mk a) (Vm.Alike.refl U.vm) hq2, tz_LS.moved (u := U) (U := U.calling g mk a) (Vm.Alike.refl U.vm) hq3⟩, va_recv hK hP (q := (R_SF, F_SF, 14)) (ci := 10) (q0 := 0) rfl rfl, fun U hU hW => ⟨rfl, by rw [hU], by rw [hU]; exact hPc, va_K.moved hW.alike hKc, hDc.weaken (fun _ _ _ _ => trivial), by rw [hU]; exact va_Zq.moved hW.alike ((va_Zq.kept hx0 hS.2.1).narrow hFc), by rw [hU]; exact va_Zq.moved hW.alike ((va_Zq.kept hx1 hS.2.1).narrow hFc), by rw [hU]; exact tz_LS.moved hW.alike ((tz_LS.kept hx2 hS.2.1).narrow hFc), by rw [hU]; exact tz_LS.moved hW.alike ((tz_LS.kept hx3 hS.2.1).narrow hFc)⟩⟩ rfl rfl hl.1 rfl (lv_room (Nat.le_of_ble_eq_true rfl)) d_Law_encode_5 ⟨hc0, hs0⟩) (fun st9 x9 t9 h8 hw9 hq9 => tk_qe hcE9 hw9 hq9) (tk_find2 hadm hown hcE9 hx4 htab (by decide) (by decide) (by decide) (htw _ wd_3_132) (by decide) (by decide) (by decide) (htw _ wd_7_192)) (fun x2 H1 L9 hL9 hz9 hk9 hz1 hk1 => ?_)
  have hS := tk_S hS hFc hL9 hz9 hk9
  obtain ⟨hP, hD⟩ := va_join (wr := []) (w1 := []) hP hD [0] [] rfl rfl (by decide) (by decide) hk1 hFc tk_P0 tk_D0
  clear hL9 hz9 hk9 hz1 hk1
  generalize H1 = H at hP hS ⊢
  have hP : va_P (dC, dI) classes [] H := hP
  have hD : va_D A [] := hD
  refine lv_astore hx hb d_Law_encode_17 hl (by decide) rfl (fun ls hl => ?_)
  have hl : lv_has ls 5 [(4, .ref x2), (0, .ref x0), (1, .int z1), (2, .int z2), (3, .ref oq)] := hl
  refine lv_iconst (v := 2) hx hb d_Law_encode_19 (by decide) ?_
  have hP9 := hP.sub (ws' := []) [] rfl
  have hD9 := hD.sub (ws' := []) [] (by decide) rfl
  have hK9 := hK.sub (tys' := []) [] rfl
  refine W.widen (k := 1) (n := 6) (by omega) (by omega) ?_
  exact W.iret (v := 2) hx hb hr (fun t ht hW => ⟨⟨2, (), rfl, rfl, by rw [ht]; exact hP9, va_K.moved hW.alike hK9, hD9⟩, hS.F ht⟩) hS.2.2 d_Law_encode_20
set_option maxHeartbeats 4000000 in
set_option maxRecDepth 100000 in
theorem c_Law_decode (l : Launch) (dC : Nat → ClassId) (dI : Nat → Nat → Nat) (sz : Nat) (x0 : Nat) (tp : Nat) (tk : Nat) (rs : Nat) (ou : Nat) (sc0 : Nat) (h0 : Nat) (sn0 : Nat) (pa0 : Nat) (vl : Nat) (de : Nat) (br : Nat) (pw : Nat) (pr : Nat) (z1 : Int32) (z2 : Int32) (oq : Nat) (hz : ¬ z1 < 0 → ¬ z2 < 0 → (2 : Int32) < z2) (hNT : tk_NT l) : Met l y_Law_decode ws_Law_decode ({ frames := 8, cells := 1, slots := 6, locals := 138 }) (va_Pc [.ref x0, .int z1, .int z2, .ref oq] (fun U => U.heap.size = sz ∧ va_P (dC, dI) classes [(x0, .inr (10, [.ref tp, .ref tk, .ref rs, .ref ou, .int 0, .ref sc0, .ref h0, .ref sn0, .ref pa0, .ref vl, .ref de, .ref br, .ref pw, .ref pr]))] U.heap ∧ va_K (dC, dI) classes [] U ∧ va_D (fun _ => True) [(x0, .inr (10, [.ref tp, .ref tk, .ref rs, .ref ou, .int 0, .ref sc0, .ref h0, .ref sn0, .ref pa0, .ref vl, .ref de, .ref br, .ref pw, .ref pr]))] ∧ va_Zq "java/lang/Throwable" "UNASSIGNED_STACK" "[Ljava/lang/StackTraceElement;" (va_A [(x0, .inr (10, [.ref tp, .ref tk, .ref rs, .ref ou, .int 0, .ref sc0, .ref h0, .ref sn0, .ref pa0, .ref vl, .ref de, .ref br, .ref pw, .ref pr]))] sz) U U.heap ∧ va_Zq "java/lang/Throwable" "SUPPRESSED_SENTINEL" "Ljava/util/List;" (va_A [(x0, .inr (10, [.ref tp, .ref tk, .ref rs, .ref ou, .int 0, .ref sc0, .ref h0, .ref sn0, .ref pa0, .ref vl, .ref de, .ref br, .ref pw, .ref pr]))] sz) U U.heap ∧ tz_LS "java/lang/Throwable" "UNASSIGNED_STACK" "[Ljava/lang/StackTraceElement;" (va_A [(x0, .inr (10, [.ref tp, .ref tk, .ref rs, .ref ou, .int 0, .ref sc0, .ref h0, .ref sn0, .ref pa0, .ref vl, .ref de, .ref br, .ref pw, .ref pr]))] sz) U U.heap ∧ tz_LS "java/lang/Throwable" "SUPPRESSED_SENTINEL" "Ljava/util/List;" (va_A [(x0, .inr (10, [.ref tp, .ref tk, .ref rs, .ref ou, .int 0, .ref sc0, .ref h0, .ref sn0, .ref pa0, .ref vl, .ref de, .ref br, .ref pw, .ref pr]))] sz) U U.heap)) (va_Qi (fun (r : Int32) (_ : Unit) => r = 1) (fun _ t => va_P (dC, dI) classes [] t.heap ∧ va_K (dC, dI) classes [] t ∧ va_D (va_A [(x0, .inr (10, [.ref tp, .ref tk, .ref rs, .ref ou, .int 0, .ref sc0, .ref h0, .ref sn0, .ref pa0, .ref vl, .ref de, .ref br, .ref pw, .ref pr]))] sz) []) (va_A [(x0, .inr (10, [.ref tp, .ref tk, .ref rs, .ref ou, .int 0, .ref sc0, .ref h0, .ref sn0, .ref pa0, .ref vl, .ref de, .ref br, .ref pw, .ref pr]))] sz)) 1 6 (va_A [(x0, .inr (10, [.ref tp, .ref tk, .ref rs, .ref ou, .int 0, .ref sc0, .ref h0, .ref sn0, .ref pa0, .ref vl, .ref de, .ref br, .ref pw, .ref pr]))] sz) := by
  refine va_MetW (cc := b_Law_decode) (maxL := 5) (ret := (some .int)) (hh := [(0, 10, 13, 19), (0, 10, 17, 33), (0, 10, 21, 25), (0, 10, 25, 13)]) (by decide) rfl ?_
  intro p e s m args below meth c s₁ B hml hv
  obtain ⟨rfl, hsz, hP, hK, hD0, hx0, hx1, hx2, hx3⟩ := hv
  have hx := B.exec
  have hb := B.bytes
  have hr := B.returns
  have hts := atoms_spec (ws := ws_Law_decode) B.pre
  have htw : ∀ w ∈ tw_tbl, w.before [.ref x0, .int z1, .int z2, .ref oq].toArray s = true := fun w h => hts w (List.mem_cons_of_mem _ h)
  have hown : s.vm.findClass R_Law = some m.cls := findClass_of_methodNamed B.named
  have hlocks := B.notSynchronized
  have hin : meth.name = "decode" := (name_of_methodNamed B.named B.method).1
  subst hsz
  have hD := hD0.self (sz := s.heap.size)
  generalize hAe : va_A [(x0, .inr (10, [.ref tp, .ref tk, .ref rs, .ref ou, .int 0, .ref sc0, .ref h0, .ref sn0, .ref pa0, .ref vl, .ref de, .ref br, .ref pw, .ref pr]))] s.heap.size = A at hD hx0 hx1 hx2 hx3 ⊢
  have hA : ∀ q : Nat, s.heap.size ≤ q → A q := fun q h => by rw [← hAe]; exact Or.inr h
  have hS : va_S A s.heap s.heap [] := va_S.rf
  have hP : va_P (dC, dI) classes [(x0, .inr (10, [.ref tp, .ref tk, .ref rs, .ref ou, .int 0, .ref sc0, .ref h0, .ref sn0, .ref pa0, .ref vl, .ref de, .ref br, .ref pw, .ref pr]))] s.heap := hP
  have hl := lv_entry ([.ref x0, .int z1, .int z2, .ref oq]) (n := 5) (Nat.le_of_ble_eq_true rfl)
  rw [lg_entry_eq]
  generalize (lg_sl ([.ref x0, .int z1, .int z2, .ref oq]) ++ List.replicate (5 - (lg_sl ([.ref x0, .int z1, .int z2, .ref oq])).length) Slot.unset).toArray = ls at hl ⊢
  have hl : lv_has ls 5 [(0, .ref x0), (1, .int z1), (2, .int z2), (3, .ref oq)] := hl
  refine lv_aload_n hx hb d_Law_decode_0 rfl (lv_at hl 3 rfl) ?_
  refine lv_iconst (v := 0) hx hb d_Law_decode_1 (by decide) ?_
  refine lv_aload_n hx hb d_Law_decode_2 rfl (lv_at hl 0 rfl) ?_
  refine lv_iload_n hx hb d_Law_decode_3 rfl (lv_at hl 1 rfl) ?_
  refine lv_iload_n hx hb d_Law_decode_4 rfl (lv_at hl 2 rfl) ?_
  have hc0 : 0 + 1 ≤ 1 := by omega
  have hs0 : 0 + 6 ≤ 6 := by omega
  have hPc := hP.sub (ws' := [(x0, .inr (10, [.ref tp, .ref tk, .ref rs, .ref ou, .int 0, .ref sc0, .ref h0, .ref sn0, .ref pa0, .ref vl, .ref de, .ref br, .ref pw, .ref pr]))]) [0] rfl
  have hDc := hD.sub (ws' := [(x0, .inr (10, [.ref tp, .ref tk, .ref rs, .ref ou, .int 0, .ref sc0, .ref h0, .ref sn0, .ref pa0, .ref vl, .ref de, .ref br, .ref pw, .ref pr]))]) [0] (by decide) rfl
  have hKc := hK.sub (tys' := []) [] rfl
  have hFc := va_free (wc := [(x0, .inr (10, [.ref tp, .ref tk, .ref rs, .ref ou, .int 0, .ref sc0, .ref h0, .ref sn0, .ref pa0, .ref vl, .ref de, .ref br, .ref pw, .ref pr]))]) hD hS hA [0] rfl
  have hadm := B.admits
  have htab := tk_table (hh := [(0, 10, 13, 19), (0, 10, 17, 33), (0, 10, 21, 25), (0, 10, 25, 13)]) B List.mem_cons_self
  obtain ⟨cE9, hcE9⟩ := tk_found (htw _ wd_3_138)
  refine tk_catch (cE := cE9) (tk_runV (As := [.int z1, .int z2]) (rest := [.int 0, .ref oq]) ⟨hx, hb, hml, hown, htw⟩ (x_SF_decode l hNT dC dI s.heap.size x0 tp tk rs ou sc0 h0 sn0 pa0 vl de br pw pr z1 z2 (by first | omega | assumption)) (tk_cw (Ts := tw_tbl) (cwV 2 htw (tw_V wd_8_118 wd_8_119 wd_8_120 wd_1_1 k_SF_decode) rfl rfl rfl (by decide +kernel) ⟨Nat.le_of_ble_eq_true rfl, Nat.le_of_ble_eq_true rfl⟩)) ⟨fun a U g mk q => by obtain ⟨q0, q1, qP, qK, qD, hq0, hq1, hq2, hq3⟩ := q; exact ⟨q0, q1, qP, va_K.moved (u := U) (U := U.calling g mk a) (Vm.Alike.refl U.vm) qK, qD, va_Zq.moved (u := U) (U := U.calling g mk a) (Vm.Alike.refl U.vm) hq0, va_Zq.moved (u := U) (U := U.calling g mk a) (Vm.Alike.refl U.vm) hq1, tz_LS.moved (u := U) (U := U.calling g mk a) (Vm.Alike.refl U.vm) hq2, tz_LS.moved (u := U) (U := U.calling g mk a) (Vm.Alike.refl U.vm) hq3⟩, va_recv hK hP (q := (R_SF, F_SF, 14)) (ci := 10) (q0 := 0) rfl rfl, fun U hU hW => ⟨rfl, by rw [hU], by rw [hU]; exact hPc, va_K.moved hW.alike hKc, hDc.weaken (fun _ _ _ _ => trivial), by rw [hU]; exact va_Zq.moved hW.alike ((va_Zq.kept hx0 hS.2.1).narrow hFc), by rw [hU]; exact va_Zq.moved hW.alike ((va_Zq.kept hx1 hS.2.1).narrow hFc), by rw [hU]; exact tz_LS.moved hW.alike ((tz_LS.kept hx2 hS.2.1).narrow hFc), by rw [hU]; exact tz_LS.moved hW.alike ((tz_LS.kept hx3 hS.2.1).narrow hFc)⟩⟩ rfl rfl hl.1 rfl (lv_room (Nat.le_of_ble_eq_true rfl)) d_Law_decode_5 ⟨hc0, hs0⟩) (fun st9 x9 t9 h8 hw9 hq9 => tk_qe hcE9 hw9 hq9) (tk_find1 hadm hown hcE9 htab (by decide) (by decide) (by decide) (htw _ wd_3_132)) (fun x2 H1 L9 hL9 hz9 hk9 hz1 hk1 => ?_)
  have hS := tk_S hS hFc hL9 hz9 hk9
  obtain ⟨hP, hD⟩ := va_join (wr := []) (w1 := []) hP hD [0] [] rfl rfl (by decide) (by decide) hk1 hFc tk_P0 tk_D0
  clear hL9 hz9 hk9 hz1 hk1
  generalize H1 = H at hP hS ⊢
  have hP : va_P (dC, dI) classes [] H := hP
  have hD : va_D A [] := hD
  refine lv_astore hx hb d_Law_decode_13 hl (by decide) rfl (fun ls hl => ?_)
  have hl : lv_has ls 5 [(4, .ref x2), (0, .ref x0), (1, .int z1), (2, .int z2), (3, .ref oq)] := hl
  refine lv_iconst (v := 1) hx hb d_Law_decode_15 (by decide) ?_
  have hP9 := hP.sub (ws' := []) [] rfl
  have hD9 := hD.sub (ws' := []) [] (by decide) rfl
  have hK9 := hK.sub (tys' := []) [] rfl
  refine W.widen (k := 1) (n := 6) (by omega) (by omega) ?_
  exact W.iret (v := 1) hx hb hr (fun t ht hW => ⟨⟨1, (), rfl, rfl, by rw [ht]; exact hP9, va_K.moved hW.alike hK9, hD9⟩, hS.F ht⟩) hS.2.2 d_Law_decode_16
set_option maxHeartbeats 4000000 in
set_option maxRecDepth 100000 in
theorem c_Law_decode_v2 (l : Launch) (dC : Nat → ClassId) (dI : Nat → Nat → Nat) (sz : Nat) (x0 : Nat) (tp : Nat) (tk : Nat) (rs : Nat) (ou : Nat) (sc0 : Nat) (h0 : Nat) (sn0 : Nat) (pa0 : Nat) (vl : Nat) (de : Nat) (br : Nat) (pw : Nat) (pr : Nat) (z1 : Int32) (z2 : Int32) (oq : Nat) (hz : ¬ z1 < 0 ∧ ¬ z2 < 0 ∧ ¬ (2 : Int32) < z2) (hNT : tk_NT l) : Met l y_Law_decode ws_Law_decode ({ frames := 8, cells := 1, slots := 6, locals := 138 }) (va_Pc [.ref x0, .int z1, .int z2, .ref oq] (fun U => U.heap.size = sz ∧ va_P (dC, dI) classes [(x0, .inr (10, [.ref tp, .ref tk, .ref rs, .ref ou, .int 0, .ref sc0, .ref h0, .ref sn0, .ref pa0, .ref vl, .ref de, .ref br, .ref pw, .ref pr]))] U.heap ∧ va_K (dC, dI) classes [] U ∧ va_D (fun _ => True) [(x0, .inr (10, [.ref tp, .ref tk, .ref rs, .ref ou, .int 0, .ref sc0, .ref h0, .ref sn0, .ref pa0, .ref vl, .ref de, .ref br, .ref pw, .ref pr]))] ∧ va_Zq "java/lang/Throwable" "UNASSIGNED_STACK" "[Ljava/lang/StackTraceElement;" (va_A [(x0, .inr (10, [.ref tp, .ref tk, .ref rs, .ref ou, .int 0, .ref sc0, .ref h0, .ref sn0, .ref pa0, .ref vl, .ref de, .ref br, .ref pw, .ref pr]))] sz) U U.heap ∧ va_Zq "java/lang/Throwable" "SUPPRESSED_SENTINEL" "Ljava/util/List;" (va_A [(x0, .inr (10, [.ref tp, .ref tk, .ref rs, .ref ou, .int 0, .ref sc0, .ref h0, .ref sn0, .ref pa0, .ref vl, .ref de, .ref br, .ref pw, .ref pr]))] sz) U U.heap ∧ tz_LS "java/lang/Throwable" "UNASSIGNED_STACK" "[Ljava/lang/StackTraceElement;" (va_A [(x0, .inr (10, [.ref tp, .ref tk, .ref rs, .ref ou, .int 0, .ref sc0, .ref h0, .ref sn0, .ref pa0, .ref vl, .ref de, .ref br, .ref pw, .ref pr]))] sz) U U.heap ∧ tz_LS "java/lang/Throwable" "SUPPRESSED_SENTINEL" "Ljava/util/List;" (va_A [(x0, .inr (10, [.ref tp, .ref tk, .ref rs, .ref ou, .int 0, .ref sc0, .ref h0, .ref sn0, .ref pa0, .ref vl, .ref de, .ref br, .ref pw, .ref pr]))] sz) U U.heap ∧ tz_NC "java/lang/IllegalStateException" "java/lang/IllegalArgumentException" U)) (va_Qi (fun (r : Int32) (_ : Unit) => r = 2) (fun _ t => va_P (dC, dI) classes [] t.heap ∧ va_K (dC, dI) classes [] t ∧ va_D (va_A [(x0, .inr (10, [.ref tp, .ref tk, .ref rs, .ref ou, .int 0, .ref sc0, .ref h0, .ref sn0, .ref pa0, .ref vl, .ref de, .ref br, .ref pw, .ref pr]))] sz) []) (va_A [(x0, .inr (10, [.ref tp, .ref tk, .ref rs, .ref ou, .int 0, .ref sc0, .ref h0, .ref sn0, .ref pa0, .ref vl, .ref de, .ref br, .ref pw, .ref pr]))] sz)) 1 6 (va_A [(x0, .inr (10, [.ref tp, .ref tk, .ref rs, .ref ou, .int 0, .ref sc0, .ref h0, .ref sn0, .ref pa0, .ref vl, .ref de, .ref br, .ref pw, .ref pr]))] sz) := by
  refine va_MetW (cc := b_Law_decode) (maxL := 5) (ret := (some .int)) (hh := [(0, 10, 13, 19), (0, 10, 17, 33), (0, 10, 21, 25), (0, 10, 25, 13)]) (by decide) rfl ?_
  intro p e s m args below meth c s₁ B hml hv
  obtain ⟨rfl, hsz, hP, hK, hD0, hx0, hx1, hx2, hx3, hx4⟩ := hv
  have hx := B.exec
  have hb := B.bytes
  have hr := B.returns
  have hts := atoms_spec (ws := ws_Law_decode) B.pre
  have htw : ∀ w ∈ tw_tbl, w.before [.ref x0, .int z1, .int z2, .ref oq].toArray s = true := fun w h => hts w (List.mem_cons_of_mem _ h)
  have hown : s.vm.findClass R_Law = some m.cls := findClass_of_methodNamed B.named
  have hlocks := B.notSynchronized
  have hin : meth.name = "decode" := (name_of_methodNamed B.named B.method).1
  subst hsz
  have hD := hD0.self (sz := s.heap.size)
  generalize hAe : va_A [(x0, .inr (10, [.ref tp, .ref tk, .ref rs, .ref ou, .int 0, .ref sc0, .ref h0, .ref sn0, .ref pa0, .ref vl, .ref de, .ref br, .ref pw, .ref pr]))] s.heap.size = A at hD hx0 hx1 hx2 hx3 hx4 ⊢
  have hA : ∀ q : Nat, s.heap.size ≤ q → A q := fun q h => by rw [← hAe]; exact Or.inr h
  have hS : va_S A s.heap s.heap [] := va_S.rf
  have hP : va_P (dC, dI) classes [(x0, .inr (10, [.ref tp, .ref tk, .ref rs, .ref ou, .int 0, .ref sc0, .ref h0, .ref sn0, .ref pa0, .ref vl, .ref de, .ref br, .ref pw, .ref pr]))] s.heap := hP
  have hl := lv_entry ([.ref x0, .int z1, .int z2, .ref oq]) (n := 5) (Nat.le_of_ble_eq_true rfl)
  rw [lg_entry_eq]
  generalize (lg_sl ([.ref x0, .int z1, .int z2, .ref oq]) ++ List.replicate (5 - (lg_sl ([.ref x0, .int z1, .int z2, .ref oq])).length) Slot.unset).toArray = ls at hl ⊢
  have hl : lv_has ls 5 [(0, .ref x0), (1, .int z1), (2, .int z2), (3, .ref oq)] := hl
  refine lv_aload_n hx hb d_Law_decode_0 rfl (lv_at hl 3 rfl) ?_
  refine lv_iconst (v := 0) hx hb d_Law_decode_1 (by decide) ?_
  refine lv_aload_n hx hb d_Law_decode_2 rfl (lv_at hl 0 rfl) ?_
  refine lv_iload_n hx hb d_Law_decode_3 rfl (lv_at hl 1 rfl) ?_
  refine lv_iload_n hx hb d_Law_decode_4 rfl (lv_at hl 2 rfl) ?_
  have hc0 : 0 + 1 ≤ 1 := by omega
  have hs0 : 0 + 6 ≤ 6 := by omega
  have hPc := hP.sub (ws' := [(x0, .inr (10, [.ref tp, .ref tk, .ref rs, .ref ou, .int 0, .ref sc0, .ref h0, .ref sn0, .ref pa0, .ref vl, .ref de, .ref br, .ref pw, .ref pr]))]) [0] rfl
  have hDc := hD.sub (ws' := [(x0, .inr (10, [.ref tp, .ref tk, .ref rs, .ref ou, .int 0, .ref sc0, .ref h0, .ref sn0, .ref pa0, .ref vl, .ref de, .ref br, .ref pw, .ref pr]))]) [0] (by decide) rfl
  have hKc := hK.sub (tys' := []) [] rfl
  have hFc := va_free (wc := [(x0, .inr (10, [.ref tp, .ref tk, .ref rs, .ref ou, .int 0, .ref sc0, .ref h0, .ref sn0, .ref pa0, .ref vl, .ref de, .ref br, .ref pw, .ref pr]))]) hD hS hA [0] rfl
  have hadm := B.admits
  have htab := tk_table (hh := [(0, 10, 13, 19), (0, 10, 17, 33), (0, 10, 21, 25), (0, 10, 25, 13)]) B List.mem_cons_self
  obtain ⟨cE9, hcE9⟩ := tk_found (htw _ wd_7_202)
  refine tk_catch (cE := cE9) (tk_runV (As := [.int z1, .int z2]) (rest := [.int 0, .ref oq]) ⟨hx, hb, hml, hown, htw⟩ (x_SF_decode_v2 l hNT dC dI s.heap.size x0 tp tk rs ou sc0 h0 sn0 pa0 vl de br pw pr z1 z2 (by first | omega | assumption)) (tk_cw (Ts := tw_tbl) (cwV 2 htw (tw_V wd_8_118 wd_8_119 wd_8_120 wd_1_1 k_SF_decode) rfl rfl rfl (by decide +kernel) ⟨Nat.le_of_ble_eq_true rfl, Nat.le_of_ble_eq_true rfl⟩)) ⟨fun a U g mk q => by obtain ⟨q0, q1, qP, qK, qD, hq0, hq1, hq2, hq3⟩ := q; exact ⟨q0, q1, qP, va_K.moved (u := U) (U := U.calling g mk a) (Vm.Alike.refl U.vm) qK, qD, va_Zq.moved (u := U) (U := U.calling g mk a) (Vm.Alike.refl U.vm) hq0, va_Zq.moved (u := U) (U := U.calling g mk a) (Vm.Alike.refl U.vm) hq1, tz_LS.moved (u := U) (U := U.calling g mk a) (Vm.Alike.refl U.vm) hq2, tz_LS.moved (u := U) (U := U.calling g mk a) (Vm.Alike.refl U.vm) hq3⟩, va_recv hK hP (q := (R_SF, F_SF, 14)) (ci := 10) (q0 := 0) rfl rfl, fun U hU hW => ⟨rfl, by rw [hU], by rw [hU]; exact hPc, va_K.moved hW.alike hKc, hDc.weaken (fun _ _ _ _ => trivial), by rw [hU]; exact va_Zq.moved hW.alike ((va_Zq.kept hx0 hS.2.1).narrow hFc), by rw [hU]; exact va_Zq.moved hW.alike ((va_Zq.kept hx1 hS.2.1).narrow hFc), by rw [hU]; exact tz_LS.moved hW.alike ((tz_LS.kept hx2 hS.2.1).narrow hFc), by rw [hU]; exact tz_LS.moved hW.alike ((tz_LS.kept hx3 hS.2.1).narrow hFc)⟩⟩ rfl rfl hl.1 rfl (lv_room (Nat.le_of_ble_eq_true rfl)) d_Law_decode_5 ⟨hc0, hs0⟩) (fun st9 x9 t9 h8 hw9 hq9 => tk_qe hcE9 hw9 hq9) (tk_find2 hadm hown hcE9 hx4 htab (by decide) (by decide) (by decide) (htw _ wd_3_132) (by decide) (by decide) (by decide) (htw _ wd_7_192)) (fun x2 H1 L9 hL9 hz9 hk9 hz1 hk1 => ?_)
  have hS := tk_S hS hFc hL9 hz9 hk9
  obtain ⟨hP, hD⟩ := va_join (wr := []) (w1 := []) hP hD [0] [] rfl rfl (by decide) (by decide) hk1 hFc tk_P0 tk_D0
  clear hL9 hz9 hk9 hz1 hk1
  generalize H1 = H at hP hS ⊢
  have hP : va_P (dC, dI) classes [] H := hP
  have hD : va_D A [] := hD
  refine lv_astore hx hb d_Law_decode_17 hl (by decide) rfl (fun ls hl => ?_)
  have hl : lv_has ls 5 [(4, .ref x2), (0, .ref x0), (1, .int z1), (2, .int z2), (3, .ref oq)] := hl
  refine lv_iconst (v := 2) hx hb d_Law_decode_19 (by decide) ?_
  have hP9 := hP.sub (ws' := []) [] rfl
  have hD9 := hD.sub (ws' := []) [] (by decide) rfl
  have hK9 := hK.sub (tys' := []) [] rfl
  refine W.widen (k := 1) (n := 6) (by omega) (by omega) ?_
  exact W.iret (v := 2) hx hb hr (fun t ht hW => ⟨⟨2, (), rfl, rfl, by rw [ht]; exact hP9, va_K.moved hW.alike hK9, hD9⟩, hS.F ht⟩) hS.2.2 d_Law_decode_20
set_option maxHeartbeats 4000000 in
set_option maxRecDepth 100000 in
theorem c_Law_tag (l : Launch) (dC : Nat → ClassId) (dI : Nat → Nat → Nat) (sz : Nat) (x0 : Nat) (tp : Nat) (tk : Nat) (rs : Nat) (ou : Nat) (sc0 : Nat) (h0 : Nat) (sn0 : Nat) (pa0 : Nat) (vl : Nat) (de : Nat) (br : Nat) (pw : Nat) (pr : Nat) (z1 : Int32) (oq : Nat) (hz : ¬ z1 < 0 → ¬ (0 : Int32) < 0 → (0 : Int32) < (0 : Int32)) (hNT : tk_NT l) : Met l y_Law_tag ws_Law_tag ({ frames := 8, cells := 1, slots := 6, locals := 134 }) (va_Pc [.ref x0, .int z1, .ref oq] (fun U => U.heap.size = sz ∧ va_P (dC, dI) classes [(x0, .inr (10, [.ref tp, .ref tk, .ref rs, .ref ou, .int 0, .ref sc0, .ref h0, .ref sn0, .ref pa0, .ref vl, .ref de, .ref br, .ref pw, .ref pr]))] U.heap ∧ va_K (dC, dI) classes [] U ∧ va_D (fun _ => True) [(x0, .inr (10, [.ref tp, .ref tk, .ref rs, .ref ou, .int 0, .ref sc0, .ref h0, .ref sn0, .ref pa0, .ref vl, .ref de, .ref br, .ref pw, .ref pr]))] ∧ va_Zq "java/lang/Throwable" "UNASSIGNED_STACK" "[Ljava/lang/StackTraceElement;" (va_A [(x0, .inr (10, [.ref tp, .ref tk, .ref rs, .ref ou, .int 0, .ref sc0, .ref h0, .ref sn0, .ref pa0, .ref vl, .ref de, .ref br, .ref pw, .ref pr]))] sz) U U.heap ∧ va_Zq "java/lang/Throwable" "SUPPRESSED_SENTINEL" "Ljava/util/List;" (va_A [(x0, .inr (10, [.ref tp, .ref tk, .ref rs, .ref ou, .int 0, .ref sc0, .ref h0, .ref sn0, .ref pa0, .ref vl, .ref de, .ref br, .ref pw, .ref pr]))] sz) U U.heap ∧ tz_LS "java/lang/Throwable" "UNASSIGNED_STACK" "[Ljava/lang/StackTraceElement;" (va_A [(x0, .inr (10, [.ref tp, .ref tk, .ref rs, .ref ou, .int 0, .ref sc0, .ref h0, .ref sn0, .ref pa0, .ref vl, .ref de, .ref br, .ref pw, .ref pr]))] sz) U U.heap ∧ tz_LS "java/lang/Throwable" "SUPPRESSED_SENTINEL" "Ljava/util/List;" (va_A [(x0, .inr (10, [.ref tp, .ref tk, .ref rs, .ref ou, .int 0, .ref sc0, .ref h0, .ref sn0, .ref pa0, .ref vl, .ref de, .ref br, .ref pw, .ref pr]))] sz) U U.heap)) (va_Qi (fun (r : Int32) (_ : Unit) => r = 1) (fun _ t => va_P (dC, dI) classes [] t.heap ∧ va_K (dC, dI) classes [] t ∧ va_D (va_A [(x0, .inr (10, [.ref tp, .ref tk, .ref rs, .ref ou, .int 0, .ref sc0, .ref h0, .ref sn0, .ref pa0, .ref vl, .ref de, .ref br, .ref pw, .ref pr]))] sz) []) (va_A [(x0, .inr (10, [.ref tp, .ref tk, .ref rs, .ref ou, .int 0, .ref sc0, .ref h0, .ref sn0, .ref pa0, .ref vl, .ref de, .ref br, .ref pw, .ref pr]))] sz)) 1 6 (va_A [(x0, .inr (10, [.ref tp, .ref tk, .ref rs, .ref ou, .int 0, .ref sc0, .ref h0, .ref sn0, .ref pa0, .ref vl, .ref de, .ref br, .ref pw, .ref pr]))] sz) := by
  refine va_MetW (cc := b_Law_tag) (maxL := 4) (ret := (some .int)) (hh := [(0, 8, 11, 19), (0, 8, 14, 33)]) (by decide) rfl ?_
  intro p e s m args below meth c s₁ B hml hv
  obtain ⟨rfl, hsz, hP, hK, hD0, hx0, hx1, hx2, hx3⟩ := hv
  have hx := B.exec
  have hb := B.bytes
  have hr := B.returns
  have hts := atoms_spec (ws := ws_Law_tag) B.pre
  have htw : ∀ w ∈ tw_tbl, w.before [.ref x0, .int z1, .ref oq].toArray s = true := fun w h => hts w (List.mem_cons_of_mem _ h)
  have hown : s.vm.findClass R_Law = some m.cls := findClass_of_methodNamed B.named
  have hlocks := B.notSynchronized
  have hin : meth.name = "tag" := (name_of_methodNamed B.named B.method).1
  subst hsz
  have hD := hD0.self (sz := s.heap.size)
  generalize hAe : va_A [(x0, .inr (10, [.ref tp, .ref tk, .ref rs, .ref ou, .int 0, .ref sc0, .ref h0, .ref sn0, .ref pa0, .ref vl, .ref de, .ref br, .ref pw, .ref pr]))] s.heap.size = A at hD hx0 hx1 hx2 hx3 ⊢
  have hA : ∀ q : Nat, s.heap.size ≤ q → A q := fun q h => by rw [← hAe]; exact Or.inr h
  have hS : va_S A s.heap s.heap [] := va_S.rf
  have hP : va_P (dC, dI) classes [(x0, .inr (10, [.ref tp, .ref tk, .ref rs, .ref ou, .int 0, .ref sc0, .ref h0, .ref sn0, .ref pa0, .ref vl, .ref de, .ref br, .ref pw, .ref pr]))] s.heap := hP
  have hl := lv_entry ([.ref x0, .int z1, .ref oq]) (n := 4) (Nat.le_of_ble_eq_true rfl)
  rw [lg_entry_eq]
  generalize (lg_sl ([.ref x0, .int z1, .ref oq]) ++ List.replicate (4 - (lg_sl ([.ref x0, .int z1, .ref oq])).length) Slot.unset).toArray = ls at hl ⊢
  have hl : lv_has ls 4 [(0, .ref x0), (1, .int z1), (2, .ref oq)] := hl
  refine lv_aload_n hx hb d_Law_tag_0 rfl (lv_at hl 2 rfl) ?_
  refine lv_iconst (v := 0) hx hb d_Law_tag_1 (by decide) ?_
  refine lv_aload_n hx hb d_Law_tag_2 rfl (lv_at hl 0 rfl) ?_
  refine lv_iload_n hx hb d_Law_tag_3 rfl (lv_at hl 1 rfl) ?_
  have hc0 : 0 + 1 ≤ 1 := by omega
  have hs0 : 0 + 6 ≤ 6 := by omega
  have hPc := hP.sub (ws' := [(x0, .inr (10, [.ref tp, .ref tk, .ref rs, .ref ou, .int 0, .ref sc0, .ref h0, .ref sn0, .ref pa0, .ref vl, .ref de, .ref br, .ref pw, .ref pr]))]) [0] rfl
  have hDc := hD.sub (ws' := [(x0, .inr (10, [.ref tp, .ref tk, .ref rs, .ref ou, .int 0, .ref sc0, .ref h0, .ref sn0, .ref pa0, .ref vl, .ref de, .ref br, .ref pw, .ref pr]))]) [0] (by decide) rfl
  have hKc := hK.sub (tys' := []) [] rfl
  have hFc := va_free (wc := [(x0, .inr (10, [.ref tp, .ref tk, .ref rs, .ref ou, .int 0, .ref sc0, .ref h0, .ref sn0, .ref pa0, .ref vl, .ref de, .ref br, .ref pw, .ref pr]))]) hD hS hA [0] rfl
  have hadm := B.admits
  have htab := tk_table (hh := [(0, 8, 11, 19), (0, 8, 14, 33)]) B List.mem_cons_self
  obtain ⟨cE9, hcE9⟩ := tk_found (htw _ wd_3_138)
  refine tk_catch (cE := cE9) (tk_runV (As := [.int z1]) (rest := [.int 0, .ref oq]) ⟨hx, hb, hml, hown, htw⟩ (x_SF_tag l hNT dC dI s.heap.size x0 tp tk rs ou sc0 h0 sn0 pa0 vl de br pw pr z1 (by first | omega | assumption)) (tk_cw (Ts := tw_tbl) (cwV 1 htw (tw_V wd_9_194 wd_9_195 wd_9_196 wd_1_1 k_SF_tag) rfl rfl rfl (by decide +kernel) ⟨Nat.le_of_ble_eq_true rfl, Nat.le_of_ble_eq_true rfl⟩)) ⟨fun a U g mk q => by obtain ⟨q0, q1, qP, qK, qD, hq0, hq1, hq2, hq3⟩ := q; exact ⟨q0, q1, qP, va_K.moved (u := U) (U := U.calling g mk a) (Vm.Alike.refl U.vm) qK, qD, va_Zq.moved (u := U) (U := U.calling g mk a) (Vm.Alike.refl U.vm) hq0, va_Zq.moved (u := U) (U := U.calling g mk a) (Vm.Alike.refl U.vm) hq1, tz_LS.moved (u := U) (U := U.calling g mk a) (Vm.Alike.refl U.vm) hq2, tz_LS.moved (u := U) (U := U.calling g mk a) (Vm.Alike.refl U.vm) hq3⟩, va_recv hK hP (q := (R_SF, F_SF, 14)) (ci := 10) (q0 := 0) rfl rfl, fun U hU hW => ⟨rfl, by rw [hU], by rw [hU]; exact hPc, va_K.moved hW.alike hKc, hDc.weaken (fun _ _ _ _ => trivial), by rw [hU]; exact va_Zq.moved hW.alike ((va_Zq.kept hx0 hS.2.1).narrow hFc), by rw [hU]; exact va_Zq.moved hW.alike ((va_Zq.kept hx1 hS.2.1).narrow hFc), by rw [hU]; exact tz_LS.moved hW.alike ((tz_LS.kept hx2 hS.2.1).narrow hFc), by rw [hU]; exact tz_LS.moved hW.alike ((tz_LS.kept hx3 hS.2.1).narrow hFc)⟩⟩ rfl rfl hl.1 rfl (lv_room (Nat.le_of_ble_eq_true rfl)) d_Law_tag_4 ⟨hc0, hs0⟩) (fun st9 x9 t9 h8 hw9 hq9 => tk_qe hcE9 hw9 hq9) (tk_find1 hadm hown hcE9 htab (by decide) (by decide) (by decide) (htw _ wd_3_132)) (fun x2 H1 L9 hL9 hz9 hk9 hz1 hk1 => ?_)
  have hS := tk_S hS hFc hL9 hz9 hk9
  obtain ⟨hP, hD⟩ := va_join (wr := []) (w1 := []) hP hD [0] [] rfl rfl (by decide) (by decide) hk1 hFc tk_P0 tk_D0
  clear hL9 hz9 hk9 hz1 hk1
  generalize H1 = H at hP hS ⊢
  have hP : va_P (dC, dI) classes [] H := hP
  have hD : va_D A [] := hD
  refine lv_astore_n hx hb d_Law_tag_11 rfl hl (by decide) rfl (fun ls hl => ?_)
  have hl : lv_has ls 4 [(3, .ref x2), (0, .ref x0), (1, .int z1), (2, .ref oq)] := hl
  refine lv_iconst (v := 1) hx hb d_Law_tag_12 (by decide) ?_
  have hP9 := hP.sub (ws' := []) [] rfl
  have hD9 := hD.sub (ws' := []) [] (by decide) rfl
  have hK9 := hK.sub (tys' := []) [] rfl
  refine W.widen (k := 1) (n := 6) (by omega) (by omega) ?_
  exact W.iret (v := 1) hx hb hr (fun t ht hW => ⟨⟨1, (), rfl, rfl, by rw [ht]; exact hP9, va_K.moved hW.alike hK9, hD9⟩, hS.F ht⟩) hS.2.2 d_Law_tag_13
set_option maxHeartbeats 4000000 in
set_option maxRecDepth 100000 in
theorem c_Law_tag_v2 (l : Launch) (dC : Nat → ClassId) (dI : Nat → Nat → Nat) (sz : Nat) (x0 : Nat) (tp : Nat) (tk : Nat) (rs : Nat) (ou : Nat) (sc0 : Nat) (h0 : Nat) (sn0 : Nat) (pa0 : Nat) (vl : Nat) (de : Nat) (br : Nat) (pw : Nat) (pr : Nat) (z1 : Int32) (oq : Nat) (hz : ¬ z1 < 0 ∧ ¬ (0 : Int32) < 0 ∧ ¬ (0 : Int32) < (0 : Int32)) (hNT : tk_NT l) : Met l y_Law_tag ws_Law_tag ({ frames := 8, cells := 1, slots := 6, locals := 134 }) (va_Pc [.ref x0, .int z1, .ref oq] (fun U => U.heap.size = sz ∧ va_P (dC, dI) classes [(x0, .inr (10, [.ref tp, .ref tk, .ref rs, .ref ou, .int 0, .ref sc0, .ref h0, .ref sn0, .ref pa0, .ref vl, .ref de, .ref br, .ref pw, .ref pr]))] U.heap ∧ va_K (dC, dI) classes [] U ∧ va_D (fun _ => True) [(x0, .inr (10, [.ref tp, .ref tk, .ref rs, .ref ou, .int 0, .ref sc0, .ref h0, .ref sn0, .ref pa0, .ref vl, .ref de, .ref br, .ref pw, .ref pr]))] ∧ va_Zq "java/lang/Throwable" "UNASSIGNED_STACK" "[Ljava/lang/StackTraceElement;" (va_A [(x0, .inr (10, [.ref tp, .ref tk, .ref rs, .ref ou, .int 0, .ref sc0, .ref h0, .ref sn0, .ref pa0, .ref vl, .ref de, .ref br, .ref pw, .ref pr]))] sz) U U.heap ∧ va_Zq "java/lang/Throwable" "SUPPRESSED_SENTINEL" "Ljava/util/List;" (va_A [(x0, .inr (10, [.ref tp, .ref tk, .ref rs, .ref ou, .int 0, .ref sc0, .ref h0, .ref sn0, .ref pa0, .ref vl, .ref de, .ref br, .ref pw, .ref pr]))] sz) U U.heap ∧ tz_LS "java/lang/Throwable" "UNASSIGNED_STACK" "[Ljava/lang/StackTraceElement;" (va_A [(x0, .inr (10, [.ref tp, .ref tk, .ref rs, .ref ou, .int 0, .ref sc0, .ref h0, .ref sn0, .ref pa0, .ref vl, .ref de, .ref br, .ref pw, .ref pr]))] sz) U U.heap ∧ tz_LS "java/lang/Throwable" "SUPPRESSED_SENTINEL" "Ljava/util/List;" (va_A [(x0, .inr (10, [.ref tp, .ref tk, .ref rs, .ref ou, .int 0, .ref sc0, .ref h0, .ref sn0, .ref pa0, .ref vl, .ref de, .ref br, .ref pw, .ref pr]))] sz) U U.heap ∧ tz_NC "java/lang/IllegalStateException" "java/lang/IllegalArgumentException" U)) (va_Qi (fun (r : Int32) (_ : Unit) => r = 2) (fun _ t => va_P (dC, dI) classes [] t.heap ∧ va_K (dC, dI) classes [] t ∧ va_D (va_A [(x0, .inr (10, [.ref tp, .ref tk, .ref rs, .ref ou, .int 0, .ref sc0, .ref h0, .ref sn0, .ref pa0, .ref vl, .ref de, .ref br, .ref pw, .ref pr]))] sz) []) (va_A [(x0, .inr (10, [.ref tp, .ref tk, .ref rs, .ref ou, .int 0, .ref sc0, .ref h0, .ref sn0, .ref pa0, .ref vl, .ref de, .ref br, .ref pw, .ref pr]))] sz)) 1 6 (va_A [(x0, .inr (10, [.ref tp, .ref tk, .ref rs, .ref ou, .int 0, .ref sc0, .ref h0, .ref sn0, .ref pa0, .ref vl, .ref de, .ref br, .ref pw, .ref pr]))] sz) := by
  refine va_MetW (cc := b_Law_tag) (maxL := 4) (ret := (some .int)) (hh := [(0, 8, 11, 19), (0, 8, 14, 33)]) (by decide) rfl ?_
  intro p e s m args below meth c s₁ B hml hv
  obtain ⟨rfl, hsz, hP, hK, hD0, hx0, hx1, hx2, hx3, hx4⟩ := hv
  have hx := B.exec
  have hb := B.bytes
  have hr := B.returns
  have hts := atoms_spec (ws := ws_Law_tag) B.pre
  have htw : ∀ w ∈ tw_tbl, w.before [.ref x0, .int z1, .ref oq].toArray s = true := fun w h => hts w (List.mem_cons_of_mem _ h)
  have hown : s.vm.findClass R_Law = some m.cls := findClass_of_methodNamed B.named
  have hlocks := B.notSynchronized
  have hin : meth.name = "tag" := (name_of_methodNamed B.named B.method).1
  subst hsz
  have hD := hD0.self (sz := s.heap.size)
  generalize hAe : va_A [(x0, .inr (10, [.ref tp, .ref tk, .ref rs, .ref ou, .int 0, .ref sc0, .ref h0, .ref sn0, .ref pa0, .ref vl, .ref de, .ref br, .ref pw, .ref pr]))] s.heap.size = A at hD hx0 hx1 hx2 hx3 hx4 ⊢
  have hA : ∀ q : Nat, s.heap.size ≤ q → A q := fun q h => by rw [← hAe]; exact Or.inr h
  have hS : va_S A s.heap s.heap [] := va_S.rf
  have hP : va_P (dC, dI) classes [(x0, .inr (10, [.ref tp, .ref tk, .ref rs, .ref ou, .int 0, .ref sc0, .ref h0, .ref sn0, .ref pa0, .ref vl, .ref de, .ref br, .ref pw, .ref pr]))] s.heap := hP
  have hl := lv_entry ([.ref x0, .int z1, .ref oq]) (n := 4) (Nat.le_of_ble_eq_true rfl)
  rw [lg_entry_eq]
  generalize (lg_sl ([.ref x0, .int z1, .ref oq]) ++ List.replicate (4 - (lg_sl ([.ref x0, .int z1, .ref oq])).length) Slot.unset).toArray = ls at hl ⊢
  have hl : lv_has ls 4 [(0, .ref x0), (1, .int z1), (2, .ref oq)] := hl
  refine lv_aload_n hx hb d_Law_tag_0 rfl (lv_at hl 2 rfl) ?_
  refine lv_iconst (v := 0) hx hb d_Law_tag_1 (by decide) ?_
  refine lv_aload_n hx hb d_Law_tag_2 rfl (lv_at hl 0 rfl) ?_
  refine lv_iload_n hx hb d_Law_tag_3 rfl (lv_at hl 1 rfl) ?_
  have hc0 : 0 + 1 ≤ 1 := by omega
  have hs0 : 0 + 6 ≤ 6 := by omega
  have hPc := hP.sub (ws' := [(x0, .inr (10, [.ref tp, .ref tk, .ref rs, .ref ou, .int 0, .ref sc0, .ref h0, .ref sn0, .ref pa0, .ref vl, .ref de, .ref br, .ref pw, .ref pr]))]) [0] rfl
  have hDc := hD.sub (ws' := [(x0, .inr (10, [.ref tp, .ref tk, .ref rs, .ref ou, .int 0, .ref sc0, .ref h0, .ref sn0, .ref pa0, .ref vl, .ref de, .ref br, .ref pw, .ref pr]))]) [0] (by decide) rfl
  have hKc := hK.sub (tys' := []) [] rfl
  have hFc := va_free (wc := [(x0, .inr (10, [.ref tp, .ref tk, .ref rs, .ref ou, .int 0, .ref sc0, .ref h0, .ref sn0, .ref pa0, .ref vl, .ref de, .ref br, .ref pw, .ref pr]))]) hD hS hA [0] rfl
  have hadm := B.admits
  have htab := tk_table (hh := [(0, 8, 11, 19), (0, 8, 14, 33)]) B List.mem_cons_self
  obtain ⟨cE9, hcE9⟩ := tk_found (htw _ wd_7_202)
  refine tk_catch (cE := cE9) (tk_runV (As := [.int z1]) (rest := [.int 0, .ref oq]) ⟨hx, hb, hml, hown, htw⟩ (x_SF_tag_v2 l hNT dC dI s.heap.size x0 tp tk rs ou sc0 h0 sn0 pa0 vl de br pw pr z1 (by first | omega | assumption)) (tk_cw (Ts := tw_tbl) (cwV 1 htw (tw_V wd_9_194 wd_9_195 wd_9_196 wd_1_1 k_SF_tag) rfl rfl rfl (by decide +kernel) ⟨Nat.le_of_ble_eq_true rfl, Nat.le_of_ble_eq_true rfl⟩)) ⟨fun a U g mk q => by obtain ⟨q0, q1, qP, qK, qD, hq0, hq1, hq2, hq3⟩ := q; exact ⟨q0, q1, qP, va_K.moved (u := U) (U := U.calling g mk a) (Vm.Alike.refl U.vm) qK, qD, va_Zq.moved (u := U) (U := U.calling g mk a) (Vm.Alike.refl U.vm) hq0, va_Zq.moved (u := U) (U := U.calling g mk a) (Vm.Alike.refl U.vm) hq1, tz_LS.moved (u := U) (U := U.calling g mk a) (Vm.Alike.refl U.vm) hq2, tz_LS.moved (u := U) (U := U.calling g mk a) (Vm.Alike.refl U.vm) hq3⟩, va_recv hK hP (q := (R_SF, F_SF, 14)) (ci := 10) (q0 := 0) rfl rfl, fun U hU hW => ⟨rfl, by rw [hU], by rw [hU]; exact hPc, va_K.moved hW.alike hKc, hDc.weaken (fun _ _ _ _ => trivial), by rw [hU]; exact va_Zq.moved hW.alike ((va_Zq.kept hx0 hS.2.1).narrow hFc), by rw [hU]; exact va_Zq.moved hW.alike ((va_Zq.kept hx1 hS.2.1).narrow hFc), by rw [hU]; exact tz_LS.moved hW.alike ((tz_LS.kept hx2 hS.2.1).narrow hFc), by rw [hU]; exact tz_LS.moved hW.alike ((tz_LS.kept hx3 hS.2.1).narrow hFc)⟩⟩ rfl rfl hl.1 rfl (lv_room (Nat.le_of_ble_eq_true rfl)) d_Law_tag_4 ⟨hc0, hs0⟩) (fun st9 x9 t9 h8 hw9 hq9 => tk_qe hcE9 hw9 hq9) (tk_find2 hadm hown hcE9 hx4 htab (by decide) (by decide) (by decide) (htw _ wd_3_132) (by decide) (by decide) (by decide) (htw _ wd_7_192)) (fun x2 H1 L9 hL9 hz9 hk9 hz1 hk1 => ?_)
  have hS := tk_S hS hFc hL9 hz9 hk9
  obtain ⟨hP, hD⟩ := va_join (wr := []) (w1 := []) hP hD [0] [] rfl rfl (by decide) (by decide) hk1 hFc tk_P0 tk_D0
  clear hL9 hz9 hk9 hz1 hk1
  generalize H1 = H at hP hS ⊢
  have hP : va_P (dC, dI) classes [] H := hP
  have hD : va_D A [] := hD
  refine lv_astore_n hx hb d_Law_tag_14 rfl hl (by decide) rfl (fun ls hl => ?_)
  have hl : lv_has ls 4 [(3, .ref x2), (0, .ref x0), (1, .int z1), (2, .ref oq)] := hl
  refine lv_iconst (v := 2) hx hb d_Law_tag_15 (by decide) ?_
  have hP9 := hP.sub (ws' := []) [] rfl
  have hD9 := hD.sub (ws' := []) [] (by decide) rfl
  have hK9 := hK.sub (tys' := []) [] rfl
  refine W.widen (k := 1) (n := 6) (by omega) (by omega) ?_
  exact W.iret (v := 2) hx hb hr (fun t ht hW => ⟨⟨2, (), rfl, rfl, by rw [ht]; exact hP9, va_K.moved hW.alike hK9, hD9⟩, hS.F ht⟩) hS.2.2 d_Law_tag_16
set_option maxHeartbeats 4000000 in
set_option maxRecDepth 100000 in
theorem c_Law_read (l : Launch) (dC : Nat → ClassId) (dI : Nat → Nat → Nat) (sz : Nat) (x0 : Nat) (tp : Nat) (tk : Nat) (rs : Nat) (ou : Nat) (sc0 : Nat) (h0 : Nat) (sn0 : Nat) (pa0 : Nat) (vl : Nat) (de : Nat) (br : Nat) (pw : Nat) (pr : Nat) (tpa : Nat) (tka : Nat) (kk1 : Nat) (kk2 : Nat) (kk3 : Nat) (ck1 : ClassId) (ck2 : ClassId) (ck3 : ClassId) (un : Nat) (a1 : Nat) (dv : Nat) (a2 : Nat) (a3 : Nat) (a4 : Nat) (wd : Nat) (lt : Nat) (bu : Nat) (st : Nat) (le : Nat) (nx : Nat) (ow : Nat) (sp : Nat) (ky : Nat) (sm : Nat) (s2 : Nat) (k2 : Nat) (g1 : Nat → Int32) (g2 : Nat → Int32) (g3 : Nat → Int32) (g4 : Nat → Int32) (g5 : Nat → Int32) (g6 : Nat → Int32) (wda : Nat) (cwd : ClassId) (wf : Nat → Int32) (lta : Nat) (clt : ClassId) (cst : ClassId) (cle : ClassId) (cnx : ClassId) (cow : ClassId) (cbu : ClassId) (m1 : Int32) (m2 : Int32) (m3 : Int32) (dal : Nat) (dvd : Nat) (dva : Nat) (dE : Nat) (oq : Nat) (hwf : ∀ j, j < 280 → wf j = tz_wb j) (hNT : tk_NT l) : Met l y_Law_read ws_Law_read ({ frames := 10, cells := 1, slots := 6, locals := 179 }) (va_Pc [.ref x0, .ref oq] (fun U => U.heap.size = sz ∧ va_P (dC, dI) classes [(x0, .inr (10, [.ref tp, .ref tk, .ref rs, .ref ou, .int 0, .ref sc0, .ref h0, .ref sn0, .ref pa0, .ref vl, .ref de, .ref br, .ref pw, .ref pr])), (tp, .inr (0, [.ref tpa, .int 0])), (tk, .inr (0, [.ref tka, .int 0])), (sn0, .inr (4, [.ref kk1, .ref kk2, .ref kk3, .int 0, .int ((-1)), .null, .null, .int 0])), (kk1, .inl (ck1, 64, .inl ((fun _ => 0)))), (kk2, .inl (ck2, 64, .inl ((fun _ => 0)))), (kk3, .inl (ck3, 64, .inr (.inl ((fun _ => 0))))), (pa0, .inr (5, [.ref sn0, .ref un, .null, .null, .null, .int 0, .int 0])), (h0, .inr (3, [.ref a1, .ref dv, .int 0, .int 0, .ref a2, .ref a3, .ref a4, .ref wd, .ref lt, .ref bu, .ref st, .ref le, .ref nx, .ref ow, .int (nI s2), .ref sp, .ref ky, .ref sm, .int 0])), (st, .inl (cst, 64, .inl g1)), (le, .inl (cle, 64, .inl g2)), (nx, .inl (cnx, 64, .inl g3)), (ow, .inl (cow, 64, .inl g4)), (bu, .inl (cbu, 256, .inl g5)), (lt, .inr (0, [.ref lta, .int (nI k2)])), (lta, .inl (clt, 512, .inl g6)), (wd, .inr (0, [.ref wda, .int (nI 280)])), (wda, .inl (cwd, 280, .inl wf)), (a1, .inr (1, [.ref dE, .int 0, .int m1])), (a2, .inr (1, [.ref dE, .int 0, .int m2])), (a3, .inr (1, [.ref dE, .int 0, .int m3])), (dv, .inr (2, [.ref dal, .ref dvd, .int 0])), (dvd, .inr (0, [.ref dva, .int 0]))] U.heap ∧ va_K (dC, dI) classes [(ck1, .int), (ck2, .int), (ck3, .long), (cst, .int), (cle, .int), (cnx, .int), (cow, .int), (cbu, .int), (clt, .byte), (cwd, .byte)] U ∧ va_D (fun _ => True) [(x0, .inr (10, [.ref tp, .ref tk, .ref rs, .ref ou, .int 0, .ref sc0, .ref h0, .ref sn0, .ref pa0, .ref vl, .ref de, .ref br, .ref pw, .ref pr])), (tp, .inr (0, [.ref tpa, .int 0])), (tk, .inr (0, [.ref tka, .int 0])), (sn0, .inr (4, [.ref kk1, .ref kk2, .ref kk3, .int 0, .int ((-1)), .null, .null, .int 0])), (kk1, .inl (ck1, 64, .inl ((fun _ => 0)))), (kk2, .inl (ck2, 64, .inl ((fun _ => 0)))), (kk3, .inl (ck3, 64, .inr (.inl ((fun _ => 0))))), (pa0, .inr (5, [.ref sn0, .ref un, .null, .null, .null, .int 0, .int 0])), (h0, .inr (3, [.ref a1, .ref dv, .int 0, .int 0, .ref a2, .ref a3, .ref a4, .ref wd, .ref lt, .ref bu, .ref st, .ref le, .ref nx, .ref ow, .int (nI s2), .ref sp, .ref ky, .ref sm, .int 0])), (st, .inl (cst, 64, .inl g1)), (le, .inl (cle, 64, .inl g2)), (nx, .inl (cnx, 64, .inl g3)), (ow, .inl (cow, 64, .inl g4)), (bu, .inl (cbu, 256, .inl g5)), (lt, .inr (0, [.ref lta, .int (nI k2)])), (lta, .inl (clt, 512, .inl g6)), (wd, .inr (0, [.ref wda, .int (nI 280)])), (wda, .inl (cwd, 280, .inl wf)), (a1, .inr (1, [.ref dE, .int 0, .int m1])), (a2, .inr (1, [.ref dE, .int 0, .int m2])), (a3, .inr (1, [.ref dE, .int 0, .int m3])), (dv, .inr (2, [.ref dal, .ref dvd, .int 0])), (dvd, .inr (0, [.ref dva, .int 0]))] ∧ va_Zq "java/lang/Throwable" "UNASSIGNED_STACK" "[Ljava/lang/StackTraceElement;" (va_A [(x0, .inr (10, [.ref tp, .ref tk, .ref rs, .ref ou, .int 0, .ref sc0, .ref h0, .ref sn0, .ref pa0, .ref vl, .ref de, .ref br, .ref pw, .ref pr])), (tp, .inr (0, [.ref tpa, .int 0])), (tk, .inr (0, [.ref tka, .int 0])), (sn0, .inr (4, [.ref kk1, .ref kk2, .ref kk3, .int 0, .int ((-1)), .null, .null, .int 0])), (kk1, .inl (ck1, 64, .inl ((fun _ => 0)))), (kk2, .inl (ck2, 64, .inl ((fun _ => 0)))), (kk3, .inl (ck3, 64, .inr (.inl ((fun _ => 0))))), (pa0, .inr (5, [.ref sn0, .ref un, .null, .null, .null, .int 0, .int 0])), (h0, .inr (3, [.ref a1, .ref dv, .int 0, .int 0, .ref a2, .ref a3, .ref a4, .ref wd, .ref lt, .ref bu, .ref st, .ref le, .ref nx, .ref ow, .int (nI s2), .ref sp, .ref ky, .ref sm, .int 0])), (st, .inl (cst, 64, .inl g1)), (le, .inl (cle, 64, .inl g2)), (nx, .inl (cnx, 64, .inl g3)), (ow, .inl (cow, 64, .inl g4)), (bu, .inl (cbu, 256, .inl g5)), (lt, .inr (0, [.ref lta, .int (nI k2)])), (lta, .inl (clt, 512, .inl g6)), (wd, .inr (0, [.ref wda, .int (nI 280)])), (wda, .inl (cwd, 280, .inl wf)), (a1, .inr (1, [.ref dE, .int 0, .int m1])), (a2, .inr (1, [.ref dE, .int 0, .int m2])), (a3, .inr (1, [.ref dE, .int 0, .int m3])), (dv, .inr (2, [.ref dal, .ref dvd, .int 0])), (dvd, .inr (0, [.ref dva, .int 0]))] sz) U U.heap ∧ va_Zq "java/lang/Throwable" "SUPPRESSED_SENTINEL" "Ljava/util/List;" (va_A [(x0, .inr (10, [.ref tp, .ref tk, .ref rs, .ref ou, .int 0, .ref sc0, .ref h0, .ref sn0, .ref pa0, .ref vl, .ref de, .ref br, .ref pw, .ref pr])), (tp, .inr (0, [.ref tpa, .int 0])), (tk, .inr (0, [.ref tka, .int 0])), (sn0, .inr (4, [.ref kk1, .ref kk2, .ref kk3, .int 0, .int ((-1)), .null, .null, .int 0])), (kk1, .inl (ck1, 64, .inl ((fun _ => 0)))), (kk2, .inl (ck2, 64, .inl ((fun _ => 0)))), (kk3, .inl (ck3, 64, .inr (.inl ((fun _ => 0))))), (pa0, .inr (5, [.ref sn0, .ref un, .null, .null, .null, .int 0, .int 0])), (h0, .inr (3, [.ref a1, .ref dv, .int 0, .int 0, .ref a2, .ref a3, .ref a4, .ref wd, .ref lt, .ref bu, .ref st, .ref le, .ref nx, .ref ow, .int (nI s2), .ref sp, .ref ky, .ref sm, .int 0])), (st, .inl (cst, 64, .inl g1)), (le, .inl (cle, 64, .inl g2)), (nx, .inl (cnx, 64, .inl g3)), (ow, .inl (cow, 64, .inl g4)), (bu, .inl (cbu, 256, .inl g5)), (lt, .inr (0, [.ref lta, .int (nI k2)])), (lta, .inl (clt, 512, .inl g6)), (wd, .inr (0, [.ref wda, .int (nI 280)])), (wda, .inl (cwd, 280, .inl wf)), (a1, .inr (1, [.ref dE, .int 0, .int m1])), (a2, .inr (1, [.ref dE, .int 0, .int m2])), (a3, .inr (1, [.ref dE, .int 0, .int m3])), (dv, .inr (2, [.ref dal, .ref dvd, .int 0])), (dvd, .inr (0, [.ref dva, .int 0]))] sz) U U.heap ∧ tz_LS "java/lang/Throwable" "UNASSIGNED_STACK" "[Ljava/lang/StackTraceElement;" (va_A [(x0, .inr (10, [.ref tp, .ref tk, .ref rs, .ref ou, .int 0, .ref sc0, .ref h0, .ref sn0, .ref pa0, .ref vl, .ref de, .ref br, .ref pw, .ref pr])), (tp, .inr (0, [.ref tpa, .int 0])), (tk, .inr (0, [.ref tka, .int 0])), (sn0, .inr (4, [.ref kk1, .ref kk2, .ref kk3, .int 0, .int ((-1)), .null, .null, .int 0])), (kk1, .inl (ck1, 64, .inl ((fun _ => 0)))), (kk2, .inl (ck2, 64, .inl ((fun _ => 0)))), (kk3, .inl (ck3, 64, .inr (.inl ((fun _ => 0))))), (pa0, .inr (5, [.ref sn0, .ref un, .null, .null, .null, .int 0, .int 0])), (h0, .inr (3, [.ref a1, .ref dv, .int 0, .int 0, .ref a2, .ref a3, .ref a4, .ref wd, .ref lt, .ref bu, .ref st, .ref le, .ref nx, .ref ow, .int (nI s2), .ref sp, .ref ky, .ref sm, .int 0])), (st, .inl (cst, 64, .inl g1)), (le, .inl (cle, 64, .inl g2)), (nx, .inl (cnx, 64, .inl g3)), (ow, .inl (cow, 64, .inl g4)), (bu, .inl (cbu, 256, .inl g5)), (lt, .inr (0, [.ref lta, .int (nI k2)])), (lta, .inl (clt, 512, .inl g6)), (wd, .inr (0, [.ref wda, .int (nI 280)])), (wda, .inl (cwd, 280, .inl wf)), (a1, .inr (1, [.ref dE, .int 0, .int m1])), (a2, .inr (1, [.ref dE, .int 0, .int m2])), (a3, .inr (1, [.ref dE, .int 0, .int m3])), (dv, .inr (2, [.ref dal, .ref dvd, .int 0])), (dvd, .inr (0, [.ref dva, .int 0]))] sz) U U.heap ∧ tz_LS "java/lang/Throwable" "SUPPRESSED_SENTINEL" "Ljava/util/List;" (va_A [(x0, .inr (10, [.ref tp, .ref tk, .ref rs, .ref ou, .int 0, .ref sc0, .ref h0, .ref sn0, .ref pa0, .ref vl, .ref de, .ref br, .ref pw, .ref pr])), (tp, .inr (0, [.ref tpa, .int 0])), (tk, .inr (0, [.ref tka, .int 0])), (sn0, .inr (4, [.ref kk1, .ref kk2, .ref kk3, .int 0, .int ((-1)), .null, .null, .int 0])), (kk1, .inl (ck1, 64, .inl ((fun _ => 0)))), (kk2, .inl (ck2, 64, .inl ((fun _ => 0)))), (kk3, .inl (ck3, 64, .inr (.inl ((fun _ => 0))))), (pa0, .inr (5, [.ref sn0, .ref un, .null, .null, .null, .int 0, .int 0])), (h0, .inr (3, [.ref a1, .ref dv, .int 0, .int 0, .ref a2, .ref a3, .ref a4, .ref wd, .ref lt, .ref bu, .ref st, .ref le, .ref nx, .ref ow, .int (nI s2), .ref sp, .ref ky, .ref sm, .int 0])), (st, .inl (cst, 64, .inl g1)), (le, .inl (cle, 64, .inl g2)), (nx, .inl (cnx, 64, .inl g3)), (ow, .inl (cow, 64, .inl g4)), (bu, .inl (cbu, 256, .inl g5)), (lt, .inr (0, [.ref lta, .int (nI k2)])), (lta, .inl (clt, 512, .inl g6)), (wd, .inr (0, [.ref wda, .int (nI 280)])), (wda, .inl (cwd, 280, .inl wf)), (a1, .inr (1, [.ref dE, .int 0, .int m1])), (a2, .inr (1, [.ref dE, .int 0, .int m2])), (a3, .inr (1, [.ref dE, .int 0, .int m3])), (dv, .inr (2, [.ref dal, .ref dvd, .int 0])), (dvd, .inr (0, [.ref dva, .int 0]))] sz) U U.heap)) (va_Qi (fun (r : Int32) (_ : Unit) => r = 1) (fun _ t => va_P (dC, dI) classes [] t.heap ∧ va_K (dC, dI) classes [] t ∧ va_D (va_A [(x0, .inr (10, [.ref tp, .ref tk, .ref rs, .ref ou, .int 0, .ref sc0, .ref h0, .ref sn0, .ref pa0, .ref vl, .ref de, .ref br, .ref pw, .ref pr])), (tp, .inr (0, [.ref tpa, .int 0])), (tk, .inr (0, [.ref tka, .int 0])), (sn0, .inr (4, [.ref kk1, .ref kk2, .ref kk3, .int 0, .int ((-1)), .null, .null, .int 0])), (kk1, .inl (ck1, 64, .inl ((fun _ => 0)))), (kk2, .inl (ck2, 64, .inl ((fun _ => 0)))), (kk3, .inl (ck3, 64, .inr (.inl ((fun _ => 0))))), (pa0, .inr (5, [.ref sn0, .ref un, .null, .null, .null, .int 0, .int 0])), (h0, .inr (3, [.ref a1, .ref dv, .int 0, .int 0, .ref a2, .ref a3, .ref a4, .ref wd, .ref lt, .ref bu, .ref st, .ref le, .ref nx, .ref ow, .int (nI s2), .ref sp, .ref ky, .ref sm, .int 0])), (st, .inl (cst, 64, .inl g1)), (le, .inl (cle, 64, .inl g2)), (nx, .inl (cnx, 64, .inl g3)), (ow, .inl (cow, 64, .inl g4)), (bu, .inl (cbu, 256, .inl g5)), (lt, .inr (0, [.ref lta, .int (nI k2)])), (lta, .inl (clt, 512, .inl g6)), (wd, .inr (0, [.ref wda, .int (nI 280)])), (wda, .inl (cwd, 280, .inl wf)), (a1, .inr (1, [.ref dE, .int 0, .int m1])), (a2, .inr (1, [.ref dE, .int 0, .int m2])), (a3, .inr (1, [.ref dE, .int 0, .int m3])), (dv, .inr (2, [.ref dal, .ref dvd, .int 0])), (dvd, .inr (0, [.ref dva, .int 0]))] sz) []) (va_A [(x0, .inr (10, [.ref tp, .ref tk, .ref rs, .ref ou, .int 0, .ref sc0, .ref h0, .ref sn0, .ref pa0, .ref vl, .ref de, .ref br, .ref pw, .ref pr])), (tp, .inr (0, [.ref tpa, .int 0])), (tk, .inr (0, [.ref tka, .int 0])), (sn0, .inr (4, [.ref kk1, .ref kk2, .ref kk3, .int 0, .int ((-1)), .null, .null, .int 0])), (kk1, .inl (ck1, 64, .inl ((fun _ => 0)))), (kk2, .inl (ck2, 64, .inl ((fun _ => 0)))), (kk3, .inl (ck3, 64, .inr (.inl ((fun _ => 0))))), (pa0, .inr (5, [.ref sn0, .ref un, .null, .null, .null, .int 0, .int 0])), (h0, .inr (3, [.ref a1, .ref dv, .int 0, .int 0, .ref a2, .ref a3, .ref a4, .ref wd, .ref lt, .ref bu, .ref st, .ref le, .ref nx, .ref ow, .int (nI s2), .ref sp, .ref ky, .ref sm, .int 0])), (st, .inl (cst, 64, .inl g1)), (le, .inl (cle, 64, .inl g2)), (nx, .inl (cnx, 64, .inl g3)), (ow, .inl (cow, 64, .inl g4)), (bu, .inl (cbu, 256, .inl g5)), (lt, .inr (0, [.ref lta, .int (nI k2)])), (lta, .inl (clt, 512, .inl g6)), (wd, .inr (0, [.ref wda, .int (nI 280)])), (wda, .inl (cwd, 280, .inl wf)), (a1, .inr (1, [.ref dE, .int 0, .int m1])), (a2, .inr (1, [.ref dE, .int 0, .int m2])), (a3, .inr (1, [.ref dE, .int 0, .int m3])), (dv, .inr (2, [.ref dal, .ref dvd, .int 0])), (dvd, .inr (0, [.ref dva, .int 0]))] sz)) 1 6 (va_A [(x0, .inr (10, [.ref tp, .ref tk, .ref rs, .ref ou, .int 0, .ref sc0, .ref h0, .ref sn0, .ref pa0, .ref vl, .ref de, .ref br, .ref pw, .ref pr])), (tp, .inr (0, [.ref tpa, .int 0])), (tk, .inr (0, [.ref tka, .int 0])), (sn0, .inr (4, [.ref kk1, .ref kk2, .ref kk3, .int 0, .int ((-1)), .null, .null, .int 0])), (kk1, .inl (ck1, 64, .inl ((fun _ => 0)))), (kk2, .inl (ck2, 64, .inl ((fun _ => 0)))), (kk3, .inl (ck3, 64, .inr (.inl ((fun _ => 0))))), (pa0, .inr (5, [.ref sn0, .ref un, .null, .null, .null, .int 0, .int 0])), (h0, .inr (3, [.ref a1, .ref dv, .int 0, .int 0, .ref a2, .ref a3, .ref a4, .ref wd, .ref lt, .ref bu, .ref st, .ref le, .ref nx, .ref ow, .int (nI s2), .ref sp, .ref ky, .ref sm, .int 0])), (st, .inl (cst, 64, .inl g1)), (le, .inl (cle, 64, .inl g2)), (nx, .inl (cnx, 64, .inl g3)), (ow, .inl (cow, 64, .inl g4)), (bu, .inl (cbu, 256, .inl g5)), (lt, .inr (0, [.ref lta, .int (nI k2)])), (lta, .inl (clt, 512, .inl g6)), (wd, .inr (0, [.ref wda, .int (nI 280)])), (wda, .inl (cwd, 280, .inl wf)), (a1, .inr (1, [.ref dE, .int 0, .int m1])), (a2, .inr (1, [.ref dE, .int 0, .int m2])), (a3, .inr (1, [.ref dE, .int 0, .int m3])), (dv, .inr (2, [.ref dal, .ref dvd, .int 0])), (dvd, .inr (0, [.ref dva, .int 0]))] sz) := by
  refine va_MetW (cc := b_Law_read) (maxL := 3) (ret := (some .int)) (hh := [(0, 8, 11, 25), (0, 8, 14, 27)]) (by decide) rfl ?_
  intro p e s m args below meth c s₁ B hml hv
  obtain ⟨rfl, hsz, hP, hK, hD0, hx0, hx1, hx2, hx3⟩ := hv
  have hx := B.exec
  have hb := B.bytes
  have hr := B.returns
  have hts := atoms_spec (ws := ws_Law_read) B.pre
  have htw : ∀ w ∈ tw_tbl, w.before [.ref x0, .ref oq].toArray s = true := fun w h => hts w (List.mem_cons_of_mem _ h)
  have hown : s.vm.findClass R_Law = some m.cls := findClass_of_methodNamed B.named
  have hlocks := B.notSynchronized
  have hin : meth.name = "read" := (name_of_methodNamed B.named B.method).1
  subst hsz
  have hD := hD0.self (sz := s.heap.size)
  generalize hAe : va_A [(x0, .inr (10, [.ref tp, .ref tk, .ref rs, .ref ou, .int 0, .ref sc0, .ref h0, .ref sn0, .ref pa0, .ref vl, .ref de, .ref br, .ref pw, .ref pr])), (tp, .inr (0, [.ref tpa, .int 0])), (tk, .inr (0, [.ref tka, .int 0])), (sn0, .inr (4, [.ref kk1, .ref kk2, .ref kk3, .int 0, .int ((-1)), .null, .null, .int 0])), (kk1, .inl (ck1, 64, .inl ((fun _ => 0)))), (kk2, .inl (ck2, 64, .inl ((fun _ => 0)))), (kk3, .inl (ck3, 64, .inr (.inl ((fun _ => 0))))), (pa0, .inr (5, [.ref sn0, .ref un, .null, .null, .null, .int 0, .int 0])), (h0, .inr (3, [.ref a1, .ref dv, .int 0, .int 0, .ref a2, .ref a3, .ref a4, .ref wd, .ref lt, .ref bu, .ref st, .ref le, .ref nx, .ref ow, .int (nI s2), .ref sp, .ref ky, .ref sm, .int 0])), (st, .inl (cst, 64, .inl g1)), (le, .inl (cle, 64, .inl g2)), (nx, .inl (cnx, 64, .inl g3)), (ow, .inl (cow, 64, .inl g4)), (bu, .inl (cbu, 256, .inl g5)), (lt, .inr (0, [.ref lta, .int (nI k2)])), (lta, .inl (clt, 512, .inl g6)), (wd, .inr (0, [.ref wda, .int (nI 280)])), (wda, .inl (cwd, 280, .inl wf)), (a1, .inr (1, [.ref dE, .int 0, .int m1])), (a2, .inr (1, [.ref dE, .int 0, .int m2])), (a3, .inr (1, [.ref dE, .int 0, .int m3])), (dv, .inr (2, [.ref dal, .ref dvd, .int 0])), (dvd, .inr (0, [.ref dva, .int 0]))] s.heap.size = A at hD hx0 hx1 hx2 hx3 ⊢
  have hA : ∀ q : Nat, s.heap.size ≤ q → A q := fun q h => by rw [← hAe]; exact Or.inr h
  have hS : va_S A s.heap s.heap [] := va_S.rf
  have hP : va_P (dC, dI) classes [(x0, .inr (10, [.ref tp, .ref tk, .ref rs, .ref ou, .int 0, .ref sc0, .ref h0, .ref sn0, .ref pa0, .ref vl, .ref de, .ref br, .ref pw, .ref pr])), (tp, .inr (0, [.ref tpa, .int 0])), (tk, .inr (0, [.ref tka, .int 0])), (sn0, .inr (4, [.ref kk1, .ref kk2, .ref kk3, .int 0, .int ((-1)), .null, .null, .int 0])), (kk1, .inl (ck1, 64, .inl ((fun _ => 0)))), (kk2, .inl (ck2, 64, .inl ((fun _ => 0)))), (kk3, .inl (ck3, 64, .inr (.inl ((fun _ => 0))))), (pa0, .inr (5, [.ref sn0, .ref un, .null, .null, .null, .int 0, .int 0])), (h0, .inr (3, [.ref a1, .ref dv, .int 0, .int 0, .ref a2, .ref a3, .ref a4, .ref wd, .ref lt, .ref bu, .ref st, .ref le, .ref nx, .ref ow, .int (nI s2), .ref sp, .ref ky, .ref sm, .int 0])), (st, .inl (cst, 64, .inl g1)), (le, .inl (cle, 64, .inl g2)), (nx, .inl (cnx, 64, .inl g3)), (ow, .inl (cow, 64, .inl g4)), (bu, .inl (cbu, 256, .inl g5)), (lt, .inr (0, [.ref lta, .int (nI k2)])), (lta, .inl (clt, 512, .inl g6)), (wd, .inr (0, [.ref wda, .int (nI 280)])), (wda, .inl (cwd, 280, .inl wf)), (a1, .inr (1, [.ref dE, .int 0, .int m1])), (a2, .inr (1, [.ref dE, .int 0, .int m2])), (a3, .inr (1, [.ref dE, .int 0, .int m3])), (dv, .inr (2, [.ref dal, .ref dvd, .int 0])), (dvd, .inr (0, [.ref dva, .int 0]))] s.heap := hP
  have hl := lv_entry ([.ref x0, .ref oq]) (n := 3) (Nat.le_of_ble_eq_true rfl)
  rw [lg_entry_eq]
  generalize (lg_sl ([.ref x0, .ref oq]) ++ List.replicate (3 - (lg_sl ([.ref x0, .ref oq])).length) Slot.unset).toArray = ls at hl ⊢
  have hl : lv_has ls 3 [(0, .ref x0), (1, .ref oq)] := hl
  refine lv_aload_n hx hb d_Law_read_0 rfl (lv_at hl 1 rfl) ?_
  refine lv_iconst (v := 0) hx hb d_Law_read_1 (by decide) ?_
  refine lv_aload_n hx hb d_Law_read_2 rfl (lv_at hl 0 rfl) ?_
  have hc0 : 0 + 1 ≤ 1 := by omega
  have hs0 : 0 + 6 ≤ 6 := by omega
  have hPc := hP.sub (ws' := [(x0, .inr (10, [.ref tp, .ref tk, .ref rs, .ref ou, .int 0, .ref sc0, .ref h0, .ref sn0, .ref pa0, .ref vl, .ref de, .ref br, .ref pw, .ref pr])), (tp, .inr (0, [.ref tpa, .int 0])), (tk, .inr (0, [.ref tka, .int 0])), (sn0, .inr (4, [.ref kk1, .ref kk2, .ref kk3, .int 0, .int ((-1)), .null, .null, .int 0])), (kk1, .inl (ck1, 64, .inl ((fun _ => 0)))), (kk2, .inl (ck2, 64, .inl ((fun _ => 0)))), (kk3, .inl (ck3, 64, .inr (.inl ((fun _ => 0))))), (pa0, .inr (5, [.ref sn0, .ref un, .null, .null, .null, .int 0, .int 0])), (h0, .inr (3, [.ref a1, .ref dv, .int 0, .int 0, .ref a2, .ref a3, .ref a4, .ref wd, .ref lt, .ref bu, .ref st, .ref le, .ref nx, .ref ow, .int (nI s2), .ref sp, .ref ky, .ref sm, .int 0])), (st, .inl (cst, 64, .inl g1)), (le, .inl (cle, 64, .inl g2)), (nx, .inl (cnx, 64, .inl g3)), (ow, .inl (cow, 64, .inl g4)), (bu, .inl (cbu, 256, .inl g5)), (lt, .inr (0, [.ref lta, .int (nI k2)])), (lta, .inl (clt, 512, .inl g6)), (wd, .inr (0, [.ref wda, .int (nI 280)])), (wda, .inl (cwd, 280, .inl wf)), (a1, .inr (1, [.ref dE, .int 0, .int m1])), (a2, .inr (1, [.ref dE, .int 0, .int m2])), (a3, .inr (1, [.ref dE, .int 0, .int m3])), (dv, .inr (2, [.ref dal, .ref dvd, .int 0])), (dvd, .inr (0, [.ref dva, .int 0]))]) [0, 1, 2, 3, 4, 5, 6, 7, 8, 9, 10, 11, 12, 13, 14, 15, 16, 17, 18, 19, 20, 21, 22] rfl
  have hDc := hD.sub (ws' := [(x0, .inr (10, [.ref tp, .ref tk, .ref rs, .ref ou, .int 0, .ref sc0, .ref h0, .ref sn0, .ref pa0, .ref vl, .ref de, .ref br, .ref pw, .ref pr])), (tp, .inr (0, [.ref tpa, .int 0])), (tk, .inr (0, [.ref tka, .int 0])), (sn0, .inr (4, [.ref kk1, .ref kk2, .ref kk3, .int 0, .int ((-1)), .null, .null, .int 0])), (kk1, .inl (ck1, 64, .inl ((fun _ => 0)))), (kk2, .inl (ck2, 64, .inl ((fun _ => 0)))), (kk3, .inl (ck3, 64, .inr (.inl ((fun _ => 0))))), (pa0, .inr (5, [.ref sn0, .ref un, .null, .null, .null, .int 0, .int 0])), (h0, .inr (3, [.ref a1, .ref dv, .int 0, .int 0, .ref a2, .ref a3, .ref a4, .ref wd, .ref lt, .ref bu, .ref st, .ref le, .ref nx, .ref ow, .int (nI s2), .ref sp, .ref ky, .ref sm, .int 0])), (st, .inl (cst, 64, .inl g1)), (le, .inl (cle, 64, .inl g2)), (nx, .inl (cnx, 64, .inl g3)), (ow, .inl (cow, 64, .inl g4)), (bu, .inl (cbu, 256, .inl g5)), (lt, .inr (0, [.ref lta, .int (nI k2)])), (lta, .inl (clt, 512, .inl g6)), (wd, .inr (0, [.ref wda, .int (nI 280)])), (wda, .inl (cwd, 280, .inl wf)), (a1, .inr (1, [.ref dE, .int 0, .int m1])), (a2, .inr (1, [.ref dE, .int 0, .int m2])), (a3, .inr (1, [.ref dE, .int 0, .int m3])), (dv, .inr (2, [.ref dal, .ref dvd, .int 0])), (dvd, .inr (0, [.ref dva, .int 0]))]) [0, 1, 2, 3, 4, 5, 6, 7, 8, 9, 10, 11, 12, 13, 14, 15, 16, 17, 18, 19, 20, 21, 22] (by decide) rfl
  have hKc := hK.sub (tys' := [(ck1, .int), (ck2, .int), (ck3, .long), (cst, .int), (cle, .int), (cnx, .int), (cow, .int), (cbu, .int), (clt, .byte), (cwd, .byte)]) [0, 1, 2, 3, 4, 5, 6, 7, 8, 9] rfl
  have hFc := va_free (wc := [(x0, .inr (10, [.ref tp, .ref tk, .ref rs, .ref ou, .int 0, .ref sc0, .ref h0, .ref sn0, .ref pa0, .ref vl, .ref de, .ref br, .ref pw, .ref pr])), (tp, .inr (0, [.ref tpa, .int 0])), (tk, .inr (0, [.ref tka, .int 0])), (sn0, .inr (4, [.ref kk1, .ref kk2, .ref kk3, .int 0, .int ((-1)), .null, .null, .int 0])), (kk1, .inl (ck1, 64, .inl ((fun _ => 0)))), (kk2, .inl (ck2, 64, .inl ((fun _ => 0)))), (kk3, .inl (ck3, 64, .inr (.inl ((fun _ => 0))))), (pa0, .inr (5, [.ref sn0, .ref un, .null, .null, .null, .int 0, .int 0])), (h0, .inr (3, [.ref a1, .ref dv, .int 0, .int 0, .ref a2, .ref a3, .ref a4, .ref wd, .ref lt, .ref bu, .ref st, .ref le, .ref nx, .ref ow, .int (nI s2), .ref sp, .ref ky, .ref sm, .int 0])), (st, .inl (cst, 64, .inl g1)), (le, .inl (cle, 64, .inl g2)), (nx, .inl (cnx, 64, .inl g3)), (ow, .inl (cow, 64, .inl g4)), (bu, .inl (cbu, 256, .inl g5)), (lt, .inr (0, [.ref lta, .int (nI k2)])), (lta, .inl (clt, 512, .inl g6)), (wd, .inr (0, [.ref wda, .int (nI 280)])), (wda, .inl (cwd, 280, .inl wf)), (a1, .inr (1, [.ref dE, .int 0, .int m1])), (a2, .inr (1, [.ref dE, .int 0, .int m2])), (a3, .inr (1, [.ref dE, .int 0, .int m3])), (dv, .inr (2, [.ref dal, .ref dvd, .int 0])), (dvd, .inr (0, [.ref dva, .int 0]))]) hD hS hA [0, 1, 2, 3, 4, 5, 6, 7, 8, 9, 10, 11, 12, 13, 14, 15, 16, 17, 18, 19, 20, 21, 22] rfl
  have hadm := B.admits
  have htab := tk_table (hh := [(0, 8, 11, 25), (0, 8, 14, 27)]) B List.mem_cons_self
  obtain ⟨cE9, hcE9⟩ := tk_found (htw _ wd_4_66)
  refine tk_catch (cE := cE9) (tk_runV (As := []) (rest := [.int 0, .ref oq]) ⟨hx, hb, hml, hown, htw⟩ (x_SF_read l hNT dC dI s.heap.size x0 tp tk rs ou sc0 h0 sn0 pa0 vl de br pw pr tpa tka kk1 kk2 kk3 ck1 ck2 ck3 un a1 dv a2 a3 a4 wd lt bu st le nx ow sp ky sm s2 k2 g1 g2 g3 g4 g5 g6 wda cwd wf lta clt cst cle cnx cow cbu m1 m2 m3 dal dvd dva dE (by first | omega | assumption)) (tk_cw (Ts := tw_tbl) (cwV 0 htw (tw_V wd_3_157 wd_3_158 wd_3_159 wd_1_1 k_SF_read) rfl rfl rfl (by decide +kernel) ⟨Nat.le_of_ble_eq_true rfl, Nat.le_of_ble_eq_true rfl⟩)) ⟨fun a U g mk q => by obtain ⟨q0, q1, qP, qK, qD, hq0, hq1, hq2, hq3⟩ := q; exact ⟨q0, q1, qP, va_K.moved (u := U) (U := U.calling g mk a) (Vm.Alike.refl U.vm) qK, qD, va_Zq.moved (u := U) (U := U.calling g mk a) (Vm.Alike.refl U.vm) hq0, va_Zq.moved (u := U) (U := U.calling g mk a) (Vm.Alike.refl U.vm) hq1, tz_LS.moved (u := U) (U := U.calling g mk a) (Vm.Alike.refl U.vm) hq2, tz_LS.moved (u := U) (U := U.calling g mk a) (Vm.Alike.refl U.vm) hq3⟩, va_recv hK hP (q := (R_SF, F_SF, 14)) (ci := 10) (q0 := 0) rfl rfl, fun U hU hW => ⟨rfl, by rw [hU], by rw [hU]; exact hPc, va_K.moved hW.alike hKc, hDc.weaken (fun _ _ _ _ => trivial), by rw [hU]; exact va_Zq.moved hW.alike ((va_Zq.kept hx0 hS.2.1).narrow hFc), by rw [hU]; exact va_Zq.moved hW.alike ((va_Zq.kept hx1 hS.2.1).narrow hFc), by rw [hU]; exact tz_LS.moved hW.alike ((tz_LS.kept hx2 hS.2.1).narrow hFc), by rw [hU]; exact tz_LS.moved hW.alike ((tz_LS.kept hx3 hS.2.1).narrow hFc)⟩⟩ rfl rfl hl.1 rfl (lv_room (Nat.le_of_ble_eq_true rfl)) d_Law_read_3 ⟨hc0, hs0⟩) (fun st9 x9 t9 h8 hw9 hq9 => tk_qe hcE9 hw9 hq9) (tk_find1 hadm hown hcE9 htab (by decide) (by decide) (by decide) (htw _ wd_3_155)) (fun x2 H1 L9 hL9 hz9 hk9 hz1 hk1 => ?_)
  have hS := tk_S hS hFc hL9 hz9 hk9
  obtain ⟨hP, hD⟩ := va_join (wr := []) (w1 := []) hP hD [0, 1, 2, 3, 4, 5, 6, 7, 8, 9, 10, 11, 12, 13, 14, 15, 16, 17, 18, 19, 20, 21, 22] [] rfl rfl (by decide) (by decide) hk1 hFc tk_P0 tk_D0
  clear hL9 hz9 hk9 hz1 hk1
  generalize H1 = H at hP hS ⊢
  have hP : va_P (dC, dI) classes [] H := hP
  have hD : va_D A [] := hD
  refine lv_astore_n hx hb d_Law_read_11 rfl hl (by decide) rfl (fun ls hl => ?_)
  have hl : lv_has ls 3 [(2, .ref x2), (0, .ref x0), (1, .ref oq)] := hl
  refine lv_iconst (v := 1) hx hb d_Law_read_12 (by decide) ?_
  have hP9 := hP.sub (ws' := []) [] rfl
  have hD9 := hD.sub (ws' := []) [] (by decide) rfl
  have hK9 := hK.sub (tys' := []) [] rfl
  refine W.widen (k := 1) (n := 6) (by omega) (by omega) ?_
  exact W.iret (v := 1) hx hb hr (fun t ht hW => ⟨⟨1, (), rfl, rfl, by rw [ht]; exact hP9, va_K.moved hW.alike hK9, hD9⟩, hS.F ht⟩) hS.2.2 d_Law_read_13
