/-! by program (wip/p1) -/
theorem wd_1_46 : Cond.instantiable "SyntaxForge" 14 ∈ tw_tbl := tw_t1 (List.mem_of_getElem? (i := 46) rfl) rfl
theorem wd_9_215 : Cond.instantiable "SyntaxForgeModel" 53 ∈ tw_tbl := tw_t9 (List.mem_of_getElem? (i := 215) rfl) rfl
theorem wd_1_45 : Cond.classLink "SyntaxForgeLaw" 8 "SyntaxForge" ∈ tw_tbl := tw_t1 (List.mem_of_getElem? (i := 45) rfl) rfl
theorem wd_1_47 : Cond.methodLink "SyntaxForgeLaw" 48 ⟨"SyntaxForge", "<init>", "()V"⟩ ∈ tw_tbl := tw_t1 (List.mem_of_getElem? (i := 47) rfl) rfl
theorem wd_1_48 : Cond.instanceMethod ⟨"SyntaxForge", "<init>", "()V"⟩ ∈ tw_tbl := tw_t1 (List.mem_of_getElem? (i := 48) rfl) rfl
theorem wd_9_214 : Cond.classLink "SyntaxForgeLaw" 49 "SyntaxForgeModel" ∈ tw_tbl := tw_t9 (List.mem_of_getElem? (i := 214) rfl) rfl
theorem wd_9_216 : Cond.methodLink "SyntaxForgeLaw" 51 ⟨"SyntaxForgeModel", "<init>", "()V"⟩ ∈ tw_tbl := tw_t9 (List.mem_of_getElem? (i := 216) rfl) rfl
theorem wd_9_217 : Cond.instanceMethod ⟨"SyntaxForgeModel", "<init>", "()V"⟩ ∈ tw_tbl := tw_t9 (List.mem_of_getElem? (i := 217) rfl) rfl
theorem wd_1_0 : Cond.initialized "SyntaxForgeLaw" ∈ tw_tbl := tw_t1 (List.mem_of_getElem? (i := 0) rfl) rfl
theorem wd_3_49 : Cond.methodLink "SyntaxForgeLaw" 52 ⟨"SyntaxForgeLaw", "feed", "(LSyntaxForge;IIIII[J)I"⟩ ∈ tw_tbl := tw_t3 (List.mem_of_getElem? (i := 49) rfl) rfl
theorem wd_3_50 : Cond.static ⟨"SyntaxForgeLaw", "feed", "(LSyntaxForge;IIIII[J)I"⟩ ∈ tw_tbl := tw_t3 (List.mem_of_getElem? (i := 50) rfl) rfl
theorem wd_10_216 : Cond.methodLink "SyntaxForgeLaw" 57 ⟨"SyntaxForgeModel", "feed", "(IIIII)I"⟩ ∈ tw_tbl := tw_t10 (List.mem_of_getElem? (i := 216) rfl) rfl
theorem wd_10_217 : Cond.instanceMethod ⟨"SyntaxForgeModel", "feed", "(IIIII)I"⟩ ∈ tw_tbl := tw_t10 (List.mem_of_getElem? (i := 217) rfl) rfl
theorem wd_10_218 : Cond.selects "SyntaxForgeModel" ⟨"SyntaxForgeModel", "feed", "(IIIII)I"⟩ ⟨"SyntaxForgeModel", "feed", "(IIIII)I"⟩ ∈ tw_tbl := tw_t10 (List.mem_of_getElem? (i := 218) rfl) rfl
theorem wd_10_212 : Cond.methodLink "SyntaxForgeLaw" 58 ⟨"SyntaxForgeModel", "thrown", "()I"⟩ ∈ tw_tbl := tw_t10 (List.mem_of_getElem? (i := 212) rfl) rfl
theorem wd_10_213 : Cond.instanceMethod ⟨"SyntaxForgeModel", "thrown", "()I"⟩ ∈ tw_tbl := tw_t10 (List.mem_of_getElem? (i := 213) rfl) rfl
theorem wd_10_214 : Cond.selects "SyntaxForgeModel" ⟨"SyntaxForgeModel", "thrown", "()I"⟩ ⟨"SyntaxForgeModel", "thrown", "()I"⟩ ∈ tw_tbl := tw_t10 (List.mem_of_getElem? (i := 214) rfl) rfl
theorem wd_3_129 : Cond.methodLink "SyntaxForgeLaw" 61 ⟨"SyntaxForgeLaw", "end", "(LSyntaxForge;I[J)I"⟩ ∈ tw_tbl := tw_t3 (List.mem_of_getElem? (i := 129) rfl) rfl
theorem wd_3_130 : Cond.static ⟨"SyntaxForgeLaw", "end", "(LSyntaxForge;I[J)I"⟩ ∈ tw_tbl := tw_t3 (List.mem_of_getElem? (i := 130) rfl) rfl
theorem wd_10_224 : Cond.methodLink "SyntaxForgeLaw" 64 ⟨"SyntaxForgeModel", "end", "(I)I"⟩ ∈ tw_tbl := tw_t10 (List.mem_of_getElem? (i := 224) rfl) rfl
theorem wd_10_225 : Cond.instanceMethod ⟨"SyntaxForgeModel", "end", "(I)I"⟩ ∈ tw_tbl := tw_t10 (List.mem_of_getElem? (i := 225) rfl) rfl
theorem wd_10_226 : Cond.selects "SyntaxForgeModel" ⟨"SyntaxForgeModel", "end", "(I)I"⟩ ⟨"SyntaxForgeModel", "end", "(I)I"⟩ ∈ tw_tbl := tw_t10 (List.mem_of_getElem? (i := 226) rfl) rfl
theorem wd_3_152 : Cond.methodLink "SyntaxForgeLaw" 65 ⟨"SyntaxForgeLaw", "read", "(LSyntaxForge;[J)I"⟩ ∈ tw_tbl := tw_t3 (List.mem_of_getElem? (i := 152) rfl) rfl
theorem wd_3_153 : Cond.static ⟨"SyntaxForgeLaw", "read", "(LSyntaxForge;[J)I"⟩ ∈ tw_tbl := tw_t3 (List.mem_of_getElem? (i := 153) rfl) rfl
theorem wd_10_228 : Cond.methodLink "SyntaxForgeLaw" 68 ⟨"SyntaxForgeModel", "read", "()I"⟩ ∈ tw_tbl := tw_t10 (List.mem_of_getElem? (i := 228) rfl) rfl
theorem wd_10_229 : Cond.instanceMethod ⟨"SyntaxForgeModel", "read", "()I"⟩ ∈ tw_tbl := tw_t10 (List.mem_of_getElem? (i := 229) rfl) rfl
theorem wd_10_230 : Cond.selects "SyntaxForgeModel" ⟨"SyntaxForgeModel", "read", "()I"⟩ ⟨"SyntaxForgeModel", "read", "()I"⟩ ∈ tw_tbl := tw_t10 (List.mem_of_getElem? (i := 230) rfl) rfl
theorem wd_7_189 : Cond.methodLink "SyntaxForgeLaw" 69 ⟨"SyntaxForgeLaw", "encode", "(LSyntaxForge;II[J)I"⟩ ∈ tw_tbl := tw_t7 (List.mem_of_getElem? (i := 189) rfl) rfl
theorem wd_7_190 : Cond.static ⟨"SyntaxForgeLaw", "encode", "(LSyntaxForge;II[J)I"⟩ ∈ tw_tbl := tw_t7 (List.mem_of_getElem? (i := 190) rfl) rfl
theorem wd_13_239 : Cond.methodLink "SyntaxForgeLaw" 72 ⟨"SyntaxForgeModel", "encode", "(II)I"⟩ ∈ tw_tbl := tw_t13 (List.mem_of_getElem? (i := 239) rfl) rfl
theorem wd_14_0 : Cond.instanceMethod ⟨"SyntaxForgeModel", "encode", "(II)I"⟩ ∈ tw_tbl := tw_t14 (List.mem_of_getElem? (i := 0) rfl) rfl
theorem wd_14_1 : Cond.selects "SyntaxForgeModel" ⟨"SyntaxForgeModel", "encode", "(II)I"⟩ ⟨"SyntaxForgeModel", "encode", "(II)I"⟩ ∈ tw_tbl := tw_t14 (List.mem_of_getElem? (i := 1) rfl) rfl
theorem wd_8_115 : Cond.methodLink "SyntaxForgeLaw" 73 ⟨"SyntaxForgeLaw", "decode", "(LSyntaxForge;II[J)I"⟩ ∈ tw_tbl := tw_t8 (List.mem_of_getElem? (i := 115) rfl) rfl
theorem wd_8_116 : Cond.static ⟨"SyntaxForgeLaw", "decode", "(LSyntaxForge;II[J)I"⟩ ∈ tw_tbl := tw_t8 (List.mem_of_getElem? (i := 116) rfl) rfl
theorem wd_14_163 : Cond.methodLink "SyntaxForgeLaw" 75 ⟨"SyntaxForgeModel", "decode", "(II)I"⟩ ∈ tw_tbl := tw_t14 (List.mem_of_getElem? (i := 163) rfl) rfl
theorem wd_14_164 : Cond.instanceMethod ⟨"SyntaxForgeModel", "decode", "(II)I"⟩ ∈ tw_tbl := tw_t14 (List.mem_of_getElem? (i := 164) rfl) rfl
theorem wd_14_165 : Cond.selects "SyntaxForgeModel" ⟨"SyntaxForgeModel", "decode", "(II)I"⟩ ⟨"SyntaxForgeModel", "decode", "(II)I"⟩ ∈ tw_tbl := tw_t14 (List.mem_of_getElem? (i := 165) rfl) rfl
theorem wd_9_191 : Cond.methodLink "SyntaxForgeLaw" 76 ⟨"SyntaxForgeLaw", "tag", "(LSyntaxForge;I[J)I"⟩ ∈ tw_tbl := tw_t9 (List.mem_of_getElem? (i := 191) rfl) rfl
theorem wd_9_192 : Cond.static ⟨"SyntaxForgeLaw", "tag", "(LSyntaxForge;I[J)I"⟩ ∈ tw_tbl := tw_t9 (List.mem_of_getElem? (i := 192) rfl) rfl
theorem wd_15_156 : Cond.methodLink "SyntaxForgeLaw" 78 ⟨"SyntaxForgeModel", "tag", "(I)J"⟩ ∈ tw_tbl := tw_t15 (List.mem_of_getElem? (i := 156) rfl) rfl
theorem wd_15_157 : Cond.instanceMethod ⟨"SyntaxForgeModel", "tag", "(I)J"⟩ ∈ tw_tbl := tw_t15 (List.mem_of_getElem? (i := 157) rfl) rfl
theorem wd_15_158 : Cond.selects "SyntaxForgeModel" ⟨"SyntaxForgeModel", "tag", "(I)J"⟩ ⟨"SyntaxForgeModel", "tag", "(I)J"⟩ ∈ tw_tbl := tw_t15 (List.mem_of_getElem? (i := 158) rfl) rfl
theorem wd_9_198 : Cond.methodLink "SyntaxForgeLaw" 79 ⟨"SyntaxForgeLaw", "word", "(LSyntaxForge;I[J)I"⟩ ∈ tw_tbl := tw_t9 (List.mem_of_getElem? (i := 198) rfl) rfl
theorem wd_9_199 : Cond.static ⟨"SyntaxForgeLaw", "word", "(LSyntaxForge;I[J)I"⟩ ∈ tw_tbl := tw_t9 (List.mem_of_getElem? (i := 199) rfl) rfl
theorem wd_15_160 : Cond.methodLink "SyntaxForgeLaw" 81 ⟨"SyntaxForgeModel", "word", "(I)J"⟩ ∈ tw_tbl := tw_t15 (List.mem_of_getElem? (i := 160) rfl) rfl
theorem wd_15_161 : Cond.instanceMethod ⟨"SyntaxForgeModel", "word", "(I)J"⟩ ∈ tw_tbl := tw_t15 (List.mem_of_getElem? (i := 161) rfl) rfl
theorem wd_15_162 : Cond.selects "SyntaxForgeModel" ⟨"SyntaxForgeModel", "word", "(I)J"⟩ ⟨"SyntaxForgeModel", "word", "(I)J"⟩ ∈ tw_tbl := tw_t15 (List.mem_of_getElem? (i := 162) rfl) rfl
theorem wd_9_207 : Cond.methodLink "SyntaxForgeLaw" 82 ⟨"SyntaxForgeLaw", "count", "(LSyntaxForge;I[J)I"⟩ ∈ tw_tbl := tw_t9 (List.mem_of_getElem? (i := 207) rfl) rfl
theorem wd_9_208 : Cond.static ⟨"SyntaxForgeLaw", "count", "(LSyntaxForge;I[J)I"⟩ ∈ tw_tbl := tw_t9 (List.mem_of_getElem? (i := 208) rfl) rfl
theorem wd_15_165 : Cond.methodLink "SyntaxForgeLaw" 84 ⟨"SyntaxForgeModel", "count", "(I)I"⟩ ∈ tw_tbl := tw_t15 (List.mem_of_getElem? (i := 165) rfl) rfl
theorem wd_15_166 : Cond.instanceMethod ⟨"SyntaxForgeModel", "count", "(I)I"⟩ ∈ tw_tbl := tw_t15 (List.mem_of_getElem? (i := 166) rfl) rfl
theorem wd_15_167 : Cond.selects "SyntaxForgeModel" ⟨"SyntaxForgeModel", "count", "(I)I"⟩ ⟨"SyntaxForgeModel", "count", "(I)I"⟩ ∈ tw_tbl := tw_t15 (List.mem_of_getElem? (i := 167) rfl) rfl
theorem lw_known {args : Array Value} {s : State} (htw : ∀ w ∈ tw_tbl, w.before args s = true) : ∃ (dC : Nat → ClassId) (dI : Nat → Nat → Nat), ∀ (k : Nat) (q : vw_C), classes[k]? = some q → u_Kn s q.1 q.2.1 q.2.2 (dC k) (dI k) := by
  have h : ∀ k : Nat, ∃ d : ClassId × (Nat → Nat), ∀ q : vw_C, classes[k]? = some q → u_Kn s q.1 q.2.1 q.2.2 d.1 d.2 := by
    intro k
    match k with
    | 0 =>
      obtain ⟨c, i, h⟩ := u_known (C := R_Bytes) (T := F_Bytes) (N := 2) (n := 2) htw i_Bytes (htw _ wd_1_54)
      exact ⟨(c, i), fun q hq => by cases hq; exact h⟩
    | 1 =>
      obtain ⟨c, i, h⟩ := u_known (C := R_AL) (T := F_AL) (N := 3) (n := 3) htw i_AL (htw _ wd_1_88)
      exact ⟨(c, i), fun q hq => by cases hq; exact h⟩
    | 2 =>
      obtain ⟨c, i, h⟩ := u_known (C := R_Values) (T := F_Values) (N := 3) (n := 3) htw i_Values (htw _ wd_1_114)
      exact ⟨(c, i), fun q hq => by cases hq; exact h⟩
    | 3 =>
      obtain ⟨c, i, h⟩ := u_known (C := R_Schema) (T := F_Schema) (N := 19) (n := 19) htw i_Schema (htw _ wd_1_82)
      exact ⟨(c, i), fun q hq => by cases hq; exact h⟩
    | 4 =>
      obtain ⟨c, i, h⟩ := u_known (C := R_Scanner) (T := F_Scanner) (N := 8) (n := 8) htw i_Scanner (htw _ wd_2_83)
      exact ⟨(c, i), fun q hq => by cases hq; exact h⟩
    | 5 =>
      obtain ⟨c, i, h⟩ := u_known (C := R_Parser) (T := F_Parser) (N := 7) (n := 7) htw i_Parser (htw _ wd_2_120)
      exact ⟨(c, i), fun q hq => by cases hq; exact h⟩
    | 6 =>
      obtain ⟨c, i, h⟩ := u_known (C := R_Der) (T := F_Der) (N := 3) (n := 3) htw i_Der (htw _ wd_2_152)
      exact ⟨(c, i), fun q hq => by cases hq; exact h⟩
    | 7 =>
      obtain ⟨c, i, h⟩ := u_known (C := R_Ber) (T := F_Ber) (N := 11) (n := 11) htw i_Ber (htw _ wd_2_169)
      exact ⟨(c, i), fun q hq => by cases hq; exact h⟩
    | 8 =>
      obtain ⟨c, i, h⟩ := u_known (C := R_PerW) (T := F_PerW) (N := 2) (n := 2) htw i_PerW (htw _ wd_2_209)
      exact ⟨(c, i), fun q hq => by cases hq; exact h⟩
    | 9 =>
      obtain ⟨c, i, h⟩ := u_known (C := R_PerR) (T := F_PerR) (N := 6) (n := 6) htw i_PerR (htw _ wd_2_222)
      exact ⟨(c, i), fun q hq => by cases hq; exact h⟩
    | 10 =>
      obtain ⟨c, i, h⟩ := u_known (C := R_SF) (T := F_SF) (N := 14) (n := 14) htw i_SF (htw _ wd_1_46)
      exact ⟨(c, i), fun q hq => by cases hq; exact h⟩
    | 11 =>
      obtain ⟨c, i, h⟩ := u_known (C := R_Mo) (T := F_Mo) (N := 53) (n := 53) htw i_Mo (htw _ wd_9_215)
      exact ⟨(c, i), fun q hq => by cases hq; exact h⟩
    | 12 =>
      obtain ⟨c, i, h⟩ := u_known (C := R_Chars) (T := F_Chars) (N := 2) (n := 2) htw i_Chars (htw _ wd_10_31)
      exact ⟨(c, i), fun q hq => by cases hq; exact h⟩
    | 13 =>
      obtain ⟨c, i, h⟩ := u_known (C := R_MoMod) (T := F_MoMod) (N := 4) (n := 4) htw i_MoMod (htw _ wd_12_49)
      exact ⟨(c, i), fun q hq => by cases hq; exact h⟩
    | k + 14 =>
      obtain ⟨c, i, h⟩ := u_known (C := R_Bytes) (T := F_Bytes) (N := 2) (n := 2) htw i_Bytes (htw _ wd_1_54)
      exact ⟨(c, i), fun q hq => by simp [classes] at hq⟩
  obtain ⟨f, hf⟩ := Classical.axiomOfChoice h
  exact ⟨fun k => (f k).1, fun k => (f k).2, fun k q hq => hf k q hq⟩
set_option maxHeartbeats 40000000 in
set_option maxRecDepth 100000 in
theorem la_0 {p : Program} {e : Env} {s : State} {m : MethodId} {below : List Frame} {meth : Method} {c : Code} (l : Launch) (hNT : tk_NT l) {b : Nat} {xs : Nat → Int32} {A : Nat → Prop} {dC : Nat → ClassId} {dI : Nat → Nat → Nat} {dE wk wv : Nat} {q1 : Nat} {tp_3 : Nat} {tk_5 : Nat} {rs_7 : Nat} {ou_9 : Nat} {sc0_10 : Nat} {h0_11 : Nat} {sn0_12 : Nat} {pa0_13 : Nat} {vl_14 : Nat} {de_15 : Nat} {br_16 : Nat} {pw_17 : Nat} {pr_18 : Nat} {tpa_4 : Nat} {ctp_23 : ClassId} {q68 : Nat} {m_tape_70 : Nat} {m_result_71 : Nat} {m_signs_72 : Nat} {m_keptWords_73 : Nat} {m_spelled_74 : Nat} {m_pieced_75 : Nat} {m_hexes_76 : Nat} {m_words_77 : Nat} {m_nextWords_78 : Nat} {m_firstWords_79 : Nat} {m_pool_80 : Nat} {m_chain_81 : Nat} {m_waiting_82 : Nat} {m_back_83 : Nat} {m_spare_84 : Nat} {m_packed_85 : Nat} {m_theres_86 : Nat} {cmt_87 : ClassId} {q88 : Nat} {cA89 : ClassId} (hx : p.tables.exec = Jvm.exec) (hb : c.code = b_Law_law) (hr : meth.sig.returnType = ret) (hml : c.maxLocals = 8) (hown : s.vm.findClass R_law = some m.cls) (htw : ∀ w ∈ tw_tbl, w.before #[Value.ref b] s = true) (hX : va_X b 6 xs s s.heap) (hbl : b < s.heap.size) (hbA : ¬ A b) (hA : ∀ q : Nat, s.heap.size ≤ q → A q) (hAe : A = fun q : Nat => s.heap.size ≤ q) (hlocks : meth.locks = false) (hx0 : va_Z "java/util/ArrayList" "DEFAULTCAPACITY_EMPTY_ELEMENTDATA" "[Ljava/lang/Object;" (.ref dE) A s s.heap) (hx1 : va_Z "java/lang/String" "COMPACT_STRINGS" "Z" (.int 1) A s s.heap) (hx2 : va_Zq "jdk/internal/util/Preconditions" "SIOOBE_FORMATTER" "Ljava/util/function/BiFunction;" A s s.heap) (hx3 : va_O "java/lang/String" wk A s s.heap) (hx4 : va_OF "java/lang/String" "coder" "B" (.int 0) wk A s s.heap) (hx5 : va_OF "java/lang/String" "value" "[B" (.ref wv) wk A s s.heap) (hx6 : va_T .byte wv 280 (fun j => .int (tz_wb j)) A s s.heap) (hx7 : vk_R "SyntaxForge$Schema" 36 "DEFINITIONS EXPLICIT IMPLICIT AUTOMATIC TAGS BEGIN END UNIVERSAL APPLICATION PRIVATE INTEGER ENUMERATED BIT STRING OCTET OBJECT IDENTIFIER SEQUENCE SET OF CHOICE SIZE OPTIONAL DEFAULT BOOLEAN TRUE FALSE NULL MIN MAX UTF8String PrintableString IA5String NumericString VisibleString" wk s) (hx8 : va_AO "SyntaxForge$Value" s) (hx9 : va_Zq "java/lang/Throwable" "UNASSIGNED_STACK" "[Ljava/lang/StackTraceElement;" A s s.heap) (hx10 : va_Zq "java/lang/Throwable" "SUPPRESSED_SENTINEL" "Ljava/util/List;" A s s.heap) (hx11 : tz_LS "java/lang/Throwable" "UNASSIGNED_STACK" "[Ljava/lang/StackTraceElement;" A s s.heap) (hx12 : tz_LS "java/lang/Throwable" "SUPPRESSED_SENTINEL" "Ljava/util/List;" A s s.heap) (hx13 : va_AO "java/lang/String" s) (hx14 : va_AO "SyntaxForgeModel$Type" s) (hx15 : va_Nw (.methodLinkNest "SyntaxForgeModel" 318 ⟨"SyntaxForgeModel$Module", "<init>", "()V"⟩ "SyntaxForgeModel") s) (hx16 : va_AO "SyntaxForgeModel$Value" s) (hx17 : tz_St "SyntaxForgeModel" tz_sl A s s.heap) (hx18 : tm_AO .boolean s) (hx19 : va_Nw (.methodLinkNest "SyntaxForgeModel" 126 ⟨"SyntaxForgeModel$Chars", "<init>", "()V"⟩ "SyntaxForgeModel") s) (hx20 : tz_NC "java/lang/IllegalStateException" "java/lang/IllegalArgumentException" s)  {z0 z1 z2 z3 z4 z5 : Int32} (hv0 : z0 = xs 0) (hv1 : z1 = xs 1) (hv2 : z2 = xs 2) (hv3 : z3 = xs 3) (hv4 : z4 = xs 4) (hv5 : z5 = xs 5) {H : Heap} {locs : List Loc} {ls : Array Slot} (hl : lv_has ls 8 [(4, .int 0), (3, .ref q88), (2, .ref q68), (1, .ref q1), (0, .ref b)]) (hK : va_K (dC, dI) classes [(ctp_23, .byte), (cmt_87, .byte), (cA89, .long)] s) (hP : va_P (dC, dI) classes [(q1, .inr (10, [.ref tp_3, .ref tk_5, .ref rs_7, .ref ou_9, .int 0, .ref sc0_10, .ref h0_11, .ref sn0_12, .ref pa0_13, .ref vl_14, .ref de_15, .ref br_16, .ref pw_17, .ref pr_18])), (tp_3, .inr (0, [.ref tpa_4, .int 0])), (tpa_4, .inl (ctp_23, 256, .inl (fun _ => 0))), (q68, .inr (11, [.int 0, .ref m_tape_70, .int 0, .ref m_result_71, .int 0, .int ((-1)), .ref m_signs_72, .ref m_keptWords_73, .int 0, .int 0, .int 0, .long 0, .null, .int 0, .int 0, .int 0, .ref m_spelled_74, .ref m_pieced_75, .ref m_hexes_76, .ref m_words_77, .ref m_nextWords_78, .ref m_firstWords_79, .int 0, .ref m_pool_80, .int 0, .int 0, .null, .null, .ref m_chain_81, .ref m_waiting_82, .int 0, .int 0, .ref m_back_83, .ref m_spare_84, .int 0, .ref m_packed_85, .int 0, .int 0, .int 0, .int 0, .int 0, .long 0, .int 0, .int 0, .int 0, .long 0, .long 0, .ref m_theres_86, .int 0, .int 0, .int 0, .long 0, .int 0])), (m_tape_70, .inl (cmt_87, 65536, .inl (fun _ => 0))), (q88, .inl (cA89, 1, .inr (.inl ((fun _ => 0)))))] H) (hD : va_D A [(q1, .inr (10, [.ref tp_3, .ref tk_5, .ref rs_7, .ref ou_9, .int 0, .ref sc0_10, .ref h0_11, .ref sn0_12, .ref pa0_13, .ref vl_14, .ref de_15, .ref br_16, .ref pw_17, .ref pr_18])), (tp_3, .inr (0, [.ref tpa_4, .int 0])), (tpa_4, .inl (ctp_23, 256, .inl (fun _ => 0))), (q68, .inr (11, [.int 0, .ref m_tape_70, .int 0, .ref m_result_71, .int 0, .int ((-1)), .ref m_signs_72, .ref m_keptWords_73, .int 0, .int 0, .int 0, .long 0, .null, .int 0, .int 0, .int 0, .ref m_spelled_74, .ref m_pieced_75, .ref m_hexes_76, .ref m_words_77, .ref m_nextWords_78, .ref m_firstWords_79, .int 0, .ref m_pool_80, .int 0, .int 0, .null, .null, .ref m_chain_81, .ref m_waiting_82, .int 0, .int 0, .ref m_back_83, .ref m_spare_84, .int 0, .ref m_packed_85, .int 0, .int 0, .int 0, .int 0, .int 0, .long 0, .int 0, .int 0, .int 0, .long 0, .long 0, .ref m_theres_86, .int 0, .int 0, .int 0, .long 0, .int 0])), (m_tape_70, .inl (cmt_87, 65536, .inl (fun _ => 0))), (q88, .inl (cA89, 1, .inr (.inl ((fun _ => 0)))))]) (hS : va_S A s.heap H locs) : W p l e room_1 s m #[Value.ref b] below meth c H locs 156 335610 (lw_Z below #[Value.ref b] s) (F0 m 88 ls []) := by
  refine lv_aload_n hx hb d_Law_law_88 rfl (lv_at hl 3 rfl) ?_
  refine lv_aload_n hx hb d_Law_law_89 rfl (lv_at hl 4 rfl) ?_
  refine lv_iload hx hb d_Law_law_90 (lv_at hl 0 rfl) ?_
  refine lv_iconst (v := 1) hx hb d_Law_law_92 (by decide) ?_
  refine lv_iadd hx hb d_Law_law_93 ?_
  refine lv_topi (fun z9 e9 => ?_)
  have e9 : z9 = 1 := e9.trans (by decide)
  subst e9
  refine va_sld hx hb hX hbl hbA hS (by unfold vp_in; decide) d_Law_law_94 ?_
  refine lv_topi (fun z9 e9 => ?_)
  have e9 : z1 = z9 := (e9.trans ((congrArg xs (by decide)).trans (hv1.symm))).symm
  subst e9
  refine lv_aload_n hx hb d_Law_law_95 rfl (lv_at hl 4 rfl) ?_
  refine lv_iload hx hb d_Law_law_96 (lv_at hl 0 rfl) ?_
  refine lv_iconst (v := 2) hx hb d_Law_law_98 (by decide) ?_
  refine lv_iadd hx hb d_Law_law_99 ?_
  refine lv_topi (fun z9 e9 => ?_)
  have e9 : z9 = 2 := e9.trans (by decide)
  subst e9
  refine va_sld hx hb hX hbl hbA hS (by unfold vp_in; decide) d_Law_law_100 ?_
  refine lv_topi (fun z9 e9 => ?_)
  have e9 : z2 = z9 := (e9.trans ((congrArg xs (by decide)).trans (hv2.symm))).symm
  subst e9
  refine lv_aload_n hx hb d_Law_law_101 rfl (lv_at hl 4 rfl) ?_
  refine lv_iload hx hb d_Law_law_102 (lv_at hl 0 rfl) ?_
  refine lv_iconst (v := 3) hx hb d_Law_law_104 (by decide) ?_
  refine lv_iadd hx hb d_Law_law_105 ?_
  refine lv_topi (fun z9 e9 => ?_)
  have e9 : z9 = 3 := e9.trans (by decide)
  subst e9
  refine va_sld hx hb hX hbl hbA hS (by unfold vp_in; decide) d_Law_law_106 ?_
  refine lv_topi (fun z9 e9 => ?_)
  have e9 : z3 = z9 := (e9.trans ((congrArg xs (by decide)).trans (hv3.symm))).symm
  subst e9
  refine lv_aload_n hx hb d_Law_law_107 rfl (lv_at hl 4 rfl) ?_
  refine lv_iload hx hb d_Law_law_108 (lv_at hl 0 rfl) ?_
  refine lv_iconst (v := 4) hx hb d_Law_law_110 (by decide) ?_
  refine lv_iadd hx hb d_Law_law_111 ?_
  refine lv_topi (fun z9 e9 => ?_)
  have e9 : z9 = 4 := e9.trans (by decide)
  subst e9
  refine va_sld hx hb hX hbl hbA hS (by unfold vp_in; decide) d_Law_law_112 ?_
  refine lv_topi (fun z9 e9 => ?_)
  have e9 : z4 = z9 := (e9.trans ((congrArg xs (by decide)).trans (hv4.symm))).symm
  subst e9
  refine lv_aload_n hx hb d_Law_law_113 rfl (lv_at hl 4 rfl) ?_
  refine lv_iload hx hb d_Law_law_114 (lv_at hl 0 rfl) ?_
  refine lv_iconst (v := 5) hx hb d_Law_law_116 (by decide) ?_
  refine lv_iadd hx hb d_Law_law_117 ?_
  refine lv_topi (fun z9 e9 => ?_)
  have e9 : z9 = 5 := e9.trans (by decide)
  subst e9
  refine va_sld hx hb hX hbl hbA hS (by unfold vp_in; decide) d_Law_law_118 ?_
  refine lv_topi (fun z9 e9 => ?_)
  have e9 : z5 = z9 := (e9.trans ((congrArg xs (by decide)).trans (hv5.symm))).symm
  subst e9
  refine lv_aload_n hx hb d_Law_law_119 rfl (lv_at hl 1 rfl) ?_
  have hc0 : 156 + 0 ≤ 600002 := by omega
  have hs0 : 335610 + 0 ≤ 7302232 := by omega
  have hPc := hP.sub (ws' := [(q1, .inr (10, [.ref tp_3, .ref tk_5, .ref rs_7, .ref ou_9, .int 0, .ref sc0_10, .ref h0_11, .ref sn0_12, .ref pa0_13, .ref vl_14, .ref de_15, .ref br_16, .ref pw_17, .ref pr_18])), (tp_3, .inr (0, [.ref tpa_4, .int 0])), (tpa_4, .inl (ctp_23, 256, .inl (fun _ => 0))), (q88, .inl (cA89, 1, .inr (.inl ((fun _ => 0)))))]) [0, 1, 2, 5] rfl
  have hDc := hD.sub (ws' := [(q1, .inr (10, [.ref tp_3, .ref tk_5, .ref rs_7, .ref ou_9, .int 0, .ref sc0_10, .ref h0_11, .ref sn0_12, .ref pa0_13, .ref vl_14, .ref de_15, .ref br_16, .ref pw_17, .ref pr_18])), (tp_3, .inr (0, [.ref tpa_4, .int 0])), (tpa_4, .inl (ctp_23, 256, .inl (fun _ => 0))), (q88, .inl (cA89, 1, .inr (.inl ((fun _ => 0)))))]) [0, 1, 2, 5] (by decide) rfl
  have hKc := hK.sub (tys' := [(ctp_23, .byte), (cA89, .long)]) [0, 2] rfl
  have hFc := va_free (wc := [(q1, .inr (10, [.ref tp_3, .ref tk_5, .ref rs_7, .ref ou_9, .int 0, .ref sc0_10, .ref h0_11, .ref sn0_12, .ref pa0_13, .ref vl_14, .ref de_15, .ref br_16, .ref pw_17, .ref pr_18])), (tp_3, .inr (0, [.ref tpa_4, .int 0])), (tpa_4, .inl (ctp_23, 256, .inl (fun _ => 0))), (q88, .inl (cA89, 1, .inr (.inl ((fun _ => 0)))))]) hD hS hA [0, 1, 2, 5] rfl
  refine va_calli (tk_runSW (As := [.ref q1, .int z1, .int z2, .int z3, .int z4, .int z5, .ref q88]) (rest := []) ⟨hx, hb, hml, hown, htw⟩ (c_Law_feed l dC dI H.size q1 tp_3 tk_5 rs_7 ou_9 sc0_10 h0_11 sn0_12 pa0_13 vl_14 de_15 br_16 pw_17 pr_18 tpa_4 ctp_23 z1 z2 z3 z4 z5 q88 cA89 ((fun _ => 0))) ⟨tk_cbW 7 htw (tw_inL k_Law_feed) rfl rfl rfl (htw _ wd_1_0) (htw _ wd_3_49) (by decide +kernel) ⟨Nat.le_of_ble_eq_true rfl, Nat.le_of_ble_eq_true rfl⟩, htw _ wd_3_50⟩ List.mem_cons_self ⟨fun a U g mk q => by obtain ⟨q0, q1, qP, qK, qD⟩ := q; exact ⟨q0, q1, qP, va_K.moved (u := U) (U := U.calling g mk a) (Vm.Alike.refl U.vm) qK, qD⟩, fun U hU hW => ⟨rfl, by rw [hU], by rw [hU]; exact hPc, va_K.moved hW.alike hKc, hDc.weaken (fun _ _ _ _ => trivial)⟩⟩ rfl rfl hl.1 rfl (lv_room (Nat.le_of_ble_eq_true rfl)) d_Law_law_120 ⟨hc0, hs0⟩) hS (fun q _ h => hFc q h) hFc (fun r90 u t H1 locs ht hvm hw hB hz1 hk1 hS => ?_)
  obtain ⟨g9_91, hp92, hP1, hK1, hD1⟩ := hB
  rw [ht] at hP1
  have hK1 := va_K.moved hvm.symm hK1
  obtain ⟨hP, hD⟩ := va_join (wr := [(q68, .inr (11, [.int 0, .ref m_tape_70, .int 0, .ref m_result_71, .int 0, .int ((-1)), .ref m_signs_72, .ref m_keptWords_73, .int 0, .int 0, .int 0, .long 0, .null, .int 0, .int 0, .int 0, .ref m_spelled_74, .ref m_pieced_75, .ref m_hexes_76, .ref m_words_77, .ref m_nextWords_78, .ref m_firstWords_79, .int 0, .ref m_pool_80, .int 0, .int 0, .null, .null, .ref m_chain_81, .ref m_waiting_82, .int 0, .int 0, .ref m_back_83, .ref m_spare_84, .int 0, .ref m_packed_85, .int 0, .int 0, .int 0, .int 0, .int 0, .long 0, .int 0, .int 0, .int 0, .long 0, .long 0, .ref m_theres_86, .int 0, .int 0, .int 0, .long 0, .int 0])), (m_tape_70, .inl (cmt_87, 65536, .inl (fun _ => 0)))]) (w1 := [(q88, .inl (cA89, 1, .inr (.inl g9_91)))]) hP hD [0, 1, 2, 5] [3, 4] rfl rfl (by decide) (by decide) hk1 hFc hP1 hD1
  have hK := (hK.sub (tys' := [(cmt_87, .byte)]) [1] rfl).app hK1
  generalize H1 = H at hP hS ⊢
  have hP : va_P (dC, dI) classes [(q68, .inr (11, [.int 0, .ref m_tape_70, .int 0, .ref m_result_71, .int 0, .int ((-1)), .ref m_signs_72, .ref m_keptWords_73, .int 0, .int 0, .int 0, .long 0, .null, .int 0, .int 0, .int 0, .ref m_spelled_74, .ref m_pieced_75, .ref m_hexes_76, .ref m_words_77, .ref m_nextWords_78, .ref m_firstWords_79, .int 0, .ref m_pool_80, .int 0, .int 0, .null, .null, .ref m_chain_81, .ref m_waiting_82, .int 0, .int 0, .ref m_back_83, .ref m_spare_84, .int 0, .ref m_packed_85, .int 0, .int 0, .int 0, .int 0, .int 0, .long 0, .int 0, .int 0, .int 0, .long 0, .long 0, .ref m_theres_86, .int 0, .int 0, .int 0, .long 0, .int 0])), (m_tape_70, .inl (cmt_87, 65536, .inl (fun _ => 0))), (q88, .inl (cA89, 1, .inr (.inl g9_91)))] H := hP
  have hD : va_D A [(q68, .inr (11, [.int 0, .ref m_tape_70, .int 0, .ref m_result_71, .int 0, .int ((-1)), .ref m_signs_72, .ref m_keptWords_73, .int 0, .int 0, .int 0, .long 0, .null, .int 0, .int 0, .int 0, .ref m_spelled_74, .ref m_pieced_75, .ref m_hexes_76, .ref m_words_77, .ref m_nextWords_78, .ref m_firstWords_79, .int 0, .ref m_pool_80, .int 0, .int 0, .null, .null, .ref m_chain_81, .ref m_waiting_82, .int 0, .int 0, .ref m_back_83, .ref m_spare_84, .int 0, .ref m_packed_85, .int 0, .int 0, .int 0, .int 0, .int 0, .long 0, .int 0, .int 0, .int 0, .long 0, .long 0, .ref m_theres_86, .int 0, .int 0, .int 0, .long 0, .int 0])), (m_tape_70, .inl (cmt_87, 65536, .inl (fun _ => 0))), (q88, .inl (cA89, 1, .inr (.inl g9_91)))] := hD
  have hK : va_K (dC, dI) classes [(cmt_87, .byte), (cA89, .long)] s := hK
  subst hw
  refine lv_istore hx hb d_Law_law_123 hl (by decide) rfl (fun ls hl => ?_)
  have hl : lv_has ls 8 [(5, .int 0), (4, .int 0), (3, .ref q88), (2, .ref q68), (1, .ref q1), (0, .ref b)] := hl
  refine lv_aload_n hx hb d_Law_law_125 rfl (lv_at hl 3 rfl) ?_
  refine lv_aload_n hx hb d_Law_law_126 rfl (lv_at hl 5 rfl) ?_
  refine lv_iload hx hb d_Law_law_127 (lv_at hl 1 rfl) ?_
  refine lv_iconst (v := 1) hx hb d_Law_law_129 (by decide) ?_
  refine lv_iadd hx hb d_Law_law_130 ?_
  refine lv_topi (fun z9 e9 => ?_)
  have e9 : z9 = 1 := e9.trans (by decide)
  subst e9
  refine va_sld hx hb hX hbl hbA hS (by unfold vp_in; decide) d_Law_law_131 ?_
  refine lv_topi (fun z9 e9 => ?_)
  have e9 : z1 = z9 := (e9.trans ((congrArg xs (by decide)).trans (hv1.symm))).symm
  subst e9
  refine lv_aload_n hx hb d_Law_law_132 rfl (lv_at hl 5 rfl) ?_
  refine lv_iload hx hb d_Law_law_133 (lv_at hl 1 rfl) ?_
  refine lv_iconst (v := 2) hx hb d_Law_law_135 (by decide) ?_
  refine lv_iadd hx hb d_Law_law_136 ?_
  refine lv_topi (fun z9 e9 => ?_)
  have e9 : z9 = 2 := e9.trans (by decide)
  subst e9
  refine va_sld hx hb hX hbl hbA hS (by unfold vp_in; decide) d_Law_law_137 ?_
  refine lv_topi (fun z9 e9 => ?_)
  have e9 : z2 = z9 := (e9.trans ((congrArg xs (by decide)).trans (hv2.symm))).symm
  subst e9
  refine lv_aload_n hx hb d_Law_law_138 rfl (lv_at hl 5 rfl) ?_
  refine lv_iload hx hb d_Law_law_139 (lv_at hl 1 rfl) ?_
  refine lv_iconst (v := 3) hx hb d_Law_law_141 (by decide) ?_
  refine lv_iadd hx hb d_Law_law_142 ?_
  refine lv_topi (fun z9 e9 => ?_)
  have e9 : z9 = 3 := e9.trans (by decide)
  subst e9
  refine va_sld hx hb hX hbl hbA hS (by unfold vp_in; decide) d_Law_law_143 ?_
  refine lv_topi (fun z9 e9 => ?_)
  have e9 : z3 = z9 := (e9.trans ((congrArg xs (by decide)).trans (hv3.symm))).symm
  subst e9
  refine lv_aload_n hx hb d_Law_law_144 rfl (lv_at hl 5 rfl) ?_
  refine lv_iload hx hb d_Law_law_145 (lv_at hl 1 rfl) ?_
  refine lv_iconst (v := 4) hx hb d_Law_law_147 (by decide) ?_
  refine lv_iadd hx hb d_Law_law_148 ?_
  refine lv_topi (fun z9 e9 => ?_)
  have e9 : z9 = 4 := e9.trans (by decide)
  subst e9
  refine va_sld hx hb hX hbl hbA hS (by unfold vp_in; decide) d_Law_law_149 ?_
  refine lv_topi (fun z9 e9 => ?_)
  have e9 : z4 = z9 := (e9.trans ((congrArg xs (by decide)).trans (hv4.symm))).symm
  subst e9
  refine lv_aload_n hx hb d_Law_law_150 rfl (lv_at hl 5 rfl) ?_
  refine lv_iload hx hb d_Law_law_151 (lv_at hl 1 rfl) ?_
  refine lv_iconst (v := 5) hx hb d_Law_law_153 (by decide) ?_
  refine lv_iadd hx hb d_Law_law_154 ?_
  refine lv_topi (fun z9 e9 => ?_)
  have e9 : z9 = 5 := e9.trans (by decide)
  subst e9
  refine va_sld hx hb hX hbl hbA hS (by unfold vp_in; decide) d_Law_law_155 ?_
  refine lv_topi (fun z9 e9 => ?_)
  have e9 : z5 = z9 := (e9.trans ((congrArg xs (by decide)).trans (hv5.symm))).symm
  subst e9
  have hc0 : 156 + 0 ≤ 600002 := by omega
  have hs0 : 335610 + 0 ≤ 7302232 := by omega
  have hPc := hP.sub (ws' := [(q68, .inr (11, [.int 0, .ref m_tape_70, .int 0, .ref m_result_71, .int 0, .int ((-1)), .ref m_signs_72, .ref m_keptWords_73, .int 0, .int 0, .int 0, .long 0, .null, .int 0, .int 0, .int 0, .ref m_spelled_74, .ref m_pieced_75, .ref m_hexes_76, .ref m_words_77, .ref m_nextWords_78, .ref m_firstWords_79, .int 0, .ref m_pool_80, .int 0, .int 0, .null, .null, .ref m_chain_81, .ref m_waiting_82, .int 0, .int 0, .ref m_back_83, .ref m_spare_84, .int 0, .ref m_packed_85, .int 0, .int 0, .int 0, .int 0, .int 0, .long 0, .int 0, .int 0, .int 0, .long 0, .long 0, .ref m_theres_86, .int 0, .int 0, .int 0, .long 0, .int 0])), (m_tape_70, .inl (cmt_87, 65536, .inl (fun _ => 0)))]) [0, 1] rfl
  have hDc := hD.sub (ws' := [(q68, .inr (11, [.int 0, .ref m_tape_70, .int 0, .ref m_result_71, .int 0, .int ((-1)), .ref m_signs_72, .ref m_keptWords_73, .int 0, .int 0, .int 0, .long 0, .null, .int 0, .int 0, .int 0, .ref m_spelled_74, .ref m_pieced_75, .ref m_hexes_76, .ref m_words_77, .ref m_nextWords_78, .ref m_firstWords_79, .int 0, .ref m_pool_80, .int 0, .int 0, .null, .null, .ref m_chain_81, .ref m_waiting_82, .int 0, .int 0, .ref m_back_83, .ref m_spare_84, .int 0, .ref m_packed_85, .int 0, .int 0, .int 0, .int 0, .int 0, .long 0, .int 0, .int 0, .int 0, .long 0, .long 0, .ref m_theres_86, .int 0, .int 0, .int 0, .long 0, .int 0])), (m_tape_70, .inl (cmt_87, 65536, .inl (fun _ => 0)))]) [0, 1] (by decide) rfl
  have hKc := hK.sub (tys' := [(cmt_87, .byte)]) [0] rfl
  have hFc := va_free (wc := [(q68, .inr (11, [.int 0, .ref m_tape_70, .int 0, .ref m_result_71, .int 0, .int ((-1)), .ref m_signs_72, .ref m_keptWords_73, .int 0, .int 0, .int 0, .long 0, .null, .int 0, .int 0, .int 0, .ref m_spelled_74, .ref m_pieced_75, .ref m_hexes_76, .ref m_words_77, .ref m_nextWords_78, .ref m_firstWords_79, .int 0, .ref m_pool_80, .int 0, .int 0, .null, .null, .ref m_chain_81, .ref m_waiting_82, .int 0, .int 0, .ref m_back_83, .ref m_spare_84, .int 0, .ref m_packed_85, .int 0, .int 0, .int 0, .int 0, .int 0, .long 0, .int 0, .int 0, .int 0, .long 0, .long 0, .ref m_theres_86, .int 0, .int 0, .int 0, .long 0, .int 0])), (m_tape_70, .inl (cmt_87, 65536, .inl (fun _ => 0)))]) hD hS hA [0, 1] rfl
  refine va_calli (va_runV (As := [.int z1, .int z2, .int z3, .int z4, .int z5]) (rest := []) ⟨hx, hb, hml, hown, htw⟩ (c_Mo_feed l dC dI H.size q68 m_tape_70 m_result_71 m_signs_72 m_keptWords_73 m_spelled_74 m_pieced_75 m_hexes_76 m_words_77 m_nextWords_78 m_firstWords_79 m_pool_80 m_chain_81 m_waiting_82 m_back_83 m_spare_84 m_packed_85 m_theres_86 cmt_87 (fun _ => 0) z1 z2 z3 z4 z5) (cwV 5 htw (tw_V wd_10_216 wd_10_217 wd_10_218 wd_1_21 k_Mo_feed) rfl rfl rfl (by decide +kernel) ⟨Nat.le_of_ble_eq_true rfl, Nat.le_of_ble_eq_true rfl⟩) ⟨fun a U g mk q => by obtain ⟨q0, q1, qP, qK, qD⟩ := q; exact ⟨q0, q1, qP, va_K.moved (u := U) (U := U.calling g mk a) (Vm.Alike.refl U.vm) qK, qD⟩, va_recv hK hP (q := (R_Mo, F_Mo, 53)) (ci := 11) (q0 := 0) rfl rfl, fun U hU hW => ⟨rfl, by rw [hU], by rw [hU]; exact hPc, va_K.moved hW.alike hKc, hDc.weaken (fun _ _ _ _ => trivial)⟩⟩ rfl rfl hl.1 rfl (lv_room (Nat.le_of_ble_eq_true rfl)) d_Law_law_156 ⟨hc0, hs0⟩) hS (fun q _ h => hFc q h) hFc (fun r93 u t H1 locs ht hvm hw hB hz1 hk1 hS => ?_)
  obtain ⟨g2_94, hP1, hK1, hD1⟩ := hB
  rw [ht] at hP1
  have hK1 := va_K.moved hvm.symm hK1
  obtain ⟨hP, hD⟩ := va_join (wr := [(q88, .inl (cA89, 1, .inr (.inl g9_91)))]) (w1 := [(q68, .inr (11, [.int 0, .ref m_tape_70, .int (nI 20), .ref m_result_71, .int 0, .int ((-1)), .ref m_signs_72, .ref m_keptWords_73, .int 0, .int 0, .int 0, .long 0, .null, .int 0, .int 0, .int 0, .ref m_spelled_74, .ref m_pieced_75, .ref m_hexes_76, .ref m_words_77, .ref m_nextWords_78, .ref m_firstWords_79, .int 0, .ref m_pool_80, .int 0, .int 0, .null, .null, .ref m_chain_81, .ref m_waiting_82, .int 0, .int 0, .ref m_back_83, .ref m_spare_84, .int 0, .ref m_packed_85, .int 0, .int 0, .int 0, .int 0, .int 0, .long 0, .int 0, .int 0, .int 0, .long 0, .long 0, .ref m_theres_86, .int 0, .int 0, .int 0, .long 0, .int 0])), (m_tape_70, .inl (cmt_87, 65536, .inl g2_94))]) hP hD [0, 1] [2] rfl rfl (by decide) (by decide) hk1 hFc hP1 hD1
  have hK := (hK.sub (tys' := [(cA89, .long)]) [1] rfl).app hK1
  generalize H1 = H at hP hS ⊢
  have hP : va_P (dC, dI) classes [(q88, .inl (cA89, 1, .inr (.inl g9_91))), (q68, .inr (11, [.int 0, .ref m_tape_70, .int (nI 20), .ref m_result_71, .int 0, .int ((-1)), .ref m_signs_72, .ref m_keptWords_73, .int 0, .int 0, .int 0, .long 0, .null, .int 0, .int 0, .int 0, .ref m_spelled_74, .ref m_pieced_75, .ref m_hexes_76, .ref m_words_77, .ref m_nextWords_78, .ref m_firstWords_79, .int 0, .ref m_pool_80, .int 0, .int 0, .null, .null, .ref m_chain_81, .ref m_waiting_82, .int 0, .int 0, .ref m_back_83, .ref m_spare_84, .int 0, .ref m_packed_85, .int 0, .int 0, .int 0, .int 0, .int 0, .long 0, .int 0, .int 0, .int 0, .long 0, .long 0, .ref m_theres_86, .int 0, .int 0, .int 0, .long 0, .int 0])), (m_tape_70, .inl (cmt_87, 65536, .inl g2_94))] H := hP
  have hD : va_D A [(q88, .inl (cA89, 1, .inr (.inl g9_91))), (q68, .inr (11, [.int 0, .ref m_tape_70, .int (nI 20), .ref m_result_71, .int 0, .int ((-1)), .ref m_signs_72, .ref m_keptWords_73, .int 0, .int 0, .int 0, .long 0, .null, .int 0, .int 0, .int 0, .ref m_spelled_74, .ref m_pieced_75, .ref m_hexes_76, .ref m_words_77, .ref m_nextWords_78, .ref m_firstWords_79, .int 0, .ref m_pool_80, .int 0, .int 0, .null, .null, .ref m_chain_81, .ref m_waiting_82, .int 0, .int 0, .ref m_back_83, .ref m_spare_84, .int 0, .ref m_packed_85, .int 0, .int 0, .int 0, .int 0, .int 0, .long 0, .int 0, .int 0, .int 0, .long 0, .long 0, .ref m_theres_86, .int 0, .int 0, .int 0, .long 0, .int 0])), (m_tape_70, .inl (cmt_87, 65536, .inl g2_94))] := hD
  have hK : va_K (dC, dI) classes [(cA89, .long), (cmt_87, .byte)] s := hK
  subst hw
  refine lv_istore hx hb d_Law_law_159 hl (by decide) rfl (fun ls hl => ?_)
  have hl : lv_has ls 8 [(6, .int (nI 20)), (5, .int 0), (4, .int 0), (3, .ref q88), (2, .ref q68), (1, .ref q1), (0, .ref b)] := hl
  refine lv_aload_n hx hb d_Law_law_161 rfl (lv_at hl 4 rfl) ?_
  have hc0 : 156 + 0 ≤ 600002 := by omega
  have hs0 : 335610 + 0 ≤ 7302232 := by omega
  have hPc := hP.sub (ws' := [(q68, .inr (11, [.int 0, .ref m_tape_70, .int (nI 20), .ref m_result_71, .int 0, .int ((-1)), .ref m_signs_72, .ref m_keptWords_73, .int 0, .int 0, .int 0, .long 0, .null, .int 0, .int 0, .int 0, .ref m_spelled_74, .ref m_pieced_75, .ref m_hexes_76, .ref m_words_77, .ref m_nextWords_78, .ref m_firstWords_79, .int 0, .ref m_pool_80, .int 0, .int 0, .null, .null, .ref m_chain_81, .ref m_waiting_82, .int 0, .int 0, .ref m_back_83, .ref m_spare_84, .int 0, .ref m_packed_85, .int 0, .int 0, .int 0, .int 0, .int 0, .long 0, .int 0, .int 0, .int 0, .long 0, .long 0, .ref m_theres_86, .int 0, .int 0, .int 0, .long 0, .int 0]))]) [1] rfl
  have hDc := hD.sub (ws' := [(q68, .inr (11, [.int 0, .ref m_tape_70, .int (nI 20), .ref m_result_71, .int 0, .int ((-1)), .ref m_signs_72, .ref m_keptWords_73, .int 0, .int 0, .int 0, .long 0, .null, .int 0, .int 0, .int 0, .ref m_spelled_74, .ref m_pieced_75, .ref m_hexes_76, .ref m_words_77, .ref m_nextWords_78, .ref m_firstWords_79, .int 0, .ref m_pool_80, .int 0, .int 0, .null, .null, .ref m_chain_81, .ref m_waiting_82, .int 0, .int 0, .ref m_back_83, .ref m_spare_84, .int 0, .ref m_packed_85, .int 0, .int 0, .int 0, .int 0, .int 0, .long 0, .int 0, .int 0, .int 0, .long 0, .long 0, .ref m_theres_86, .int 0, .int 0, .int 0, .long 0, .int 0]))]) [1] (by decide) rfl
  have hKc := hK.sub (tys' := []) [] rfl
  have hFc := va_free (wc := [(q68, .inr (11, [.int 0, .ref m_tape_70, .int (nI 20), .ref m_result_71, .int 0, .int ((-1)), .ref m_signs_72, .ref m_keptWords_73, .int 0, .int 0, .int 0, .long 0, .null, .int 0, .int 0, .int 0, .ref m_spelled_74, .ref m_pieced_75, .ref m_hexes_76, .ref m_words_77, .ref m_nextWords_78, .ref m_firstWords_79, .int 0, .ref m_pool_80, .int 0, .int 0, .null, .null, .ref m_chain_81, .ref m_waiting_82, .int 0, .int 0, .ref m_back_83, .ref m_spare_84, .int 0, .ref m_packed_85, .int 0, .int 0, .int 0, .int 0, .int 0, .long 0, .int 0, .int 0, .int 0, .long 0, .long 0, .ref m_theres_86, .int 0, .int 0, .int 0, .long 0, .int 0]))]) hD hS hA [1] rfl
  refine va_calli (va_runV (As := []) (rest := []) ⟨hx, hb, hml, hown, htw⟩ (c_Mo_thrown l dC dI H.size q68 m_tape_70 m_result_71 m_signs_72 m_keptWords_73 m_spelled_74 m_pieced_75 m_hexes_76 m_words_77 m_nextWords_78 m_firstWords_79 m_pool_80 m_chain_81 m_waiting_82 m_back_83 m_spare_84 m_packed_85 m_theres_86 0 (nI 20)) (cwV 0 htw (tw_V wd_10_212 wd_10_213 wd_10_214 wd_1_21 k_Mo_thrown) rfl rfl rfl (by decide +kernel) ⟨Nat.le_of_ble_eq_true rfl, Nat.le_of_ble_eq_true rfl⟩) ⟨fun a U g mk q => by obtain ⟨q0, q1, qP, qK, qD⟩ := q; exact ⟨q0, q1, qP, va_K.moved (u := U) (U := U.calling g mk a) (Vm.Alike.refl U.vm) qK, qD⟩, va_recv hK hP (q := (R_Mo, F_Mo, 53)) (ci := 11) (q0 := 1) rfl rfl, fun U hU hW => ⟨rfl, by rw [hU], by rw [hU]; exact hPc, va_K.moved hW.alike hKc, hDc.weaken (fun _ _ _ _ => trivial)⟩⟩ rfl rfl hl.1 rfl (lv_room (Nat.le_of_ble_eq_true rfl)) d_Law_law_162 ⟨hc0, hs0⟩) hS (fun q _ h => hFc q h) hFc (fun r95 u t H1 locs ht hvm hw hB hz1 hk1 hS => ?_)
  obtain ⟨hP1, hK1, hD1⟩ := hB
  rw [ht] at hP1
  have hK1 := va_K.moved hvm.symm hK1
  obtain ⟨hP, hD⟩ := va_join (wr := [(q88, .inl (cA89, 1, .inr (.inl g9_91))), (m_tape_70, .inl (cmt_87, 65536, .inl g2_94))]) (w1 := [(q68, .inr (11, [.int 0, .ref m_tape_70, .int (nI 20), .ref m_result_71, .int 0, .int ((-1)), .ref m_signs_72, .ref m_keptWords_73, .int 0, .int 0, .int 0, .long 0, .null, .int 0, .int 0, .int 0, .ref m_spelled_74, .ref m_pieced_75, .ref m_hexes_76, .ref m_words_77, .ref m_nextWords_78, .ref m_firstWords_79, .int 0, .ref m_pool_80, .int 0, .int 0, .null, .null, .ref m_chain_81, .ref m_waiting_82, .int 0, .int 0, .ref m_back_83, .ref m_spare_84, .int 0, .ref m_packed_85, .int 0, .int 0, .int 0, .int 0, .int 0, .long 0, .int 0, .int 0, .int 0, .long 0, .long 0, .ref m_theres_86, .int 0, .int 0, .int 0, .long 0, .int 0]))]) hP hD [1] [0, 2] rfl rfl (by decide) (by decide) hk1 hFc hP1 hD1
  have hK := (hK.sub (tys' := [(cA89, .long), (cmt_87, .byte)]) [0, 1] rfl).app hK1
  generalize H1 = H at hP hS ⊢
  have hP : va_P (dC, dI) classes [(q88, .inl (cA89, 1, .inr (.inl g9_91))), (m_tape_70, .inl (cmt_87, 65536, .inl g2_94)), (q68, .inr (11, [.int 0, .ref m_tape_70, .int (nI 20), .ref m_result_71, .int 0, .int ((-1)), .ref m_signs_72, .ref m_keptWords_73, .int 0, .int 0, .int 0, .long 0, .null, .int 0, .int 0, .int 0, .ref m_spelled_74, .ref m_pieced_75, .ref m_hexes_76, .ref m_words_77, .ref m_nextWords_78, .ref m_firstWords_79, .int 0, .ref m_pool_80, .int 0, .int 0, .null, .null, .ref m_chain_81, .ref m_waiting_82, .int 0, .int 0, .ref m_back_83, .ref m_spare_84, .int 0, .ref m_packed_85, .int 0, .int 0, .int 0, .int 0, .int 0, .long 0, .int 0, .int 0, .int 0, .long 0, .long 0, .ref m_theres_86, .int 0, .int 0, .int 0, .long 0, .int 0]))] H := hP
  have hD : va_D A [(q88, .inl (cA89, 1, .inr (.inl g9_91))), (m_tape_70, .inl (cmt_87, 65536, .inl g2_94)), (q68, .inr (11, [.int 0, .ref m_tape_70, .int (nI 20), .ref m_result_71, .int 0, .int ((-1)), .ref m_signs_72, .ref m_keptWords_73, .int 0, .int 0, .int 0, .long 0, .null, .int 0, .int 0, .int 0, .ref m_spelled_74, .ref m_pieced_75, .ref m_hexes_76, .ref m_words_77, .ref m_nextWords_78, .ref m_firstWords_79, .int 0, .ref m_pool_80, .int 0, .int 0, .null, .null, .ref m_chain_81, .ref m_waiting_82, .int 0, .int 0, .ref m_back_83, .ref m_spare_84, .int 0, .ref m_packed_85, .int 0, .int 0, .int 0, .int 0, .int 0, .long 0, .int 0, .int 0, .int 0, .long 0, .long 0, .ref m_theres_86, .int 0, .int 0, .int 0, .long 0, .int 0]))] := hD
  have hK : va_K (dC, dI) classes [(cA89, .long), (cmt_87, .byte)] s := hK
  subst hw
  refine lv_iload hx hb d_Law_law_165 (lv_at hl 1 rfl) ?_
  refine lv_icmp_eq (tgt := 172) hx hb d_Law_law_167 rfl (fun _ => ?_) (fun hn => absurd (rfl) hn)
  refine lv_iload hx hb d_Law_law_172 (lv_at hl 1 rfl) ?_
  refine lv_if_ne (tgt := 189) hx hb d_Law_law_174 rfl (fun ht => absurd ht (fun h => h rfl)) (fun _ => ?_)
  refine lv_aload_n hx hb d_Law_law_177 rfl (lv_at hl 3 rfl) ?_
  refine lv_iconst (v := 0) hx hb d_Law_law_178 (by decide) ?_
  refine va_lald hx hb hK hP 0 0 rfl rfl (by unfold vp_in; decide) d_Law_law_179 ?_
  refine lv_topl (fun z9 e9 => ?_)
  have e9 : z9 = (nI 20 : Int32).toInt64 := e9.trans (hp92)
  subst e9
  refine lv_iload hx hb d_Law_law_180 (lv_at hl 0 rfl) ?_
  refine lv_i2l hx hb d_Law_law_182 rfl ?_
  refine W.lcmp hx hb d_Law_law_183 ?_
  refine lv_topi (fun z9 e9 => ?_)
  have e9 : z9 = 0 := e9.trans (tz_cmp _)
  subst e9
  refine lv_if_eq (tgt := 189) hx hb d_Law_law_184 rfl (fun _ => ?_) (fun hn => absurd (rfl) hn)
  refine lv_goto (tgt := 594) hx hb d_Law_law_189 rfl ?_
  refine lv_iinc (k := 2) (v := 6) hx hb d_Law_law_594 hl rfl (by decide) (by decide) rfl (fun ls hl => ?_)
  have hl : lv_has ls 8 [(4, .int 6), (6, .int (nI 20)), (5, .int 0), (3, .ref q88), (2, .ref q68), (1, .ref q1), (0, .ref b)] := hl
  refine lv_goto (tgt := 23) hx hb d_Law_law_597 rfl ?_
  refine lv_iload hx hb d_Law_law_23 (lv_at hl 0 rfl) ?_
  refine lv_aload_n hx hb d_Law_law_25 rfl (lv_at hl 6 rfl) ?_
  refine va_slen hx hb hX hbl hbA hS d_Law_law_26 ?_
  refine lv_bipush (v := 6) hx hb d_Law_law_27 (by decide) ?_
  refine lv_isub hx hb d_Law_law_29 ?_
  refine lv_icmp_gt (tgt := 600) hx hb d_Law_law_30 rfl (fun _ => ?_) (fun hn => absurd (by decide) hn)
  refine lv_iconst (v := 1) hx hb d_Law_law_600 (by decide) ?_
  refine va_forget (fun q hq => by have h9 := hS.2.2 q hq; rw [hAe] at h9; exact h9) ?_
  refine W.widen (k := 600002) (n := 7302232) (by omega) (by omega) ?_
  exact lw_ret hx hb hr hlocks d_Law_law_601
set_option maxHeartbeats 40000000 in
set_option maxRecDepth 100000 in
theorem la_1 {p : Program} {e : Env} {s : State} {m : MethodId} {below : List Frame} {meth : Method} {c : Code} (l : Launch) (hNT : tk_NT l) {b : Nat} {xs : Nat → Int32} {A : Nat → Prop} {dC : Nat → ClassId} {dI : Nat → Nat → Nat} {dE wk wv : Nat} {q1 : Nat} {tp_3 : Nat} {tk_5 : Nat} {rs_7 : Nat} {ou_9 : Nat} {sc0_10 : Nat} {h0_11 : Nat} {sn0_12 : Nat} {pa0_13 : Nat} {vl_14 : Nat} {de_15 : Nat} {br_16 : Nat} {pw_17 : Nat} {pr_18 : Nat} {tpa_4 : Nat} {ctp_23 : ClassId} {q68 : Nat} {m_tape_70 : Nat} {m_result_71 : Nat} {m_signs_72 : Nat} {m_keptWords_73 : Nat} {m_spelled_74 : Nat} {m_pieced_75 : Nat} {m_hexes_76 : Nat} {m_words_77 : Nat} {m_nextWords_78 : Nat} {m_firstWords_79 : Nat} {m_pool_80 : Nat} {m_chain_81 : Nat} {m_waiting_82 : Nat} {m_back_83 : Nat} {m_spare_84 : Nat} {m_packed_85 : Nat} {m_theres_86 : Nat} {q88 : Nat} {cA89 : ClassId} (hx : p.tables.exec = Jvm.exec) (hb : c.code = b_Law_law) (hr : meth.sig.returnType = ret) (hml : c.maxLocals = 8) (hown : s.vm.findClass R_law = some m.cls) (htw : ∀ w ∈ tw_tbl, w.before #[Value.ref b] s = true) (hX : va_X b 6 xs s s.heap) (hbl : b < s.heap.size) (hbA : ¬ A b) (hA : ∀ q : Nat, s.heap.size ≤ q → A q) (hAe : A = fun q : Nat => s.heap.size ≤ q) (hlocks : meth.locks = false) (hx0 : va_Z "java/util/ArrayList" "DEFAULTCAPACITY_EMPTY_ELEMENTDATA" "[Ljava/lang/Object;" (.ref dE) A s s.heap) (hx1 : va_Z "java/lang/String" "COMPACT_STRINGS" "Z" (.int 1) A s s.heap) (hx2 : va_Zq "jdk/internal/util/Preconditions" "SIOOBE_FORMATTER" "Ljava/util/function/BiFunction;" A s s.heap) (hx3 : va_O "java/lang/String" wk A s s.heap) (hx4 : va_OF "java/lang/String" "coder" "B" (.int 0) wk A s s.heap) (hx5 : va_OF "java/lang/String" "value" "[B" (.ref wv) wk A s s.heap) (hx6 : va_T .byte wv 280 (fun j => .int (tz_wb j)) A s s.heap) (hx7 : vk_R "SyntaxForge$Schema" 36 "DEFINITIONS EXPLICIT IMPLICIT AUTOMATIC TAGS BEGIN END UNIVERSAL APPLICATION PRIVATE INTEGER ENUMERATED BIT STRING OCTET OBJECT IDENTIFIER SEQUENCE SET OF CHOICE SIZE OPTIONAL DEFAULT BOOLEAN TRUE FALSE NULL MIN MAX UTF8String PrintableString IA5String NumericString VisibleString" wk s) (hx8 : va_AO "SyntaxForge$Value" s) (hx9 : va_Zq "java/lang/Throwable" "UNASSIGNED_STACK" "[Ljava/lang/StackTraceElement;" A s s.heap) (hx10 : va_Zq "java/lang/Throwable" "SUPPRESSED_SENTINEL" "Ljava/util/List;" A s s.heap) (hx11 : tz_LS "java/lang/Throwable" "UNASSIGNED_STACK" "[Ljava/lang/StackTraceElement;" A s s.heap) (hx12 : tz_LS "java/lang/Throwable" "SUPPRESSED_SENTINEL" "Ljava/util/List;" A s s.heap) (hx13 : va_AO "java/lang/String" s) (hx14 : va_AO "SyntaxForgeModel$Type" s) (hx15 : va_Nw (.methodLinkNest "SyntaxForgeModel" 318 ⟨"SyntaxForgeModel$Module", "<init>", "()V"⟩ "SyntaxForgeModel") s) (hx16 : va_AO "SyntaxForgeModel$Value" s) (hx17 : tz_St "SyntaxForgeModel" tz_sl A s s.heap) (hx18 : tm_AO .boolean s) (hx19 : va_Nw (.methodLinkNest "SyntaxForgeModel" 126 ⟨"SyntaxForgeModel$Chars", "<init>", "()V"⟩ "SyntaxForgeModel") s) (hx20 : tz_NC "java/lang/IllegalStateException" "java/lang/IllegalArgumentException" s)  {z0 z1 z2 z3 z4 z5 : Int32} (hv0 : z0 = xs 0) (hv1 : z1 = xs 1) (hv2 : z2 = xs 2) (hv3 : z3 = xs 3) (hv4 : z4 = xs 4) (hv5 : z5 = xs 5) {H : Heap} {locs : List Loc} {ls : Array Slot} (hl : lv_has ls 8 [(4, .int 0), (3, .ref q88), (2, .ref q68), (1, .ref q1), (0, .ref b)]) (hK : va_K (dC, dI) classes [(ctp_23, .byte), (cA89, .long)] s) (hP : va_P (dC, dI) classes [(q1, .inr (10, [.ref tp_3, .ref tk_5, .ref rs_7, .ref ou_9, .int 0, .ref sc0_10, .ref h0_11, .ref sn0_12, .ref pa0_13, .ref vl_14, .ref de_15, .ref br_16, .ref pw_17, .ref pr_18])), (tp_3, .inr (0, [.ref tpa_4, .int 0])), (tpa_4, .inl (ctp_23, 256, .inl (fun _ => 0))), (q68, .inr (11, [.int 0, .ref m_tape_70, .int 0, .ref m_result_71, .int 0, .int ((-1)), .ref m_signs_72, .ref m_keptWords_73, .int 0, .int 0, .int 0, .long 0, .null, .int 0, .int 0, .int 0, .ref m_spelled_74, .ref m_pieced_75, .ref m_hexes_76, .ref m_words_77, .ref m_nextWords_78, .ref m_firstWords_79, .int 0, .ref m_pool_80, .int 0, .int 0, .null, .null, .ref m_chain_81, .ref m_waiting_82, .int 0, .int 0, .ref m_back_83, .ref m_spare_84, .int 0, .ref m_packed_85, .int 0, .int 0, .int 0, .int 0, .int 0, .long 0, .int 0, .int 0, .int 0, .long 0, .long 0, .ref m_theres_86, .int 0, .int 0, .int 0, .long 0, .int 0])), (q88, .inl (cA89, 1, .inr (.inl ((fun _ => 0)))))] H) (hD : va_D A [(q1, .inr (10, [.ref tp_3, .ref tk_5, .ref rs_7, .ref ou_9, .int 0, .ref sc0_10, .ref h0_11, .ref sn0_12, .ref pa0_13, .ref vl_14, .ref de_15, .ref br_16, .ref pw_17, .ref pr_18])), (tp_3, .inr (0, [.ref tpa_4, .int 0])), (tpa_4, .inl (ctp_23, 256, .inl (fun _ => 0))), (q68, .inr (11, [.int 0, .ref m_tape_70, .int 0, .ref m_result_71, .int 0, .int ((-1)), .ref m_signs_72, .ref m_keptWords_73, .int 0, .int 0, .int 0, .long 0, .null, .int 0, .int 0, .int 0, .ref m_spelled_74, .ref m_pieced_75, .ref m_hexes_76, .ref m_words_77, .ref m_nextWords_78, .ref m_firstWords_79, .int 0, .ref m_pool_80, .int 0, .int 0, .null, .null, .ref m_chain_81, .ref m_waiting_82, .int 0, .int 0, .ref m_back_83, .ref m_spare_84, .int 0, .ref m_packed_85, .int 0, .int 0, .int 0, .int 0, .int 0, .long 0, .int 0, .int 0, .int 0, .long 0, .long 0, .ref m_theres_86, .int 0, .int 0, .int 0, .long 0, .int 0])), (q88, .inl (cA89, 1, .inr (.inl ((fun _ => 0)))))]) (hS : va_S A s.heap H locs) : W p l e room_1 s m #[Value.ref b] below meth c H locs 156 335610 (lw_Z below #[Value.ref b] s) (F0 m 192 ls []) := by
  by_cases hy : z1 = 0
  · refine lv_aload_n hx hb d_Law_law_192 rfl (lv_at hl 3 rfl) ?_
    refine lv_aload_n hx hb d_Law_law_193 rfl (lv_at hl 4 rfl) ?_
    refine lv_iload hx hb d_Law_law_194 (lv_at hl 0 rfl) ?_
    refine lv_iconst (v := 1) hx hb d_Law_law_196 (by decide) ?_
    refine lv_iadd hx hb d_Law_law_197 ?_
    refine lv_topi (fun z9 e9 => ?_)
    have e9 : z9 = 1 := e9.trans (by decide)
    subst e9
    refine va_sld hx hb hX hbl hbA hS (by unfold vp_in; decide) d_Law_law_198 ?_
    refine lv_topi (fun z9 e9 => ?_)
    have e9 : 0 = z9 := (e9.trans ((congrArg xs (by decide)).trans (hv1.symm.trans hy))).symm
    subst e9
    refine lv_aload_n hx hb d_Law_law_199 rfl (lv_at hl 1 rfl) ?_
    have hc0 : 156 + 0 ≤ 600002 := by omega
    have hs0 : 335610 + 0 ≤ 7302232 := by omega
    have hPc := hP.sub (ws' := [(q1, .inr (10, [.ref tp_3, .ref tk_5, .ref rs_7, .ref ou_9, .int 0, .ref sc0_10, .ref h0_11, .ref sn0_12, .ref pa0_13, .ref vl_14, .ref de_15, .ref br_16, .ref pw_17, .ref pr_18])), (tp_3, .inr (0, [.ref tpa_4, .int 0])), (tpa_4, .inl (ctp_23, 256, .inl (fun _ => 0))), (q88, .inl (cA89, 1, .inr (.inl ((fun _ => 0)))))]) [0, 1, 2, 4] rfl
    have hDc := hD.sub (ws' := [(q1, .inr (10, [.ref tp_3, .ref tk_5, .ref rs_7, .ref ou_9, .int 0, .ref sc0_10, .ref h0_11, .ref sn0_12, .ref pa0_13, .ref vl_14, .ref de_15, .ref br_16, .ref pw_17, .ref pr_18])), (tp_3, .inr (0, [.ref tpa_4, .int 0])), (tpa_4, .inl (ctp_23, 256, .inl (fun _ => 0))), (q88, .inl (cA89, 1, .inr (.inl ((fun _ => 0)))))]) [0, 1, 2, 4] (by decide) rfl
    have hKc := hK.sub (tys' := [(ctp_23, .byte), (cA89, .long)]) [0, 1] rfl
    have hFc := va_free (wc := [(q1, .inr (10, [.ref tp_3, .ref tk_5, .ref rs_7, .ref ou_9, .int 0, .ref sc0_10, .ref h0_11, .ref sn0_12, .ref pa0_13, .ref vl_14, .ref de_15, .ref br_16, .ref pw_17, .ref pr_18])), (tp_3, .inr (0, [.ref tpa_4, .int 0])), (tpa_4, .inl (ctp_23, 256, .inl (fun _ => 0))), (q88, .inl (cA89, 1, .inr (.inl ((fun _ => 0)))))]) hD hS hA [0, 1, 2, 4] rfl
    refine va_calli (tk_runSW (As := [.ref q1, .int 0, .ref q88]) (rest := []) ⟨hx, hb, hml, hown, htw⟩ (c_Law_end l dC dI H.size q1 tp_3 tk_5 rs_7 ou_9 sc0_10 h0_11 sn0_12 pa0_13 vl_14 de_15 br_16 pw_17 pr_18 tpa_4 ctp_23 q88 cA89 ((fun _ => 0))) ⟨tk_cbW 3 htw (tw_inL k_Law_end) rfl rfl rfl (htw _ wd_1_0) (htw _ wd_3_129) (by decide +kernel) ⟨Nat.le_of_ble_eq_true rfl, Nat.le_of_ble_eq_true rfl⟩, htw _ wd_3_130⟩ List.mem_cons_self ⟨fun a U g mk q => by obtain ⟨q0, q1, qP, qK, qD⟩ := q; exact ⟨q0, q1, qP, va_K.moved (u := U) (U := U.calling g mk a) (Vm.Alike.refl U.vm) qK, qD⟩, fun U hU hW => ⟨rfl, by rw [hU], by rw [hU]; exact hPc, va_K.moved hW.alike hKc, hDc.weaken (fun _ _ _ _ => trivial)⟩⟩ rfl rfl hl.1 rfl (lv_room (Nat.le_of_ble_eq_true rfl)) d_Law_law_200 ⟨hc0, hs0⟩) hS (fun q _ h => hFc q h) hFc (fun r90 u t H1 locs ht hvm hw hB hz1 hk1 hS => ?_)
    obtain ⟨g9_91, hp92, hP1, hK1, hD1⟩ := hB
    rw [ht] at hP1
    have hK1 := va_K.moved hvm.symm hK1
    obtain ⟨hP, hD⟩ := va_join (wr := [(q68, .inr (11, [.int 0, .ref m_tape_70, .int 0, .ref m_result_71, .int 0, .int ((-1)), .ref m_signs_72, .ref m_keptWords_73, .int 0, .int 0, .int 0, .long 0, .null, .int 0, .int 0, .int 0, .ref m_spelled_74, .ref m_pieced_75, .ref m_hexes_76, .ref m_words_77, .ref m_nextWords_78, .ref m_firstWords_79, .int 0, .ref m_pool_80, .int 0, .int 0, .null, .null, .ref m_chain_81, .ref m_waiting_82, .int 0, .int 0, .ref m_back_83, .ref m_spare_84, .int 0, .ref m_packed_85, .int 0, .int 0, .int 0, .int 0, .int 0, .long 0, .int 0, .int 0, .int 0, .long 0, .long 0, .ref m_theres_86, .int 0, .int 0, .int 0, .long 0, .int 0]))]) (w1 := [(q88, .inl (cA89, 1, .inr (.inl g9_91)))]) hP hD [0, 1, 2, 4] [3] rfl rfl (by decide) (by decide) hk1 hFc hP1 hD1
    have hK := (hK.sub (tys' := []) [] rfl).app hK1
    generalize H1 = H at hP hS ⊢
    have hP : va_P (dC, dI) classes [(q68, .inr (11, [.int 0, .ref m_tape_70, .int 0, .ref m_result_71, .int 0, .int ((-1)), .ref m_signs_72, .ref m_keptWords_73, .int 0, .int 0, .int 0, .long 0, .null, .int 0, .int 0, .int 0, .ref m_spelled_74, .ref m_pieced_75, .ref m_hexes_76, .ref m_words_77, .ref m_nextWords_78, .ref m_firstWords_79, .int 0, .ref m_pool_80, .int 0, .int 0, .null, .null, .ref m_chain_81, .ref m_waiting_82, .int 0, .int 0, .ref m_back_83, .ref m_spare_84, .int 0, .ref m_packed_85, .int 0, .int 0, .int 0, .int 0, .int 0, .long 0, .int 0, .int 0, .int 0, .long 0, .long 0, .ref m_theres_86, .int 0, .int 0, .int 0, .long 0, .int 0])), (q88, .inl (cA89, 1, .inr (.inl g9_91)))] H := hP
    have hD : va_D A [(q68, .inr (11, [.int 0, .ref m_tape_70, .int 0, .ref m_result_71, .int 0, .int ((-1)), .ref m_signs_72, .ref m_keptWords_73, .int 0, .int 0, .int 0, .long 0, .null, .int 0, .int 0, .int 0, .ref m_spelled_74, .ref m_pieced_75, .ref m_hexes_76, .ref m_words_77, .ref m_nextWords_78, .ref m_firstWords_79, .int 0, .ref m_pool_80, .int 0, .int 0, .null, .null, .ref m_chain_81, .ref m_waiting_82, .int 0, .int 0, .ref m_back_83, .ref m_spare_84, .int 0, .ref m_packed_85, .int 0, .int 0, .int 0, .int 0, .int 0, .long 0, .int 0, .int 0, .int 0, .long 0, .long 0, .ref m_theres_86, .int 0, .int 0, .int 0, .long 0, .int 0])), (q88, .inl (cA89, 1, .inr (.inl g9_91)))] := hD
    have hK : va_K (dC, dI) classes [(cA89, .long)] s := hK
    subst hw
    refine lv_istore hx hb d_Law_law_203 hl (by decide) rfl (fun ls hl => ?_)
    have hl : lv_has ls 8 [(5, .int 0), (4, .int 0), (3, .ref q88), (2, .ref q68), (1, .ref q1), (0, .ref b)] := hl
    refine lv_aload_n hx hb d_Law_law_205 rfl (lv_at hl 3 rfl) ?_
    refine lv_aload_n hx hb d_Law_law_206 rfl (lv_at hl 5 rfl) ?_
    refine lv_iload hx hb d_Law_law_207 (lv_at hl 1 rfl) ?_
    refine lv_iconst (v := 1) hx hb d_Law_law_209 (by decide) ?_
    refine lv_iadd hx hb d_Law_law_210 ?_
    refine lv_topi (fun z9 e9 => ?_)
    have e9 : z9 = 1 := e9.trans (by decide)
    subst e9
    refine va_sld hx hb hX hbl hbA hS (by unfold vp_in; decide) d_Law_law_211 ?_
    refine lv_topi (fun z9 e9 => ?_)
    have e9 : 0 = z9 := (e9.trans ((congrArg xs (by decide)).trans (hv1.symm.trans hy))).symm
    subst e9
    have hc0 : 156 + 0 ≤ 600002 := by omega
    have hs0 : 335610 + 0 ≤ 7302232 := by omega
    have hPc := hP.sub (ws' := [(q68, .inr (11, [.int 0, .ref m_tape_70, .int 0, .ref m_result_71, .int 0, .int ((-1)), .ref m_signs_72, .ref m_keptWords_73, .int 0, .int 0, .int 0, .long 0, .null, .int 0, .int 0, .int 0, .ref m_spelled_74, .ref m_pieced_75, .ref m_hexes_76, .ref m_words_77, .ref m_nextWords_78, .ref m_firstWords_79, .int 0, .ref m_pool_80, .int 0, .int 0, .null, .null, .ref m_chain_81, .ref m_waiting_82, .int 0, .int 0, .ref m_back_83, .ref m_spare_84, .int 0, .ref m_packed_85, .int 0, .int 0, .int 0, .int 0, .int 0, .long 0, .int 0, .int 0, .int 0, .long 0, .long 0, .ref m_theres_86, .int 0, .int 0, .int 0, .long 0, .int 0]))]) [0] rfl
    have hDc := hD.sub (ws' := [(q68, .inr (11, [.int 0, .ref m_tape_70, .int 0, .ref m_result_71, .int 0, .int ((-1)), .ref m_signs_72, .ref m_keptWords_73, .int 0, .int 0, .int 0, .long 0, .null, .int 0, .int 0, .int 0, .ref m_spelled_74, .ref m_pieced_75, .ref m_hexes_76, .ref m_words_77, .ref m_nextWords_78, .ref m_firstWords_79, .int 0, .ref m_pool_80, .int 0, .int 0, .null, .null, .ref m_chain_81, .ref m_waiting_82, .int 0, .int 0, .ref m_back_83, .ref m_spare_84, .int 0, .ref m_packed_85, .int 0, .int 0, .int 0, .int 0, .int 0, .long 0, .int 0, .int 0, .int 0, .long 0, .long 0, .ref m_theres_86, .int 0, .int 0, .int 0, .long 0, .int 0]))]) [0] (by decide) rfl
    have hKc := hK.sub (tys' := []) [] rfl
    have hFc := va_free (wc := [(q68, .inr (11, [.int 0, .ref m_tape_70, .int 0, .ref m_result_71, .int 0, .int ((-1)), .ref m_signs_72, .ref m_keptWords_73, .int 0, .int 0, .int 0, .long 0, .null, .int 0, .int 0, .int 0, .ref m_spelled_74, .ref m_pieced_75, .ref m_hexes_76, .ref m_words_77, .ref m_nextWords_78, .ref m_firstWords_79, .int 0, .ref m_pool_80, .int 0, .int 0, .null, .null, .ref m_chain_81, .ref m_waiting_82, .int 0, .int 0, .ref m_back_83, .ref m_spare_84, .int 0, .ref m_packed_85, .int 0, .int 0, .int 0, .int 0, .int 0, .long 0, .int 0, .int 0, .int 0, .long 0, .long 0, .ref m_theres_86, .int 0, .int 0, .int 0, .long 0, .int 0]))]) hD hS hA [0] rfl
    refine va_calli (va_runV (As := [.int 0]) (rest := []) ⟨hx, hb, hml, hown, htw⟩ (c_Mo_end l dC dI H.size q68 m_tape_70 m_result_71 m_signs_72 m_keptWords_73 m_spelled_74 m_pieced_75 m_hexes_76 m_words_77 m_nextWords_78 m_firstWords_79 m_pool_80 m_chain_81 m_waiting_82 m_back_83 m_spare_84 m_packed_85 m_theres_86) (cwV 1 htw (tw_V wd_10_224 wd_10_225 wd_10_226 wd_1_21 k_Mo_end) rfl rfl rfl (by decide +kernel) ⟨Nat.le_of_ble_eq_true rfl, Nat.le_of_ble_eq_true rfl⟩) ⟨fun a U g mk q => by obtain ⟨q0, q1, qP, qK, qD⟩ := q; exact ⟨q0, q1, qP, va_K.moved (u := U) (U := U.calling g mk a) (Vm.Alike.refl U.vm) qK, qD⟩, va_recv hK hP (q := (R_Mo, F_Mo, 53)) (ci := 11) (q0 := 0) rfl rfl, fun U hU hW => ⟨rfl, by rw [hU], by rw [hU]; exact hPc, va_K.moved hW.alike hKc, hDc.weaken (fun _ _ _ _ => trivial)⟩⟩ rfl rfl hl.1 rfl (lv_room (Nat.le_of_ble_eq_true rfl)) d_Law_law_212 ⟨hc0, hs0⟩) hS (fun q _ h => hFc q h) hFc (fun r93 u t H1 locs ht hvm hw hB hz1 hk1 hS => ?_)
    obtain ⟨hP1, hK1, hD1⟩ := hB
    rw [ht] at hP1
    have hK1 := va_K.moved hvm.symm hK1
    obtain ⟨hP, hD⟩ := va_join (wr := [(q88, .inl (cA89, 1, .inr (.inl g9_91)))]) (w1 := [(q68, .inr (11, [.int 0, .ref m_tape_70, .int 0, .ref m_result_71, .int 0, .int ((-1)), .ref m_signs_72, .ref m_keptWords_73, .int 0, .int 0, .int 0, .long 0, .null, .int 0, .int 0, .int 0, .ref m_spelled_74, .ref m_pieced_75, .ref m_hexes_76, .ref m_words_77, .ref m_nextWords_78, .ref m_firstWords_79, .int 0, .ref m_pool_80, .int 0, .int 0, .null, .null, .ref m_chain_81, .ref m_waiting_82, .int 0, .int 0, .ref m_back_83, .ref m_spare_84, .int 0, .ref m_packed_85, .int 0, .int 0, .int 0, .int 0, .int 0, .long 0, .int 0, .int 0, .int 0, .long 0, .long 0, .ref m_theres_86, .int 0, .int 0, .int 0, .long 0, .int 0]))]) hP hD [0] [1] rfl rfl (by decide) (by decide) hk1 hFc hP1 hD1
    have hK := (hK.sub (tys' := [(cA89, .long)]) [0] rfl).app hK1
    generalize H1 = H at hP hS ⊢
    have hP : va_P (dC, dI) classes [(q88, .inl (cA89, 1, .inr (.inl g9_91))), (q68, .inr (11, [.int 0, .ref m_tape_70, .int 0, .ref m_result_71, .int 0, .int ((-1)), .ref m_signs_72, .ref m_keptWords_73, .int 0, .int 0, .int 0, .long 0, .null, .int 0, .int 0, .int 0, .ref m_spelled_74, .ref m_pieced_75, .ref m_hexes_76, .ref m_words_77, .ref m_nextWords_78, .ref m_firstWords_79, .int 0, .ref m_pool_80, .int 0, .int 0, .null, .null, .ref m_chain_81, .ref m_waiting_82, .int 0, .int 0, .ref m_back_83, .ref m_spare_84, .int 0, .ref m_packed_85, .int 0, .int 0, .int 0, .int 0, .int 0, .long 0, .int 0, .int 0, .int 0, .long 0, .long 0, .ref m_theres_86, .int 0, .int 0, .int 0, .long 0, .int 0]))] H := hP
    have hD : va_D A [(q88, .inl (cA89, 1, .inr (.inl g9_91))), (q68, .inr (11, [.int 0, .ref m_tape_70, .int 0, .ref m_result_71, .int 0, .int ((-1)), .ref m_signs_72, .ref m_keptWords_73, .int 0, .int 0, .int 0, .long 0, .null, .int 0, .int 0, .int 0, .ref m_spelled_74, .ref m_pieced_75, .ref m_hexes_76, .ref m_words_77, .ref m_nextWords_78, .ref m_firstWords_79, .int 0, .ref m_pool_80, .int 0, .int 0, .null, .null, .ref m_chain_81, .ref m_waiting_82, .int 0, .int 0, .ref m_back_83, .ref m_spare_84, .int 0, .ref m_packed_85, .int 0, .int 0, .int 0, .int 0, .int 0, .long 0, .int 0, .int 0, .int 0, .long 0, .long 0, .ref m_theres_86, .int 0, .int 0, .int 0, .long 0, .int 0]))] := hD
    have hK : va_K (dC, dI) classes [(cA89, .long)] s := hK
    subst hw
    refine lv_istore hx hb d_Law_law_215 hl (by decide) rfl (fun ls hl => ?_)
    have hl : lv_has ls 8 [(6, .int 0), (5, .int 0), (4, .int 0), (3, .ref q88), (2, .ref q68), (1, .ref q1), (0, .ref b)] := hl
    refine lv_aload_n hx hb d_Law_law_217 rfl (lv_at hl 4 rfl) ?_
    have hc0 : 156 + 0 ≤ 600002 := by omega
    have hs0 : 335610 + 0 ≤ 7302232 := by omega
    have hPc := hP.sub (ws' := [(q68, .inr (11, [.int 0, .ref m_tape_70, .int 0, .ref m_result_71, .int 0, .int ((-1)), .ref m_signs_72, .ref m_keptWords_73, .int 0, .int 0, .int 0, .long 0, .null, .int 0, .int 0, .int 0, .ref m_spelled_74, .ref m_pieced_75, .ref m_hexes_76, .ref m_words_77, .ref m_nextWords_78, .ref m_firstWords_79, .int 0, .ref m_pool_80, .int 0, .int 0, .null, .null, .ref m_chain_81, .ref m_waiting_82, .int 0, .int 0, .ref m_back_83, .ref m_spare_84, .int 0, .ref m_packed_85, .int 0, .int 0, .int 0, .int 0, .int 0, .long 0, .int 0, .int 0, .int 0, .long 0, .long 0, .ref m_theres_86, .int 0, .int 0, .int 0, .long 0, .int 0]))]) [1] rfl
    have hDc := hD.sub (ws' := [(q68, .inr (11, [.int 0, .ref m_tape_70, .int 0, .ref m_result_71, .int 0, .int ((-1)), .ref m_signs_72, .ref m_keptWords_73, .int 0, .int 0, .int 0, .long 0, .null, .int 0, .int 0, .int 0, .ref m_spelled_74, .ref m_pieced_75, .ref m_hexes_76, .ref m_words_77, .ref m_nextWords_78, .ref m_firstWords_79, .int 0, .ref m_pool_80, .int 0, .int 0, .null, .null, .ref m_chain_81, .ref m_waiting_82, .int 0, .int 0, .ref m_back_83, .ref m_spare_84, .int 0, .ref m_packed_85, .int 0, .int 0, .int 0, .int 0, .int 0, .long 0, .int 0, .int 0, .int 0, .long 0, .long 0, .ref m_theres_86, .int 0, .int 0, .int 0, .long 0, .int 0]))]) [1] (by decide) rfl
    have hKc := hK.sub (tys' := []) [] rfl
    have hFc := va_free (wc := [(q68, .inr (11, [.int 0, .ref m_tape_70, .int 0, .ref m_result_71, .int 0, .int ((-1)), .ref m_signs_72, .ref m_keptWords_73, .int 0, .int 0, .int 0, .long 0, .null, .int 0, .int 0, .int 0, .ref m_spelled_74, .ref m_pieced_75, .ref m_hexes_76, .ref m_words_77, .ref m_nextWords_78, .ref m_firstWords_79, .int 0, .ref m_pool_80, .int 0, .int 0, .null, .null, .ref m_chain_81, .ref m_waiting_82, .int 0, .int 0, .ref m_back_83, .ref m_spare_84, .int 0, .ref m_packed_85, .int 0, .int 0, .int 0, .int 0, .int 0, .long 0, .int 0, .int 0, .int 0, .long 0, .long 0, .ref m_theres_86, .int 0, .int 0, .int 0, .long 0, .int 0]))]) hD hS hA [1] rfl
    refine va_calli (va_runV (As := []) (rest := []) ⟨hx, hb, hml, hown, htw⟩ (c_Mo_thrown l dC dI H.size q68 m_tape_70 m_result_71 m_signs_72 m_keptWords_73 m_spelled_74 m_pieced_75 m_hexes_76 m_words_77 m_nextWords_78 m_firstWords_79 m_pool_80 m_chain_81 m_waiting_82 m_back_83 m_spare_84 m_packed_85 m_theres_86 0 0) (cwV 0 htw (tw_V wd_10_212 wd_10_213 wd_10_214 wd_1_21 k_Mo_thrown) rfl rfl rfl (by decide +kernel) ⟨Nat.le_of_ble_eq_true rfl, Nat.le_of_ble_eq_true rfl⟩) ⟨fun a U g mk q => by obtain ⟨q0, q1, qP, qK, qD⟩ := q; exact ⟨q0, q1, qP, va_K.moved (u := U) (U := U.calling g mk a) (Vm.Alike.refl U.vm) qK, qD⟩, va_recv hK hP (q := (R_Mo, F_Mo, 53)) (ci := 11) (q0 := 1) rfl rfl, fun U hU hW => ⟨rfl, by rw [hU], by rw [hU]; exact hPc, va_K.moved hW.alike hKc, hDc.weaken (fun _ _ _ _ => trivial)⟩⟩ rfl rfl hl.1 rfl (lv_room (Nat.le_of_ble_eq_true rfl)) d_Law_law_218 ⟨hc0, hs0⟩) hS (fun q _ h => hFc q h) hFc (fun r94 u t H1 locs ht hvm hw hB hz1 hk1 hS => ?_)
    obtain ⟨hP1, hK1, hD1⟩ := hB
    rw [ht] at hP1
    have hK1 := va_K.moved hvm.symm hK1
    obtain ⟨hP, hD⟩ := va_join (wr := [(q88, .inl (cA89, 1, .inr (.inl g9_91)))]) (w1 := [(q68, .inr (11, [.int 0, .ref m_tape_70, .int 0, .ref m_result_71, .int 0, .int ((-1)), .ref m_signs_72, .ref m_keptWords_73, .int 0, .int 0, .int 0, .long 0, .null, .int 0, .int 0, .int 0, .ref m_spelled_74, .ref m_pieced_75, .ref m_hexes_76, .ref m_words_77, .ref m_nextWords_78, .ref m_firstWords_79, .int 0, .ref m_pool_80, .int 0, .int 0, .null, .null, .ref m_chain_81, .ref m_waiting_82, .int 0, .int 0, .ref m_back_83, .ref m_spare_84, .int 0, .ref m_packed_85, .int 0, .int 0, .int 0, .int 0, .int 0, .long 0, .int 0, .int 0, .int 0, .long 0, .long 0, .ref m_theres_86, .int 0, .int 0, .int 0, .long 0, .int 0]))]) hP hD [1] [0] rfl rfl (by decide) (by decide) hk1 hFc hP1 hD1
    have hK := (hK.sub (tys' := [(cA89, .long)]) [0] rfl).app hK1
    generalize H1 = H at hP hS ⊢
    have hP : va_P (dC, dI) classes [(q88, .inl (cA89, 1, .inr (.inl g9_91))), (q68, .inr (11, [.int 0, .ref m_tape_70, .int 0, .ref m_result_71, .int 0, .int ((-1)), .ref m_signs_72, .ref m_keptWords_73, .int 0, .int 0, .int 0, .long 0, .null, .int 0, .int 0, .int 0, .ref m_spelled_74, .ref m_pieced_75, .ref m_hexes_76, .ref m_words_77, .ref m_nextWords_78, .ref m_firstWords_79, .int 0, .ref m_pool_80, .int 0, .int 0, .null, .null, .ref m_chain_81, .ref m_waiting_82, .int 0, .int 0, .ref m_back_83, .ref m_spare_84, .int 0, .ref m_packed_85, .int 0, .int 0, .int 0, .int 0, .int 0, .long 0, .int 0, .int 0, .int 0, .long 0, .long 0, .ref m_theres_86, .int 0, .int 0, .int 0, .long 0, .int 0]))] H := hP
    have hD : va_D A [(q88, .inl (cA89, 1, .inr (.inl g9_91))), (q68, .inr (11, [.int 0, .ref m_tape_70, .int 0, .ref m_result_71, .int 0, .int ((-1)), .ref m_signs_72, .ref m_keptWords_73, .int 0, .int 0, .int 0, .long 0, .null, .int 0, .int 0, .int 0, .ref m_spelled_74, .ref m_pieced_75, .ref m_hexes_76, .ref m_words_77, .ref m_nextWords_78, .ref m_firstWords_79, .int 0, .ref m_pool_80, .int 0, .int 0, .null, .null, .ref m_chain_81, .ref m_waiting_82, .int 0, .int 0, .ref m_back_83, .ref m_spare_84, .int 0, .ref m_packed_85, .int 0, .int 0, .int 0, .int 0, .int 0, .long 0, .int 0, .int 0, .int 0, .long 0, .long 0, .ref m_theres_86, .int 0, .int 0, .int 0, .long 0, .int 0]))] := hD
    have hK : va_K (dC, dI) classes [(cA89, .long)] s := hK
    subst hw
    refine lv_iload hx hb d_Law_law_221 (lv_at hl 1 rfl) ?_
    refine lv_icmp_eq (tgt := 228) hx hb d_Law_law_223 rfl (fun _ => ?_) (fun hn => absurd (rfl) hn)
    refine lv_iload hx hb d_Law_law_228 (lv_at hl 1 rfl) ?_
    refine lv_if_ne (tgt := 245) hx hb d_Law_law_230 rfl (fun ht => absurd ht (fun h => h rfl)) (fun _ => ?_)
    refine lv_aload_n hx hb d_Law_law_233 rfl (lv_at hl 3 rfl) ?_
    refine lv_iconst (v := 0) hx hb d_Law_law_234 (by decide) ?_
    refine va_lald hx hb hK hP 0 0 rfl rfl (by unfold vp_in; decide) d_Law_law_235 ?_
    refine lv_topl (fun z9 e9 => ?_)
    have e9 : z9 = (0 : Int32).toInt64 := e9.trans (hp92)
    subst e9
    refine lv_iload hx hb d_Law_law_236 (lv_at hl 0 rfl) ?_
    refine lv_i2l hx hb d_Law_law_238 rfl ?_
    refine W.lcmp hx hb d_Law_law_239 ?_
    refine lv_topi (fun z9 e9 => ?_)
    have e9 : z9 = 0 := e9.trans (tz_cmp _)
    subst e9
    refine lv_if_eq (tgt := 245) hx hb d_Law_law_240 rfl (fun _ => ?_) (fun hn => absurd (rfl) hn)
    refine lv_goto (tgt := 594) hx hb d_Law_law_245 rfl ?_
    refine lv_iinc (k := 2) (v := 6) hx hb d_Law_law_594 hl rfl (by decide) (by decide) rfl (fun ls hl => ?_)
    have hl : lv_has ls 8 [(4, .int 6), (6, .int 0), (5, .int 0), (3, .ref q88), (2, .ref q68), (1, .ref q1), (0, .ref b)] := hl
    refine lv_goto (tgt := 23) hx hb d_Law_law_597 rfl ?_
    refine lv_iload hx hb d_Law_law_23 (lv_at hl 0 rfl) ?_
    refine lv_aload_n hx hb d_Law_law_25 rfl (lv_at hl 6 rfl) ?_
    refine va_slen hx hb hX hbl hbA hS d_Law_law_26 ?_
    refine lv_bipush (v := 6) hx hb d_Law_law_27 (by decide) ?_
    refine lv_isub hx hb d_Law_law_29 ?_
    refine lv_icmp_gt (tgt := 600) hx hb d_Law_law_30 rfl (fun _ => ?_) (fun hn => absurd (by decide) hn)
    refine lv_iconst (v := 1) hx hb d_Law_law_600 (by decide) ?_
    refine va_forget (fun q hq => by have h9 := hS.2.2 q hq; rw [hAe] at h9; exact h9) ?_
    refine W.widen (k := 600002) (n := 7302232) (by omega) (by omega) ?_
    exact lw_ret hx hb hr hlocks d_Law_law_601
  · refine lv_aload_n hx hb d_Law_law_192 rfl (lv_at hl 3 rfl) ?_
    refine lv_aload_n hx hb d_Law_law_193 rfl (lv_at hl 4 rfl) ?_
    refine lv_iload hx hb d_Law_law_194 (lv_at hl 0 rfl) ?_
    refine lv_iconst (v := 1) hx hb d_Law_law_196 (by decide) ?_
    refine lv_iadd hx hb d_Law_law_197 ?_
    refine lv_topi (fun z9 e9 => ?_)
    have e9 : z9 = 1 := e9.trans (by decide)
    subst e9
    refine va_sld hx hb hX hbl hbA hS (by unfold vp_in; decide) d_Law_law_198 ?_
    refine lv_topi (fun z9 e9 => ?_)
    have e9 : z1 = z9 := (e9.trans ((congrArg xs (by decide)).trans (hv1.symm))).symm
    subst e9
    refine lv_aload_n hx hb d_Law_law_199 rfl (lv_at hl 1 rfl) ?_
    have hc0 : 156 + 1 ≤ 600002 := by omega
    have hs0 : 335610 + 6 ≤ 7302232 := by omega
    have hPc := hP.sub (ws' := [(q1, .inr (10, [.ref tp_3, .ref tk_5, .ref rs_7, .ref ou_9, .int 0, .ref sc0_10, .ref h0_11, .ref sn0_12, .ref pa0_13, .ref vl_14, .ref de_15, .ref br_16, .ref pw_17, .ref pr_18])), (tp_3, .inr (0, [.ref tpa_4, .int 0])), (tpa_4, .inl (ctp_23, 256, .inl (fun _ => 0)))]) [0, 1, 2] rfl
    have hDc := hD.sub (ws' := [(q1, .inr (10, [.ref tp_3, .ref tk_5, .ref rs_7, .ref ou_9, .int 0, .ref sc0_10, .ref h0_11, .ref sn0_12, .ref pa0_13, .ref vl_14, .ref de_15, .ref br_16, .ref pw_17, .ref pr_18])), (tp_3, .inr (0, [.ref tpa_4, .int 0])), (tpa_4, .inl (ctp_23, 256, .inl (fun _ => 0)))]) [0, 1, 2] (by decide) rfl
    have hKc := hK.sub (tys' := [(ctp_23, .byte)]) [0] rfl
    have hFc := va_free (wc := [(q1, .inr (10, [.ref tp_3, .ref tk_5, .ref rs_7, .ref ou_9, .int 0, .ref sc0_10, .ref h0_11, .ref sn0_12, .ref pa0_13, .ref vl_14, .ref de_15, .ref br_16, .ref pw_17, .ref pr_18])), (tp_3, .inr (0, [.ref tpa_4, .int 0])), (tpa_4, .inl (ctp_23, 256, .inl (fun _ => 0)))]) hD hS hA [0, 1, 2] rfl
    refine va_calli (tk_runSW (As := [.ref q1, .int z1, .ref q88]) (rest := []) ⟨hx, hb, hml, hown, htw⟩ (c_Law_end_v2 l dC dI H.size q1 tp_3 tk_5 rs_7 ou_9 sc0_10 h0_11 sn0_12 pa0_13 vl_14 de_15 br_16 pw_17 pr_18 tpa_4 ctp_23 z1 q88 (by first | omega | assumption) (by first | omega | assumption)) ⟨tk_cbW 3 htw (tw_inL k_Law_end) rfl rfl rfl (htw _ wd_1_0) (htw _ wd_3_129) (by decide +kernel) ⟨Nat.le_of_ble_eq_true rfl, Nat.le_of_ble_eq_true rfl⟩, htw _ wd_3_130⟩ List.mem_cons_self ⟨fun a U g mk q => by obtain ⟨q0, q1, qP, qK, qD, hq0, hq1, hq2, hq3⟩ := q; exact ⟨q0, q1, qP, va_K.moved (u := U) (U := U.calling g mk a) (Vm.Alike.refl U.vm) qK, qD, va_Zq.moved (u := U) (U := U.calling g mk a) (Vm.Alike.refl U.vm) hq0, va_Zq.moved (u := U) (U := U.calling g mk a) (Vm.Alike.refl U.vm) hq1, tz_LS.moved (u := U) (U := U.calling g mk a) (Vm.Alike.refl U.vm) hq2, tz_LS.moved (u := U) (U := U.calling g mk a) (Vm.Alike.refl U.vm) hq3⟩, fun U hU hW => ⟨rfl, by rw [hU], by rw [hU]; exact hPc, va_K.moved hW.alike hKc, hDc.weaken (fun _ _ _ _ => trivial), by rw [hU]; exact va_Zq.moved hW.alike ((va_Zq.kept hx9 hS.2.1).narrow hFc), by rw [hU]; exact va_Zq.moved hW.alike ((va_Zq.kept hx10 hS.2.1).narrow hFc), by rw [hU]; exact tz_LS.moved hW.alike ((tz_LS.kept hx11 hS.2.1).narrow hFc), by rw [hU]; exact tz_LS.moved hW.alike ((tz_LS.kept hx12 hS.2.1).narrow hFc)⟩⟩ rfl rfl hl.1 rfl (lv_room (Nat.le_of_ble_eq_true rfl)) d_Law_law_200 ⟨hc0, hs0⟩) hS (fun q _ h => hFc q h) hFc (fun r95 u t H1 locs ht hvm hw hB hz1 hk1 hS => ?_)
    obtain ⟨hP1, hK1, hD1⟩ := hB
    rw [ht] at hP1
    have hK1 := va_K.moved hvm.symm hK1
    obtain ⟨hP, hD⟩ := va_join (wr := [(q68, .inr (11, [.int 0, .ref m_tape_70, .int 0, .ref m_result_71, .int 0, .int ((-1)), .ref m_signs_72, .ref m_keptWords_73, .int 0, .int 0, .int 0, .long 0, .null, .int 0, .int 0, .int 0, .ref m_spelled_74, .ref m_pieced_75, .ref m_hexes_76, .ref m_words_77, .ref m_nextWords_78, .ref m_firstWords_79, .int 0, .ref m_pool_80, .int 0, .int 0, .null, .null, .ref m_chain_81, .ref m_waiting_82, .int 0, .int 0, .ref m_back_83, .ref m_spare_84, .int 0, .ref m_packed_85, .int 0, .int 0, .int 0, .int 0, .int 0, .long 0, .int 0, .int 0, .int 0, .long 0, .long 0, .ref m_theres_86, .int 0, .int 0, .int 0, .long 0, .int 0])), (q88, .inl (cA89, 1, .inr (.inl ((fun _ => 0)))))]) (w1 := []) hP hD [0, 1, 2] [3, 4] rfl rfl (by decide) (by decide) hk1 hFc hP1 hD1
    have hK := (hK.sub (tys' := [(cA89, .long)]) [1] rfl).app hK1
    generalize H1 = H at hP hS ⊢
    have hP : va_P (dC, dI) classes [(q68, .inr (11, [.int 0, .ref m_tape_70, .int 0, .ref m_result_71, .int 0, .int ((-1)), .ref m_signs_72, .ref m_keptWords_73, .int 0, .int 0, .int 0, .long 0, .null, .int 0, .int 0, .int 0, .ref m_spelled_74, .ref m_pieced_75, .ref m_hexes_76, .ref m_words_77, .ref m_nextWords_78, .ref m_firstWords_79, .int 0, .ref m_pool_80, .int 0, .int 0, .null, .null, .ref m_chain_81, .ref m_waiting_82, .int 0, .int 0, .ref m_back_83, .ref m_spare_84, .int 0, .ref m_packed_85, .int 0, .int 0, .int 0, .int 0, .int 0, .long 0, .int 0, .int 0, .int 0, .long 0, .long 0, .ref m_theres_86, .int 0, .int 0, .int 0, .long 0, .int 0])), (q88, .inl (cA89, 1, .inr (.inl ((fun _ => 0)))))] H := hP
    have hD : va_D A [(q68, .inr (11, [.int 0, .ref m_tape_70, .int 0, .ref m_result_71, .int 0, .int ((-1)), .ref m_signs_72, .ref m_keptWords_73, .int 0, .int 0, .int 0, .long 0, .null, .int 0, .int 0, .int 0, .ref m_spelled_74, .ref m_pieced_75, .ref m_hexes_76, .ref m_words_77, .ref m_nextWords_78, .ref m_firstWords_79, .int 0, .ref m_pool_80, .int 0, .int 0, .null, .null, .ref m_chain_81, .ref m_waiting_82, .int 0, .int 0, .ref m_back_83, .ref m_spare_84, .int 0, .ref m_packed_85, .int 0, .int 0, .int 0, .int 0, .int 0, .long 0, .int 0, .int 0, .int 0, .long 0, .long 0, .ref m_theres_86, .int 0, .int 0, .int 0, .long 0, .int 0])), (q88, .inl (cA89, 1, .inr (.inl ((fun _ => 0)))))] := hD
    have hK : va_K (dC, dI) classes [(cA89, .long)] s := hK
    subst hw
    refine lv_istore hx hb d_Law_law_203 hl (by decide) rfl (fun ls hl => ?_)
    have hl : lv_has ls 8 [(5, .int 1), (4, .int 0), (3, .ref q88), (2, .ref q68), (1, .ref q1), (0, .ref b)] := hl
    refine lv_aload_n hx hb d_Law_law_205 rfl (lv_at hl 3 rfl) ?_
    refine lv_aload_n hx hb d_Law_law_206 rfl (lv_at hl 5 rfl) ?_
    refine lv_iload hx hb d_Law_law_207 (lv_at hl 1 rfl) ?_
    refine lv_iconst (v := 1) hx hb d_Law_law_209 (by decide) ?_
    refine lv_iadd hx hb d_Law_law_210 ?_
    refine lv_topi (fun z9 e9 => ?_)
    have e9 : z9 = 1 := e9.trans (by decide)
    subst e9
    refine va_sld hx hb hX hbl hbA hS (by unfold vp_in; decide) d_Law_law_211 ?_
    refine lv_topi (fun z9 e9 => ?_)
    have e9 : z1 = z9 := (e9.trans ((congrArg xs (by decide)).trans (hv1.symm))).symm
    subst e9
    have hc0 : 157 + 0 ≤ 600002 := by omega
    have hs0 : 335616 + 0 ≤ 7302232 := by omega
    have hPc := hP.sub (ws' := [(q68, .inr (11, [.int 0, .ref m_tape_70, .int 0, .ref m_result_71, .int 0, .int ((-1)), .ref m_signs_72, .ref m_keptWords_73, .int 0, .int 0, .int 0, .long 0, .null, .int 0, .int 0, .int 0, .ref m_spelled_74, .ref m_pieced_75, .ref m_hexes_76, .ref m_words_77, .ref m_nextWords_78, .ref m_firstWords_79, .int 0, .ref m_pool_80, .int 0, .int 0, .null, .null, .ref m_chain_81, .ref m_waiting_82, .int 0, .int 0, .ref m_back_83, .ref m_spare_84, .int 0, .ref m_packed_85, .int 0, .int 0, .int 0, .int 0, .int 0, .long 0, .int 0, .int 0, .int 0, .long 0, .long 0, .ref m_theres_86, .int 0, .int 0, .int 0, .long 0, .int 0]))]) [0] rfl
    have hDc := hD.sub (ws' := [(q68, .inr (11, [.int 0, .ref m_tape_70, .int 0, .ref m_result_71, .int 0, .int ((-1)), .ref m_signs_72, .ref m_keptWords_73, .int 0, .int 0, .int 0, .long 0, .null, .int 0, .int 0, .int 0, .ref m_spelled_74, .ref m_pieced_75, .ref m_hexes_76, .ref m_words_77, .ref m_nextWords_78, .ref m_firstWords_79, .int 0, .ref m_pool_80, .int 0, .int 0, .null, .null, .ref m_chain_81, .ref m_waiting_82, .int 0, .int 0, .ref m_back_83, .ref m_spare_84, .int 0, .ref m_packed_85, .int 0, .int 0, .int 0, .int 0, .int 0, .long 0, .int 0, .int 0, .int 0, .long 0, .long 0, .ref m_theres_86, .int 0, .int 0, .int 0, .long 0, .int 0]))]) [0] (by decide) rfl
    have hKc := hK.sub (tys' := []) [] rfl
    have hFc := va_free (wc := [(q68, .inr (11, [.int 0, .ref m_tape_70, .int 0, .ref m_result_71, .int 0, .int ((-1)), .ref m_signs_72, .ref m_keptWords_73, .int 0, .int 0, .int 0, .long 0, .null, .int 0, .int 0, .int 0, .ref m_spelled_74, .ref m_pieced_75, .ref m_hexes_76, .ref m_words_77, .ref m_nextWords_78, .ref m_firstWords_79, .int 0, .ref m_pool_80, .int 0, .int 0, .null, .null, .ref m_chain_81, .ref m_waiting_82, .int 0, .int 0, .ref m_back_83, .ref m_spare_84, .int 0, .ref m_packed_85, .int 0, .int 0, .int 0, .int 0, .int 0, .long 0, .int 0, .int 0, .int 0, .long 0, .long 0, .ref m_theres_86, .int 0, .int 0, .int 0, .long 0, .int 0]))]) hD hS hA [0] rfl
    refine va_calli (va_runV (As := [.int z1]) (rest := []) ⟨hx, hb, hml, hown, htw⟩ (c_Mo_end_v2 l dC dI H.size q68 m_tape_70 m_result_71 m_signs_72 m_keptWords_73 m_spelled_74 m_pieced_75 m_hexes_76 m_words_77 m_nextWords_78 m_firstWords_79 m_pool_80 m_chain_81 m_waiting_82 m_back_83 m_spare_84 m_packed_85 m_theres_86 z1 (by first | omega | assumption)) (cwV 1 htw (tw_V wd_10_224 wd_10_225 wd_10_226 wd_1_21 k_Mo_end) rfl rfl rfl (by decide +kernel) ⟨Nat.le_of_ble_eq_true rfl, Nat.le_of_ble_eq_true rfl⟩) ⟨fun a U g mk q => by obtain ⟨q0, q1, qP, qK, qD⟩ := q; exact ⟨q0, q1, qP, va_K.moved (u := U) (U := U.calling g mk a) (Vm.Alike.refl U.vm) qK, qD⟩, va_recv hK hP (q := (R_Mo, F_Mo, 53)) (ci := 11) (q0 := 0) rfl rfl, fun U hU hW => ⟨rfl, by rw [hU], by rw [hU]; exact hPc, va_K.moved hW.alike hKc, hDc.weaken (fun _ _ _ _ => trivial)⟩⟩ rfl rfl hl.1 rfl (lv_room (Nat.le_of_ble_eq_true rfl)) d_Law_law_212 ⟨hc0, hs0⟩) hS (fun q _ h => hFc q h) hFc (fun r96 u t H1 locs ht hvm hw hB hz1 hk1 hS => ?_)
    obtain ⟨hP1, hK1, hD1⟩ := hB
    rw [ht] at hP1
    have hK1 := va_K.moved hvm.symm hK1
    obtain ⟨hP, hD⟩ := va_join (wr := [(q88, .inl (cA89, 1, .inr (.inl ((fun _ => 0)))))]) (w1 := [(q68, .inr (11, [.int 1, .ref m_tape_70, .int 0, .ref m_result_71, .int 0, .int ((-1)), .ref m_signs_72, .ref m_keptWords_73, .int 0, .int 0, .int 0, .long 0, .null, .int 0, .int 0, .int 0, .ref m_spelled_74, .ref m_pieced_75, .ref m_hexes_76, .ref m_words_77, .ref m_nextWords_78, .ref m_firstWords_79, .int 0, .ref m_pool_80, .int 0, .int 0, .null, .null, .ref m_chain_81, .ref m_waiting_82, .int 0, .int 0, .ref m_back_83, .ref m_spare_84, .int 0, .ref m_packed_85, .int 0, .int 0, .int 0, .int 0, .int 0, .long 0, .int 0, .int 0, .int 0, .long 0, .long 0, .ref m_theres_86, .int 0, .int 0, .int 0, .long 0, .int 0]))]) hP hD [0] [1] rfl rfl (by decide) (by decide) hk1 hFc hP1 hD1
    have hK := (hK.sub (tys' := [(cA89, .long)]) [0] rfl).app hK1
    generalize H1 = H at hP hS ⊢
    have hP : va_P (dC, dI) classes [(q88, .inl (cA89, 1, .inr (.inl ((fun _ => 0))))), (q68, .inr (11, [.int 1, .ref m_tape_70, .int 0, .ref m_result_71, .int 0, .int ((-1)), .ref m_signs_72, .ref m_keptWords_73, .int 0, .int 0, .int 0, .long 0, .null, .int 0, .int 0, .int 0, .ref m_spelled_74, .ref m_pieced_75, .ref m_hexes_76, .ref m_words_77, .ref m_nextWords_78, .ref m_firstWords_79, .int 0, .ref m_pool_80, .int 0, .int 0, .null, .null, .ref m_chain_81, .ref m_waiting_82, .int 0, .int 0, .ref m_back_83, .ref m_spare_84, .int 0, .ref m_packed_85, .int 0, .int 0, .int 0, .int 0, .int 0, .long 0, .int 0, .int 0, .int 0, .long 0, .long 0, .ref m_theres_86, .int 0, .int 0, .int 0, .long 0, .int 0]))] H := hP
    have hD : va_D A [(q88, .inl (cA89, 1, .inr (.inl ((fun _ => 0))))), (q68, .inr (11, [.int 1, .ref m_tape_70, .int 0, .ref m_result_71, .int 0, .int ((-1)), .ref m_signs_72, .ref m_keptWords_73, .int 0, .int 0, .int 0, .long 0, .null, .int 0, .int 0, .int 0, .ref m_spelled_74, .ref m_pieced_75, .ref m_hexes_76, .ref m_words_77, .ref m_nextWords_78, .ref m_firstWords_79, .int 0, .ref m_pool_80, .int 0, .int 0, .null, .null, .ref m_chain_81, .ref m_waiting_82, .int 0, .int 0, .ref m_back_83, .ref m_spare_84, .int 0, .ref m_packed_85, .int 0, .int 0, .int 0, .int 0, .int 0, .long 0, .int 0, .int 0, .int 0, .long 0, .long 0, .ref m_theres_86, .int 0, .int 0, .int 0, .long 0, .int 0]))] := hD
    have hK : va_K (dC, dI) classes [(cA89, .long)] s := hK
    subst hw
    refine lv_istore hx hb d_Law_law_215 hl (by decide) rfl (fun ls hl => ?_)
    have hl : lv_has ls 8 [(6, .int 0), (5, .int 1), (4, .int 0), (3, .ref q88), (2, .ref q68), (1, .ref q1), (0, .ref b)] := hl
    refine lv_aload_n hx hb d_Law_law_217 rfl (lv_at hl 4 rfl) ?_
    have hc0 : 157 + 0 ≤ 600002 := by omega
    have hs0 : 335616 + 0 ≤ 7302232 := by omega
    have hPc := hP.sub (ws' := [(q68, .inr (11, [.int 1, .ref m_tape_70, .int 0, .ref m_result_71, .int 0, .int ((-1)), .ref m_signs_72, .ref m_keptWords_73, .int 0, .int 0, .int 0, .long 0, .null, .int 0, .int 0, .int 0, .ref m_spelled_74, .ref m_pieced_75, .ref m_hexes_76, .ref m_words_77, .ref m_nextWords_78, .ref m_firstWords_79, .int 0, .ref m_pool_80, .int 0, .int 0, .null, .null, .ref m_chain_81, .ref m_waiting_82, .int 0, .int 0, .ref m_back_83, .ref m_spare_84, .int 0, .ref m_packed_85, .int 0, .int 0, .int 0, .int 0, .int 0, .long 0, .int 0, .int 0, .int 0, .long 0, .long 0, .ref m_theres_86, .int 0, .int 0, .int 0, .long 0, .int 0]))]) [1] rfl
    have hDc := hD.sub (ws' := [(q68, .inr (11, [.int 1, .ref m_tape_70, .int 0, .ref m_result_71, .int 0, .int ((-1)), .ref m_signs_72, .ref m_keptWords_73, .int 0, .int 0, .int 0, .long 0, .null, .int 0, .int 0, .int 0, .ref m_spelled_74, .ref m_pieced_75, .ref m_hexes_76, .ref m_words_77, .ref m_nextWords_78, .ref m_firstWords_79, .int 0, .ref m_pool_80, .int 0, .int 0, .null, .null, .ref m_chain_81, .ref m_waiting_82, .int 0, .int 0, .ref m_back_83, .ref m_spare_84, .int 0, .ref m_packed_85, .int 0, .int 0, .int 0, .int 0, .int 0, .long 0, .int 0, .int 0, .int 0, .long 0, .long 0, .ref m_theres_86, .int 0, .int 0, .int 0, .long 0, .int 0]))]) [1] (by decide) rfl
    have hKc := hK.sub (tys' := []) [] rfl
    have hFc := va_free (wc := [(q68, .inr (11, [.int 1, .ref m_tape_70, .int 0, .ref m_result_71, .int 0, .int ((-1)), .ref m_signs_72, .ref m_keptWords_73, .int 0, .int 0, .int 0, .long 0, .null, .int 0, .int 0, .int 0, .ref m_spelled_74, .ref m_pieced_75, .ref m_hexes_76, .ref m_words_77, .ref m_nextWords_78, .ref m_firstWords_79, .int 0, .ref m_pool_80, .int 0, .int 0, .null, .null, .ref m_chain_81, .ref m_waiting_82, .int 0, .int 0, .ref m_back_83, .ref m_spare_84, .int 0, .ref m_packed_85, .int 0, .int 0, .int 0, .int 0, .int 0, .long 0, .int 0, .int 0, .int 0, .long 0, .long 0, .ref m_theres_86, .int 0, .int 0, .int 0, .long 0, .int 0]))]) hD hS hA [1] rfl
    refine va_calli (va_runV (As := []) (rest := []) ⟨hx, hb, hml, hown, htw⟩ (c_Mo_thrown l dC dI H.size q68 m_tape_70 m_result_71 m_signs_72 m_keptWords_73 m_spelled_74 m_pieced_75 m_hexes_76 m_words_77 m_nextWords_78 m_firstWords_79 m_pool_80 m_chain_81 m_waiting_82 m_back_83 m_spare_84 m_packed_85 m_theres_86 1 0) (cwV 0 htw (tw_V wd_10_212 wd_10_213 wd_10_214 wd_1_21 k_Mo_thrown) rfl rfl rfl (by decide +kernel) ⟨Nat.le_of_ble_eq_true rfl, Nat.le_of_ble_eq_true rfl⟩) ⟨fun a U g mk q => by obtain ⟨q0, q1, qP, qK, qD⟩ := q; exact ⟨q0, q1, qP, va_K.moved (u := U) (U := U.calling g mk a) (Vm.Alike.refl U.vm) qK, qD⟩, va_recv hK hP (q := (R_Mo, F_Mo, 53)) (ci := 11) (q0 := 1) rfl rfl, fun U hU hW => ⟨rfl, by rw [hU], by rw [hU]; exact hPc, va_K.moved hW.alike hKc, hDc.weaken (fun _ _ _ _ => trivial)⟩⟩ rfl rfl hl.1 rfl (lv_room (Nat.le_of_ble_eq_true rfl)) d_Law_law_218 ⟨hc0, hs0⟩) hS (fun q _ h => hFc q h) hFc (fun r97 u t H1 locs ht hvm hw hB hz1 hk1 hS => ?_)
    obtain ⟨hP1, hK1, hD1⟩ := hB
    rw [ht] at hP1
    have hK1 := va_K.moved hvm.symm hK1
    obtain ⟨hP, hD⟩ := va_join (wr := [(q88, .inl (cA89, 1, .inr (.inl ((fun _ => 0)))))]) (w1 := [(q68, .inr (11, [.int 1, .ref m_tape_70, .int 0, .ref m_result_71, .int 0, .int ((-1)), .ref m_signs_72, .ref m_keptWords_73, .int 0, .int 0, .int 0, .long 0, .null, .int 0, .int 0, .int 0, .ref m_spelled_74, .ref m_pieced_75, .ref m_hexes_76, .ref m_words_77, .ref m_nextWords_78, .ref m_firstWords_79, .int 0, .ref m_pool_80, .int 0, .int 0, .null, .null, .ref m_chain_81, .ref m_waiting_82, .int 0, .int 0, .ref m_back_83, .ref m_spare_84, .int 0, .ref m_packed_85, .int 0, .int 0, .int 0, .int 0, .int 0, .long 0, .int 0, .int 0, .int 0, .long 0, .long 0, .ref m_theres_86, .int 0, .int 0, .int 0, .long 0, .int 0]))]) hP hD [1] [0] rfl rfl (by decide) (by decide) hk1 hFc hP1 hD1
    have hK := (hK.sub (tys' := [(cA89, .long)]) [0] rfl).app hK1
    generalize H1 = H at hP hS ⊢
    have hP : va_P (dC, dI) classes [(q88, .inl (cA89, 1, .inr (.inl ((fun _ => 0))))), (q68, .inr (11, [.int 1, .ref m_tape_70, .int 0, .ref m_result_71, .int 0, .int ((-1)), .ref m_signs_72, .ref m_keptWords_73, .int 0, .int 0, .int 0, .long 0, .null, .int 0, .int 0, .int 0, .ref m_spelled_74, .ref m_pieced_75, .ref m_hexes_76, .ref m_words_77, .ref m_nextWords_78, .ref m_firstWords_79, .int 0, .ref m_pool_80, .int 0, .int 0, .null, .null, .ref m_chain_81, .ref m_waiting_82, .int 0, .int 0, .ref m_back_83, .ref m_spare_84, .int 0, .ref m_packed_85, .int 0, .int 0, .int 0, .int 0, .int 0, .long 0, .int 0, .int 0, .int 0, .long 0, .long 0, .ref m_theres_86, .int 0, .int 0, .int 0, .long 0, .int 0]))] H := hP
    have hD : va_D A [(q88, .inl (cA89, 1, .inr (.inl ((fun _ => 0))))), (q68, .inr (11, [.int 1, .ref m_tape_70, .int 0, .ref m_result_71, .int 0, .int ((-1)), .ref m_signs_72, .ref m_keptWords_73, .int 0, .int 0, .int 0, .long 0, .null, .int 0, .int 0, .int 0, .ref m_spelled_74, .ref m_pieced_75, .ref m_hexes_76, .ref m_words_77, .ref m_nextWords_78, .ref m_firstWords_79, .int 0, .ref m_pool_80, .int 0, .int 0, .null, .null, .ref m_chain_81, .ref m_waiting_82, .int 0, .int 0, .ref m_back_83, .ref m_spare_84, .int 0, .ref m_packed_85, .int 0, .int 0, .int 0, .int 0, .int 0, .long 0, .int 0, .int 0, .int 0, .long 0, .long 0, .ref m_theres_86, .int 0, .int 0, .int 0, .long 0, .int 0]))] := hD
    have hK : va_K (dC, dI) classes [(cA89, .long)] s := hK
    subst hw
    refine lv_iload hx hb d_Law_law_221 (lv_at hl 1 rfl) ?_
    refine lv_icmp_eq (tgt := 228) hx hb d_Law_law_223 rfl (fun _ => ?_) (fun hn => absurd (rfl) hn)
    refine lv_iload hx hb d_Law_law_228 (lv_at hl 1 rfl) ?_
    refine lv_if_ne (tgt := 245) hx hb d_Law_law_230 rfl (fun _ => ?_) (fun hn => absurd hn (by decide))
    refine lv_goto (tgt := 594) hx hb d_Law_law_245 rfl ?_
    refine lv_iinc (k := 2) (v := 6) hx hb d_Law_law_594 hl rfl (by decide) (by decide) rfl (fun ls hl => ?_)
    have hl : lv_has ls 8 [(4, .int 6), (6, .int 0), (5, .int 1), (3, .ref q88), (2, .ref q68), (1, .ref q1), (0, .ref b)] := hl
    refine lv_goto (tgt := 23) hx hb d_Law_law_597 rfl ?_
    refine lv_iload hx hb d_Law_law_23 (lv_at hl 0 rfl) ?_
    refine lv_aload_n hx hb d_Law_law_25 rfl (lv_at hl 6 rfl) ?_
    refine va_slen hx hb hX hbl hbA hS d_Law_law_26 ?_
    refine lv_bipush (v := 6) hx hb d_Law_law_27 (by decide) ?_
    refine lv_isub hx hb d_Law_law_29 ?_
    refine lv_icmp_gt (tgt := 600) hx hb d_Law_law_30 rfl (fun _ => ?_) (fun hn => absurd (by decide) hn)
    refine lv_iconst (v := 1) hx hb d_Law_law_600 (by decide) ?_
    refine va_forget (fun q hq => by have h9 := hS.2.2 q hq; rw [hAe] at h9; exact h9) ?_
    refine W.widen (k := 600002) (n := 7302232) (by omega) (by omega) ?_
    exact lw_ret hx hb hr hlocks d_Law_law_601
