/-! by program (wip/p1) -/
theorem wd_2_33 : Cond.fieldLink "SyntaxForge$Schema" 68 "SyntaxForge$Schema" "lengths" "[I" ∈ tw_tbl := tw_t2 (List.mem_of_getElem? (i := 33) rfl) rfl
theorem wd_2_30 : Cond.fieldLink "SyntaxForge$Schema" 58 "SyntaxForge$Schema" "letters" "LSyntaxForge$Bytes;" ∈ tw_tbl := tw_t2 (List.mem_of_getElem? (i := 30) rfl) rfl
theorem wd_2_32 : Cond.fieldLink "SyntaxForge$Schema" 65 "SyntaxForge$Schema" "starts" "[I" ∈ tw_tbl := tw_t2 (List.mem_of_getElem? (i := 32) rfl) rfl
theorem wd_1_235 : Cond.methodLink "SyntaxForge$Schema" 115 ⟨"SyntaxForge$Bytes", "get", "(I)I"⟩ ∈ tw_tbl := tw_t1 (List.mem_of_getElem? (i := 235) rfl) rfl
theorem wd_1_236 : Cond.instanceMethod ⟨"SyntaxForge$Bytes", "get", "(I)I"⟩ ∈ tw_tbl := tw_t1 (List.mem_of_getElem? (i := 236) rfl) rfl
theorem wd_1_237 : Cond.selects "SyntaxForge$Bytes" ⟨"SyntaxForge$Bytes", "get", "(I)I"⟩ ⟨"SyntaxForge$Bytes", "get", "(I)I"⟩ ∈ tw_tbl := tw_t1 (List.mem_of_getElem? (i := 237) rfl) rfl
theorem wd_2_36 : Cond.fieldLink "SyntaxForge$Schema" 112 "SyntaxForge$Schema" "symbols" "I" ∈ tw_tbl := tw_t2 (List.mem_of_getElem? (i := 36) rfl) rfl
theorem wd_1_70 : Cond.fieldLink "SyntaxForge$Schema" 109 "SyntaxForge$Bytes" "length" "I" ∈ tw_tbl := tw_t1 (List.mem_of_getElem? (i := 70) rfl) rfl
theorem wd_2_34 : Cond.fieldLink "SyntaxForge$Schema" 71 "SyntaxForge$Schema" "nexts" "[I" ∈ tw_tbl := tw_t2 (List.mem_of_getElem? (i := 34) rfl) rfl
theorem wd_2_31 : Cond.fieldLink "SyntaxForge$Schema" 61 "SyntaxForge$Schema" "buckets" "[I" ∈ tw_tbl := tw_t2 (List.mem_of_getElem? (i := 31) rfl) rfl
theorem wd_2_35 : Cond.fieldLink "SyntaxForge$Schema" 74 "SyntaxForge$Schema" "owners" "[I" ∈ tw_tbl := tw_t2 (List.mem_of_getElem? (i := 35) rfl) rfl
theorem wd_1_196 : Cond.methodLink "SyntaxForge$Schema" 55 ⟨"SyntaxForge$Bytes", "put", "(I)V"⟩ ∈ tw_tbl := tw_t1 (List.mem_of_getElem? (i := 196) rfl) rfl
theorem wd_1_197 : Cond.instanceMethod ⟨"SyntaxForge$Bytes", "put", "(I)V"⟩ ∈ tw_tbl := tw_t1 (List.mem_of_getElem? (i := 197) rfl) rfl
theorem wd_1_198 : Cond.selects "SyntaxForge$Bytes" ⟨"SyntaxForge$Bytes", "put", "(I)V"⟩ ⟨"SyntaxForge$Bytes", "put", "(I)V"⟩ ∈ tw_tbl := tw_t1 (List.mem_of_getElem? (i := 198) rfl) rfl
def y_Schema_isName : MethodName := ⟨"SyntaxForge$Schema", "isName", "(ILSyntaxForge$Bytes;I)Z"⟩
abbrev b_Schema_isName : ByteArray := prog_10_method_6_code
abbrev cd_Schema_isName : Cond := .code y_Schema_isName b_Schema_isName 5 (some .boolean)
abbrev ws_Schema_isName : List Cond := cd_Schema_isName :: tw_tbl
theorem k_Schema_isName : cd_Schema_isName ∈ tw_tbl := tw_t2 (List.mem_of_getElem? (i := 6) rfl) rfl
theorem d_Schema_isName_0 : decode b_Schema_isName 0 = .ok (.iconst 0, 1) := by decide +kernel
theorem d_Schema_isName_1 : decode b_Schema_isName 1 = .ok (.istore 4, 2) := by decide +kernel
theorem d_Schema_isName_3 : decode b_Schema_isName 3 = .ok (.iload 4, 2) := by decide +kernel
theorem d_Schema_isName_5 : decode b_Schema_isName 5 = .ok (.aload_n 0, 1) := by decide +kernel
theorem d_Schema_isName_6 : decode b_Schema_isName 6 = .ok (.getfield 68, 3) := by decide +kernel
theorem d_Schema_isName_9 : decode b_Schema_isName 9 = .ok (.iload_n 1, 1) := by decide +kernel
theorem d_Schema_isName_10 : decode b_Schema_isName 10 = .ok (.iaload, 1) := by decide +kernel
theorem d_Schema_isName_11 : decode b_Schema_isName 11 = .ok (.if_icmp .ge 38, 3) := by decide +kernel
theorem d_Schema_isName_14 : decode b_Schema_isName 14 = .ok (.aload_n 0, 1) := by decide +kernel
theorem d_Schema_isName_15 : decode b_Schema_isName 15 = .ok (.getfield 58, 3) := by decide +kernel
theorem d_Schema_isName_18 : decode b_Schema_isName 18 = .ok (.aload_n 0, 1) := by decide +kernel
theorem d_Schema_isName_19 : decode b_Schema_isName 19 = .ok (.getfield 65, 3) := by decide +kernel
theorem d_Schema_isName_22 : decode b_Schema_isName 22 = .ok (.iload_n 1, 1) := by decide +kernel
theorem d_Schema_isName_23 : decode b_Schema_isName 23 = .ok (.iaload, 1) := by decide +kernel
theorem d_Schema_isName_24 : decode b_Schema_isName 24 = .ok (.iload 4, 2) := by decide +kernel
theorem d_Schema_isName_26 : decode b_Schema_isName 26 = .ok (.iadd, 1) := by decide +kernel
theorem d_Schema_isName_27 : decode b_Schema_isName 27 = .ok (.invokevirtual 115, 3) := by decide +kernel
theorem d_Schema_isName_30 : decode b_Schema_isName 30 = .ok (.aload_n 2, 1) := by decide +kernel
theorem d_Schema_isName_31 : decode b_Schema_isName 31 = .ok (.iload_n 3, 1) := by decide +kernel
theorem d_Schema_isName_32 : decode b_Schema_isName 32 = .ok (.iload 4, 2) := by decide +kernel
theorem d_Schema_isName_34 : decode b_Schema_isName 34 = .ok (.iadd, 1) := by decide +kernel
theorem d_Schema_isName_35 : decode b_Schema_isName 35 = .ok (.invokevirtual 115, 3) := by decide +kernel
theorem d_Schema_isName_38 : decode b_Schema_isName 38 = .ok (.if_icmp .eq 5, 3) := by decide +kernel
theorem d_Schema_isName_41 : decode b_Schema_isName 41 = .ok (.iconst 0, 1) := by decide +kernel
theorem d_Schema_isName_42 : decode b_Schema_isName 42 = .ok (.ireturn, 1) := by decide +kernel
theorem d_Schema_isName_43 : decode b_Schema_isName 43 = .ok (.iinc 4 1, 3) := by decide +kernel
theorem d_Schema_isName_46 : decode b_Schema_isName 46 = .ok (.goto (-43), 3) := by decide +kernel
theorem d_Schema_isName_49 : decode b_Schema_isName 49 = .ok (.iconst 1, 1) := by decide +kernel
theorem d_Schema_isName_50 : decode b_Schema_isName 50 = .ok (.ireturn, 1) := by decide +kernel
def y_Schema_added : MethodName := ⟨"SyntaxForge$Schema", "added", "(LSyntaxForge$Bytes;III)I"⟩
abbrev b_Schema_added : ByteArray := prog_10_method_7_code
abbrev cd_Schema_added : Cond := .code y_Schema_added b_Schema_added 6 (some .int)
abbrev ws_Schema_added : List Cond := cd_Schema_added :: tw_tbl
theorem k_Schema_added : cd_Schema_added ∈ tw_tbl := tw_t2 (List.mem_of_getElem? (i := 10) rfl) rfl
theorem d_Schema_added_0 : decode b_Schema_added 0 = .ok (.aload_n 0, 1) := by decide +kernel
theorem d_Schema_added_1 : decode b_Schema_added 1 = .ok (.getfield 112, 3) := by decide +kernel
theorem d_Schema_added_4 : decode b_Schema_added 4 = .ok (.aload_n 0, 1) := by decide +kernel
theorem d_Schema_added_5 : decode b_Schema_added 5 = .ok (.getfield 65, 3) := by decide +kernel
theorem d_Schema_added_8 : decode b_Schema_added 8 = .ok (.arraylength, 1) := by decide +kernel
theorem d_Schema_added_9 : decode b_Schema_added 9 = .ok (.if_icmp .lt 71, 3) := by decide +kernel
theorem d_Schema_added_12 : decode b_Schema_added 12 = .ok (.aload_n 0, 1) := by decide +kernel
theorem d_Schema_added_13 : decode b_Schema_added 13 = .ok (.aload_n 0, 1) := by decide +kernel
theorem d_Schema_added_14 : decode b_Schema_added 14 = .ok (.getfield 65, 3) := by decide +kernel
theorem d_Schema_added_17 : decode b_Schema_added 17 = .ok (.iconst 2, 1) := by decide +kernel
theorem d_Schema_added_18 : decode b_Schema_added 18 = .ok (.aload_n 0, 1) := by decide +kernel
theorem d_Schema_added_19 : decode b_Schema_added 19 = .ok (.getfield 112, 3) := by decide +kernel
theorem d_Schema_added_22 : decode b_Schema_added 22 = .ok (.imul, 1) := by decide +kernel
theorem d_Schema_added_23 : decode b_Schema_added 23 = .ok (.invokestatic 131, 3) := by decide +kernel
theorem d_Schema_added_26 : decode b_Schema_added 26 = .ok (.putfield 65, 3) := by decide +kernel
theorem d_Schema_added_29 : decode b_Schema_added 29 = .ok (.aload_n 0, 1) := by decide +kernel
theorem d_Schema_added_30 : decode b_Schema_added 30 = .ok (.aload_n 0, 1) := by decide +kernel
theorem d_Schema_added_31 : decode b_Schema_added 31 = .ok (.getfield 68, 3) := by decide +kernel
theorem d_Schema_added_34 : decode b_Schema_added 34 = .ok (.iconst 2, 1) := by decide +kernel
theorem d_Schema_added_35 : decode b_Schema_added 35 = .ok (.aload_n 0, 1) := by decide +kernel
theorem d_Schema_added_36 : decode b_Schema_added 36 = .ok (.getfield 112, 3) := by decide +kernel
theorem d_Schema_added_39 : decode b_Schema_added 39 = .ok (.imul, 1) := by decide +kernel
theorem d_Schema_added_40 : decode b_Schema_added 40 = .ok (.invokestatic 131, 3) := by decide +kernel
theorem d_Schema_added_43 : decode b_Schema_added 43 = .ok (.putfield 68, 3) := by decide +kernel
theorem d_Schema_added_46 : decode b_Schema_added 46 = .ok (.aload_n 0, 1) := by decide +kernel
theorem d_Schema_added_47 : decode b_Schema_added 47 = .ok (.aload_n 0, 1) := by decide +kernel
theorem d_Schema_added_48 : decode b_Schema_added 48 = .ok (.getfield 71, 3) := by decide +kernel
theorem d_Schema_added_51 : decode b_Schema_added 51 = .ok (.iconst 2, 1) := by decide +kernel
theorem d_Schema_added_52 : decode b_Schema_added 52 = .ok (.aload_n 0, 1) := by decide +kernel
theorem d_Schema_added_53 : decode b_Schema_added 53 = .ok (.getfield 112, 3) := by decide +kernel
theorem d_Schema_added_56 : decode b_Schema_added 56 = .ok (.imul, 1) := by decide +kernel
theorem d_Schema_added_57 : decode b_Schema_added 57 = .ok (.invokestatic 131, 3) := by decide +kernel
theorem d_Schema_added_60 : decode b_Schema_added 60 = .ok (.putfield 71, 3) := by decide +kernel
theorem d_Schema_added_63 : decode b_Schema_added 63 = .ok (.aload_n 0, 1) := by decide +kernel
theorem d_Schema_added_64 : decode b_Schema_added 64 = .ok (.aload_n 0, 1) := by decide +kernel
theorem d_Schema_added_65 : decode b_Schema_added 65 = .ok (.getfield 74, 3) := by decide +kernel
theorem d_Schema_added_68 : decode b_Schema_added 68 = .ok (.iconst 2, 1) := by decide +kernel
theorem d_Schema_added_69 : decode b_Schema_added 69 = .ok (.aload_n 0, 1) := by decide +kernel
theorem d_Schema_added_70 : decode b_Schema_added 70 = .ok (.getfield 112, 3) := by decide +kernel
theorem d_Schema_added_73 : decode b_Schema_added 73 = .ok (.imul, 1) := by decide +kernel
theorem d_Schema_added_74 : decode b_Schema_added 74 = .ok (.invokestatic 131, 3) := by decide +kernel
theorem d_Schema_added_77 : decode b_Schema_added 77 = .ok (.putfield 74, 3) := by decide +kernel
theorem d_Schema_added_80 : decode b_Schema_added 80 = .ok (.aload_n 0, 1) := by decide +kernel
theorem d_Schema_added_81 : decode b_Schema_added 81 = .ok (.getfield 65, 3) := by decide +kernel
theorem d_Schema_added_84 : decode b_Schema_added 84 = .ok (.aload_n 0, 1) := by decide +kernel
theorem d_Schema_added_85 : decode b_Schema_added 85 = .ok (.getfield 112, 3) := by decide +kernel
theorem d_Schema_added_88 : decode b_Schema_added 88 = .ok (.aload_n 0, 1) := by decide +kernel
theorem d_Schema_added_89 : decode b_Schema_added 89 = .ok (.getfield 58, 3) := by decide +kernel
theorem d_Schema_added_92 : decode b_Schema_added 92 = .ok (.getfield 109, 3) := by decide +kernel
theorem d_Schema_added_95 : decode b_Schema_added 95 = .ok (.iastore, 1) := by decide +kernel
theorem d_Schema_added_96 : decode b_Schema_added 96 = .ok (.aload_n 0, 1) := by decide +kernel
theorem d_Schema_added_97 : decode b_Schema_added 97 = .ok (.getfield 68, 3) := by decide +kernel
theorem d_Schema_added_100 : decode b_Schema_added 100 = .ok (.aload_n 0, 1) := by decide +kernel
theorem d_Schema_added_101 : decode b_Schema_added 101 = .ok (.getfield 112, 3) := by decide +kernel
theorem d_Schema_added_104 : decode b_Schema_added 104 = .ok (.iload_n 3, 1) := by decide +kernel
theorem d_Schema_added_105 : decode b_Schema_added 105 = .ok (.iastore, 1) := by decide +kernel
theorem d_Schema_added_106 : decode b_Schema_added 106 = .ok (.aload_n 0, 1) := by decide +kernel
theorem d_Schema_added_107 : decode b_Schema_added 107 = .ok (.getfield 71, 3) := by decide +kernel
theorem d_Schema_added_110 : decode b_Schema_added 110 = .ok (.aload_n 0, 1) := by decide +kernel
theorem d_Schema_added_111 : decode b_Schema_added 111 = .ok (.getfield 112, 3) := by decide +kernel
theorem d_Schema_added_114 : decode b_Schema_added 114 = .ok (.aload_n 0, 1) := by decide +kernel
theorem d_Schema_added_115 : decode b_Schema_added 115 = .ok (.getfield 61, 3) := by decide +kernel
theorem d_Schema_added_118 : decode b_Schema_added 118 = .ok (.iload 4, 2) := by decide +kernel
theorem d_Schema_added_120 : decode b_Schema_added 120 = .ok (.iaload, 1) := by decide +kernel
theorem d_Schema_added_121 : decode b_Schema_added 121 = .ok (.iastore, 1) := by decide +kernel
theorem d_Schema_added_122 : decode b_Schema_added 122 = .ok (.aload_n 0, 1) := by decide +kernel
theorem d_Schema_added_123 : decode b_Schema_added 123 = .ok (.getfield 74, 3) := by decide +kernel
theorem d_Schema_added_126 : decode b_Schema_added 126 = .ok (.aload_n 0, 1) := by decide +kernel
theorem d_Schema_added_127 : decode b_Schema_added 127 = .ok (.getfield 112, 3) := by decide +kernel
theorem d_Schema_added_130 : decode b_Schema_added 130 = .ok (.iconst (-1), 1) := by decide +kernel
theorem d_Schema_added_131 : decode b_Schema_added 131 = .ok (.iastore, 1) := by decide +kernel
theorem d_Schema_added_132 : decode b_Schema_added 132 = .ok (.aload_n 0, 1) := by decide +kernel
theorem d_Schema_added_133 : decode b_Schema_added 133 = .ok (.getfield 61, 3) := by decide +kernel
theorem d_Schema_added_136 : decode b_Schema_added 136 = .ok (.iload 4, 2) := by decide +kernel
theorem d_Schema_added_138 : decode b_Schema_added 138 = .ok (.aload_n 0, 1) := by decide +kernel
theorem d_Schema_added_139 : decode b_Schema_added 139 = .ok (.getfield 112, 3) := by decide +kernel
theorem d_Schema_added_142 : decode b_Schema_added 142 = .ok (.iastore, 1) := by decide +kernel
theorem d_Schema_added_143 : decode b_Schema_added 143 = .ok (.iconst 0, 1) := by decide +kernel
theorem d_Schema_added_144 : decode b_Schema_added 144 = .ok (.istore 5, 2) := by decide +kernel
theorem d_Schema_added_146 : decode b_Schema_added 146 = .ok (.iload 5, 2) := by decide +kernel
theorem d_Schema_added_148 : decode b_Schema_added 148 = .ok (.iload_n 3, 1) := by decide +kernel
theorem d_Schema_added_149 : decode b_Schema_added 149 = .ok (.if_icmp .ge 24, 3) := by decide +kernel
theorem d_Schema_added_152 : decode b_Schema_added 152 = .ok (.aload_n 0, 1) := by decide +kernel
theorem d_Schema_added_153 : decode b_Schema_added 153 = .ok (.getfield 58, 3) := by decide +kernel
theorem d_Schema_added_156 : decode b_Schema_added 156 = .ok (.aload_n 1, 1) := by decide +kernel
theorem d_Schema_added_157 : decode b_Schema_added 157 = .ok (.iload_n 2, 1) := by decide +kernel
theorem d_Schema_added_158 : decode b_Schema_added 158 = .ok (.iload 5, 2) := by decide +kernel
theorem d_Schema_added_160 : decode b_Schema_added 160 = .ok (.iadd, 1) := by decide +kernel
theorem d_Schema_added_161 : decode b_Schema_added 161 = .ok (.invokevirtual 115, 3) := by decide +kernel
theorem d_Schema_added_164 : decode b_Schema_added 164 = .ok (.invokevirtual 55, 3) := by decide +kernel
theorem d_Schema_added_167 : decode b_Schema_added 167 = .ok (.iinc 5 1, 3) := by decide +kernel
theorem d_Schema_added_170 : decode b_Schema_added 170 = .ok (.goto (-24), 3) := by decide +kernel
theorem d_Schema_added_173 : decode b_Schema_added 173 = .ok (.aload_n 0, 1) := by decide +kernel
theorem d_Schema_added_174 : decode b_Schema_added 174 = .ok (.dup, 1) := by decide +kernel
theorem d_Schema_added_175 : decode b_Schema_added 175 = .ok (.getfield 112, 3) := by decide +kernel
theorem d_Schema_added_178 : decode b_Schema_added 178 = .ok (.iconst 1, 1) := by decide +kernel
theorem d_Schema_added_179 : decode b_Schema_added 179 = .ok (.iadd, 1) := by decide +kernel
theorem d_Schema_added_180 : decode b_Schema_added 180 = .ok (.putfield 112, 3) := by decide +kernel
theorem d_Schema_added_183 : decode b_Schema_added 183 = .ok (.aload_n 0, 1) := by decide +kernel
theorem d_Schema_added_184 : decode b_Schema_added 184 = .ok (.getfield 112, 3) := by decide +kernel
theorem d_Schema_added_187 : decode b_Schema_added 187 = .ok (.iconst 1, 1) := by decide +kernel
theorem d_Schema_added_188 : decode b_Schema_added 188 = .ok (.isub, 1) := by decide +kernel
theorem d_Schema_added_189 : decode b_Schema_added 189 = .ok (.ireturn, 1) := by decide +kernel
set_option maxHeartbeats 4000000 in
set_option maxRecDepth 100000 in
theorem c_Schema_isName (l : Launch) (dC : Nat → ClassId) (dI : Nat → Nat → Nat) (sz : Nat) (h0 : Nat) (a1 : Nat) (dv : Nat) (md : Int32) (bk : Int32) (a2 : Nat) (a3 : Nat) (a4 : Nat) (wd : Nat) (lt : Nat) (bu : Nat) (st : Nat) (le : Nat) (nx : Nat) (ow : Nat) (sy : Int32) (sp : Nat) (ky : Nat) (sm : Nat) (sk : Int32) (cle : ClassId) (lef : Nat → Int32) (cst : ClassId) (stf : Nat → Int32) (lta : Nat) (clt : ClassId) (ltf : Nat → Int32) (ltk : Int32) (tx : Nat) (txa : Nat) (ctx : ClassId) (txn : Nat) (txf : Nat → Int32) (txk : Int32) (j : Nat) (fr : Int32) (hj : j < 64) (hn : txn ≤ 65536) : Met l y_Schema_isName ws_Schema_isName ({ frames := 1, cells := 0, slots := 0, locals := 21 }) (va_Pc [.ref h0, .int (nI j), .ref tx, .int fr] (fun U => U.heap.size = sz ∧ va_P (dC, dI) classes [(h0, .inr (3, [.ref a1, .ref dv, .int md, .int bk, .ref a2, .ref a3, .ref a4, .ref wd, .ref lt, .ref bu, .ref st, .ref le, .ref nx, .ref ow, .int sy, .ref sp, .ref ky, .ref sm, .int sk])), (le, .inl (cle, 64, .inl lef)), (st, .inl (cst, 64, .inl stf)), (lt, .inr (0, [.ref lta, .int ltk])), (lta, .inl (clt, 512, .inl ltf)), (tx, .inr (0, [.ref txa, .int txk])), (txa, .inl (ctx, txn, .inl txf))] U.heap ∧ va_K (dC, dI) classes [(cle, .int), (cst, .int), (clt, .byte), (ctx, .byte)] U ∧ va_D (fun _ => True) [(h0, .inr (3, [.ref a1, .ref dv, .int md, .int bk, .ref a2, .ref a3, .ref a4, .ref wd, .ref lt, .ref bu, .ref st, .ref le, .ref nx, .ref ow, .int sy, .ref sp, .ref ky, .ref sm, .int sk])), (le, .inl (cle, 64, .inl lef)), (st, .inl (cst, 64, .inl stf)), (lt, .inr (0, [.ref lta, .int ltk])), (lta, .inl (clt, 512, .inl ltf)), (tx, .inr (0, [.ref txa, .int txk])), (txa, .inl (ctx, txn, .inl txf))])) (va_Qi (fun (r : Int32) (_ : Unit) => True) (fun _ t => va_P (dC, dI) classes [(h0, .inr (3, [.ref a1, .ref dv, .int md, .int bk, .ref a2, .ref a3, .ref a4, .ref wd, .ref lt, .ref bu, .ref st, .ref le, .ref nx, .ref ow, .int sy, .ref sp, .ref ky, .ref sm, .int sk])), (le, .inl (cle, 64, .inl lef)), (st, .inl (cst, 64, .inl stf)), (lt, .inr (0, [.ref lta, .int ltk])), (lta, .inl (clt, 512, .inl ltf)), (tx, .inr (0, [.ref txa, .int txk])), (txa, .inl (ctx, txn, .inl txf))] t.heap ∧ va_K (dC, dI) classes [(cle, .int), (cst, .int), (clt, .byte), (ctx, .byte)] t ∧ va_D (va_A [(h0, .inr (3, [.ref a1, .ref dv, .int md, .int bk, .ref a2, .ref a3, .ref a4, .ref wd, .ref lt, .ref bu, .ref st, .ref le, .ref nx, .ref ow, .int sy, .ref sp, .ref ky, .ref sm, .int sk])), (le, .inl (cle, 64, .inl lef)), (st, .inl (cst, 64, .inl stf)), (lt, .inr (0, [.ref lta, .int ltk])), (lta, .inl (clt, 512, .inl ltf)), (tx, .inr (0, [.ref txa, .int txk])), (txa, .inl (ctx, txn, .inl txf))] sz) [(h0, .inr (3, [.ref a1, .ref dv, .int md, .int bk, .ref a2, .ref a3, .ref a4, .ref wd, .ref lt, .ref bu, .ref st, .ref le, .ref nx, .ref ow, .int sy, .ref sp, .ref ky, .ref sm, .int sk])), (le, .inl (cle, 64, .inl lef)), (st, .inl (cst, 64, .inl stf)), (lt, .inr (0, [.ref lta, .int ltk])), (lta, .inl (clt, 512, .inl ltf)), (tx, .inr (0, [.ref txa, .int txk])), (txa, .inl (ctx, txn, .inl txf))]) (va_A [(h0, .inr (3, [.ref a1, .ref dv, .int md, .int bk, .ref a2, .ref a3, .ref a4, .ref wd, .ref lt, .ref bu, .ref st, .ref le, .ref nx, .ref ow, .int sy, .ref sp, .ref ky, .ref sm, .int sk])), (le, .inl (cle, 64, .inl lef)), (st, .inl (cst, 64, .inl stf)), (lt, .inr (0, [.ref lta, .int ltk])), (lta, .inl (clt, 512, .inl ltf)), (tx, .inr (0, [.ref txa, .int txk])), (txa, .inl (ctx, txn, .inl txf))] sz)) 0 0 (va_A [(h0, .inr (3, [.ref a1, .ref dv, .int md, .int bk, .ref a2, .ref a3, .ref a4, .ref wd, .ref lt, .ref bu, .ref st, .ref le, .ref nx, .ref ow, .int sy, .ref sp, .ref ky, .ref sm, .int sk])), (le, .inl (cle, 64, .inl lef)), (st, .inl (cst, 64, .inl stf)), (lt, .inr (0, [.ref lta, .int ltk])), (lta, .inl (clt, 512, .inl ltf)), (tx, .inr (0, [.ref txa, .int txk])), (txa, .inl (ctx, txn, .inl txf))] sz) := by
  refine Met.ofW (cc := b_Schema_isName) (maxL := 5) (ret := (some .boolean)) (by decide) rfl ?_
  intro p e s m args below meth c s₁ B hml hv
  obtain ⟨rfl, hsz, hP, hK, hD0⟩ := hv
  have hx := B.exec
  have hb := B.bytes
  have hr := B.returns
  have hts := atoms_spec (ws := ws_Schema_isName) B.pre
  have htw : ∀ w ∈ tw_tbl, w.before [.ref h0, .int (nI j), .ref tx, .int fr].toArray s = true := fun w h => hts w (List.mem_cons_of_mem _ h)
  have hown : s.vm.findClass R_Schema = some m.cls := findClass_of_methodNamed B.named
  have hlocks := B.notSynchronized
  have hin : meth.name = "isName" := (name_of_methodNamed B.named B.method).1
  subst hsz
  have hD := hD0.self (sz := s.heap.size)
  generalize hAe : va_A [(h0, .inr (3, [.ref a1, .ref dv, .int md, .int bk, .ref a2, .ref a3, .ref a4, .ref wd, .ref lt, .ref bu, .ref st, .ref le, .ref nx, .ref ow, .int sy, .ref sp, .ref ky, .ref sm, .int sk])), (le, .inl (cle, 64, .inl lef)), (st, .inl (cst, 64, .inl stf)), (lt, .inr (0, [.ref lta, .int ltk])), (lta, .inl (clt, 512, .inl ltf)), (tx, .inr (0, [.ref txa, .int txk])), (txa, .inl (ctx, txn, .inl txf))] s.heap.size = A at hD ⊢
  have hA : ∀ q : Nat, s.heap.size ≤ q → A q := fun q h => by rw [← hAe]; exact Or.inr h
  have hS : va_S A s.heap s.heap [] := va_S.rf
  have hP : va_P (dC, dI) classes [(h0, .inr (3, [.ref a1, .ref dv, .int md, .int bk, .ref a2, .ref a3, .ref a4, .ref wd, .ref lt, .ref bu, .ref st, .ref le, .ref nx, .ref ow, .int sy, .ref sp, .ref ky, .ref sm, .int sk])), (le, .inl (cle, 64, .inl lef)), (st, .inl (cst, 64, .inl stf)), (lt, .inr (0, [.ref lta, .int ltk])), (lta, .inl (clt, 512, .inl ltf)), (tx, .inr (0, [.ref txa, .int txk])), (txa, .inl (ctx, txn, .inl txf))] s.heap := hP
  have hl := lv_entry ([.ref h0, .int (nI j), .ref tx, .int fr]) (n := 5) (Nat.le_of_ble_eq_true rfl)
  rw [lg_entry_eq]
  generalize (lg_sl ([.ref h0, .int (nI j), .ref tx, .int fr]) ++ List.replicate (5 - (lg_sl ([.ref h0, .int (nI j), .ref tx, .int fr])).length) Slot.unset).toArray = ls at hl ⊢
  have hl : lv_has ls 5 [(0, .ref h0), (1, .int (nI j)), (2, .ref tx), (3, .int fr)] := hl
  refine lv_iconst (v := 0) hx hb d_Schema_isName_0 (by decide) ?_
  refine lv_istore hx hb d_Schema_isName_1 hl (by decide) rfl (fun ls hl => ?_)
  have hl : lv_has ls 5 [(4, .int 0), (0, .ref h0), (1, .int (nI j)), (2, .ref tx), (3, .int fr)] := hl
  have lp : ∀ (fuel : Nat) (i : Nat) (H : Heap) (locs : List Loc) (ls : Array Slot), i < 2 ^ 31 → 2 ^ 31 - i < fuel → lv_has ls 5 [(4, .int (nI i)), (0, .ref h0), (1, .int (nI j)), (2, .ref tx), (3, .int fr)] → va_P (dC, dI) classes [(h0, .inr (3, [.ref a1, .ref dv, .int md, .int bk, .ref a2, .ref a3, .ref a4, .ref wd, .ref lt, .ref bu, .ref st, .ref le, .ref nx, .ref ow, .int sy, .ref sp, .ref ky, .ref sm, .int sk])), (le, .inl (cle, 64, .inl lef)), (st, .inl (cst, 64, .inl stf)), (lt, .inr (0, [.ref lta, .int ltk])), (lta, .inl (clt, 512, .inl ltf)), (tx, .inr (0, [.ref txa, .int txk])), (txa, .inl (ctx, txn, .inl txf))] H → va_D A [(h0, .inr (3, [.ref a1, .ref dv, .int md, .int bk, .ref a2, .ref a3, .ref a4, .ref wd, .ref lt, .ref bu, .ref st, .ref le, .ref nx, .ref ow, .int sy, .ref sp, .ref ky, .ref sm, .int sk])), (le, .inl (cle, 64, .inl lef)), (st, .inl (cst, 64, .inl stf)), (lt, .inr (0, [.ref lta, .int ltk])), (lta, .inl (clt, 512, .inl ltf)), (tx, .inr (0, [.ref txa, .int txk])), (txa, .inl (ctx, txn, .inl txf))] → va_S A s.heap H locs → W p l e (headSpec ws_Schema_isName ({ frames := 1, cells := 0, slots := 0, locals := 21 })).room s m [.ref h0, .int (nI j), .ref tx, .int fr].toArray below meth c H locs 0 0 (MQ below (va_Qi (fun (r : Int32) (_ : Unit) => True) (fun _ t => va_P (dC, dI) classes [(h0, .inr (3, [.ref a1, .ref dv, .int md, .int bk, .ref a2, .ref a3, .ref a4, .ref wd, .ref lt, .ref bu, .ref st, .ref le, .ref nx, .ref ow, .int sy, .ref sp, .ref ky, .ref sm, .int sk])), (le, .inl (cle, 64, .inl lef)), (st, .inl (cst, 64, .inl stf)), (lt, .inr (0, [.ref lta, .int ltk])), (lta, .inl (clt, 512, .inl ltf)), (tx, .inr (0, [.ref txa, .int txk])), (txa, .inl (ctx, txn, .inl txf))] t.heap ∧ va_K (dC, dI) classes [(cle, .int), (cst, .int), (clt, .byte), (ctx, .byte)] t ∧ va_D A [(h0, .inr (3, [.ref a1, .ref dv, .int md, .int bk, .ref a2, .ref a3, .ref a4, .ref wd, .ref lt, .ref bu, .ref st, .ref le, .ref nx, .ref ow, .int sy, .ref sp, .ref ky, .ref sm, .int sk])), (le, .inl (cle, 64, .inl lef)), (st, .inl (cst, 64, .inl stf)), (lt, .inr (0, [.ref lta, .int ltk])), (lta, .inl (clt, 512, .inl ltf)), (tx, .inr (0, [.ref txa, .int txk])), (txa, .inl (ctx, txn, .inl txf))]) A) [.ref h0, .int (nI j), .ref tx, .int fr].toArray s 0 0 A) (F0 m 3 ls []) := by
    intro fuel
    induction fuel with
    | zero => intro i H locs ls hi hm; omega
    | succ fuel ih =>
      intro i H locs ls hi hm hl hP hD hS
      refine lv_iload hx hb d_Schema_isName_3 (lv_at hl 0 rfl) ?_
      refine lv_aload_n hx hb d_Schema_isName_5 rfl (lv_at hl 1 rfl) ?_
      refine va_get (D := (dC, dI)) (ci := 3) (v := .ref le) (C := R_Schema) (T := F_Schema) (N := 19) hx hb htw i_Schema hown hK hP 0 rfl rfl 11 (by decide) (htw _ wd_2_33) (fun _ h9 => h9) rfl d_Schema_isName_6 ?_
      refine lv_iload_n hx hb d_Schema_isName_9 rfl (lv_at hl 2 rfl) ?_
      refine va_iald hx hb hK hP 1 0 rfl rfl (vp_in_nI hj (by decide)) d_Schema_isName_10 ?_
      refine lv_icmp_ge (tgt := 49) hx hb d_Schema_isName_11 rfl (fun h1 => ?_) (fun h1 => ?_)
      · refine lv_iconst (v := 1) hx hb d_Schema_isName_49 (by decide) ?_
        have hP9 := hP.sub (ws' := [(h0, .inr (3, [.ref a1, .ref dv, .int md, .int bk, .ref a2, .ref a3, .ref a4, .ref wd, .ref lt, .ref bu, .ref st, .ref le, .ref nx, .ref ow, .int sy, .ref sp, .ref ky, .ref sm, .int sk])), (le, .inl (cle, 64, .inl lef)), (st, .inl (cst, 64, .inl stf)), (lt, .inr (0, [.ref lta, .int ltk])), (lta, .inl (clt, 512, .inl ltf)), (tx, .inr (0, [.ref txa, .int txk])), (txa, .inl (ctx, txn, .inl txf))]) [0, 1, 2, 3, 4, 5, 6] rfl
        have hD9 := hD.sub (ws' := [(h0, .inr (3, [.ref a1, .ref dv, .int md, .int bk, .ref a2, .ref a3, .ref a4, .ref wd, .ref lt, .ref bu, .ref st, .ref le, .ref nx, .ref ow, .int sy, .ref sp, .ref ky, .ref sm, .int sk])), (le, .inl (cle, 64, .inl lef)), (st, .inl (cst, 64, .inl stf)), (lt, .inr (0, [.ref lta, .int ltk])), (lta, .inl (clt, 512, .inl ltf)), (tx, .inr (0, [.ref txa, .int txk])), (txa, .inl (ctx, txn, .inl txf))]) [0, 1, 2, 3, 4, 5, 6] (by decide) rfl
        have hK9 := hK.sub (tys' := [(cle, .int), (cst, .int), (clt, .byte), (ctx, .byte)]) [0, 1, 2, 3] rfl
        refine W.widen (k := 0) (n := 0) (by omega) (by omega) ?_
        exact W.zret (v := 1) hx hb hr (rfl) (fun t ht hW => ⟨⟨1, (), rfl, trivial, by rw [ht]; exact hP9, va_K.moved hW.alike hK9, hD9⟩, hS.F ht⟩) hS.2.2 d_Schema_isName_50
      · refine lv_aload_n hx hb d_Schema_isName_14 rfl (lv_at hl 1 rfl) ?_
        refine va_get (D := (dC, dI)) (ci := 3) (v := .ref lt) (C := R_Schema) (T := F_Schema) (N := 19) hx hb htw i_Schema hown hK hP 0 rfl rfl 8 (by decide) (htw _ wd_2_30) (fun _ h9 => h9) rfl d_Schema_isName_15 ?_
        refine lv_aload_n hx hb d_Schema_isName_18 rfl (lv_at hl 1 rfl) ?_
        refine va_get (D := (dC, dI)) (ci := 3) (v := .ref st) (C := R_Schema) (T := F_Schema) (N := 19) hx hb htw i_Schema hown hK hP 0 rfl rfl 10 (by decide) (htw _ wd_2_32) (fun _ h9 => h9) rfl d_Schema_isName_19 ?_
        refine lv_iload_n hx hb d_Schema_isName_22 rfl (lv_at hl 2 rfl) ?_
        refine va_iald hx hb hK hP 2 1 rfl rfl (vp_in_nI hj (by decide)) d_Schema_isName_23 ?_
        refine lv_iload hx hb d_Schema_isName_24 (lv_at hl 0 rfl) ?_
        refine lv_iadd hx hb d_Schema_isName_26 ?_
        have hc0 : 0 + 0 ≤ 0 := by omega
        have hs0 : 0 + 0 ≤ 0 := by omega
        have hPc := hP.sub (ws' := [(lt, .inr (0, [.ref lta, .int ltk])), (lta, .inl (clt, 512, .inl ltf))]) [3, 4] rfl
        have hDc := hD.sub (ws' := [(lt, .inr (0, [.ref lta, .int ltk])), (lta, .inl (clt, 512, .inl ltf))]) [3, 4] (by decide) rfl
        have hKc := hK.sub (tys' := [(clt, .byte)]) [2] rfl
        have hFc := va_free (wc := [(lt, .inr (0, [.ref lta, .int ltk])), (lta, .inl (clt, 512, .inl ltf))]) hD hS hA [3, 4] rfl
        refine va_calli (va_runV (As := [.int ((stf (nI j).toNatClampNeg) + (nI i))]) (rest := []) ⟨hx, hb, hml, hown, htw⟩ (c_Bytes_get l dC dI H.size lt lta clt 512 ltf ltk ((stf (nI j).toNatClampNeg) + (nI i)) (by first | omega | assumption)) (cwV 1 htw (tw_V wd_1_235 wd_1_236 wd_1_237 wd_1_2 k_Bytes_get) rfl rfl rfl (by decide +kernel) ⟨Nat.le_of_ble_eq_true rfl, Nat.le_of_ble_eq_true rfl⟩) ⟨fun a U g mk q => by obtain ⟨q0, q1, qP, qK, qD⟩ := q; exact ⟨q0, q1, qP, va_K.moved (u := U) (U := U.calling g mk a) (Vm.Alike.refl U.vm) qK, qD⟩, va_recv hK hP (q := (R_Bytes, F_Bytes, 2)) (ci := 0) (q0 := 3) rfl rfl, fun U hU hW => ⟨rfl, by rw [hU], by rw [hU]; exact hPc, va_K.moved hW.alike hKc, hDc.weaken (fun _ _ _ _ => trivial)⟩⟩ rfl rfl hl.1 rfl (lv_room (Nat.le_of_ble_eq_true rfl)) d_Schema_isName_27 ⟨hc0, hs0⟩) hS (fun q _ h => hFc q h) hFc (fun r1 u t H1 locs ht hvm hw hB hz1 hk1 hS => ?_)
        obtain ⟨hP1, hK1, hD1⟩ := hB
        rw [ht] at hP1
        have hK1 := va_K.moved hvm.symm hK1
        obtain ⟨hP, hD⟩ := va_join (wr := [(h0, .inr (3, [.ref a1, .ref dv, .int md, .int bk, .ref a2, .ref a3, .ref a4, .ref wd, .ref lt, .ref bu, .ref st, .ref le, .ref nx, .ref ow, .int sy, .ref sp, .ref ky, .ref sm, .int sk])), (le, .inl (cle, 64, .inl lef)), (st, .inl (cst, 64, .inl stf)), (tx, .inr (0, [.ref txa, .int txk])), (txa, .inl (ctx, txn, .inl txf))]) (w1 := [(lt, .inr (0, [.ref lta, .int ltk])), (lta, .inl (clt, 512, .inl ltf))]) hP hD [3, 4] [0, 1, 2, 5, 6] rfl rfl (by decide) (by decide) hk1 hFc hP1 hD1
        have hK := (hK.sub (tys' := [(cle, .int), (cst, .int), (ctx, .byte)]) [0, 1, 3] rfl).app hK1
        generalize H1 = H at hP hS ⊢
        have hP : va_P (dC, dI) classes [(h0, .inr (3, [.ref a1, .ref dv, .int md, .int bk, .ref a2, .ref a3, .ref a4, .ref wd, .ref lt, .ref bu, .ref st, .ref le, .ref nx, .ref ow, .int sy, .ref sp, .ref ky, .ref sm, .int sk])), (le, .inl (cle, 64, .inl lef)), (st, .inl (cst, 64, .inl stf)), (tx, .inr (0, [.ref txa, .int txk])), (txa, .inl (ctx, txn, .inl txf)), (lt, .inr (0, [.ref lta, .int ltk])), (lta, .inl (clt, 512, .inl ltf))] H := hP
        have hD : va_D A [(h0, .inr (3, [.ref a1, .ref dv, .int md, .int bk, .ref a2, .ref a3, .ref a4, .ref wd, .ref lt, .ref bu, .ref st, .ref le, .ref nx, .ref ow, .int sy, .ref sp, .ref ky, .ref sm, .int sk])), (le, .inl (cle, 64, .inl lef)), (st, .inl (cst, 64, .inl stf)), (tx, .inr (0, [.ref txa, .int txk])), (txa, .inl (ctx, txn, .inl txf)), (lt, .inr (0, [.ref lta, .int ltk])), (lta, .inl (clt, 512, .inl ltf))] := hD
        have hK : va_K (dC, dI) classes [(cle, .int), (cst, .int), (ctx, .byte), (clt, .byte)] s := hK
        subst hw
        refine lv_aload_n hx hb d_Schema_isName_30 rfl (lv_at hl 3 rfl) ?_
        refine lv_iload_n hx hb d_Schema_isName_31 rfl (lv_at hl 4 rfl) ?_
        refine lv_iload hx hb d_Schema_isName_32 (lv_at hl 0 rfl) ?_
        refine lv_iadd hx hb d_Schema_isName_34 ?_
        have hc0 : 0 + 0 ≤ 0 := by omega
        have hs0 : 0 + 0 ≤ 0 := by omega
        have hPc := hP.sub (ws' := [(tx, .inr (0, [.ref txa, .int txk])), (txa, .inl (ctx, txn, .inl txf))]) [3, 4] rfl
        have hDc := hD.sub (ws' := [(tx, .inr (0, [.ref txa, .int txk])), (txa, .inl (ctx, txn, .inl txf))]) [3, 4] (by decide) rfl
        have hKc := hK.sub (tys' := [(ctx, .byte)]) [2] rfl
        have hFc := va_free (wc := [(tx, .inr (0, [.ref txa, .int txk])), (txa, .inl (ctx, txn, .inl txf))]) hD hS hA [3, 4] rfl
        refine va_calli (va_runV (As := [.int (fr + (nI i))]) (rest := [.int (tz_gb 512 ltf ltk ((stf (nI j).toNatClampNeg) + (nI i)))]) ⟨hx, hb, hml, hown, htw⟩ (c_Bytes_get l dC dI H.size tx txa ctx txn txf txk (fr + (nI i)) (by first | omega | assumption)) (cwV 1 htw (tw_V wd_1_235 wd_1_236 wd_1_237 wd_1_2 k_Bytes_get) rfl rfl rfl (by decide +kernel) ⟨Nat.le_of_ble_eq_true rfl, Nat.le_of_ble_eq_true rfl⟩) ⟨fun a U g mk q => by obtain ⟨q0, q1, qP, qK, qD⟩ := q; exact ⟨q0, q1, qP, va_K.moved (u := U) (U := U.calling g mk a) (Vm.Alike.refl U.vm) qK, qD⟩, va_recv hK hP (q := (R_Bytes, F_Bytes, 2)) (ci := 0) (q0 := 3) rfl rfl, fun U hU hW => ⟨rfl, by rw [hU], by rw [hU]; exact hPc, va_K.moved hW.alike hKc, hDc.weaken (fun _ _ _ _ => trivial)⟩⟩ rfl rfl hl.1 rfl (lv_room (Nat.le_of_ble_eq_true rfl)) d_Schema_isName_35 ⟨hc0, hs0⟩) hS (fun q _ h => hFc q h) hFc (fun r2 u t H1 locs ht hvm hw hB hz1 hk1 hS => ?_)
        obtain ⟨hP1, hK1, hD1⟩ := hB
        rw [ht] at hP1
        have hK1 := va_K.moved hvm.symm hK1
        obtain ⟨hP, hD⟩ := va_join (wr := [(h0, .inr (3, [.ref a1, .ref dv, .int md, .int bk, .ref a2, .ref a3, .ref a4, .ref wd, .ref lt, .ref bu, .ref st, .ref le, .ref nx, .ref ow, .int sy, .ref sp, .ref ky, .ref sm, .int sk])), (le, .inl (cle, 64, .inl lef)), (st, .inl (cst, 64, .inl stf)), (lt, .inr (0, [.ref lta, .int ltk])), (lta, .inl (clt, 512, .inl ltf))]) (w1 := [(tx, .inr (0, [.ref txa, .int txk])), (txa, .inl (ctx, txn, .inl txf))]) hP hD [3, 4] [0, 1, 2, 5, 6] rfl rfl (by decide) (by decide) hk1 hFc hP1 hD1
        have hK := (hK.sub (tys' := [(cle, .int), (cst, .int), (clt, .byte)]) [0, 1, 3] rfl).app hK1
        generalize H1 = H at hP hS ⊢
        have hP : va_P (dC, dI) classes [(h0, .inr (3, [.ref a1, .ref dv, .int md, .int bk, .ref a2, .ref a3, .ref a4, .ref wd, .ref lt, .ref bu, .ref st, .ref le, .ref nx, .ref ow, .int sy, .ref sp, .ref ky, .ref sm, .int sk])), (le, .inl (cle, 64, .inl lef)), (st, .inl (cst, 64, .inl stf)), (lt, .inr (0, [.ref lta, .int ltk])), (lta, .inl (clt, 512, .inl ltf)), (tx, .inr (0, [.ref txa, .int txk])), (txa, .inl (ctx, txn, .inl txf))] H := hP
        have hD : va_D A [(h0, .inr (3, [.ref a1, .ref dv, .int md, .int bk, .ref a2, .ref a3, .ref a4, .ref wd, .ref lt, .ref bu, .ref st, .ref le, .ref nx, .ref ow, .int sy, .ref sp, .ref ky, .ref sm, .int sk])), (le, .inl (cle, 64, .inl lef)), (st, .inl (cst, 64, .inl stf)), (lt, .inr (0, [.ref lta, .int ltk])), (lta, .inl (clt, 512, .inl ltf)), (tx, .inr (0, [.ref txa, .int txk])), (txa, .inl (ctx, txn, .inl txf))] := hD
        have hK : va_K (dC, dI) classes [(cle, .int), (cst, .int), (clt, .byte), (ctx, .byte)] s := hK
        subst hw
        refine lv_icmp_eq (tgt := 43) hx hb d_Schema_isName_38 rfl (fun h2 => ?_) (fun h2 => ?_)
        · refine lv_iinc (k := 0) (v := nI (i + 1)) hx hb d_Schema_isName_43 hl rfl (nI_1 i) (by decide) rfl (fun ls hl => ?_)
          have hl : lv_has ls 5 [(4, .int (nI (i + 1))), (0, .ref h0), (1, .int (nI j)), (2, .ref tx), (3, .int fr)] := hl
          refine lv_goto (tgt := 3) hx hb d_Schema_isName_46 rfl ?_
          exact ih ((i + 1)) _ _ _ (tz_inc hi h1) (by omega) (lv_sub hl [0, 1, 2, 3, 4] rfl) (hP.sub [0, 1, 2, 3, 4, 5, 6] rfl) (hD.sub [0, 1, 2, 3, 4, 5, 6] (by decide) rfl) hS
        · refine lv_iconst (v := 0) hx hb d_Schema_isName_41 (by decide) ?_
          have hP9 := hP.sub (ws' := [(h0, .inr (3, [.ref a1, .ref dv, .int md, .int bk, .ref a2, .ref a3, .ref a4, .ref wd, .ref lt, .ref bu, .ref st, .ref le, .ref nx, .ref ow, .int sy, .ref sp, .ref ky, .ref sm, .int sk])), (le, .inl (cle, 64, .inl lef)), (st, .inl (cst, 64, .inl stf)), (lt, .inr (0, [.ref lta, .int ltk])), (lta, .inl (clt, 512, .inl ltf)), (tx, .inr (0, [.ref txa, .int txk])), (txa, .inl (ctx, txn, .inl txf))]) [0, 1, 2, 3, 4, 5, 6] rfl
          have hD9 := hD.sub (ws' := [(h0, .inr (3, [.ref a1, .ref dv, .int md, .int bk, .ref a2, .ref a3, .ref a4, .ref wd, .ref lt, .ref bu, .ref st, .ref le, .ref nx, .ref ow, .int sy, .ref sp, .ref ky, .ref sm, .int sk])), (le, .inl (cle, 64, .inl lef)), (st, .inl (cst, 64, .inl stf)), (lt, .inr (0, [.ref lta, .int ltk])), (lta, .inl (clt, 512, .inl ltf)), (tx, .inr (0, [.ref txa, .int txk])), (txa, .inl (ctx, txn, .inl txf))]) [0, 1, 2, 3, 4, 5, 6] (by decide) rfl
          have hK9 := hK.sub (tys' := [(cle, .int), (cst, .int), (clt, .byte), (ctx, .byte)]) [0, 1, 2, 3] rfl
          refine W.widen (k := 0) (n := 0) (by omega) (by omega) ?_
          exact W.zret (v := 0) hx hb hr (rfl) (fun t ht hW => ⟨⟨0, (), rfl, trivial, by rw [ht]; exact hP9, va_K.moved hW.alike hK9, hD9⟩, hS.F ht⟩) hS.2.2 d_Schema_isName_42
  exact lp ((2 ^ 31 - 0) + 1) 0 _ _ _ (by decide) (Nat.lt_succ_self _) (lv_sub hl [0, 1, 2, 3, 4] rfl) (hP.sub [0, 1, 2, 3, 4, 5, 6] rfl) (hD.sub [0, 1, 2, 3, 4, 5, 6] (by decide) rfl) hS
set_option maxHeartbeats 4000000 in
set_option maxRecDepth 100000 in
theorem c_Schema_added (l : Launch) (dC : Nat → ClassId) (dI : Nat → Nat → Nat) (sz : Nat) (h0 : Nat) (a1 : Nat) (dv : Nat) (md : Int32) (bk : Int32) (a2 : Nat) (a3 : Nat) (a4 : Nat) (wd : Nat) (lt : Nat) (bu : Nat) (st : Nat) (le : Nat) (nx : Nat) (ow : Nat) (sp : Nat) (ky : Nat) (sm : Nat) (sk : Int32) (cst : ClassId) (stf : Nat → Int32) (cle : ClassId) (lef : Nat → Int32) (cnx : ClassId) (nxf : Nat → Int32) (cow : ClassId) (owf : Nat → Int32) (cbu : ClassId) (buf : Nat → Int32) (lta : Nat) (clt : ClassId) (ltf : Nat → Int32) (tx : Nat) (txa : Nat) (ctx : ClassId) (txn : Nat) (txf : Nat → Int32) (txk : Int32) (sn : Nat) (lk : Nat) (ln : Nat) (b : Nat) (fr : Int32) (hs : sn < 64) (hb8 : b < 256) (hlk : lk + ln ≤ 512) (hn : txn ≤ 65536) : Met l y_Schema_added ws_Schema_added ({ frames := 1, cells := 0, slots := 0, locals := 21 }) (va_Pc [.ref h0, .ref tx, .int fr, .int (nI ln), .int (nI b)] (fun U => U.heap.size = sz ∧ va_P (dC, dI) classes [(h0, .inr (3, [.ref a1, .ref dv, .int md, .int bk, .ref a2, .ref a3, .ref a4, .ref wd, .ref lt, .ref bu, .ref st, .ref le, .ref nx, .ref ow, .int (nI sn), .ref sp, .ref ky, .ref sm, .int sk])), (st, .inl (cst, 64, .inl stf)), (le, .inl (cle, 64, .inl lef)), (nx, .inl (cnx, 64, .inl nxf)), (ow, .inl (cow, 64, .inl owf)), (bu, .inl (cbu, 256, .inl buf)), (lt, .inr (0, [.ref lta, .int (nI lk)])), (lta, .inl (clt, 512, .inl ltf)), (tx, .inr (0, [.ref txa, .int txk])), (txa, .inl (ctx, txn, .inl txf))] U.heap ∧ va_K (dC, dI) classes [(cst, .int), (cle, .int), (cnx, .int), (cow, .int), (cbu, .int), (clt, .byte), (ctx, .byte)] U ∧ va_D (fun _ => True) [(h0, .inr (3, [.ref a1, .ref dv, .int md, .int bk, .ref a2, .ref a3, .ref a4, .ref wd, .ref lt, .ref bu, .ref st, .ref le, .ref nx, .ref ow, .int (nI sn), .ref sp, .ref ky, .ref sm, .int sk])), (st, .inl (cst, 64, .inl stf)), (le, .inl (cle, 64, .inl lef)), (nx, .inl (cnx, 64, .inl nxf)), (ow, .inl (cow, 64, .inl owf)), (bu, .inl (cbu, 256, .inl buf)), (lt, .inr (0, [.ref lta, .int (nI lk)])), (lta, .inl (clt, 512, .inl ltf)), (tx, .inr (0, [.ref txa, .int txk])), (txa, .inl (ctx, txn, .inl txf))])) (va_Qi (fun (r : Int32) (_ : Unit) => r = nI sn) (fun _ t => ∃ (g2 : Nat → Int32), va_P (dC, dI) classes [(h0, .inr (3, [.ref a1, .ref dv, .int md, .int bk, .ref a2, .ref a3, .ref a4, .ref wd, .ref lt, .ref bu, .ref st, .ref le, .ref nx, .ref ow, .int (nI (sn + 1)), .ref sp, .ref ky, .ref sm, .int sk])), (st, .inl (cst, 64, .inl (upd stf (nI sn).toNatClampNeg (nI lk)))), (le, .inl (cle, 64, .inl (upd lef (nI sn).toNatClampNeg (nI ln)))), (nx, .inl (cnx, 64, .inl (upd nxf (nI sn).toNatClampNeg (buf (nI b).toNatClampNeg)))), (ow, .inl (cow, 64, .inl (upd owf (nI sn).toNatClampNeg (-1)))), (bu, .inl (cbu, 256, .inl (upd buf (nI b).toNatClampNeg (nI sn)))), (lt, .inr (0, [.ref lta, .int (nI (lk + ln))])), (lta, .inl (clt, 512, .inl g2)), (tx, .inr (0, [.ref txa, .int txk])), (txa, .inl (ctx, txn, .inl txf))] t.heap ∧ va_K (dC, dI) classes [(cst, .int), (cle, .int), (cnx, .int), (cow, .int), (cbu, .int), (clt, .byte), (ctx, .byte)] t ∧ va_D (va_A [(h0, .inr (3, [.ref a1, .ref dv, .int md, .int bk, .ref a2, .ref a3, .ref a4, .ref wd, .ref lt, .ref bu, .ref st, .ref le, .ref nx, .ref ow, .int (nI sn), .ref sp, .ref ky, .ref sm, .int sk])), (st, .inl (cst, 64, .inl stf)), (le, .inl (cle, 64, .inl lef)), (nx, .inl (cnx, 64, .inl nxf)), (ow, .inl (cow, 64, .inl owf)), (bu, .inl (cbu, 256, .inl buf)), (lt, .inr (0, [.ref lta, .int (nI lk)])), (lta, .inl (clt, 512, .inl ltf)), (tx, .inr (0, [.ref txa, .int txk])), (txa, .inl (ctx, txn, .inl txf))] sz) [(h0, .inr (3, [.ref a1, .ref dv, .int md, .int bk, .ref a2, .ref a3, .ref a4, .ref wd, .ref lt, .ref bu, .ref st, .ref le, .ref nx, .ref ow, .int (nI (sn + 1)), .ref sp, .ref ky, .ref sm, .int sk])), (st, .inl (cst, 64, .inl (upd stf (nI sn).toNatClampNeg (nI lk)))), (le, .inl (cle, 64, .inl (upd lef (nI sn).toNatClampNeg (nI ln)))), (nx, .inl (cnx, 64, .inl (upd nxf (nI sn).toNatClampNeg (buf (nI b).toNatClampNeg)))), (ow, .inl (cow, 64, .inl (upd owf (nI sn).toNatClampNeg (-1)))), (bu, .inl (cbu, 256, .inl (upd buf (nI b).toNatClampNeg (nI sn)))), (lt, .inr (0, [.ref lta, .int (nI (lk + ln))])), (lta, .inl (clt, 512, .inl g2)), (tx, .inr (0, [.ref txa, .int txk])), (txa, .inl (ctx, txn, .inl txf))]) (va_A [(h0, .inr (3, [.ref a1, .ref dv, .int md, .int bk, .ref a2, .ref a3, .ref a4, .ref wd, .ref lt, .ref bu, .ref st, .ref le, .ref nx, .ref ow, .int (nI sn), .ref sp, .ref ky, .ref sm, .int sk])), (st, .inl (cst, 64, .inl stf)), (le, .inl (cle, 64, .inl lef)), (nx, .inl (cnx, 64, .inl nxf)), (ow, .inl (cow, 64, .inl owf)), (bu, .inl (cbu, 256, .inl buf)), (lt, .inr (0, [.ref lta, .int (nI lk)])), (lta, .inl (clt, 512, .inl ltf)), (tx, .inr (0, [.ref txa, .int txk])), (txa, .inl (ctx, txn, .inl txf))] sz)) 0 0 (va_A [(h0, .inr (3, [.ref a1, .ref dv, .int md, .int bk, .ref a2, .ref a3, .ref a4, .ref wd, .ref lt, .ref bu, .ref st, .ref le, .ref nx, .ref ow, .int (nI sn), .ref sp, .ref ky, .ref sm, .int sk])), (st, .inl (cst, 64, .inl stf)), (le, .inl (cle, 64, .inl lef)), (nx, .inl (cnx, 64, .inl nxf)), (ow, .inl (cow, 64, .inl owf)), (bu, .inl (cbu, 256, .inl buf)), (lt, .inr (0, [.ref lta, .int (nI lk)])), (lta, .inl (clt, 512, .inl ltf)), (tx, .inr (0, [.ref txa, .int txk])), (txa, .inl (ctx, txn, .inl txf))] sz) := by
  refine Met.ofW (cc := b_Schema_added) (maxL := 6) (ret := (some .int)) (by decide) rfl ?_
  intro p e s m args below meth c s₁ B hml hv
  obtain ⟨rfl, hsz, hP, hK, hD0⟩ := hv
  have hx := B.exec
  have hb := B.bytes
  have hr := B.returns
  have hts := atoms_spec (ws := ws_Schema_added) B.pre
  have htw : ∀ w ∈ tw_tbl, w.before [.ref h0, .ref tx, .int fr, .int (nI ln), .int (nI b)].toArray s = true := fun w h => hts w (List.mem_cons_of_mem _ h)
  have hown : s.vm.findClass R_Schema = some m.cls := findClass_of_methodNamed B.named
  have hlocks := B.notSynchronized
  have hin : meth.name = "added" := (name_of_methodNamed B.named B.method).1
  subst hsz
  have hD := hD0.self (sz := s.heap.size)
  generalize hAe : va_A [(h0, .inr (3, [.ref a1, .ref dv, .int md, .int bk, .ref a2, .ref a3, .ref a4, .ref wd, .ref lt, .ref bu, .ref st, .ref le, .ref nx, .ref ow, .int (nI sn), .ref sp, .ref ky, .ref sm, .int sk])), (st, .inl (cst, 64, .inl stf)), (le, .inl (cle, 64, .inl lef)), (nx, .inl (cnx, 64, .inl nxf)), (ow, .inl (cow, 64, .inl owf)), (bu, .inl (cbu, 256, .inl buf)), (lt, .inr (0, [.ref lta, .int (nI lk)])), (lta, .inl (clt, 512, .inl ltf)), (tx, .inr (0, [.ref txa, .int txk])), (txa, .inl (ctx, txn, .inl txf))] s.heap.size = A at hD ⊢
  have hA : ∀ q : Nat, s.heap.size ≤ q → A q := fun q h => by rw [← hAe]; exact Or.inr h
  have hS : va_S A s.heap s.heap [] := va_S.rf
  have hP : va_P (dC, dI) classes [(h0, .inr (3, [.ref a1, .ref dv, .int md, .int bk, .ref a2, .ref a3, .ref a4, .ref wd, .ref lt, .ref bu, .ref st, .ref le, .ref nx, .ref ow, .int (nI sn), .ref sp, .ref ky, .ref sm, .int sk])), (st, .inl (cst, 64, .inl stf)), (le, .inl (cle, 64, .inl lef)), (nx, .inl (cnx, 64, .inl nxf)), (ow, .inl (cow, 64, .inl owf)), (bu, .inl (cbu, 256, .inl buf)), (lt, .inr (0, [.ref lta, .int (nI lk)])), (lta, .inl (clt, 512, .inl ltf)), (tx, .inr (0, [.ref txa, .int txk])), (txa, .inl (ctx, txn, .inl txf))] s.heap := hP
  have hl := lv_entry ([.ref h0, .ref tx, .int fr, .int (nI ln), .int (nI b)]) (n := 6) (Nat.le_of_ble_eq_true rfl)
  rw [lg_entry_eq]
  generalize (lg_sl ([.ref h0, .ref tx, .int fr, .int (nI ln), .int (nI b)]) ++ List.replicate (6 - (lg_sl ([.ref h0, .ref tx, .int fr, .int (nI ln), .int (nI b)])).length) Slot.unset).toArray = ls at hl ⊢
  have hl : lv_has ls 6 [(0, .ref h0), (1, .ref tx), (2, .int fr), (3, .int (nI ln)), (4, .int (nI b))] := hl
  refine lv_aload_n hx hb d_Schema_added_0 rfl (lv_at hl 0 rfl) ?_
  refine va_get (D := (dC, dI)) (ci := 3) (v := .int (nI sn)) (C := R_Schema) (T := F_Schema) (N := 19) hx hb htw i_Schema hown hK hP 0 rfl rfl 14 (by decide) (htw _ wd_2_36) (fun _ h9 => h9) rfl d_Schema_added_1 ?_
  refine lv_aload_n hx hb d_Schema_added_4 rfl (lv_at hl 0 rfl) ?_
  refine va_get (D := (dC, dI)) (ci := 3) (v := .ref st) (C := R_Schema) (T := F_Schema) (N := 19) hx hb htw i_Schema hown hK hP 0 rfl rfl 10 (by decide) (htw _ wd_2_32) (fun _ h9 => h9) rfl d_Schema_added_5 ?_
  refine va_alen (v := 64) hx hb hK hP 1 0 rfl rfl rfl d_Schema_added_8 ?_
  refine lv_icmp_lt (tgt := 80) hx hb d_Schema_added_9 rfl (fun _ => ?_) (fun hn => absurd ((nI_ltI (a := sn) (b := 64) (by omega) (by omega)).mpr hs) hn)
  refine lv_aload_n hx hb d_Schema_added_80 rfl (lv_at hl 0 rfl) ?_
  refine va_get (D := (dC, dI)) (ci := 3) (v := .ref st) (C := R_Schema) (T := F_Schema) (N := 19) hx hb htw i_Schema hown hK hP 0 rfl rfl 10 (by decide) (htw _ wd_2_32) (fun _ h9 => h9) rfl d_Schema_added_81 ?_
  refine lv_aload_n hx hb d_Schema_added_84 rfl (lv_at hl 0 rfl) ?_
  refine va_get (D := (dC, dI)) (ci := 3) (v := .int (nI sn)) (C := R_Schema) (T := F_Schema) (N := 19) hx hb htw i_Schema hown hK hP 0 rfl rfl 14 (by decide) (htw _ wd_2_36) (fun _ h9 => h9) rfl d_Schema_added_85 ?_
  refine lv_aload_n hx hb d_Schema_added_88 rfl (lv_at hl 0 rfl) ?_
  refine va_get (D := (dC, dI)) (ci := 3) (v := .ref lt) (C := R_Schema) (T := F_Schema) (N := 19) hx hb htw i_Schema hown hK hP 0 rfl rfl 8 (by decide) (htw _ wd_2_30) (fun _ h9 => h9) rfl d_Schema_added_89 ?_
  refine va_get (D := (dC, dI)) (ci := 0) (v := .int (nI lk)) (C := R_Bytes) (T := F_Bytes) (N := 2) hx hb htw i_Bytes hown hK hP 6 rfl rfl 1 (by decide) (htw _ wd_1_70) (fun _ h9 => h9) rfl d_Schema_added_92 ?_
  refine va_iast hx hb hK hP hD hS 1 0 rfl rfl (vp_in_nI hs (by decide)) d_Schema_added_95 (fun H locs hP hD hS => ?_)
  have hP : va_P (dC, dI) classes [(h0, .inr (3, [.ref a1, .ref dv, .int md, .int bk, .ref a2, .ref a3, .ref a4, .ref wd, .ref lt, .ref bu, .ref st, .ref le, .ref nx, .ref ow, .int (nI sn), .ref sp, .ref ky, .ref sm, .int sk])), (st, .inl (cst, 64, .inl (upd stf (nI sn).toNatClampNeg (nI lk)))), (le, .inl (cle, 64, .inl lef)), (nx, .inl (cnx, 64, .inl nxf)), (ow, .inl (cow, 64, .inl owf)), (bu, .inl (cbu, 256, .inl buf)), (lt, .inr (0, [.ref lta, .int (nI lk)])), (lta, .inl (clt, 512, .inl ltf)), (tx, .inr (0, [.ref txa, .int txk])), (txa, .inl (ctx, txn, .inl txf))] H := hP
  have hD : va_D A [(h0, .inr (3, [.ref a1, .ref dv, .int md, .int bk, .ref a2, .ref a3, .ref a4, .ref wd, .ref lt, .ref bu, .ref st, .ref le, .ref nx, .ref ow, .int (nI sn), .ref sp, .ref ky, .ref sm, .int sk])), (st, .inl (cst, 64, .inl (upd stf (nI sn).toNatClampNeg (nI lk)))), (le, .inl (cle, 64, .inl lef)), (nx, .inl (cnx, 64, .inl nxf)), (ow, .inl (cow, 64, .inl owf)), (bu, .inl (cbu, 256, .inl buf)), (lt, .inr (0, [.ref lta, .int (nI lk)])), (lta, .inl (clt, 512, .inl ltf)), (tx, .inr (0, [.ref txa, .int txk])), (txa, .inl (ctx, txn, .inl txf))] := hD
  refine lv_aload_n hx hb d_Schema_added_96 rfl (lv_at hl 0 rfl) ?_
  refine va_get (D := (dC, dI)) (ci := 3) (v := .ref le) (C := R_Schema) (T := F_Schema) (N := 19) hx hb htw i_Schema hown hK hP 0 rfl rfl 11 (by decide) (htw _ wd_2_33) (fun _ h9 => h9) rfl d_Schema_added_97 ?_
  refine lv_aload_n hx hb d_Schema_added_100 rfl (lv_at hl 0 rfl) ?_
  refine va_get (D := (dC, dI)) (ci := 3) (v := .int (nI sn)) (C := R_Schema) (T := F_Schema) (N := 19) hx hb htw i_Schema hown hK hP 0 rfl rfl 14 (by decide) (htw _ wd_2_36) (fun _ h9 => h9) rfl d_Schema_added_101 ?_
  refine lv_iload_n hx hb d_Schema_added_104 rfl (lv_at hl 3 rfl) ?_
  refine va_iast hx hb hK hP hD hS 2 1 rfl rfl (vp_in_nI hs (by decide)) d_Schema_added_105 (fun H locs hP hD hS => ?_)
  have hP : va_P (dC, dI) classes [(h0, .inr (3, [.ref a1, .ref dv, .int md, .int bk, .ref a2, .ref a3, .ref a4, .ref wd, .ref lt, .ref bu, .ref st, .ref le, .ref nx, .ref ow, .int (nI sn), .ref sp, .ref ky, .ref sm, .int sk])), (st, .inl (cst, 64, .inl (upd stf (nI sn).toNatClampNeg (nI lk)))), (le, .inl (cle, 64, .inl (upd lef (nI sn).toNatClampNeg (nI ln)))), (nx, .inl (cnx, 64, .inl nxf)), (ow, .inl (cow, 64, .inl owf)), (bu, .inl (cbu, 256, .inl buf)), (lt, .inr (0, [.ref lta, .int (nI lk)])), (lta, .inl (clt, 512, .inl ltf)), (tx, .inr (0, [.ref txa, .int txk])), (txa, .inl (ctx, txn, .inl txf))] H := hP
  have hD : va_D A [(h0, .inr (3, [.ref a1, .ref dv, .int md, .int bk, .ref a2, .ref a3, .ref a4, .ref wd, .ref lt, .ref bu, .ref st, .ref le, .ref nx, .ref ow, .int (nI sn), .ref sp, .ref ky, .ref sm, .int sk])), (st, .inl (cst, 64, .inl (upd stf (nI sn).toNatClampNeg (nI lk)))), (le, .inl (cle, 64, .inl (upd lef (nI sn).toNatClampNeg (nI ln)))), (nx, .inl (cnx, 64, .inl nxf)), (ow, .inl (cow, 64, .inl owf)), (bu, .inl (cbu, 256, .inl buf)), (lt, .inr (0, [.ref lta, .int (nI lk)])), (lta, .inl (clt, 512, .inl ltf)), (tx, .inr (0, [.ref txa, .int txk])), (txa, .inl (ctx, txn, .inl txf))] := hD
  refine lv_aload_n hx hb d_Schema_added_106 rfl (lv_at hl 0 rfl) ?_
  refine va_get (D := (dC, dI)) (ci := 3) (v := .ref nx) (C := R_Schema) (T := F_Schema) (N := 19) hx hb htw i_Schema hown hK hP 0 rfl rfl 12 (by decide) (htw _ wd_2_34) (fun _ h9 => h9) rfl d_Schema_added_107 ?_
  refine lv_aload_n hx hb d_Schema_added_110 rfl (lv_at hl 0 rfl) ?_
  refine va_get (D := (dC, dI)) (ci := 3) (v := .int (nI sn)) (C := R_Schema) (T := F_Schema) (N := 19) hx hb htw i_Schema hown hK hP 0 rfl rfl 14 (by decide) (htw _ wd_2_36) (fun _ h9 => h9) rfl d_Schema_added_111 ?_
  refine lv_aload_n hx hb d_Schema_added_114 rfl (lv_at hl 0 rfl) ?_
  refine va_get (D := (dC, dI)) (ci := 3) (v := .ref bu) (C := R_Schema) (T := F_Schema) (N := 19) hx hb htw i_Schema hown hK hP 0 rfl rfl 9 (by decide) (htw _ wd_2_31) (fun _ h9 => h9) rfl d_Schema_added_115 ?_
  refine lv_iload hx hb d_Schema_added_118 (lv_at hl 4 rfl) ?_
  refine va_iald hx hb hK hP 5 4 rfl rfl (vp_in_nI hb8 (by decide)) d_Schema_added_120 ?_
  refine va_iast hx hb hK hP hD hS 3 2 rfl rfl (vp_in_nI hs (by decide)) d_Schema_added_121 (fun H locs hP hD hS => ?_)
  have hP : va_P (dC, dI) classes [(h0, .inr (3, [.ref a1, .ref dv, .int md, .int bk, .ref a2, .ref a3, .ref a4, .ref wd, .ref lt, .ref bu, .ref st, .ref le, .ref nx, .ref ow, .int (nI sn), .ref sp, .ref ky, .ref sm, .int sk])), (st, .inl (cst, 64, .inl (upd stf (nI sn).toNatClampNeg (nI lk)))), (le, .inl (cle, 64, .inl (upd lef (nI sn).toNatClampNeg (nI ln)))), (nx, .inl (cnx, 64, .inl (upd nxf (nI sn).toNatClampNeg (buf (nI b).toNatClampNeg)))), (ow, .inl (cow, 64, .inl owf)), (bu, .inl (cbu, 256, .inl buf)), (lt, .inr (0, [.ref lta, .int (nI lk)])), (lta, .inl (clt, 512, .inl ltf)), (tx, .inr (0, [.ref txa, .int txk])), (txa, .inl (ctx, txn, .inl txf))] H := hP
  have hD : va_D A [(h0, .inr (3, [.ref a1, .ref dv, .int md, .int bk, .ref a2, .ref a3, .ref a4, .ref wd, .ref lt, .ref bu, .ref st, .ref le, .ref nx, .ref ow, .int (nI sn), .ref sp, .ref ky, .ref sm, .int sk])), (st, .inl (cst, 64, .inl (upd stf (nI sn).toNatClampNeg (nI lk)))), (le, .inl (cle, 64, .inl (upd lef (nI sn).toNatClampNeg (nI ln)))), (nx, .inl (cnx, 64, .inl (upd nxf (nI sn).toNatClampNeg (buf (nI b).toNatClampNeg)))), (ow, .inl (cow, 64, .inl owf)), (bu, .inl (cbu, 256, .inl buf)), (lt, .inr (0, [.ref lta, .int (nI lk)])), (lta, .inl (clt, 512, .inl ltf)), (tx, .inr (0, [.ref txa, .int txk])), (txa, .inl (ctx, txn, .inl txf))] := hD
  refine lv_aload_n hx hb d_Schema_added_122 rfl (lv_at hl 0 rfl) ?_
  refine va_get (D := (dC, dI)) (ci := 3) (v := .ref ow) (C := R_Schema) (T := F_Schema) (N := 19) hx hb htw i_Schema hown hK hP 0 rfl rfl 13 (by decide) (htw _ wd_2_35) (fun _ h9 => h9) rfl d_Schema_added_123 ?_
  refine lv_aload_n hx hb d_Schema_added_126 rfl (lv_at hl 0 rfl) ?_
  refine va_get (D := (dC, dI)) (ci := 3) (v := .int (nI sn)) (C := R_Schema) (T := F_Schema) (N := 19) hx hb htw i_Schema hown hK hP 0 rfl rfl 14 (by decide) (htw _ wd_2_36) (fun _ h9 => h9) rfl d_Schema_added_127 ?_
  refine lv_iconst (v := (-1)) hx hb d_Schema_added_130 (by decide) ?_
  refine va_iast hx hb hK hP hD hS 4 3 rfl rfl (vp_in_nI hs (by decide)) d_Schema_added_131 (fun H locs hP hD hS => ?_)
  have hP : va_P (dC, dI) classes [(h0, .inr (3, [.ref a1, .ref dv, .int md, .int bk, .ref a2, .ref a3, .ref a4, .ref wd, .ref lt, .ref bu, .ref st, .ref le, .ref nx, .ref ow, .int (nI sn), .ref sp, .ref ky, .ref sm, .int sk])), (st, .inl (cst, 64, .inl (upd stf (nI sn).toNatClampNeg (nI lk)))), (le, .inl (cle, 64, .inl (upd lef (nI sn).toNatClampNeg (nI ln)))), (nx, .inl (cnx, 64, .inl (upd nxf (nI sn).toNatClampNeg (buf (nI b).toNatClampNeg)))), (ow, .inl (cow, 64, .inl (upd owf (nI sn).toNatClampNeg ((-1))))), (bu, .inl (cbu, 256, .inl buf)), (lt, .inr (0, [.ref lta, .int (nI lk)])), (lta, .inl (clt, 512, .inl ltf)), (tx, .inr (0, [.ref txa, .int txk])), (txa, .inl (ctx, txn, .inl txf))] H := hP
  have hD : va_D A [(h0, .inr (3, [.ref a1, .ref dv, .int md, .int bk, .ref a2, .ref a3, .ref a4, .ref wd, .ref lt, .ref bu, .ref st, .ref le, .ref nx, .ref ow, .int (nI sn), .ref sp, .ref ky, .ref sm, .int sk])), (st, .inl (cst, 64, .inl (upd stf (nI sn).toNatClampNeg (nI lk)))), (le, .inl (cle, 64, .inl (upd lef (nI sn).toNatClampNeg (nI ln)))), (nx, .inl (cnx, 64, .inl (upd nxf (nI sn).toNatClampNeg (buf (nI b).toNatClampNeg)))), (ow, .inl (cow, 64, .inl (upd owf (nI sn).toNatClampNeg ((-1))))), (bu, .inl (cbu, 256, .inl buf)), (lt, .inr (0, [.ref lta, .int (nI lk)])), (lta, .inl (clt, 512, .inl ltf)), (tx, .inr (0, [.ref txa, .int txk])), (txa, .inl (ctx, txn, .inl txf))] := hD
  refine lv_aload_n hx hb d_Schema_added_132 rfl (lv_at hl 0 rfl) ?_
  refine va_get (D := (dC, dI)) (ci := 3) (v := .ref bu) (C := R_Schema) (T := F_Schema) (N := 19) hx hb htw i_Schema hown hK hP 0 rfl rfl 9 (by decide) (htw _ wd_2_31) (fun _ h9 => h9) rfl d_Schema_added_133 ?_
  refine lv_iload hx hb d_Schema_added_136 (lv_at hl 4 rfl) ?_
  refine lv_aload_n hx hb d_Schema_added_138 rfl (lv_at hl 0 rfl) ?_
  refine va_get (D := (dC, dI)) (ci := 3) (v := .int (nI sn)) (C := R_Schema) (T := F_Schema) (N := 19) hx hb htw i_Schema hown hK hP 0 rfl rfl 14 (by decide) (htw _ wd_2_36) (fun _ h9 => h9) rfl d_Schema_added_139 ?_
  refine va_iast hx hb hK hP hD hS 5 4 rfl rfl (vp_in_nI hb8 (by decide)) d_Schema_added_142 (fun H locs hP hD hS => ?_)
  have hP : va_P (dC, dI) classes [(h0, .inr (3, [.ref a1, .ref dv, .int md, .int bk, .ref a2, .ref a3, .ref a4, .ref wd, .ref lt, .ref bu, .ref st, .ref le, .ref nx, .ref ow, .int (nI sn), .ref sp, .ref ky, .ref sm, .int sk])), (st, .inl (cst, 64, .inl (upd stf (nI sn).toNatClampNeg (nI lk)))), (le, .inl (cle, 64, .inl (upd lef (nI sn).toNatClampNeg (nI ln)))), (nx, .inl (cnx, 64, .inl (upd nxf (nI sn).toNatClampNeg (buf (nI b).toNatClampNeg)))), (ow, .inl (cow, 64, .inl (upd owf (nI sn).toNatClampNeg ((-1))))), (bu, .inl (cbu, 256, .inl (upd buf (nI b).toNatClampNeg (nI sn)))), (lt, .inr (0, [.ref lta, .int (nI lk)])), (lta, .inl (clt, 512, .inl ltf)), (tx, .inr (0, [.ref txa, .int txk])), (txa, .inl (ctx, txn, .inl txf))] H := hP
  have hD : va_D A [(h0, .inr (3, [.ref a1, .ref dv, .int md, .int bk, .ref a2, .ref a3, .ref a4, .ref wd, .ref lt, .ref bu, .ref st, .ref le, .ref nx, .ref ow, .int (nI sn), .ref sp, .ref ky, .ref sm, .int sk])), (st, .inl (cst, 64, .inl (upd stf (nI sn).toNatClampNeg (nI lk)))), (le, .inl (cle, 64, .inl (upd lef (nI sn).toNatClampNeg (nI ln)))), (nx, .inl (cnx, 64, .inl (upd nxf (nI sn).toNatClampNeg (buf (nI b).toNatClampNeg)))), (ow, .inl (cow, 64, .inl (upd owf (nI sn).toNatClampNeg ((-1))))), (bu, .inl (cbu, 256, .inl (upd buf (nI b).toNatClampNeg (nI sn)))), (lt, .inr (0, [.ref lta, .int (nI lk)])), (lta, .inl (clt, 512, .inl ltf)), (tx, .inr (0, [.ref txa, .int txk])), (txa, .inl (ctx, txn, .inl txf))] := hD
  refine lv_iconst (v := 0) hx hb d_Schema_added_143 (by decide) ?_
  refine lv_istore hx hb d_Schema_added_144 hl (by decide) rfl (fun ls hl => ?_)
  have hl : lv_has ls 6 [(5, .int 0), (0, .ref h0), (1, .ref tx), (2, .int fr), (3, .int (nI ln)), (4, .int (nI b))] := hl
  have lp : ∀ (fuel : Nat) (i : Nat) (g : Nat → Int32) (H : Heap) (locs : List Loc) (ls : Array Slot), i ≤ ln → ln - i < fuel → lv_has ls 6 [(5, .int (nI i)), (0, .ref h0), (1, .ref tx), (2, .int fr), (3, .int (nI ln)), (4, .int (nI b))] → va_P (dC, dI) classes [(h0, .inr (3, [.ref a1, .ref dv, .int md, .int bk, .ref a2, .ref a3, .ref a4, .ref wd, .ref lt, .ref bu, .ref st, .ref le, .ref nx, .ref ow, .int (nI sn), .ref sp, .ref ky, .ref sm, .int sk])), (st, .inl (cst, 64, .inl (upd stf (nI sn).toNatClampNeg (nI lk)))), (le, .inl (cle, 64, .inl (upd lef (nI sn).toNatClampNeg (nI ln)))), (nx, .inl (cnx, 64, .inl (upd nxf (nI sn).toNatClampNeg (buf (nI b).toNatClampNeg)))), (ow, .inl (cow, 64, .inl (upd owf (nI sn).toNatClampNeg ((-1))))), (bu, .inl (cbu, 256, .inl (upd buf (nI b).toNatClampNeg (nI sn)))), (lt, .inr (0, [.ref lta, .int (nI (lk + i))])), (lta, .inl (clt, 512, .inl g)), (tx, .inr (0, [.ref txa, .int txk])), (txa, .inl (ctx, txn, .inl txf))] H → va_D A [(h0, .inr (3, [.ref a1, .ref dv, .int md, .int bk, .ref a2, .ref a3, .ref a4, .ref wd, .ref lt, .ref bu, .ref st, .ref le, .ref nx, .ref ow, .int (nI sn), .ref sp, .ref ky, .ref sm, .int sk])), (st, .inl (cst, 64, .inl (upd stf (nI sn).toNatClampNeg (nI lk)))), (le, .inl (cle, 64, .inl (upd lef (nI sn).toNatClampNeg (nI ln)))), (nx, .inl (cnx, 64, .inl (upd nxf (nI sn).toNatClampNeg (buf (nI b).toNatClampNeg)))), (ow, .inl (cow, 64, .inl (upd owf (nI sn).toNatClampNeg ((-1))))), (bu, .inl (cbu, 256, .inl (upd buf (nI b).toNatClampNeg (nI sn)))), (lt, .inr (0, [.ref lta, .int (nI (lk + i))])), (lta, .inl (clt, 512, .inl g)), (tx, .inr (0, [.ref txa, .int txk])), (txa, .inl (ctx, txn, .inl txf))] → va_S A s.heap H locs → W p l e (headSpec ws_Schema_added ({ frames := 1, cells := 0, slots := 0, locals := 21 })).room s m [.ref h0, .ref tx, .int fr, .int (nI ln), .int (nI b)].toArray below meth c H locs 0 0 (MQ below (va_Qi (fun (r : Int32) (_ : Unit) => r = nI sn) (fun _ t => ∃ (g2 : Nat → Int32), va_P (dC, dI) classes [(h0, .inr (3, [.ref a1, .ref dv, .int md, .int bk, .ref a2, .ref a3, .ref a4, .ref wd, .ref lt, .ref bu, .ref st, .ref le, .ref nx, .ref ow, .int (nI (sn + 1)), .ref sp, .ref ky, .ref sm, .int sk])), (st, .inl (cst, 64, .inl (upd stf (nI sn).toNatClampNeg (nI lk)))), (le, .inl (cle, 64, .inl (upd lef (nI sn).toNatClampNeg (nI ln)))), (nx, .inl (cnx, 64, .inl (upd nxf (nI sn).toNatClampNeg (buf (nI b).toNatClampNeg)))), (ow, .inl (cow, 64, .inl (upd owf (nI sn).toNatClampNeg (-1)))), (bu, .inl (cbu, 256, .inl (upd buf (nI b).toNatClampNeg (nI sn)))), (lt, .inr (0, [.ref lta, .int (nI (lk + ln))])), (lta, .inl (clt, 512, .inl g2)), (tx, .inr (0, [.ref txa, .int txk])), (txa, .inl (ctx, txn, .inl txf))] t.heap ∧ va_K (dC, dI) classes [(cst, .int), (cle, .int), (cnx, .int), (cow, .int), (cbu, .int), (clt, .byte), (ctx, .byte)] t ∧ va_D A [(h0, .inr (3, [.ref a1, .ref dv, .int md, .int bk, .ref a2, .ref a3, .ref a4, .ref wd, .ref lt, .ref bu, .ref st, .ref le, .ref nx, .ref ow, .int (nI (sn + 1)), .ref sp, .ref ky, .ref sm, .int sk])), (st, .inl (cst, 64, .inl (upd stf (nI sn).toNatClampNeg (nI lk)))), (le, .inl (cle, 64, .inl (upd lef (nI sn).toNatClampNeg (nI ln)))), (nx, .inl (cnx, 64, .inl (upd nxf (nI sn).toNatClampNeg (buf (nI b).toNatClampNeg)))), (ow, .inl (cow, 64, .inl (upd owf (nI sn).toNatClampNeg (-1)))), (bu, .inl (cbu, 256, .inl (upd buf (nI b).toNatClampNeg (nI sn)))), (lt, .inr (0, [.ref lta, .int (nI (lk + ln))])), (lta, .inl (clt, 512, .inl g2)), (tx, .inr (0, [.ref txa, .int txk])), (txa, .inl (ctx, txn, .inl txf))]) A) [.ref h0, .ref tx, .int fr, .int (nI ln), .int (nI b)].toArray s 0 0 A) (F0 m 146 ls []) := by
    intro fuel
    induction fuel with
    | zero => intro i g H locs ls hi hm; omega
    | succ fuel ih =>
      intro i g H locs ls hi hm hl hP hD hS
      refine lv_iload hx hb d_Schema_added_146 (lv_at hl 0 rfl) ?_
      refine lv_iload_n hx hb d_Schema_added_148 rfl (lv_at hl 4 rfl) ?_
      refine lv_icmp_ge (tgt := 173) hx hb d_Schema_added_149 rfl (fun h1 => ?_) (fun h1 => ?_)
      · have h2 : ln = i := by have := (nI_leI (by omega) (by omega)).mp h1; omega
        subst h2
        refine lv_aload_n hx hb d_Schema_added_173 rfl (lv_at hl 1 rfl) ?_
        refine lv_dup hx hb d_Schema_added_174 rfl ?_
        refine va_get (D := (dC, dI)) (ci := 3) (v := .int (nI sn)) (C := R_Schema) (T := F_Schema) (N := 19) hx hb htw i_Schema hown hK hP 0 rfl rfl 14 (by decide) (htw _ wd_2_36) (fun _ h9 => h9) rfl d_Schema_added_175 ?_
        refine lv_iconst (v := 1) hx hb d_Schema_added_178 (by decide) ?_
        refine lv_iadd hx hb d_Schema_added_179 ?_
        refine lv_topi (fun z9 e9 => ?_)
        have e9 : z9 = nI (sn + 1) := e9.trans (nI_1 sn)
        subst e9
        refine va_put (D := (dC, dI)) (ci := 3) (v := .int (nI (sn + 1))) (ty := .int) (C := R_Schema) (T := F_Schema) (N := 19) hx hb htw i_Schema t_Schema t_Schema_ok n_Schema hown hK hP hD hS 0 rfl rfl 14 (by decide) (htw _ wd_2_36) (fun _ h9 => h9) rfl (by decide +kernel) rfl rfl (Nat.le_of_ble_eq_true rfl) d_Schema_added_180 (fun H locs hP hD hS => ?_)
        have hP : va_P (dC, dI) classes [(h0, .inr (3, [.ref a1, .ref dv, .int md, .int bk, .ref a2, .ref a3, .ref a4, .ref wd, .ref lt, .ref bu, .ref st, .ref le, .ref nx, .ref ow, .int (nI (sn + 1)), .ref sp, .ref ky, .ref sm, .int sk])), (st, .inl (cst, 64, .inl (upd stf (nI sn).toNatClampNeg (nI lk)))), (le, .inl (cle, 64, .inl (upd lef (nI sn).toNatClampNeg (nI ln)))), (nx, .inl (cnx, 64, .inl (upd nxf (nI sn).toNatClampNeg (buf (nI b).toNatClampNeg)))), (ow, .inl (cow, 64, .inl (upd owf (nI sn).toNatClampNeg ((-1))))), (bu, .inl (cbu, 256, .inl (upd buf (nI b).toNatClampNeg (nI sn)))), (lt, .inr (0, [.ref lta, .int (nI (lk + ln))])), (lta, .inl (clt, 512, .inl g)), (tx, .inr (0, [.ref txa, .int txk])), (txa, .inl (ctx, txn, .inl txf))] H := hP
        have hD : va_D A [(h0, .inr (3, [.ref a1, .ref dv, .int md, .int bk, .ref a2, .ref a3, .ref a4, .ref wd, .ref lt, .ref bu, .ref st, .ref le, .ref nx, .ref ow, .int (nI (sn + 1)), .ref sp, .ref ky, .ref sm, .int sk])), (st, .inl (cst, 64, .inl (upd stf (nI sn).toNatClampNeg (nI lk)))), (le, .inl (cle, 64, .inl (upd lef (nI sn).toNatClampNeg (nI ln)))), (nx, .inl (cnx, 64, .inl (upd nxf (nI sn).toNatClampNeg (buf (nI b).toNatClampNeg)))), (ow, .inl (cow, 64, .inl (upd owf (nI sn).toNatClampNeg ((-1))))), (bu, .inl (cbu, 256, .inl (upd buf (nI b).toNatClampNeg (nI sn)))), (lt, .inr (0, [.ref lta, .int (nI (lk + ln))])), (lta, .inl (clt, 512, .inl g)), (tx, .inr (0, [.ref txa, .int txk])), (txa, .inl (ctx, txn, .inl txf))] := hD
        refine lv_aload_n hx hb d_Schema_added_183 rfl (lv_at hl 1 rfl) ?_
        refine va_get (D := (dC, dI)) (ci := 3) (v := .int (nI (sn + 1))) (C := R_Schema) (T := F_Schema) (N := 19) hx hb htw i_Schema hown hK hP 0 rfl rfl 14 (by decide) (htw _ wd_2_36) (fun _ h9 => h9) rfl d_Schema_added_184 ?_
        refine lv_iconst (v := 1) hx hb d_Schema_added_187 (by decide) ?_
        refine lv_isub hx hb d_Schema_added_188 ?_
        refine lv_topi (fun z9 e9 => ?_)
        have e9 : z9 = nI sn := e9.trans (nI_pred sn)
        subst e9
        have hP9 := hP.sub (ws' := [(h0, .inr (3, [.ref a1, .ref dv, .int md, .int bk, .ref a2, .ref a3, .ref a4, .ref wd, .ref lt, .ref bu, .ref st, .ref le, .ref nx, .ref ow, .int (nI (sn + 1)), .ref sp, .ref ky, .ref sm, .int sk])), (st, .inl (cst, 64, .inl (upd stf (nI sn).toNatClampNeg (nI lk)))), (le, .inl (cle, 64, .inl (upd lef (nI sn).toNatClampNeg (nI ln)))), (nx, .inl (cnx, 64, .inl (upd nxf (nI sn).toNatClampNeg (buf (nI b).toNatClampNeg)))), (ow, .inl (cow, 64, .inl (upd owf (nI sn).toNatClampNeg ((-1))))), (bu, .inl (cbu, 256, .inl (upd buf (nI b).toNatClampNeg (nI sn)))), (lt, .inr (0, [.ref lta, .int (nI (lk + ln))])), (lta, .inl (clt, 512, .inl g)), (tx, .inr (0, [.ref txa, .int txk])), (txa, .inl (ctx, txn, .inl txf))]) [0, 1, 2, 3, 4, 5, 6, 7, 8, 9] rfl
        have hD9 := hD.sub (ws' := [(h0, .inr (3, [.ref a1, .ref dv, .int md, .int bk, .ref a2, .ref a3, .ref a4, .ref wd, .ref lt, .ref bu, .ref st, .ref le, .ref nx, .ref ow, .int (nI (sn + 1)), .ref sp, .ref ky, .ref sm, .int sk])), (st, .inl (cst, 64, .inl (upd stf (nI sn).toNatClampNeg (nI lk)))), (le, .inl (cle, 64, .inl (upd lef (nI sn).toNatClampNeg (nI ln)))), (nx, .inl (cnx, 64, .inl (upd nxf (nI sn).toNatClampNeg (buf (nI b).toNatClampNeg)))), (ow, .inl (cow, 64, .inl (upd owf (nI sn).toNatClampNeg ((-1))))), (bu, .inl (cbu, 256, .inl (upd buf (nI b).toNatClampNeg (nI sn)))), (lt, .inr (0, [.ref lta, .int (nI (lk + ln))])), (lta, .inl (clt, 512, .inl g)), (tx, .inr (0, [.ref txa, .int txk])), (txa, .inl (ctx, txn, .inl txf))]) [0, 1, 2, 3, 4, 5, 6, 7, 8, 9] (by decide) rfl
        have hK9 := hK.sub (tys' := [(cst, .int), (cle, .int), (cnx, .int), (cow, .int), (cbu, .int), (clt, .byte), (ctx, .byte)]) [0, 1, 2, 3, 4, 5, 6] rfl
        refine W.widen (k := 0) (n := 0) (by omega) (by omega) ?_
        exact W.iret (v := nI sn) hx hb hr (fun t ht hW => ⟨⟨nI sn, (), rfl, rfl, g, by rw [ht]; exact hP9, va_K.moved hW.alike hK9, hD9⟩, hS.F ht⟩) hS.2.2 d_Schema_added_189
      · have h2 : i < ln := by have := (not_congr (nI_leI (by omega) (by omega))).mp h1; omega
        refine lv_aload_n hx hb d_Schema_added_152 rfl (lv_at hl 1 rfl) ?_
        refine va_get (D := (dC, dI)) (ci := 3) (v := .ref lt) (C := R_Schema) (T := F_Schema) (N := 19) hx hb htw i_Schema hown hK hP 0 rfl rfl 8 (by decide) (htw _ wd_2_30) (fun _ h9 => h9) rfl d_Schema_added_153 ?_
        refine lv_aload_n hx hb d_Schema_added_156 rfl (lv_at hl 2 rfl) ?_
        refine lv_iload_n hx hb d_Schema_added_157 rfl (lv_at hl 3 rfl) ?_
        refine lv_iload hx hb d_Schema_added_158 (lv_at hl 0 rfl) ?_
        refine lv_iadd hx hb d_Schema_added_160 ?_
        have hc0 : 0 + 0 ≤ 0 := by omega
        have hs0 : 0 + 0 ≤ 0 := by omega
        have hPc := hP.sub (ws' := [(tx, .inr (0, [.ref txa, .int txk])), (txa, .inl (ctx, txn, .inl txf))]) [8, 9] rfl
        have hDc := hD.sub (ws' := [(tx, .inr (0, [.ref txa, .int txk])), (txa, .inl (ctx, txn, .inl txf))]) [8, 9] (by decide) rfl
        have hKc := hK.sub (tys' := [(ctx, .byte)]) [6] rfl
        have hFc := va_free (wc := [(tx, .inr (0, [.ref txa, .int txk])), (txa, .inl (ctx, txn, .inl txf))]) hD hS hA [8, 9] rfl
        refine va_calli (va_runV (As := [.int (fr + (nI i))]) (rest := [.ref lt]) ⟨hx, hb, hml, hown, htw⟩ (c_Bytes_get l dC dI H.size tx txa ctx txn txf txk (fr + (nI i)) (by first | omega | assumption)) (cwV 1 htw (tw_V wd_1_235 wd_1_236 wd_1_237 wd_1_2 k_Bytes_get) rfl rfl rfl (by decide +kernel) ⟨Nat.le_of_ble_eq_true rfl, Nat.le_of_ble_eq_true rfl⟩) ⟨fun a U g mk q => by obtain ⟨q0, q1, qP, qK, qD⟩ := q; exact ⟨q0, q1, qP, va_K.moved (u := U) (U := U.calling g mk a) (Vm.Alike.refl U.vm) qK, qD⟩, va_recv hK hP (q := (R_Bytes, F_Bytes, 2)) (ci := 0) (q0 := 8) rfl rfl, fun U hU hW => ⟨rfl, by rw [hU], by rw [hU]; exact hPc, va_K.moved hW.alike hKc, hDc.weaken (fun _ _ _ _ => trivial)⟩⟩ rfl rfl hl.1 rfl (lv_room (Nat.le_of_ble_eq_true rfl)) d_Schema_added_161 ⟨hc0, hs0⟩) hS (fun q _ h => hFc q h) hFc (fun r1 u t H1 locs ht hvm hw hB hz1 hk1 hS => ?_)
        obtain ⟨hP1, hK1, hD1⟩ := hB
        rw [ht] at hP1
        have hK1 := va_K.moved hvm.symm hK1
        obtain ⟨hP, hD⟩ := va_join (wr := [(h0, .inr (3, [.ref a1, .ref dv, .int md, .int bk, .ref a2, .ref a3, .ref a4, .ref wd, .ref lt, .ref bu, .ref st, .ref le, .ref nx, .ref ow, .int (nI sn), .ref sp, .ref ky, .ref sm, .int sk])), (st, .inl (cst, 64, .inl (upd stf (nI sn).toNatClampNeg (nI lk)))), (le, .inl (cle, 64, .inl (upd lef (nI sn).toNatClampNeg (nI ln)))), (nx, .inl (cnx, 64, .inl (upd nxf (nI sn).toNatClampNeg (buf (nI b).toNatClampNeg)))), (ow, .inl (cow, 64, .inl (upd owf (nI sn).toNatClampNeg ((-1))))), (bu, .inl (cbu, 256, .inl (upd buf (nI b).toNatClampNeg (nI sn)))), (lt, .inr (0, [.ref lta, .int (nI (lk + i))])), (lta, .inl (clt, 512, .inl g))]) (w1 := [(tx, .inr (0, [.ref txa, .int txk])), (txa, .inl (ctx, txn, .inl txf))]) hP hD [8, 9] [0, 1, 2, 3, 4, 5, 6, 7] rfl rfl (by decide) (by decide) hk1 hFc hP1 hD1
        have hK := (hK.sub (tys' := [(cst, .int), (cle, .int), (cnx, .int), (cow, .int), (cbu, .int), (clt, .byte)]) [0, 1, 2, 3, 4, 5] rfl).app hK1
        generalize H1 = H at hP hS ⊢
        have hP : va_P (dC, dI) classes [(h0, .inr (3, [.ref a1, .ref dv, .int md, .int bk, .ref a2, .ref a3, .ref a4, .ref wd, .ref lt, .ref bu, .ref st, .ref le, .ref nx, .ref ow, .int (nI sn), .ref sp, .ref ky, .ref sm, .int sk])), (st, .inl (cst, 64, .inl (upd stf (nI sn).toNatClampNeg (nI lk)))), (le, .inl (cle, 64, .inl (upd lef (nI sn).toNatClampNeg (nI ln)))), (nx, .inl (cnx, 64, .inl (upd nxf (nI sn).toNatClampNeg (buf (nI b).toNatClampNeg)))), (ow, .inl (cow, 64, .inl (upd owf (nI sn).toNatClampNeg ((-1))))), (bu, .inl (cbu, 256, .inl (upd buf (nI b).toNatClampNeg (nI sn)))), (lt, .inr (0, [.ref lta, .int (nI (lk + i))])), (lta, .inl (clt, 512, .inl g)), (tx, .inr (0, [.ref txa, .int txk])), (txa, .inl (ctx, txn, .inl txf))] H := hP
        have hD : va_D A [(h0, .inr (3, [.ref a1, .ref dv, .int md, .int bk, .ref a2, .ref a3, .ref a4, .ref wd, .ref lt, .ref bu, .ref st, .ref le, .ref nx, .ref ow, .int (nI sn), .ref sp, .ref ky, .ref sm, .int sk])), (st, .inl (cst, 64, .inl (upd stf (nI sn).toNatClampNeg (nI lk)))), (le, .inl (cle, 64, .inl (upd lef (nI sn).toNatClampNeg (nI ln)))), (nx, .inl (cnx, 64, .inl (upd nxf (nI sn).toNatClampNeg (buf (nI b).toNatClampNeg)))), (ow, .inl (cow, 64, .inl (upd owf (nI sn).toNatClampNeg ((-1))))), (bu, .inl (cbu, 256, .inl (upd buf (nI b).toNatClampNeg (nI sn)))), (lt, .inr (0, [.ref lta, .int (nI (lk + i))])), (lta, .inl (clt, 512, .inl g)), (tx, .inr (0, [.ref txa, .int txk])), (txa, .inl (ctx, txn, .inl txf))] := hD
        have hK : va_K (dC, dI) classes [(cst, .int), (cle, .int), (cnx, .int), (cow, .int), (cbu, .int), (clt, .byte), (ctx, .byte)] s := hK
        subst hw
        have hc0 : 0 + 0 ≤ 0 := by omega
        have hs0 : 0 + 0 ≤ 0 := by omega
        have hPc := hP.sub (ws' := [(lt, .inr (0, [.ref lta, .int (nI (lk + i))])), (lta, .inl (clt, 512, .inl g))]) [6, 7] rfl
        have hDc := hD.sub (ws' := [(lt, .inr (0, [.ref lta, .int (nI (lk + i))])), (lta, .inl (clt, 512, .inl g))]) [6, 7] (by decide) rfl
        have hKc := hK.sub (tys' := [(clt, .byte)]) [5] rfl
        have hFc := va_free (wc := [(lt, .inr (0, [.ref lta, .int (nI (lk + i))])), (lta, .inl (clt, 512, .inl g))]) hD hS hA [6, 7] rfl
        refine va_callv (va_runV (As := [.int (tz_gb txn txf txk (fr + (nI i)))]) (rest := []) ⟨hx, hb, hml, hown, htw⟩ (c_Bytes_put l dC dI H.size lt lta clt 512 g ((lk + i)) (tz_gb txn txf txk (fr + (nI i))) (by first | omega | assumption) (by first | omega | assumption)) (cwV 1 htw (tw_V wd_1_196 wd_1_197 wd_1_198 wd_1_2 k_Bytes_put) rfl rfl rfl (by decide +kernel) ⟨Nat.le_of_ble_eq_true rfl, Nat.le_of_ble_eq_true rfl⟩) ⟨fun a U g mk q => by obtain ⟨q0, q1, qP, qK, qD⟩ := q; exact ⟨q0, q1, qP, va_K.moved (u := U) (U := U.calling g mk a) (Vm.Alike.refl U.vm) qK, qD⟩, va_recv hK hP (q := (R_Bytes, F_Bytes, 2)) (ci := 0) (q0 := 6) rfl rfl, fun U hU hW => ⟨rfl, by rw [hU], by rw [hU]; exact hPc, va_K.moved hW.alike hKc, hDc.weaken (fun _ _ _ _ => trivial)⟩⟩ rfl rfl hl.1 rfl (lv_room (Nat.le_of_ble_eq_true rfl)) d_Schema_added_164 ⟨hc0, hs0⟩) hS (fun q _ h => hFc q h) hFc (fun u t H1 locs ht hvm hw hB hz1 hk1 hS => ?_)
        obtain ⟨hP1, hK1, hD1⟩ := hB
        rw [ht] at hP1
        have hK1 := va_K.moved hvm.symm hK1
        obtain ⟨hP, hD⟩ := va_join (wr := [(h0, .inr (3, [.ref a1, .ref dv, .int md, .int bk, .ref a2, .ref a3, .ref a4, .ref wd, .ref lt, .ref bu, .ref st, .ref le, .ref nx, .ref ow, .int (nI sn), .ref sp, .ref ky, .ref sm, .int sk])), (st, .inl (cst, 64, .inl (upd stf (nI sn).toNatClampNeg (nI lk)))), (le, .inl (cle, 64, .inl (upd lef (nI sn).toNatClampNeg (nI ln)))), (nx, .inl (cnx, 64, .inl (upd nxf (nI sn).toNatClampNeg (buf (nI b).toNatClampNeg)))), (ow, .inl (cow, 64, .inl (upd owf (nI sn).toNatClampNeg ((-1))))), (bu, .inl (cbu, 256, .inl (upd buf (nI b).toNatClampNeg (nI sn)))), (tx, .inr (0, [.ref txa, .int txk])), (txa, .inl (ctx, txn, .inl txf))]) (w1 := [(lt, .inr (0, [.ref lta, .int (nI (((lk + i)) + 1))])), (lta, .inl (clt, 512, .inl (upd g (nI ((lk + i))).toNatClampNeg (vp_nar .byte (((tz_gb txn txf txk (fr + (nI i))) : Int32).toInt8.toInt32)))))]) hP hD [6, 7] [0, 1, 2, 3, 4, 5, 8, 9] rfl rfl (by decide) (by decide) hk1 hFc hP1 hD1
        have hK := (hK.sub (tys' := [(cst, .int), (cle, .int), (cnx, .int), (cow, .int), (cbu, .int), (ctx, .byte)]) [0, 1, 2, 3, 4, 6] rfl).app hK1
        generalize H1 = H at hP hS ⊢
        have hP : va_P (dC, dI) classes [(h0, .inr (3, [.ref a1, .ref dv, .int md, .int bk, .ref a2, .ref a3, .ref a4, .ref wd, .ref lt, .ref bu, .ref st, .ref le, .ref nx, .ref ow, .int (nI sn), .ref sp, .ref ky, .ref sm, .int sk])), (st, .inl (cst, 64, .inl (upd stf (nI sn).toNatClampNeg (nI lk)))), (le, .inl (cle, 64, .inl (upd lef (nI sn).toNatClampNeg (nI ln)))), (nx, .inl (cnx, 64, .inl (upd nxf (nI sn).toNatClampNeg (buf (nI b).toNatClampNeg)))), (ow, .inl (cow, 64, .inl (upd owf (nI sn).toNatClampNeg ((-1))))), (bu, .inl (cbu, 256, .inl (upd buf (nI b).toNatClampNeg (nI sn)))), (tx, .inr (0, [.ref txa, .int txk])), (txa, .inl (ctx, txn, .inl txf)), (lt, .inr (0, [.ref lta, .int (nI (((lk + i)) + 1))])), (lta, .inl (clt, 512, .inl (upd g (nI ((lk + i))).toNatClampNeg (vp_nar .byte (((tz_gb txn txf txk (fr + (nI i))) : Int32).toInt8.toInt32)))))] H := hP
        have hD : va_D A [(h0, .inr (3, [.ref a1, .ref dv, .int md, .int bk, .ref a2, .ref a3, .ref a4, .ref wd, .ref lt, .ref bu, .ref st, .ref le, .ref nx, .ref ow, .int (nI sn), .ref sp, .ref ky, .ref sm, .int sk])), (st, .inl (cst, 64, .inl (upd stf (nI sn).toNatClampNeg (nI lk)))), (le, .inl (cle, 64, .inl (upd lef (nI sn).toNatClampNeg (nI ln)))), (nx, .inl (cnx, 64, .inl (upd nxf (nI sn).toNatClampNeg (buf (nI b).toNatClampNeg)))), (ow, .inl (cow, 64, .inl (upd owf (nI sn).toNatClampNeg ((-1))))), (bu, .inl (cbu, 256, .inl (upd buf (nI b).toNatClampNeg (nI sn)))), (tx, .inr (0, [.ref txa, .int txk])), (txa, .inl (ctx, txn, .inl txf)), (lt, .inr (0, [.ref lta, .int (nI (((lk + i)) + 1))])), (lta, .inl (clt, 512, .inl (upd g (nI ((lk + i))).toNatClampNeg (vp_nar .byte (((tz_gb txn txf txk (fr + (nI i))) : Int32).toInt8.toInt32)))))] := hD
        have hK : va_K (dC, dI) classes [(cst, .int), (cle, .int), (cnx, .int), (cow, .int), (cbu, .int), (ctx, .byte), (clt, .byte)] s := hK
        refine lv_iinc (k := 0) (v := nI (i + 1)) hx hb d_Schema_added_167 hl rfl (nI_1 i) (by decide) rfl (fun ls hl => ?_)
        have hl : lv_has ls 6 [(5, .int (nI (i + 1))), (0, .ref h0), (1, .ref tx), (2, .int fr), (3, .int (nI ln)), (4, .int (nI b))] := hl
        refine lv_goto (tgt := 146) hx hb d_Schema_added_170 rfl ?_
        exact ih ((i + 1)) (upd g (nI ((lk + i))).toNatClampNeg (vp_nar .byte (((tz_gb txn txf txk (fr + (nI i))) : Int32).toInt8.toInt32))) _ _ _ (by omega) (by omega) (lv_sub hl [0, 1, 2, 3, 4, 5] rfl) (hP.sub [0, 1, 2, 3, 4, 5, 8, 9, 6, 7] rfl) (hD.sub [0, 1, 2, 3, 4, 5, 8, 9, 6, 7] (by decide) rfl) hS
  exact lp ((ln - 0) + 1) 0 ltf _ _ _ (by omega) (Nat.lt_succ_self _) (lv_sub hl [0, 1, 2, 3, 4, 5] rfl) (hP.sub [0, 1, 2, 3, 4, 5, 6, 7, 8, 9] rfl) (hD.sub [0, 1, 2, 3, 4, 5, 6, 7, 8, 9] (by decide) rfl) hS
