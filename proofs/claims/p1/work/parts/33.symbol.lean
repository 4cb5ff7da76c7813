/-! by program (wip/p1) -/
theorem wd_1_3 : Cond.initialized "SyntaxForge$Schema" ∈ tw_tbl := tw_t1 (List.mem_of_getElem? (i := 3) rfl) rfl
theorem wd_2_7 : Cond.methodLink "SyntaxForge$Schema" 127 ⟨"SyntaxForge$Schema", "added", "(LSyntaxForge$Bytes;III)I"⟩ ∈ tw_tbl := tw_t2 (List.mem_of_getElem? (i := 7) rfl) rfl
theorem wd_2_9 : Cond.instanceMethod ⟨"SyntaxForge$Schema", "added", "(LSyntaxForge$Bytes;III)I"⟩ ∈ tw_tbl := tw_t2 (List.mem_of_getElem? (i := 9) rfl) rfl
theorem wp_1_2 : Cond.selects "SyntaxForge$Schema" ⟨"SyntaxForge$Schema", "added", "(LSyntaxForge$Bytes;III)I"⟩ ⟨"SyntaxForge$Schema", "added", "(LSyntaxForge$Bytes;III)I"⟩ ∈ tw_tbl := tw_p1 (q := (⟨"SyntaxForge$Schema", "added", "(LSyntaxForge$Bytes;III)I"⟩, 19)) (List.mem_of_getElem? (i := 2) rfl)
theorem wd_2_3 : Cond.methodLink "SyntaxForge$Schema" 123 ⟨"SyntaxForge$Schema", "isName", "(ILSyntaxForge$Bytes;I)Z"⟩ ∈ tw_tbl := tw_t2 (List.mem_of_getElem? (i := 3) rfl) rfl
theorem wd_2_5 : Cond.instanceMethod ⟨"SyntaxForge$Schema", "isName", "(ILSyntaxForge$Bytes;I)Z"⟩ ∈ tw_tbl := tw_t2 (List.mem_of_getElem? (i := 5) rfl) rfl
theorem wp_1_1 : Cond.selects "SyntaxForge$Schema" ⟨"SyntaxForge$Schema", "isName", "(ILSyntaxForge$Bytes;I)Z"⟩ ⟨"SyntaxForge$Schema", "isName", "(ILSyntaxForge$Bytes;I)Z"⟩ ∈ tw_tbl := tw_p1 (q := (⟨"SyntaxForge$Schema", "isName", "(ILSyntaxForge$Bytes;I)Z"⟩, 19)) (List.mem_of_getElem? (i := 1) rfl)
def y_Schema_symbol : MethodName := ⟨"SyntaxForge$Schema", "symbol", "(LSyntaxForge$Bytes;IIZ)I"⟩
abbrev b_Schema_symbol : ByteArray := prog_10_method_5_code
abbrev cd_Schema_symbol : Cond := .code y_Schema_symbol b_Schema_symbol 8 (some .int)
abbrev ws_Schema_symbol : List Cond := cd_Schema_symbol :: tw_tbl
theorem k_Schema_symbol : cd_Schema_symbol ∈ tw_tbl := tw_t2 (List.mem_of_getElem? (i := 2) rfl) rfl
theorem d_Schema_symbol_0 : decode b_Schema_symbol 0 = .ok (.iload_n 3, 1) := by decide +kernel
theorem d_Schema_symbol_1 : decode b_Schema_symbol 1 = .ok (.istore 5, 2) := by decide +kernel
theorem d_Schema_symbol_3 : decode b_Schema_symbol 3 = .ok (.iconst 0, 1) := by decide +kernel
theorem d_Schema_symbol_4 : decode b_Schema_symbol 4 = .ok (.istore 6, 2) := by decide +kernel
theorem d_Schema_symbol_6 : decode b_Schema_symbol 6 = .ok (.iload 6, 2) := by decide +kernel
theorem d_Schema_symbol_8 : decode b_Schema_symbol 8 = .ok (.iload_n 3, 1) := by decide +kernel
theorem d_Schema_symbol_9 : decode b_Schema_symbol 9 = .ok (.if_icmp .ge 25, 3) := by decide +kernel
theorem d_Schema_symbol_12 : decode b_Schema_symbol 12 = .ok (.bipush 31, 2) := by decide +kernel
theorem d_Schema_symbol_14 : decode b_Schema_symbol 14 = .ok (.iload 5, 2) := by decide +kernel
theorem d_Schema_symbol_16 : decode b_Schema_symbol 16 = .ok (.imul, 1) := by decide +kernel
theorem d_Schema_symbol_17 : decode b_Schema_symbol 17 = .ok (.aload_n 1, 1) := by decide +kernel
theorem d_Schema_symbol_18 : decode b_Schema_symbol 18 = .ok (.iload_n 2, 1) := by decide +kernel
theorem d_Schema_symbol_19 : decode b_Schema_symbol 19 = .ok (.iload 6, 2) := by decide +kernel
theorem d_Schema_symbol_21 : decode b_Schema_symbol 21 = .ok (.iadd, 1) := by decide +kernel
theorem d_Schema_symbol_22 : decode b_Schema_symbol 22 = .ok (.invokevirtual 115, 3) := by decide +kernel
theorem d_Schema_symbol_25 : decode b_Schema_symbol 25 = .ok (.iadd, 1) := by decide +kernel
theorem d_Schema_symbol_26 : decode b_Schema_symbol 26 = .ok (.istore 5, 2) := by decide +kernel
theorem d_Schema_symbol_28 : decode b_Schema_symbol 28 = .ok (.iinc 6 1, 3) := by decide +kernel
theorem d_Schema_symbol_31 : decode b_Schema_symbol 31 = .ok (.goto (-25), 3) := by decide +kernel
theorem d_Schema_symbol_34 : decode b_Schema_symbol 34 = .ok (.iload 5, 2) := by decide +kernel
theorem d_Schema_symbol_36 : decode b_Schema_symbol 36 = .ok (.iload 5, 2) := by decide +kernel
theorem d_Schema_symbol_38 : decode b_Schema_symbol 38 = .ok (.bipush 8, 2) := by decide +kernel
theorem d_Schema_symbol_40 : decode b_Schema_symbol 40 = .ok (.iushr, 1) := by decide +kernel
theorem d_Schema_symbol_41 : decode b_Schema_symbol 41 = .ok (.ixor, 1) := by decide +kernel
theorem d_Schema_symbol_42 : decode b_Schema_symbol 42 = .ok (.sipush 255, 3) := by decide +kernel
theorem d_Schema_symbol_45 : decode b_Schema_symbol 45 = .ok (.iand, 1) := by decide +kernel
theorem d_Schema_symbol_46 : decode b_Schema_symbol 46 = .ok (.istore 6, 2) := by decide +kernel
theorem d_Schema_symbol_48 : decode b_Schema_symbol 48 = .ok (.aload_n 0, 1) := by decide +kernel
theorem d_Schema_symbol_49 : decode b_Schema_symbol 49 = .ok (.getfield 61, 3) := by decide +kernel
theorem d_Schema_symbol_52 : decode b_Schema_symbol 52 = .ok (.iload 6, 2) := by decide +kernel
theorem d_Schema_symbol_54 : decode b_Schema_symbol 54 = .ok (.iaload, 1) := by decide +kernel
theorem d_Schema_symbol_55 : decode b_Schema_symbol 55 = .ok (.istore 7, 2) := by decide +kernel
theorem d_Schema_symbol_57 : decode b_Schema_symbol 57 = .ok (.iload 7, 2) := by decide +kernel
theorem d_Schema_symbol_59 : decode b_Schema_symbol 59 = .ok (.ifCond .lt 40, 3) := by decide +kernel
theorem d_Schema_symbol_62 : decode b_Schema_symbol 62 = .ok (.aload_n 0, 1) := by decide +kernel
theorem d_Schema_symbol_63 : decode b_Schema_symbol 63 = .ok (.getfield 68, 3) := by decide +kernel
theorem d_Schema_symbol_66 : decode b_Schema_symbol 66 = .ok (.iload 7, 2) := by decide +kernel
theorem d_Schema_symbol_68 : decode b_Schema_symbol 68 = .ok (.iaload, 1) := by decide +kernel
theorem d_Schema_symbol_69 : decode b_Schema_symbol 69 = .ok (.iload_n 3, 1) := by decide +kernel
theorem d_Schema_symbol_70 : decode b_Schema_symbol 70 = .ok (.if_icmp .ne 17, 3) := by decide +kernel
theorem d_Schema_symbol_73 : decode b_Schema_symbol 73 = .ok (.aload_n 0, 1) := by decide +kernel
theorem d_Schema_symbol_74 : decode b_Schema_symbol 74 = .ok (.iload 7, 2) := by decide +kernel
theorem d_Schema_symbol_76 : decode b_Schema_symbol 76 = .ok (.aload_n 1, 1) := by decide +kernel
theorem d_Schema_symbol_77 : decode b_Schema_symbol 77 = .ok (.iload_n 2, 1) := by decide +kernel
theorem d_Schema_symbol_78 : decode b_Schema_symbol 78 = .ok (.invokevirtual 123, 3) := by decide +kernel
theorem d_Schema_symbol_81 : decode b_Schema_symbol 81 = .ok (.ifCond .eq 6, 3) := by decide +kernel
theorem d_Schema_symbol_84 : decode b_Schema_symbol 84 = .ok (.iload 7, 2) := by decide +kernel
theorem d_Schema_symbol_86 : decode b_Schema_symbol 86 = .ok (.ireturn, 1) := by decide +kernel
theorem d_Schema_symbol_87 : decode b_Schema_symbol 87 = .ok (.aload_n 0, 1) := by decide +kernel
theorem d_Schema_symbol_88 : decode b_Schema_symbol 88 = .ok (.getfield 71, 3) := by decide +kernel
theorem d_Schema_symbol_91 : decode b_Schema_symbol 91 = .ok (.iload 7, 2) := by decide +kernel
theorem d_Schema_symbol_93 : decode b_Schema_symbol 93 = .ok (.iaload, 1) := by decide +kernel
theorem d_Schema_symbol_94 : decode b_Schema_symbol 94 = .ok (.istore 7, 2) := by decide +kernel
theorem d_Schema_symbol_96 : decode b_Schema_symbol 96 = .ok (.goto (-39), 3) := by decide +kernel
theorem d_Schema_symbol_99 : decode b_Schema_symbol 99 = .ok (.iload 4, 2) := by decide +kernel
theorem d_Schema_symbol_101 : decode b_Schema_symbol 101 = .ok (.ifCond .eq 15, 3) := by decide +kernel
theorem d_Schema_symbol_104 : decode b_Schema_symbol 104 = .ok (.aload_n 0, 1) := by decide +kernel
theorem d_Schema_symbol_105 : decode b_Schema_symbol 105 = .ok (.aload_n 1, 1) := by decide +kernel
theorem d_Schema_symbol_106 : decode b_Schema_symbol 106 = .ok (.iload_n 2, 1) := by decide +kernel
theorem d_Schema_symbol_107 : decode b_Schema_symbol 107 = .ok (.iload_n 3, 1) := by decide +kernel
theorem d_Schema_symbol_108 : decode b_Schema_symbol 108 = .ok (.iload 6, 2) := by decide +kernel
theorem d_Schema_symbol_110 : decode b_Schema_symbol 110 = .ok (.invokevirtual 127, 3) := by decide +kernel
theorem d_Schema_symbol_113 : decode b_Schema_symbol 113 = .ok (.goto 4, 3) := by decide +kernel
theorem d_Schema_symbol_116 : decode b_Schema_symbol 116 = .ok (.iconst (-1), 1) := by decide +kernel
theorem d_Schema_symbol_117 : decode b_Schema_symbol 117 = .ok (.ireturn, 1) := by decide +kernel
set_option maxHeartbeats 4000000 in
set_option maxRecDepth 100000 in
theorem c_Schema_symbol (l : Launch) (dC : Nat → ClassId) (dI : Nat → Nat → Nat) (sz : Nat) (h0 : Nat) (a1 : Nat) (dv : Nat) (md : Int32) (bk : Int32) (a2 : Nat) (a3 : Nat) (a4 : Nat) (wd : Nat) (lt : Nat) (bu : Nat) (st : Nat) (le : Nat) (nx : Nat) (ow : Nat) (sp : Nat) (ky : Nat) (sm : Nat) (sk : Int32) (cst : ClassId) (stf : Nat → Int32) (cle : ClassId) (lef : Nat → Int32) (cnx : ClassId) (nxf : Nat → Int32) (cow : ClassId) (owf : Nat → Int32) (cbu : ClassId) (buf : Nat → Int32) (lta : Nat) (clt : ClassId) (ltf : Nat → Int32) (tx : Nat) (txa : Nat) (ctx : ClassId) (txn : Nat) (txf : Nat → Int32) (txk : Int32) (sn : Nat) (lk : Nat) (ln : Nat) (fr : Int32) (hsn : sn < 64) (hlk : lk + ln ≤ 512) (hn : txn ≤ 65536) (hinv : tz_inv sn nxf buf) : Met l y_Schema_symbol ws_Schema_symbol ({ frames := 2, cells := 0, slots := 0, locals := 46 }) (va_Pc [.ref h0, .ref tx, .int fr, .int (nI ln), .int 1] (fun U => U.heap.size = sz ∧ va_P (dC, dI) classes [(h0, .inr (3, [.ref a1, .ref dv, .int md, .int bk, .ref a2, .ref a3, .ref a4, .ref wd, .ref lt, .ref bu, .ref st, .ref le, .ref nx, .ref ow, .int (nI sn), .ref sp, .ref ky, .ref sm, .int sk])), (st, .inl (cst, 64, .inl stf)), (le, .inl (cle, 64, .inl lef)), (nx, .inl (cnx, 64, .inl nxf)), (ow, .inl (cow, 64, .inl owf)), (bu, .inl (cbu, 256, .inl buf)), (lt, .inr (0, [.ref lta, .int (nI lk)])), (lta, .inl (clt, 512, .inl ltf)), (tx, .inr (0, [.ref txa, .int txk])), (txa, .inl (ctx, txn, .inl txf))] U.heap ∧ va_K (dC, dI) classes [(cst, .int), (cle, .int), (cnx, .int), (cow, .int), (cbu, .int), (clt, .byte), (ctx, .byte)] U ∧ va_D (fun _ => True) [(h0, .inr (3, [.ref a1, .ref dv, .int md, .int bk, .ref a2, .ref a3, .ref a4, .ref wd, .ref lt, .ref bu, .ref st, .ref le, .ref nx, .ref ow, .int (nI sn), .ref sp, .ref ky, .ref sm, .int sk])), (st, .inl (cst, 64, .inl stf)), (le, .inl (cle, 64, .inl lef)), (nx, .inl (cnx, 64, .inl nxf)), (ow, .inl (cow, 64, .inl owf)), (bu, .inl (cbu, 256, .inl buf)), (lt, .inr (0, [.ref lta, .int (nI lk)])), (lta, .inl (clt, 512, .inl ltf)), (tx, .inr (0, [.ref txa, .int txk])), (txa, .inl (ctx, txn, .inl txf))])) (va_Qi (fun (r : Int32) (_ : Unit) => True) (fun _ t => ∃ (s2 : Nat) (k2 : Nat) (g1 : Nat → Int32) (g2 : Nat → Int32) (g3 : Nat → Int32) (g4 : Nat → Int32) (g5 : Nat → Int32) (g6 : Nat → Int32), s2 ≤ sn + 1 ∧ k2 ≤ lk + ln ∧ tz_inv s2 g3 g5 ∧ va_P (dC, dI) classes [(h0, .inr (3, [.ref a1, .ref dv, .int md, .int bk, .ref a2, .ref a3, .ref a4, .ref wd, .ref lt, .ref bu, .ref st, .ref le, .ref nx, .ref ow, .int (nI s2), .ref sp, .ref ky, .ref sm, .int sk])), (st, .inl (cst, 64, .inl g1)), (le, .inl (cle, 64, .inl g2)), (nx, .inl (cnx, 64, .inl g3)), (ow, .inl (cow, 64, .inl g4)), (bu, .inl (cbu, 256, .inl g5)), (lt, .inr (0, [.ref lta, .int (nI k2)])), (lta, .inl (clt, 512, .inl g6)), (tx, .inr (0, [.ref txa, .int txk])), (txa, .inl (ctx, txn, .inl txf))] t.heap ∧ va_K (dC, dI) classes [(cst, .int), (cle, .int), (cnx, .int), (cow, .int), (cbu, .int), (clt, .byte), (ctx, .byte)] t ∧ va_D (va_A [(h0, .inr (3, [.ref a1, .ref dv, .int md, .int bk, .ref a2, .ref a3, .ref a4, .ref wd, .ref lt, .ref bu, .ref st, .ref le, .ref nx, .ref ow, .int (nI sn), .ref sp, .ref ky, .ref sm, .int sk])), (st, .inl (cst, 64, .inl stf)), (le, .inl (cle, 64, .inl lef)), (nx, .inl (cnx, 64, .inl nxf)), (ow, .inl (cow, 64, .inl owf)), (bu, .inl (cbu, 256, .inl buf)), (lt, .inr (0, [.ref lta, .int (nI lk)])), (lta, .inl (clt, 512, .inl ltf)), (tx, .inr (0, [.ref txa, .int txk])), (txa, .inl (ctx, txn, .inl txf))] sz) [(h0, .inr (3, [.ref a1, .ref dv, .int md, .int bk, .ref a2, .ref a3, .ref a4, .ref wd, .ref lt, .ref bu, .ref st, .ref le, .ref nx, .ref ow, .int (nI s2), .ref sp, .ref ky, .ref sm, .int sk])), (st, .inl (cst, 64, .inl g1)), (le, .inl (cle, 64, .inl g2)), (nx, .inl (cnx, 64, .inl g3)), (ow, .inl (cow, 64, .inl g4)), (bu, .inl (cbu, 256, .inl g5)), (lt, .inr (0, [.ref lta, .int (nI k2)])), (lta, .inl (clt, 512, .inl g6)), (tx, .inr (0, [.ref txa, .int txk])), (txa, .inl (ctx, txn, .inl txf))]) (va_A [(h0, .inr (3, [.ref a1, .ref dv, .int md, .int bk, .ref a2, .ref a3, .ref a4, .ref wd, .ref lt, .ref bu, .ref st, .ref le, .ref nx, .ref ow, .int (nI sn), .ref sp, .ref ky, .ref sm, .int sk])), (st, .inl (cst, 64, .inl stf)), (le, .inl (cle, 64, .inl lef)), (nx, .inl (cnx, 64, .inl nxf)), (ow, .inl (cow, 64, .inl owf)), (bu, .inl (cbu, 256, .inl buf)), (lt, .inr (0, [.ref lta, .int (nI lk)])), (lta, .inl (clt, 512, .inl ltf)), (tx, .inr (0, [.ref txa, .int txk])), (txa, .inl (ctx, txn, .inl txf))] sz)) 0 0 (va_A [(h0, .inr (3, [.ref a1, .ref dv, .int md, .int bk, .ref a2, .ref a3, .ref a4, .ref wd, .ref lt, .ref bu, .ref st, .ref le, .ref nx, .ref ow, .int (nI sn), .ref sp, .ref ky, .ref sm, .int sk])), (st, .inl (cst, 64, .inl stf)), (le, .inl (cle, 64, .inl lef)), (nx, .inl (cnx, 64, .inl nxf)), (ow, .inl (cow, 64, .inl owf)), (bu, .inl (cbu, 256, .inl buf)), (lt, .inr (0, [.ref lta, .int (nI lk)])), (lta, .inl (clt, 512, .inl ltf)), (tx, .inr (0, [.ref txa, .int txk])), (txa, .inl (ctx, txn, .inl txf))] sz) := by
  refine Met.ofW (cc := b_Schema_symbol) (maxL := 8) (ret := (some .int)) (by decide) rfl ?_
  intro p e s m args below meth c s₁ B hml hv
  obtain ⟨rfl, hsz, hP, hK, hD0⟩ := hv
  have hx := B.exec
  have hb := B.bytes
  have hr := B.returns
  have hts := atoms_spec (ws := ws_Schema_symbol) B.pre
  have htw : ∀ w ∈ tw_tbl, w.before [.ref h0, .ref tx, .int fr, .int (nI ln), .int 1].toArray s = true := fun w h => hts w (List.mem_cons_of_mem _ h)
  have hown : s.vm.findClass R_Schema = some m.cls := findClass_of_methodNamed B.named
  have hlocks := B.notSynchronized
  have hin : meth.name = "symbol" := (name_of_methodNamed B.named B.method).1
  subst hsz
  have hD := hD0.self (sz := s.heap.size)
  generalize hAe : va_A [(h0, .inr (3, [.ref a1, .ref dv, .int md, .int bk, .ref a2, .ref a3, .ref a4, .ref wd, .ref lt, .ref bu, .ref st, .ref le, .ref nx, .ref ow, .int (nI sn), .ref sp, .ref ky, .ref sm, .int sk])), (st, .inl (cst, 64, .inl stf)), (le, .inl (cle, 64, .inl lef)), (nx, .inl (cnx, 64, .inl nxf)), (ow, .inl (cow, 64, .inl owf)), (bu, .inl (cbu, 256, .inl buf)), (lt, .inr (0, [.ref lta, .int (nI lk)])), (lta, .inl (clt, 512, .inl ltf)), (tx, .inr (0, [.ref txa, .int txk])), (txa, .inl (ctx, txn, .inl txf))] s.heap.size = A at hD ⊢
  have hA : ∀ q : Nat, s.heap.size ≤ q → A q := fun q h => by rw [← hAe]; exact Or.inr h
  have hS : va_S A s.heap s.heap [] := va_S.rf
  have hP : va_P (dC, dI) classes [(h0, .inr (3, [.ref a1, .ref dv, .int md, .int bk, .ref a2, .ref a3, .ref a4, .ref wd, .ref lt, .ref bu, .ref st, .ref le, .ref nx, .ref ow, .int (nI sn), .ref sp, .ref ky, .ref sm, .int sk])), (st, .inl (cst, 64, .inl stf)), (le, .inl (cle, 64, .inl lef)), (nx, .inl (cnx, 64, .inl nxf)), (ow, .inl (cow, 64, .inl owf)), (bu, .inl (cbu, 256, .inl buf)), (lt, .inr (0, [.ref lta, .int (nI lk)])), (lta, .inl (clt, 512, .inl ltf)), (tx, .inr (0, [.ref txa, .int txk])), (txa, .inl (ctx, txn, .inl txf))] s.heap := hP
  have hl := lv_entry ([.ref h0, .ref tx, .int fr, .int (nI ln), .int 1]) (n := 8) (Nat.le_of_ble_eq_true rfl)
  rw [lg_entry_eq]
  generalize (lg_sl ([.ref h0, .ref tx, .int fr, .int (nI ln), .int 1]) ++ List.replicate (8 - (lg_sl ([.ref h0, .ref tx, .int fr, .int (nI ln), .int 1])).length) Slot.unset).toArray = ls at hl ⊢
  have hl : lv_has ls 8 [(0, .ref h0), (1, .ref tx), (2, .int fr), (3, .int (nI ln)), (4, .int 1)] := hl
  refine lv_iload_n hx hb d_Schema_symbol_0 rfl (lv_at hl 3 rfl) ?_
  refine lv_istore hx hb d_Schema_symbol_1 hl (by decide) rfl (fun ls hl => ?_)
  have hl : lv_has ls 8 [(5, .int (nI ln)), (0, .ref h0), (1, .ref tx), (2, .int fr), (3, .int (nI ln)), (4, .int 1)] := hl
  refine lv_iconst (v := 0) hx hb d_Schema_symbol_3 (by decide) ?_
  refine lv_istore hx hb d_Schema_symbol_4 hl (by decide) rfl (fun ls hl => ?_)
  have hl : lv_has ls 8 [(6, .int 0), (5, .int (nI ln)), (0, .ref h0), (1, .ref tx), (2, .int fr), (3, .int (nI ln)), (4, .int 1)] := hl
  have lp : ∀ (fuel : Nat) (i : Nat) (hs : Int32) (H : Heap) (locs : List Loc) (ls : Array Slot), i ≤ ln → ln - i < fuel → lv_has ls 8 [(6, .int (nI i)), (5, .int hs), (0, .ref h0), (1, .ref tx), (2, .int fr), (3, .int (nI ln)), (4, .int 1)] → va_P (dC, dI) classes [(h0, .inr (3, [.ref a1, .ref dv, .int md, .int bk, .ref a2, .ref a3, .ref a4, .ref wd, .ref lt, .ref bu, .ref st, .ref le, .ref nx, .ref ow, .int (nI sn), .ref sp, .ref ky, .ref sm, .int sk])), (st, .inl (cst, 64, .inl stf)), (le, .inl (cle, 64, .inl lef)), (nx, .inl (cnx, 64, .inl nxf)), (ow, .inl (cow, 64, .inl owf)), (bu, .inl (cbu, 256, .inl buf)), (lt, .inr (0, [.ref lta, .int (nI lk)])), (lta, .inl (clt, 512, .inl ltf)), (tx, .inr (0, [.ref txa, .int txk])), (txa, .inl (ctx, txn, .inl txf))] H → va_D A [(h0, .inr (3, [.ref a1, .ref dv, .int md, .int bk, .ref a2, .ref a3, .ref a4, .ref wd, .ref lt, .ref bu, .ref st, .ref le, .ref nx, .ref ow, .int (nI sn), .ref sp, .ref ky, .ref sm, .int sk])), (st, .inl (cst, 64, .inl stf)), (le, .inl (cle, 64, .inl lef)), (nx, .inl (cnx, 64, .inl nxf)), (ow, .inl (cow, 64, .inl owf)), (bu, .inl (cbu, 256, .inl buf)), (lt, .inr (0, [.ref lta, .int (nI lk)])), (lta, .inl (clt, 512, .inl ltf)), (tx, .inr (0, [.ref txa, .int txk])), (txa, .inl (ctx, txn, .inl txf))] → va_S A s.heap H locs → W p l e (headSpec ws_Schema_symbol ({ frames := 2, cells := 0, slots := 0, locals := 46 })).room s m [.ref h0, .ref tx, .int fr, .int (nI ln), .int 1].toArray below meth c H locs 0 0 (MQ below (va_Qi (fun (r : Int32) (_ : Unit) => True) (fun _ t => ∃ (s2 : Nat) (k2 : Nat) (g1 : Nat → Int32) (g2 : Nat → Int32) (g3 : Nat → Int32) (g4 : Nat → Int32) (g5 : Nat → Int32) (g6 : Nat → Int32), s2 ≤ sn + 1 ∧ k2 ≤ lk + ln ∧ tz_inv s2 g3 g5 ∧ va_P (dC, dI) classes [(h0, .inr (3, [.ref a1, .ref dv, .int md, .int bk, .ref a2, .ref a3, .ref a4, .ref wd, .ref lt, .ref bu, .ref st, .ref le, .ref nx, .ref ow, .int (nI s2), .ref sp, .ref ky, .ref sm, .int sk])), (st, .inl (cst, 64, .inl g1)), (le, .inl (cle, 64, .inl g2)), (nx, .inl (cnx, 64, .inl g3)), (ow, .inl (cow, 64, .inl g4)), (bu, .inl (cbu, 256, .inl g5)), (lt, .inr (0, [.ref lta, .int (nI k2)])), (lta, .inl (clt, 512, .inl g6)), (tx, .inr (0, [.ref txa, .int txk])), (txa, .inl (ctx, txn, .inl txf))] t.heap ∧ va_K (dC, dI) classes [(cst, .int), (cle, .int), (cnx, .int), (cow, .int), (cbu, .int), (clt, .byte), (ctx, .byte)] t ∧ va_D A [(h0, .inr (3, [.ref a1, .ref dv, .int md, .int bk, .ref a2, .ref a3, .ref a4, .ref wd, .ref lt, .ref bu, .ref st, .ref le, .ref nx, .ref ow, .int (nI s2), .ref sp, .ref ky, .ref sm, .int sk])), (st, .inl (cst, 64, .inl g1)), (le, .inl (cle, 64, .inl g2)), (nx, .inl (cnx, 64, .inl g3)), (ow, .inl (cow, 64, .inl g4)), (bu, .inl (cbu, 256, .inl g5)), (lt, .inr (0, [.ref lta, .int (nI k2)])), (lta, .inl (clt, 512, .inl g6)), (tx, .inr (0, [.ref txa, .int txk])), (txa, .inl (ctx, txn, .inl txf))]) A) [.ref h0, .ref tx, .int fr, .int (nI ln), .int 1].toArray s 0 0 A) (F0 m 6 ls []) := by
    intro fuel
    induction fuel with
    | zero => intro i hs H locs ls hi hm; omega
    | succ fuel ih =>
      intro i hs H locs ls hi hm hl hP hD hS
      refine lv_iload hx hb d_Schema_symbol_6 (lv_at hl 0 rfl) ?_
      refine lv_iload_n hx hb d_Schema_symbol_8 rfl (lv_at hl 5 rfl) ?_
      refine lv_icmp_ge (tgt := 34) hx hb d_Schema_symbol_9 rfl (fun h1 => ?_) (fun h1 => ?_)
      · refine lv_iload hx hb d_Schema_symbol_34 (lv_at hl 1 rfl) ?_
        refine lv_iload hx hb d_Schema_symbol_36 (lv_at hl 1 rfl) ?_
        refine lv_bipush (v := 8) hx hb d_Schema_symbol_38 (by decide) ?_
        refine lv_iushr hx hb d_Schema_symbol_40 rfl ?_
        refine lv_ixor hx hb d_Schema_symbol_41 ?_
        refine lv_sipush (v := 255) hx hb d_Schema_symbol_42 (by decide) ?_
        refine lv_iand hx hb d_Schema_symbol_45 ?_
        obtain ⟨b, hb8, eb⟩ : ∃ b : Nat, b < 2 ^ 8 ∧ (hs ^^^ (((hs : Int32).toUInt32 >>> ((8 : Int32).toUInt32 &&& Int32.toUInt32 31)).toInt32)) &&& 255 = nI b := pk_andE _ 8 (by decide)
        refine lv_topi (fun z9 e9 => ?_)
        have e9 : z9 = nI b := e9.trans (eb)
        subst e9
        refine lv_istore hx hb d_Schema_symbol_46 hl (by decide) rfl (fun ls hl => ?_)
        have hl : lv_has ls 8 [(6, .int (nI b)), (5, .int hs), (0, .ref h0), (1, .ref tx), (2, .int fr), (3, .int (nI ln)), (4, .int 1)] := hl
        refine lv_aload_n hx hb d_Schema_symbol_48 rfl (lv_at hl 2 rfl) ?_
        refine va_get (D := (dC, dI)) (ci := 3) (v := .ref bu) (C := R_Schema) (T := F_Schema) (N := 19) hx hb htw i_Schema hown hK hP 0 rfl rfl 9 (by decide) (htw _ wd_2_31) (fun _ h9 => h9) rfl d_Schema_symbol_49 ?_
        refine lv_iload hx hb d_Schema_symbol_52 (lv_at hl 0 rfl) ?_
        refine va_iald hx hb hK hP 5 4 rfl rfl (vp_in_nI hb8 (by decide)) d_Schema_symbol_54 ?_
        obtain ⟨q, hq, eq1⟩ := hinv.2 b hb8
        refine lv_topi (fun z9 e9 => ?_)
        have e9 : z9 = nI q - 1 := e9.trans (by rw [nI_clamp (by omega)]; exact eq1)
        subst e9
        refine lv_istore hx hb d_Schema_symbol_55 hl (by decide) rfl (fun ls hl => ?_)
        have hl : lv_has ls 8 [(7, .int (nI q - 1)), (6, .int (nI b)), (5, .int hs), (0, .ref h0), (1, .ref tx), (2, .int fr), (3, .int (nI ln)), (4, .int 1)] := hl
        have lp2 : ∀ (fuel : Nat) (q : Nat) (H : Heap) (locs : List Loc) (ls : Array Slot), q ≤ sn → q < fuel → lv_has ls 8 [(7, .int (nI q - 1)), (6, .int (nI b)), (0, .ref h0), (1, .ref tx), (2, .int fr), (3, .int (nI ln)), (4, .int 1)] → va_P (dC, dI) classes [(h0, .inr (3, [.ref a1, .ref dv, .int md, .int bk, .ref a2, .ref a3, .ref a4, .ref wd, .ref lt, .ref bu, .ref st, .ref le, .ref nx, .ref ow, .int (nI sn), .ref sp, .ref ky, .ref sm, .int sk])), (st, .inl (cst, 64, .inl stf)), (le, .inl (cle, 64, .inl lef)), (nx, .inl (cnx, 64, .inl nxf)), (ow, .inl (cow, 64, .inl owf)), (bu, .inl (cbu, 256, .inl buf)), (lt, .inr (0, [.ref lta, .int (nI lk)])), (lta, .inl (clt, 512, .inl ltf)), (tx, .inr (0, [.ref txa, .int txk])), (txa, .inl (ctx, txn, .inl txf))] H → va_D A [(h0, .inr (3, [.ref a1, .ref dv, .int md, .int bk, .ref a2, .ref a3, .ref a4, .ref wd, .ref lt, .ref bu, .ref st, .ref le, .ref nx, .ref ow, .int (nI sn), .ref sp, .ref ky, .ref sm, .int sk])), (st, .inl (cst, 64, .inl stf)), (le, .inl (cle, 64, .inl lef)), (nx, .inl (cnx, 64, .inl nxf)), (ow, .inl (cow, 64, .inl owf)), (bu, .inl (cbu, 256, .inl buf)), (lt, .inr (0, [.ref lta, .int (nI lk)])), (lta, .inl (clt, 512, .inl ltf)), (tx, .inr (0, [.ref txa, .int txk])), (txa, .inl (ctx, txn, .inl txf))] → va_S A s.heap H locs → W p l e (headSpec ws_Schema_symbol ({ frames := 2, cells := 0, slots := 0, locals := 46 })).room s m [.ref h0, .ref tx, .int fr, .int (nI ln), .int 1].toArray below meth c H locs 0 0 (MQ below (va_Qi (fun (r : Int32) (_ : Unit) => True) (fun _ t => ∃ (s2 : Nat) (k2 : Nat) (g1 : Nat → Int32) (g2 : Nat → Int32) (g3 : Nat → Int32) (g4 : Nat → Int32) (g5 : Nat → Int32) (g6 : Nat → Int32), s2 ≤ sn + 1 ∧ k2 ≤ lk + ln ∧ tz_inv s2 g3 g5 ∧ va_P (dC, dI) classes [(h0, .inr (3, [.ref a1, .ref dv, .int md, .int bk, .ref a2, .ref a3, .ref a4, .ref wd, .ref lt, .ref bu, .ref st, .ref le, .ref nx, .ref ow, .int (nI s2), .ref sp, .ref ky, .ref sm, .int sk])), (st, .inl (cst, 64, .inl g1)), (le, .inl (cle, 64, .inl g2)), (nx, .inl (cnx, 64, .inl g3)), (ow, .inl (cow, 64, .inl g4)), (bu, .inl (cbu, 256, .inl g5)), (lt, .inr (0, [.ref lta, .int (nI k2)])), (lta, .inl (clt, 512, .inl g6)), (tx, .inr (0, [.ref txa, .int txk])), (txa, .inl (ctx, txn, .inl txf))] t.heap ∧ va_K (dC, dI) classes [(cst, .int), (cle, .int), (cnx, .int), (cow, .int), (cbu, .int), (clt, .byte), (ctx, .byte)] t ∧ va_D A [(h0, .inr (3, [.ref a1, .ref dv, .int md, .int bk, .ref a2, .ref a3, .ref a4, .ref wd, .ref lt, .ref bu, .ref st, .ref le, .ref nx, .ref ow, .int (nI s2), .ref sp, .ref ky, .ref sm, .int sk])), (st, .inl (cst, 64, .inl g1)), (le, .inl (cle, 64, .inl g2)), (nx, .inl (cnx, 64, .inl g3)), (ow, .inl (cow, 64, .inl g4)), (bu, .inl (cbu, 256, .inl g5)), (lt, .inr (0, [.ref lta, .int (nI k2)])), (lta, .inl (clt, 512, .inl g6)), (tx, .inr (0, [.ref txa, .int txk])), (txa, .inl (ctx, txn, .inl txf))]) A) [.ref h0, .ref tx, .int fr, .int (nI ln), .int 1].toArray s 0 0 A) (F0 m 57 ls []) := by
          intro fuel
          induction fuel with
          | zero => intro q H locs ls hq hm; omega
          | succ fuel ih =>
            intro q H locs ls hq hm hl hP hD hS
            refine lv_iload hx hb d_Schema_symbol_57 (lv_at hl 0 rfl) ?_
            refine lv_if_lt (tgt := 99) hx hb d_Schema_symbol_59 rfl (fun h3 => ?_) (fun h3 => ?_)
            · refine lv_iload hx hb d_Schema_symbol_99 (lv_at hl 6 rfl) ?_
              refine lv_if_eq (tgt := 116) hx hb d_Schema_symbol_101 rfl (fun ht => absurd ht (by decide)) (fun _ => ?_)
              refine lv_aload_n hx hb d_Schema_symbol_104 rfl (lv_at hl 2 rfl) ?_
              refine lv_aload_n hx hb d_Schema_symbol_105 rfl (lv_at hl 3 rfl) ?_
              refine lv_iload_n hx hb d_Schema_symbol_106 rfl (lv_at hl 4 rfl) ?_
              refine lv_iload_n hx hb d_Schema_symbol_107 rfl (lv_at hl 5 rfl) ?_
              refine lv_iload hx hb d_Schema_symbol_108 (lv_at hl 1 rfl) ?_
              have hc0 : 0 + 0 ≤ 0 := by omega
              have hs0 : 0 + 0 ≤ 0 := by omega
              have hPc := hP.sub (ws' := [(h0, .inr (3, [.ref a1, .ref dv, .int md, .int bk, .ref a2, .ref a3, .ref a4, .ref wd, .ref lt, .ref bu, .ref st, .ref le, .ref nx, .ref ow, .int (nI sn), .ref sp, .ref ky, .ref sm, .int sk])), (st, .inl (cst, 64, .inl stf)), (le, .inl (cle, 64, .inl lef)), (nx, .inl (cnx, 64, .inl nxf)), (ow, .inl (cow, 64, .inl owf)), (bu, .inl (cbu, 256, .inl buf)), (lt, .inr (0, [.ref lta, .int (nI lk)])), (lta, .inl (clt, 512, .inl ltf)), (tx, .inr (0, [.ref txa, .int txk])), (txa, .inl (ctx, txn, .inl txf))]) [0, 1, 2, 3, 4, 5, 6, 7, 8, 9] rfl
              have hDc := hD.sub (ws' := [(h0, .inr (3, [.ref a1, .ref dv, .int md, .int bk, .ref a2, .ref a3, .ref a4, .ref wd, .ref lt, .ref bu, .ref st, .ref le, .ref nx, .ref ow, .int (nI sn), .ref sp, .ref ky, .ref sm, .int sk])), (st, .inl (cst, 64, .inl stf)), (le, .inl (cle, 64, .inl lef)), (nx, .inl (cnx, 64, .inl nxf)), (ow, .inl (cow, 64, .inl owf)), (bu, .inl (cbu, 256, .inl buf)), (lt, .inr (0, [.ref lta, .int (nI lk)])), (lta, .inl (clt, 512, .inl ltf)), (tx, .inr (0, [.ref txa, .int txk])), (txa, .inl (ctx, txn, .inl txf))]) [0, 1, 2, 3, 4, 5, 6, 7, 8, 9] (by decide) rfl
              have hKc := hK.sub (tys' := [(cst, .int), (cle, .int), (cnx, .int), (cow, .int), (cbu, .int), (clt, .byte), (ctx, .byte)]) [0, 1, 2, 3, 4, 5, 6] rfl
              have hFc := va_free (wc := [(h0, .inr (3, [.ref a1, .ref dv, .int md, .int bk, .ref a2, .ref a3, .ref a4, .ref wd, .ref lt, .ref bu, .ref st, .ref le, .ref nx, .ref ow, .int (nI sn), .ref sp, .ref ky, .ref sm, .int sk])), (st, .inl (cst, 64, .inl stf)), (le, .inl (cle, 64, .inl lef)), (nx, .inl (cnx, 64, .inl nxf)), (ow, .inl (cow, 64, .inl owf)), (bu, .inl (cbu, 256, .inl buf)), (lt, .inr (0, [.ref lta, .int (nI lk)])), (lta, .inl (clt, 512, .inl ltf)), (tx, .inr (0, [.ref txa, .int txk])), (txa, .inl (ctx, txn, .inl txf))]) hD hS hA [0, 1, 2, 3, 4, 5, 6, 7, 8, 9] rfl
              refine va_calli (va_runV (As := [.ref tx, .int fr, .int (nI ln), .int (nI b)]) (rest := []) ⟨hx, hb, hml, hown, htw⟩ (c_Schema_added l dC dI H.size h0 a1 dv md bk a2 a3 a4 wd lt bu st le nx ow sp ky sm sk cst stf cle lef cnx nxf cow owf cbu buf lta clt ltf tx txa ctx txn txf txk sn lk ln b fr (by first | omega | assumption) (by first | omega | assumption) (by first | omega | assumption) (by first | omega | assumption)) (cwV 4 htw (tw_V wd_2_7 wd_2_9 wp_1_2 wd_1_3 k_Schema_added) rfl rfl rfl (by decide +kernel) ⟨Nat.le_of_ble_eq_true rfl, Nat.le_of_ble_eq_true rfl⟩) ⟨fun a U g mk q => by obtain ⟨q0, q1, qP, qK, qD⟩ := q; exact ⟨q0, q1, qP, va_K.moved (u := U) (U := U.calling g mk a) (Vm.Alike.refl U.vm) qK, qD⟩, va_recv hK hP (q := (R_Schema, F_Schema, 19)) (ci := 3) (q0 := 0) rfl rfl, fun U hU hW => ⟨rfl, by rw [hU], by rw [hU]; exact hPc, va_K.moved hW.alike hKc, hDc.weaken (fun _ _ _ _ => trivial)⟩⟩ rfl rfl hl.1 rfl (lv_room (Nat.le_of_ble_eq_true rfl)) d_Schema_symbol_110 ⟨hc0, hs0⟩) hS (fun q _ h => hFc q h) hFc (fun r1 u t H1 locs ht hvm hw hB hz1 hk1 hS => ?_)
              obtain ⟨g2_2, hP1, hK1, hD1⟩ := hB
              rw [ht] at hP1
              have hK1 := va_K.moved hvm.symm hK1
              obtain ⟨hP, hD⟩ := va_join (wr := []) (w1 := [(h0, .inr (3, [.ref a1, .ref dv, .int md, .int bk, .ref a2, .ref a3, .ref a4, .ref wd, .ref lt, .ref bu, .ref st, .ref le, .ref nx, .ref ow, .int (nI (sn + 1)), .ref sp, .ref ky, .ref sm, .int sk])), (st, .inl (cst, 64, .inl (upd stf (nI sn).toNatClampNeg (nI lk)))), (le, .inl (cle, 64, .inl (upd lef (nI sn).toNatClampNeg (nI ln)))), (nx, .inl (cnx, 64, .inl (upd nxf (nI sn).toNatClampNeg (buf (nI b).toNatClampNeg)))), (ow, .inl (cow, 64, .inl (upd owf (nI sn).toNatClampNeg (-1)))), (bu, .inl (cbu, 256, .inl (upd buf (nI b).toNatClampNeg (nI sn)))), (lt, .inr (0, [.ref lta, .int (nI (lk + ln))])), (lta, .inl (clt, 512, .inl g2_2)), (tx, .inr (0, [.ref txa, .int txk])), (txa, .inl (ctx, txn, .inl txf))]) hP hD [0, 1, 2, 3, 4, 5, 6, 7, 8, 9] [] rfl rfl (by decide) (by decide) hk1 hFc hP1 hD1
              have hK := (hK.sub (tys' := []) [] rfl).app hK1
              generalize H1 = H at hP hS ⊢
              have hP : va_P (dC, dI) classes [(h0, .inr (3, [.ref a1, .ref dv, .int md, .int bk, .ref a2, .ref a3, .ref a4, .ref wd, .ref lt, .ref bu, .ref st, .ref le, .ref nx, .ref ow, .int (nI (sn + 1)), .ref sp, .ref ky, .ref sm, .int sk])), (st, .inl (cst, 64, .inl (upd stf (nI sn).toNatClampNeg (nI lk)))), (le, .inl (cle, 64, .inl (upd lef (nI sn).toNatClampNeg (nI ln)))), (nx, .inl (cnx, 64, .inl (upd nxf (nI sn).toNatClampNeg (buf (nI b).toNatClampNeg)))), (ow, .inl (cow, 64, .inl (upd owf (nI sn).toNatClampNeg (-1)))), (bu, .inl (cbu, 256, .inl (upd buf (nI b).toNatClampNeg (nI sn)))), (lt, .inr (0, [.ref lta, .int (nI (lk + ln))])), (lta, .inl (clt, 512, .inl g2_2)), (tx, .inr (0, [.ref txa, .int txk])), (txa, .inl (ctx, txn, .inl txf))] H := hP
              have hD : va_D A [(h0, .inr (3, [.ref a1, .ref dv, .int md, .int bk, .ref a2, .ref a3, .ref a4, .ref wd, .ref lt, .ref bu, .ref st, .ref le, .ref nx, .ref ow, .int (nI (sn + 1)), .ref sp, .ref ky, .ref sm, .int sk])), (st, .inl (cst, 64, .inl (upd stf (nI sn).toNatClampNeg (nI lk)))), (le, .inl (cle, 64, .inl (upd lef (nI sn).toNatClampNeg (nI ln)))), (nx, .inl (cnx, 64, .inl (upd nxf (nI sn).toNatClampNeg (buf (nI b).toNatClampNeg)))), (ow, .inl (cow, 64, .inl (upd owf (nI sn).toNatClampNeg (-1)))), (bu, .inl (cbu, 256, .inl (upd buf (nI b).toNatClampNeg (nI sn)))), (lt, .inr (0, [.ref lta, .int (nI (lk + ln))])), (lta, .inl (clt, 512, .inl g2_2)), (tx, .inr (0, [.ref txa, .int txk])), (txa, .inl (ctx, txn, .inl txf))] := hD
              have hK : va_K (dC, dI) classes [(cst, .int), (cle, .int), (cnx, .int), (cow, .int), (cbu, .int), (clt, .byte), (ctx, .byte)] s := hK
              subst hw
              refine lv_goto (tgt := 117) hx hb d_Schema_symbol_113 rfl ?_
              have hP9 := hP.sub (ws' := [(h0, .inr (3, [.ref a1, .ref dv, .int md, .int bk, .ref a2, .ref a3, .ref a4, .ref wd, .ref lt, .ref bu, .ref st, .ref le, .ref nx, .ref ow, .int (nI (sn + 1)), .ref sp, .ref ky, .ref sm, .int sk])), (st, .inl (cst, 64, .inl (upd stf (nI sn).toNatClampNeg (nI lk)))), (le, .inl (cle, 64, .inl (upd lef (nI sn).toNatClampNeg (nI ln)))), (nx, .inl (cnx, 64, .inl (upd nxf (nI sn).toNatClampNeg (buf (nI b).toNatClampNeg)))), (ow, .inl (cow, 64, .inl (upd owf (nI sn).toNatClampNeg (-1)))), (bu, .inl (cbu, 256, .inl (upd buf (nI b).toNatClampNeg (nI sn)))), (lt, .inr (0, [.ref lta, .int (nI (lk + ln))])), (lta, .inl (clt, 512, .inl g2_2)), (tx, .inr (0, [.ref txa, .int txk])), (txa, .inl (ctx, txn, .inl txf))]) [0, 1, 2, 3, 4, 5, 6, 7, 8, 9] rfl
              have hD9 := hD.sub (ws' := [(h0, .inr (3, [.ref a1, .ref dv, .int md, .int bk, .ref a2, .ref a3, .ref a4, .ref wd, .ref lt, .ref bu, .ref st, .ref le, .ref nx, .ref ow, .int (nI (sn + 1)), .ref sp, .ref ky, .ref sm, .int sk])), (st, .inl (cst, 64, .inl (upd stf (nI sn).toNatClampNeg (nI lk)))), (le, .inl (cle, 64, .inl (upd lef (nI sn).toNatClampNeg (nI ln)))), (nx, .inl (cnx, 64, .inl (upd nxf (nI sn).toNatClampNeg (buf (nI b).toNatClampNeg)))), (ow, .inl (cow, 64, .inl (upd owf (nI sn).toNatClampNeg (-1)))), (bu, .inl (cbu, 256, .inl (upd buf (nI b).toNatClampNeg (nI sn)))), (lt, .inr (0, [.ref lta, .int (nI (lk + ln))])), (lta, .inl (clt, 512, .inl g2_2)), (tx, .inr (0, [.ref txa, .int txk])), (txa, .inl (ctx, txn, .inl txf))]) [0, 1, 2, 3, 4, 5, 6, 7, 8, 9] (by decide) rfl
              have hK9 := hK.sub (tys' := [(cst, .int), (cle, .int), (cnx, .int), (cow, .int), (cbu, .int), (clt, .byte), (ctx, .byte)]) [0, 1, 2, 3, 4, 5, 6] rfl
              refine W.widen (k := 0) (n := 0) (by omega) (by omega) ?_
              exact W.iret (v := nI sn) hx hb hr (fun t ht hW => ⟨⟨nI sn, (), rfl, trivial, ((sn + 1)), ((lk + ln)), (upd stf (nI sn).toNatClampNeg (nI lk)), (upd lef (nI sn).toNatClampNeg (nI ln)), (upd nxf (nI sn).toNatClampNeg (buf (nI b).toNatClampNeg)), (upd owf (nI sn).toNatClampNeg (-1)), (upd buf (nI b).toNatClampNeg (nI sn)), g2_2, by omega, by omega, tz_inv_add hsn hb8 hinv, by rw [ht]; exact hP9, va_K.moved hW.alike hK9, hD9⟩, hS.F ht⟩) hS.2.2 d_Schema_symbol_117
            · obtain ⟨j, rfl⟩ : ∃ j, q = j + 1 := tz_q h3
              rw [nI_pred j] at hl
              have hl : lv_has ls 8 [(7, .int (nI j)), (6, .int (nI b)), (0, .ref h0), (1, .ref tx), (2, .int fr), (3, .int (nI ln)), (4, .int 1)] := hl
              refine lv_aload_n hx hb d_Schema_symbol_62 rfl (lv_at hl 2 rfl) ?_
              refine va_get (D := (dC, dI)) (ci := 3) (v := .ref le) (C := R_Schema) (T := F_Schema) (N := 19) hx hb htw i_Schema hown hK hP 0 rfl rfl 11 (by decide) (htw _ wd_2_33) (fun _ h9 => h9) rfl d_Schema_symbol_63 ?_
              refine lv_iload hx hb d_Schema_symbol_66 (lv_at hl 0 rfl) ?_
              refine va_iald hx hb hK hP 2 1 rfl rfl (vp_in_nI (by omega) (by decide)) d_Schema_symbol_68 ?_
              refine lv_iload_n hx hb d_Schema_symbol_69 rfl (lv_at hl 5 rfl) ?_
              refine lv_icmp_ne (tgt := 87) hx hb d_Schema_symbol_70 rfl (fun h4 => ?_) (fun h4 => ?_)
              · refine lv_aload_n hx hb d_Schema_symbol_87 rfl (lv_at hl 2 rfl) ?_
                refine va_get (D := (dC, dI)) (ci := 3) (v := .ref nx) (C := R_Schema) (T := F_Schema) (N := 19) hx hb htw i_Schema hown hK hP 0 rfl rfl 12 (by decide) (htw _ wd_2_34) (fun _ h9 => h9) rfl d_Schema_symbol_88 ?_
                refine lv_iload hx hb d_Schema_symbol_91 (lv_at hl 0 rfl) ?_
                refine va_iald hx hb hK hP 3 2 rfl rfl (vp_in_nI (by omega) (by decide)) d_Schema_symbol_93 ?_
                obtain ⟨q2, hq2, eq2⟩ := hinv.1 j (by omega)
                refine lv_topi (fun z9 e9 => ?_)
                have e9 : z9 = nI q2 - 1 := e9.trans (by rw [nI_clamp (by omega)]; exact eq2)
                subst e9
                refine lv_istore hx hb d_Schema_symbol_94 hl (by decide) rfl (fun ls hl => ?_)
                have hl : lv_has ls 8 [(7, .int (nI q2 - 1)), (6, .int (nI b)), (0, .ref h0), (1, .ref tx), (2, .int fr), (3, .int (nI ln)), (4, .int 1)] := hl
                refine lv_goto (tgt := 57) hx hb d_Schema_symbol_96 rfl ?_
                exact ih q2 _ _ _ (by omega) (by omega) (lv_sub hl [0, 1, 2, 3, 4, 5, 6] rfl) (hP.sub [0, 1, 2, 3, 4, 5, 6, 7, 8, 9] rfl) (hD.sub [0, 1, 2, 3, 4, 5, 6, 7, 8, 9] (by decide) rfl) hS
              · refine lv_aload_n hx hb d_Schema_symbol_73 rfl (lv_at hl 2 rfl) ?_
                refine lv_iload hx hb d_Schema_symbol_74 (lv_at hl 0 rfl) ?_
                refine lv_aload_n hx hb d_Schema_symbol_76 rfl (lv_at hl 3 rfl) ?_
                refine lv_iload_n hx hb d_Schema_symbol_77 rfl (lv_at hl 4 rfl) ?_
                have hc0 : 0 + 0 ≤ 0 := by omega
                have hs0 : 0 + 0 ≤ 0 := by omega
                have hPc := hP.sub (ws' := [(h0, .inr (3, [.ref a1, .ref dv, .int md, .int bk, .ref a2, .ref a3, .ref a4, .ref wd, .ref lt, .ref bu, .ref st, .ref le, .ref nx, .ref ow, .int (nI sn), .ref sp, .ref ky, .ref sm, .int sk])), (le, .inl (cle, 64, .inl lef)), (st, .inl (cst, 64, .inl stf)), (lt, .inr (0, [.ref lta, .int (nI lk)])), (lta, .inl (clt, 512, .inl ltf)), (tx, .inr (0, [.ref txa, .int txk])), (txa, .inl (ctx, txn, .inl txf))]) [0, 2, 1, 6, 7, 8, 9] rfl
                have hDc := hD.sub (ws' := [(h0, .inr (3, [.ref a1, .ref dv, .int md, .int bk, .ref a2, .ref a3, .ref a4, .ref wd, .ref lt, .ref bu, .ref st, .ref le, .ref nx, .ref ow, .int (nI sn), .ref sp, .ref ky, .ref sm, .int sk])), (le, .inl (cle, 64, .inl lef)), (st, .inl (cst, 64, .inl stf)), (lt, .inr (0, [.ref lta, .int (nI lk)])), (lta, .inl (clt, 512, .inl ltf)), (tx, .inr (0, [.ref txa, .int txk])), (txa, .inl (ctx, txn, .inl txf))]) [0, 2, 1, 6, 7, 8, 9] (by decide) rfl
                have hKc := hK.sub (tys' := [(cle, .int), (cst, .int), (clt, .byte), (ctx, .byte)]) [1, 0, 5, 6] rfl
                have hFc := va_free (wc := [(h0, .inr (3, [.ref a1, .ref dv, .int md, .int bk, .ref a2, .ref a3, .ref a4, .ref wd, .ref lt, .ref bu, .ref st, .ref le, .ref nx, .ref ow, .int (nI sn), .ref sp, .ref ky, .ref sm, .int sk])), (le, .inl (cle, 64, .inl lef)), (st, .inl (cst, 64, .inl stf)), (lt, .inr (0, [.ref lta, .int (nI lk)])), (lta, .inl (clt, 512, .inl ltf)), (tx, .inr (0, [.ref txa, .int txk])), (txa, .inl (ctx, txn, .inl txf))]) hD hS hA [0, 2, 1, 6, 7, 8, 9] rfl
                refine va_calli (va_runV (As := [.int (nI j), .ref tx, .int fr]) (rest := []) ⟨hx, hb, hml, hown, htw⟩ (c_Schema_isName l dC dI H.size h0 a1 dv md bk a2 a3 a4 wd lt bu st le nx ow (nI sn) sp ky sm sk cle lef cst stf lta clt ltf (nI lk) tx txa ctx txn txf txk j fr (by first | omega | assumption) (by first | omega | assumption)) (cwV 3 htw (tw_V wd_2_3 wd_2_5 wp_1_1 wd_1_3 k_Schema_isName) rfl rfl rfl (by decide +kernel) ⟨Nat.le_of_ble_eq_true rfl, Nat.le_of_ble_eq_true rfl⟩) ⟨fun a U g mk q => by obtain ⟨q0, q1, qP, qK, qD⟩ := q; exact ⟨q0, q1, qP, va_K.moved (u := U) (U := U.calling g mk a) (Vm.Alike.refl U.vm) qK, qD⟩, va_recv hK hP (q := (R_Schema, F_Schema, 19)) (ci := 3) (q0 := 0) rfl rfl, fun U hU hW => ⟨rfl, by rw [hU], by rw [hU]; exact hPc, va_K.moved hW.alike hKc, hDc.weaken (fun _ _ _ _ => trivial)⟩⟩ rfl rfl hl.1 rfl (lv_room (Nat.le_of_ble_eq_true rfl)) d_Schema_symbol_78 ⟨hc0, hs0⟩) hS (fun q _ h => hFc q h) hFc (fun r3 u t H1 locs ht hvm hw hB hz1 hk1 hS => ?_)
                obtain ⟨hP1, hK1, hD1⟩ := hB
                rw [ht] at hP1
                have hK1 := va_K.moved hvm.symm hK1
                obtain ⟨hP, hD⟩ := va_join (wr := [(nx, .inl (cnx, 64, .inl nxf)), (ow, .inl (cow, 64, .inl owf)), (bu, .inl (cbu, 256, .inl buf))]) (w1 := [(h0, .inr (3, [.ref a1, .ref dv, .int md, .int bk, .ref a2, .ref a3, .ref a4, .ref wd, .ref lt, .ref bu, .ref st, .ref le, .ref nx, .ref ow, .int (nI sn), .ref sp, .ref ky, .ref sm, .int sk])), (le, .inl (cle, 64, .inl lef)), (st, .inl (cst, 64, .inl stf)), (lt, .inr (0, [.ref lta, .int (nI lk)])), (lta, .inl (clt, 512, .inl ltf)), (tx, .inr (0, [.ref txa, .int txk])), (txa, .inl (ctx, txn, .inl txf))]) hP hD [0, 2, 1, 6, 7, 8, 9] [3, 4, 5] rfl rfl (by decide) (by decide) hk1 hFc hP1 hD1
                have hK := (hK.sub (tys' := [(cnx, .int), (cow, .int), (cbu, .int)]) [2, 3, 4] rfl).app hK1
                generalize H1 = H at hP hS ⊢
                have hP : va_P (dC, dI) classes [(nx, .inl (cnx, 64, .inl nxf)), (ow, .inl (cow, 64, .inl owf)), (bu, .inl (cbu, 256, .inl buf)), (h0, .inr (3, [.ref a1, .ref dv, .int md, .int bk, .ref a2, .ref a3, .ref a4, .ref wd, .ref lt, .ref bu, .ref st, .ref le, .ref nx, .ref ow, .int (nI sn), .ref sp, .ref ky, .ref sm, .int sk])), (le, .inl (cle, 64, .inl lef)), (st, .inl (cst, 64, .inl stf)), (lt, .inr (0, [.ref lta, .int (nI lk)])), (lta, .inl (clt, 512, .inl ltf)), (tx, .inr (0, [.ref txa, .int txk])), (txa, .inl (ctx, txn, .inl txf))] H := hP
                have hD : va_D A [(nx, .inl (cnx, 64, .inl nxf)), (ow, .inl (cow, 64, .inl owf)), (bu, .inl (cbu, 256, .inl buf)), (h0, .inr (3, [.ref a1, .ref dv, .int md, .int bk, .ref a2, .ref a3, .ref a4, .ref wd, .ref lt, .ref bu, .ref st, .ref le, .ref nx, .ref ow, .int (nI sn), .ref sp, .ref ky, .ref sm, .int sk])), (le, .inl (cle, 64, .inl lef)), (st, .inl (cst, 64, .inl stf)), (lt, .inr (0, [.ref lta, .int (nI lk)])), (lta, .inl (clt, 512, .inl ltf)), (tx, .inr (0, [.ref txa, .int txk])), (txa, .inl (ctx, txn, .inl txf))] := hD
                have hK : va_K (dC, dI) classes [(cnx, .int), (cow, .int), (cbu, .int), (cle, .int), (cst, .int), (clt, .byte), (ctx, .byte)] s := hK
                have hw_r3 := hw
                refine lv_if_eq (tgt := 87) hx hb d_Schema_symbol_81 rfl (fun h5 => ?_) (fun h5 => ?_)
                · refine lv_aload_n hx hb d_Schema_symbol_87 rfl (lv_at hl 2 rfl) ?_
                  refine va_get (D := (dC, dI)) (ci := 3) (v := .ref nx) (C := R_Schema) (T := F_Schema) (N := 19) hx hb htw i_Schema hown hK hP 3 rfl rfl 12 (by decide) (htw _ wd_2_34) (fun _ h9 => h9) rfl d_Schema_symbol_88 ?_
                  refine lv_iload hx hb d_Schema_symbol_91 (lv_at hl 0 rfl) ?_
                  refine va_iald hx hb hK hP 0 0 rfl rfl (vp_in_nI (by omega) (by decide)) d_Schema_symbol_93 ?_
                  obtain ⟨q2, hq2, eq2⟩ := hinv.1 j (by omega)
                  refine lv_topi (fun z9 e9 => ?_)
                  have e9 : z9 = nI q2 - 1 := e9.trans (by rw [nI_clamp (by omega)]; exact eq2)
                  subst e9
                  refine lv_istore hx hb d_Schema_symbol_94 hl (by decide) rfl (fun ls hl => ?_)
                  have hl : lv_has ls 8 [(7, .int (nI q2 - 1)), (6, .int (nI b)), (0, .ref h0), (1, .ref tx), (2, .int fr), (3, .int (nI ln)), (4, .int 1)] := hl
                  refine lv_goto (tgt := 57) hx hb d_Schema_symbol_96 rfl ?_
                  exact ih q2 _ _ _ (by omega) (by omega) (lv_sub hl [0, 1, 2, 3, 4, 5, 6] rfl) (hP.sub [3, 5, 4, 0, 1, 2, 6, 7, 8, 9] rfl) (hD.sub [3, 5, 4, 0, 1, 2, 6, 7, 8, 9] (by decide) rfl) hS
                · refine lv_iload hx hb d_Schema_symbol_84 (lv_at hl 0 rfl) ?_
                  have hP9 := hP.sub (ws' := [(h0, .inr (3, [.ref a1, .ref dv, .int md, .int bk, .ref a2, .ref a3, .ref a4, .ref wd, .ref lt, .ref bu, .ref st, .ref le, .ref nx, .ref ow, .int (nI sn), .ref sp, .ref ky, .ref sm, .int sk])), (st, .inl (cst, 64, .inl stf)), (le, .inl (cle, 64, .inl lef)), (nx, .inl (cnx, 64, .inl nxf)), (ow, .inl (cow, 64, .inl owf)), (bu, .inl (cbu, 256, .inl buf)), (lt, .inr (0, [.ref lta, .int (nI lk)])), (lta, .inl (clt, 512, .inl ltf)), (tx, .inr (0, [.ref txa, .int txk])), (txa, .inl (ctx, txn, .inl txf))]) [3, 5, 4, 0, 1, 2, 6, 7, 8, 9] rfl
                  have hD9 := hD.sub (ws' := [(h0, .inr (3, [.ref a1, .ref dv, .int md, .int bk, .ref a2, .ref a3, .ref a4, .ref wd, .ref lt, .ref bu, .ref st, .ref le, .ref nx, .ref ow, .int (nI sn), .ref sp, .ref ky, .ref sm, .int sk])), (st, .inl (cst, 64, .inl stf)), (le, .inl (cle, 64, .inl lef)), (nx, .inl (cnx, 64, .inl nxf)), (ow, .inl (cow, 64, .inl owf)), (bu, .inl (cbu, 256, .inl buf)), (lt, .inr (0, [.ref lta, .int (nI lk)])), (lta, .inl (clt, 512, .inl ltf)), (tx, .inr (0, [.ref txa, .int txk])), (txa, .inl (ctx, txn, .inl txf))]) [3, 5, 4, 0, 1, 2, 6, 7, 8, 9] (by decide) rfl
                  have hK9 := hK.sub (tys' := [(cst, .int), (cle, .int), (cnx, .int), (cow, .int), (cbu, .int), (clt, .byte), (ctx, .byte)]) [4, 3, 0, 1, 2, 5, 6] rfl
                  refine W.widen (k := 0) (n := 0) (by omega) (by omega) ?_
                  exact W.iret (v := nI j) hx hb hr (fun t ht hW => ⟨⟨nI j, (), rfl, trivial, sn, lk, stf, lef, nxf, owf, buf, ltf, by omega, by omega, hinv, by rw [ht]; exact hP9, va_K.moved hW.alike hK9, hD9⟩, hS.F ht⟩) hS.2.2 d_Schema_symbol_86
        exact lp2 (q + 1) q _ _ _ hq (Nat.lt_succ_self _) (lv_sub hl [0, 1, 3, 4, 5, 6, 7] rfl) (hP.sub [0, 1, 2, 3, 4, 5, 6, 7, 8, 9] rfl) (hD.sub [0, 1, 2, 3, 4, 5, 6, 7, 8, 9] (by decide) rfl) hS
      · have h2 : i < ln := by have := (not_congr (nI_leI (by omega) (by omega))).mp h1; omega
        refine lv_bipush (v := 31) hx hb d_Schema_symbol_12 (by decide) ?_
        refine lv_iload hx hb d_Schema_symbol_14 (lv_at hl 1 rfl) ?_
        refine lv_imul hx hb d_Schema_symbol_16 ?_
        refine lv_aload_n hx hb d_Schema_symbol_17 rfl (lv_at hl 3 rfl) ?_
        refine lv_iload_n hx hb d_Schema_symbol_18 rfl (lv_at hl 4 rfl) ?_
        refine lv_iload hx hb d_Schema_symbol_19 (lv_at hl 0 rfl) ?_
        refine lv_iadd hx hb d_Schema_symbol_21 ?_
        have hc0 : 0 + 0 ≤ 0 := by omega
        have hs0 : 0 + 0 ≤ 0 := by omega
        have hPc := hP.sub (ws' := [(tx, .inr (0, [.ref txa, .int txk])), (txa, .inl (ctx, txn, .inl txf))]) [8, 9] rfl
        have hDc := hD.sub (ws' := [(tx, .inr (0, [.ref txa, .int txk])), (txa, .inl (ctx, txn, .inl txf))]) [8, 9] (by decide) rfl
        have hKc := hK.sub (tys' := [(ctx, .byte)]) [6] rfl
        have hFc := va_free (wc := [(tx, .inr (0, [.ref txa, .int txk])), (txa, .inl (ctx, txn, .inl txf))]) hD hS hA [8, 9] rfl
        refine va_calli (va_runV (As := [.int (fr + (nI i))]) (rest := [.int (31 * hs)]) ⟨hx, hb, hml, hown, htw⟩ (c_Bytes_get l dC dI H.size tx txa ctx txn txf txk (fr + (nI i)) (by first | omega | assumption)) (cwV 1 htw (tw_V wd_1_235 wd_1_236 wd_1_237 wd_1_2 k_Bytes_get) rfl rfl rfl (by decide +kernel) ⟨Nat.le_of_ble_eq_true rfl, Nat.le_of_ble_eq_true rfl⟩) ⟨fun a U g mk q => by obtain ⟨q0, q1, qP, qK, qD⟩ := q; exact ⟨q0, q1, qP, va_K.moved (u := U) (U := U.calling g mk a) (Vm.Alike.refl U.vm) qK, qD⟩, va_recv hK hP (q := (R_Bytes, F_Bytes, 2)) (ci := 0) (q0 := 8) rfl rfl, fun U hU hW => ⟨rfl, by rw [hU], by rw [hU]; exact hPc, va_K.moved hW.alike hKc, hDc.weaken (fun _ _ _ _ => trivial)⟩⟩ rfl rfl hl.1 rfl (lv_room (Nat.le_of_ble_eq_true rfl)) d_Schema_symbol_22 ⟨hc0, hs0⟩) hS (fun q _ h => hFc q h) hFc (fun r4 u t H1 locs ht hvm hw hB hz1 hk1 hS => ?_)
        obtain ⟨hP1, hK1, hD1⟩ := hB
        rw [ht] at hP1
        have hK1 := va_K.moved hvm.symm hK1
        obtain ⟨hP, hD⟩ := va_join (wr := [(h0, .inr (3, [.ref a1, .ref dv, .int md, .int bk, .ref a2, .ref a3, .ref a4, .ref wd, .ref lt, .ref bu, .ref st, .ref le, .ref nx, .ref ow, .int (nI sn), .ref sp, .ref ky, .ref sm, .int sk])), (st, .inl (cst, 64, .inl stf)), (le, .inl (cle, 64, .inl lef)), (nx, .inl (cnx, 64, .inl nxf)), (ow, .inl (cow, 64, .inl owf)), (bu, .inl (cbu, 256, .inl buf)), (lt, .inr (0, [.ref lta, .int (nI lk)])), (lta, .inl (clt, 512, .inl ltf))]) (w1 := [(tx, .inr (0, [.ref txa, .int txk])), (txa, .inl (ctx, txn, .inl txf))]) hP hD [8, 9] [0, 1, 2, 3, 4, 5, 6, 7] rfl rfl (by decide) (by decide) hk1 hFc hP1 hD1
        have hK := (hK.sub (tys' := [(cst, .int), (cle, .int), (cnx, .int), (cow, .int), (cbu, .int), (clt, .byte)]) [0, 1, 2, 3, 4, 5] rfl).app hK1
        generalize H1 = H at hP hS ⊢
        have hP : va_P (dC, dI) classes [(h0, .inr (3, [.ref a1, .ref dv, .int md, .int bk, .ref a2, .ref a3, .ref a4, .ref wd, .ref lt, .ref bu, .ref st, .ref le, .ref nx, .ref ow, .int (nI sn), .ref sp, .ref ky, .ref sm, .int sk])), (st, .inl (cst, 64, .inl stf)), (le, .inl (cle, 64, .inl lef)), (nx, .inl (cnx, 64, .inl nxf)), (ow, .inl (cow, 64, .inl owf)), (bu, .inl (cbu, 256, .inl buf)), (lt, .inr (0, [.ref lta, .int (nI lk)])), (lta, .inl (clt, 512, .inl ltf)), (tx, .inr (0, [.ref txa, .int txk])), (txa, .inl (ctx, txn, .inl txf))] H := hP
        have hD : va_D A [(h0, .inr (3, [.ref a1, .ref dv, .int md, .int bk, .ref a2, .ref a3, .ref a4, .ref wd, .ref lt, .ref bu, .ref st, .ref le, .ref nx, .ref ow, .int (nI sn), .ref sp, .ref ky, .ref sm, .int sk])), (st, .inl (cst, 64, .inl stf)), (le, .inl (cle, 64, .inl lef)), (nx, .inl (cnx, 64, .inl nxf)), (ow, .inl (cow, 64, .inl owf)), (bu, .inl (cbu, 256, .inl buf)), (lt, .inr (0, [.ref lta, .int (nI lk)])), (lta, .inl (clt, 512, .inl ltf)), (tx, .inr (0, [.ref txa, .int txk])), (txa, .inl (ctx, txn, .inl txf))] := hD
        have hK : va_K (dC, dI) classes [(cst, .int), (cle, .int), (cnx, .int), (cow, .int), (cbu, .int), (clt, .byte), (ctx, .byte)] s := hK
        subst hw
        refine lv_iadd hx hb d_Schema_symbol_25 ?_
        refine lv_istore hx hb d_Schema_symbol_26 hl (by decide) rfl (fun ls hl => ?_)
        have hl : lv_has ls 8 [(5, .int ((31 * hs) + (tz_gb txn txf txk (fr + (nI i))))), (6, .int (nI i)), (0, .ref h0), (1, .ref tx), (2, .int fr), (3, .int (nI ln)), (4, .int 1)] := hl
        refine lv_iinc (k := 1) (v := nI (i + 1)) hx hb d_Schema_symbol_28 hl rfl (nI_1 i) (by decide) rfl (fun ls hl => ?_)
        have hl : lv_has ls 8 [(6, .int (nI (i + 1))), (5, .int ((31 * hs) + (tz_gb txn txf txk (fr + (nI i))))), (0, .ref h0), (1, .ref tx), (2, .int fr), (3, .int (nI ln)), (4, .int 1)] := hl
        refine lv_goto (tgt := 6) hx hb d_Schema_symbol_31 rfl ?_
        exact ih ((i + 1)) ((31 * hs) + (tz_gb txn txf txk (fr + (nI i)))) _ _ _ (by omega) (by omega) (lv_sub hl [0, 1, 2, 3, 4, 5, 6] rfl) (hP.sub [0, 1, 2, 3, 4, 5, 6, 7, 8, 9] rfl) (hD.sub [0, 1, 2, 3, 4, 5, 6, 7, 8, 9] (by decide) rfl) hS
  exact lp ((ln - 0) + 1) 0 ((nI ln)) _ _ _ (by omega) (Nat.lt_succ_self _) (lv_sub hl [0, 1, 2, 3, 4, 5, 6] rfl) (hP.sub [0, 1, 2, 3, 4, 5, 6, 7, 8, 9] rfl) (hD.sub [0, 1, 2, 3, 4, 5, 6, 7, 8, 9] (by decide) rfl) hS
