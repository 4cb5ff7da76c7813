/-! by program (wip/p1) -/
theorem wd_1_12 : Cond.initialized "java/util/Arrays" ∈ tw_tbl := tw_t1 (List.mem_of_getElem? (i := 12) rfl) rfl
theorem wd_1_232 : Cond.methodLink "SyntaxForge$Schema" 103 ⟨"java/util/Arrays", "fill", "([II)V"⟩ ∈ tw_tbl := tw_t1 (List.mem_of_getElem? (i := 232) rfl) rfl
theorem wd_1_233 : Cond.static ⟨"java/util/Arrays", "fill", "([II)V"⟩ ∈ tw_tbl := tw_t1 (List.mem_of_getElem? (i := 233) rfl) rfl
theorem wd_2_29 : Cond.fieldLink "SyntaxForge$Schema" 47 "SyntaxForge$Schema" "words" "LSyntaxForge$Bytes;" ∈ tw_tbl := tw_t2 (List.mem_of_getElem? (i := 29) rfl) rfl
theorem wd_1_239 : Cond.methodLink "SyntaxForge$Schema" 119 ⟨"SyntaxForge$Schema", "symbol", "(LSyntaxForge$Bytes;IIZ)I"⟩ ∈ tw_tbl := tw_t1 (List.mem_of_getElem? (i := 239) rfl) rfl
theorem wd_2_0 : Cond.instanceMethod ⟨"SyntaxForge$Schema", "symbol", "(LSyntaxForge$Bytes;IIZ)I"⟩ ∈ tw_tbl := tw_t2 (List.mem_of_getElem? (i := 0) rfl) rfl
theorem wd_2_1 : Cond.selects "SyntaxForge$Schema" ⟨"SyntaxForge$Schema", "symbol", "(LSyntaxForge$Bytes;IIZ)I"⟩ ⟨"SyntaxForge$Schema", "symbol", "(LSyntaxForge$Bytes;IIZ)I"⟩ ∈ tw_tbl := tw_t2 (List.mem_of_getElem? (i := 1) rfl) rfl
def y_Schema_keepWords : MethodName := ⟨"SyntaxForge$Schema", "keepWords", "()V"⟩
abbrev b_Schema_keepWords : ByteArray := prog_10_method_4_code
abbrev cd_Schema_keepWords : Cond := .code y_Schema_keepWords b_Schema_keepWords 3 none
abbrev ws_Schema_keepWords : List Cond := cd_Schema_keepWords :: tw_tbl
theorem k_Schema_keepWords : cd_Schema_keepWords ∈ tw_tbl := tw_t1 (List.mem_of_getElem? (i := 231) rfl) rfl
theorem d_Schema_keepWords_0 : decode b_Schema_keepWords 0 = .ok (.aload_n 0, 1) := by decide +kernel
theorem d_Schema_keepWords_1 : decode b_Schema_keepWords 1 = .ok (.getfield 61, 3) := by decide +kernel
theorem d_Schema_keepWords_4 : decode b_Schema_keepWords 4 = .ok (.iconst (-1), 1) := by decide +kernel
theorem d_Schema_keepWords_5 : decode b_Schema_keepWords 5 = .ok (.invokestatic 103, 3) := by decide +kernel
theorem d_Schema_keepWords_8 : decode b_Schema_keepWords 8 = .ok (.aload_n 0, 1) := by decide +kernel
theorem d_Schema_keepWords_9 : decode b_Schema_keepWords 9 = .ok (.getfield 58, 3) := by decide +kernel
theorem d_Schema_keepWords_12 : decode b_Schema_keepWords 12 = .ok (.iconst 0, 1) := by decide +kernel
theorem d_Schema_keepWords_13 : decode b_Schema_keepWords 13 = .ok (.putfield 109, 3) := by decide +kernel
theorem d_Schema_keepWords_16 : decode b_Schema_keepWords 16 = .ok (.aload_n 0, 1) := by decide +kernel
theorem d_Schema_keepWords_17 : decode b_Schema_keepWords 17 = .ok (.iconst 0, 1) := by decide +kernel
theorem d_Schema_keepWords_18 : decode b_Schema_keepWords 18 = .ok (.putfield 112, 3) := by decide +kernel
theorem d_Schema_keepWords_21 : decode b_Schema_keepWords 21 = .ok (.iconst 0, 1) := by decide +kernel
theorem d_Schema_keepWords_22 : decode b_Schema_keepWords 22 = .ok (.istore_n 1, 1) := by decide +kernel
theorem d_Schema_keepWords_23 : decode b_Schema_keepWords 23 = .ok (.iconst 0, 1) := by decide +kernel
theorem d_Schema_keepWords_24 : decode b_Schema_keepWords 24 = .ok (.istore_n 2, 1) := by decide +kernel
theorem d_Schema_keepWords_25 : decode b_Schema_keepWords 25 = .ok (.iload_n 2, 1) := by decide +kernel
theorem d_Schema_keepWords_26 : decode b_Schema_keepWords 26 = .ok (.aload_n 0, 1) := by decide +kernel
theorem d_Schema_keepWords_27 : decode b_Schema_keepWords 27 = .ok (.getfield 47, 3) := by decide +kernel
theorem d_Schema_keepWords_30 : decode b_Schema_keepWords 30 = .ok (.getfield 109, 3) := by decide +kernel
theorem d_Schema_keepWords_33 : decode b_Schema_keepWords 33 = .ok (.if_icmp .gt 51, 3) := by decide +kernel
theorem d_Schema_keepWords_36 : decode b_Schema_keepWords 36 = .ok (.iload_n 2, 1) := by decide +kernel
theorem d_Schema_keepWords_37 : decode b_Schema_keepWords 37 = .ok (.aload_n 0, 1) := by decide +kernel
theorem d_Schema_keepWords_38 : decode b_Schema_keepWords 38 = .ok (.getfield 47, 3) := by decide +kernel
theorem d_Schema_keepWords_41 : decode b_Schema_keepWords 41 = .ok (.getfield 109, 3) := by decide +kernel
theorem d_Schema_keepWords_44 : decode b_Schema_keepWords 44 = .ok (.if_icmp .eq 16, 3) := by decide +kernel
theorem d_Schema_keepWords_47 : decode b_Schema_keepWords 47 = .ok (.aload_n 0, 1) := by decide +kernel
theorem d_Schema_keepWords_48 : decode b_Schema_keepWords 48 = .ok (.getfield 47, 3) := by decide +kernel
theorem d_Schema_keepWords_51 : decode b_Schema_keepWords 51 = .ok (.iload_n 2, 1) := by decide +kernel
theorem d_Schema_keepWords_52 : decode b_Schema_keepWords 52 = .ok (.invokevirtual 115, 3) := by decide +kernel
theorem d_Schema_keepWords_55 : decode b_Schema_keepWords 55 = .ok (.bipush 32, 2) := by decide +kernel
theorem d_Schema_keepWords_57 : decode b_Schema_keepWords 57 = .ok (.if_icmp .ne 21, 3) := by decide +kernel
theorem d_Schema_keepWords_60 : decode b_Schema_keepWords 60 = .ok (.aload_n 0, 1) := by decide +kernel
theorem d_Schema_keepWords_61 : decode b_Schema_keepWords 61 = .ok (.aload_n 0, 1) := by decide +kernel
theorem d_Schema_keepWords_62 : decode b_Schema_keepWords 62 = .ok (.getfield 47, 3) := by decide +kernel
theorem d_Schema_keepWords_65 : decode b_Schema_keepWords 65 = .ok (.iload_n 1, 1) := by decide +kernel
theorem d_Schema_keepWords_66 : decode b_Schema_keepWords 66 = .ok (.iload_n 2, 1) := by decide +kernel
theorem d_Schema_keepWords_67 : decode b_Schema_keepWords 67 = .ok (.iload_n 1, 1) := by decide +kernel
theorem d_Schema_keepWords_68 : decode b_Schema_keepWords 68 = .ok (.isub, 1) := by decide +kernel
theorem d_Schema_keepWords_69 : decode b_Schema_keepWords 69 = .ok (.iconst 1, 1) := by decide +kernel
theorem d_Schema_keepWords_70 : decode b_Schema_keepWords 70 = .ok (.invokevirtual 119, 3) := by decide +kernel
theorem d_Schema_keepWords_73 : decode b_Schema_keepWords 73 = .ok (.pop, 1) := by decide +kernel
theorem d_Schema_keepWords_74 : decode b_Schema_keepWords 74 = .ok (.iload_n 2, 1) := by decide +kernel
theorem d_Schema_keepWords_75 : decode b_Schema_keepWords 75 = .ok (.iconst 1, 1) := by decide +kernel
theorem d_Schema_keepWords_76 : decode b_Schema_keepWords 76 = .ok (.iadd, 1) := by decide +kernel
theorem d_Schema_keepWords_77 : decode b_Schema_keepWords 77 = .ok (.istore_n 1, 1) := by decide +kernel
theorem d_Schema_keepWords_78 : decode b_Schema_keepWords 78 = .ok (.iinc 2 1, 3) := by decide +kernel
theorem d_Schema_keepWords_81 : decode b_Schema_keepWords 81 = .ok (.goto (-56), 3) := by decide +kernel
theorem d_Schema_keepWords_84 : decode b_Schema_keepWords 84 = .ok (.return_, 1) := by decide +kernel
set_option maxHeartbeats 4000000 in
set_option maxRecDepth 100000 in
theorem c_Schema_keepWords (l : Launch) (dC : Nat → ClassId) (dI : Nat → Nat → Nat) (sz : Nat) (h0 : Nat) (a1 : Nat) (dv : Nat) (md : Int32) (bk : Int32) (a2 : Nat) (a3 : Nat) (a4 : Nat) (wd : Nat) (lt : Nat) (bu : Nat) (st : Nat) (le : Nat) (nx : Nat) (ow : Nat) (sy : Int32) (sp : Nat) (ky : Nat) (sm : Nat) (sk : Int32) (cst : ClassId) (stf : Nat → Int32) (cle : ClassId) (lef : Nat → Int32) (cnx : ClassId) (nxf : Nat → Int32) (cow : ClassId) (owf : Nat → Int32) (cbu : ClassId) (buf : Nat → Int32) (lta : Nat) (clt : ClassId) (ltf : Nat → Int32) (ltk : Int32) (wda : Nat) (cwd : ClassId) (wf : Nat → Int32) (hwf : ∀ j, j < 280 → wf j = tz_wb j) : Met l y_Schema_keepWords ws_Schema_keepWords ({ frames := 3, cells := 0, slots := 0, locals := 73 }) (va_Pc [.ref h0] (fun U => U.heap.size = sz ∧ va_P (dC, dI) classes [(h0, .inr (3, [.ref a1, .ref dv, .int md, .int bk, .ref a2, .ref a3, .ref a4, .ref wd, .ref lt, .ref bu, .ref st, .ref le, .ref nx, .ref ow, .int sy, .ref sp, .ref ky, .ref sm, .int sk])), (st, .inl (cst, 64, .inl stf)), (le, .inl (cle, 64, .inl lef)), (nx, .inl (cnx, 64, .inl nxf)), (ow, .inl (cow, 64, .inl owf)), (bu, .inl (cbu, 256, .inl buf)), (lt, .inr (0, [.ref lta, .int ltk])), (lta, .inl (clt, 512, .inl ltf)), (wd, .inr (0, [.ref wda, .int (nI 280)])), (wda, .inl (cwd, 280, .inl wf))] U.heap ∧ va_K (dC, dI) classes [(cst, .int), (cle, .int), (cnx, .int), (cow, .int), (cbu, .int), (clt, .byte), (cwd, .byte)] U ∧ va_D (fun _ => True) [(h0, .inr (3, [.ref a1, .ref dv, .int md, .int bk, .ref a2, .ref a3, .ref a4, .ref wd, .ref lt, .ref bu, .ref st, .ref le, .ref nx, .ref ow, .int sy, .ref sp, .ref ky, .ref sm, .int sk])), (st, .inl (cst, 64, .inl stf)), (le, .inl (cle, 64, .inl lef)), (nx, .inl (cnx, 64, .inl nxf)), (ow, .inl (cow, 64, .inl owf)), (bu, .inl (cbu, 256, .inl buf)), (lt, .inr (0, [.ref lta, .int ltk])), (lta, .inl (clt, 512, .inl ltf)), (wd, .inr (0, [.ref wda, .int (nI 280)])), (wda, .inl (cwd, 280, .inl wf))])) (va_Qv (fun _ : Unit => True) (fun _ t => ∃ (s2 : Nat) (k2 : Nat) (g1 : Nat → Int32) (g2 : Nat → Int32) (g3 : Nat → Int32) (g4 : Nat → Int32) (g5 : Nat → Int32) (g6 : Nat → Int32), va_P (dC, dI) classes [(h0, .inr (3, [.ref a1, .ref dv, .int md, .int bk, .ref a2, .ref a3, .ref a4, .ref wd, .ref lt, .ref bu, .ref st, .ref le, .ref nx, .ref ow, .int (nI s2), .ref sp, .ref ky, .ref sm, .int sk])), (st, .inl (cst, 64, .inl g1)), (le, .inl (cle, 64, .inl g2)), (nx, .inl (cnx, 64, .inl g3)), (ow, .inl (cow, 64, .inl g4)), (bu, .inl (cbu, 256, .inl g5)), (lt, .inr (0, [.ref lta, .int (nI k2)])), (lta, .inl (clt, 512, .inl g6)), (wd, .inr (0, [.ref wda, .int (nI 280)])), (wda, .inl (cwd, 280, .inl wf))] t.heap ∧ va_K (dC, dI) classes [(cst, .int), (cle, .int), (cnx, .int), (cow, .int), (cbu, .int), (clt, .byte), (cwd, .byte)] t ∧ va_D (va_A [(h0, .inr (3, [.ref a1, .ref dv, .int md, .int bk, .ref a2, .ref a3, .ref a4, .ref wd, .ref lt, .ref bu, .ref st, .ref le, .ref nx, .ref ow, .int sy, .ref sp, .ref ky, .ref sm, .int sk])), (st, .inl (cst, 64, .inl stf)), (le, .inl (cle, 64, .inl lef)), (nx, .inl (cnx, 64, .inl nxf)), (ow, .inl (cow, 64, .inl owf)), (bu, .inl (cbu, 256, .inl buf)), (lt, .inr (0, [.ref lta, .int ltk])), (lta, .inl (clt, 512, .inl ltf)), (wd, .inr (0, [.ref wda, .int (nI 280)])), (wda, .inl (cwd, 280, .inl wf))] sz) [(h0, .inr (3, [.ref a1, .ref dv, .int md, .int bk, .ref a2, .ref a3, .ref a4, .ref wd, .ref lt, .ref bu, .ref st, .ref le, .ref nx, .ref ow, .int (nI s2), .ref sp, .ref ky, .ref sm, .int sk])), (st, .inl (cst, 64, .inl g1)), (le, .inl (cle, 64, .inl g2)), (nx, .inl (cnx, 64, .inl g3)), (ow, .inl (cow, 64, .inl g4)), (bu, .inl (cbu, 256, .inl g5)), (lt, .inr (0, [.ref lta, .int (nI k2)])), (lta, .inl (clt, 512, .inl g6)), (wd, .inr (0, [.ref wda, .int (nI 280)])), (wda, .inl (cwd, 280, .inl wf))]) (va_A [(h0, .inr (3, [.ref a1, .ref dv, .int md, .int bk, .ref a2, .ref a3, .ref a4, .ref wd, .ref lt, .ref bu, .ref st, .ref le, .ref nx, .ref ow, .int sy, .ref sp, .ref ky, .ref sm, .int sk])), (st, .inl (cst, 64, .inl stf)), (le, .inl (cle, 64, .inl lef)), (nx, .inl (cnx, 64, .inl nxf)), (ow, .inl (cow, 64, .inl owf)), (bu, .inl (cbu, 256, .inl buf)), (lt, .inr (0, [.ref lta, .int ltk])), (lta, .inl (clt, 512, .inl ltf)), (wd, .inr (0, [.ref wda, .int (nI 280)])), (wda, .inl (cwd, 280, .inl wf))] sz)) 0 0 (va_A [(h0, .inr (3, [.ref a1, .ref dv, .int md, .int bk, .ref a2, .ref a3, .ref a4, .ref wd, .ref lt, .ref bu, .ref st, .ref le, .ref nx, .ref ow, .int sy, .ref sp, .ref ky, .ref sm, .int sk])), (st, .inl (cst, 64, .inl stf)), (le, .inl (cle, 64, .inl lef)), (nx, .inl (cnx, 64, .inl nxf)), (ow, .inl (cow, 64, .inl owf)), (bu, .inl (cbu, 256, .inl buf)), (lt, .inr (0, [.ref lta, .int ltk])), (lta, .inl (clt, 512, .inl ltf)), (wd, .inr (0, [.ref wda, .int (nI 280)])), (wda, .inl (cwd, 280, .inl wf))] sz) := by
  refine Met.ofW (cc := b_Schema_keepWords) (maxL := 3) (ret := none) (by decide) rfl ?_
  intro p e s m args below meth c s₁ B hml hv
  obtain ⟨rfl, hsz, hP, hK, hD0⟩ := hv
  have hx := B.exec
  have hb := B.bytes
  have hr := B.returns
  have hts := atoms_spec (ws := ws_Schema_keepWords) B.pre
  have htw : ∀ w ∈ tw_tbl, w.before [.ref h0].toArray s = true := fun w h => hts w (List.mem_cons_of_mem _ h)
  have hown : s.vm.findClass R_Schema = some m.cls := findClass_of_methodNamed B.named
  have hlocks := B.notSynchronized
  have hin : meth.name = "keepWords" := (name_of_methodNamed B.named B.method).1
  subst hsz
  have hD := hD0.self (sz := s.heap.size)
  generalize hAe : va_A [(h0, .inr (3, [.ref a1, .ref dv, .int md, .int bk, .ref a2, .ref a3, .ref a4, .ref wd, .ref lt, .ref bu, .ref st, .ref le, .ref nx, .ref ow, .int sy, .ref sp, .ref ky, .ref sm, .int sk])), (st, .inl (cst, 64, .inl stf)), (le, .inl (cle, 64, .inl lef)), (nx, .inl (cnx, 64, .inl nxf)), (ow, .inl (cow, 64, .inl owf)), (bu, .inl (cbu, 256, .inl buf)), (lt, .inr (0, [.ref lta, .int ltk])), (lta, .inl (clt, 512, .inl ltf)), (wd, .inr (0, [.ref wda, .int (nI 280)])), (wda, .inl (cwd, 280, .inl wf))] s.heap.size = A at hD ⊢
  have hA : ∀ q : Nat, s.heap.size ≤ q → A q := fun q h => by rw [← hAe]; exact Or.inr h
  have hS : va_S A s.heap s.heap [] := va_S.rf
  have hP : va_P (dC, dI) classes [(h0, .inr (3, [.ref a1, .ref dv, .int md, .int bk, .ref a2, .ref a3, .ref a4, .ref wd, .ref lt, .ref bu, .ref st, .ref le, .ref nx, .ref ow, .int sy, .ref sp, .ref ky, .ref sm, .int sk])), (st, .inl (cst, 64, .inl stf)), (le, .inl (cle, 64, .inl lef)), (nx, .inl (cnx, 64, .inl nxf)), (ow, .inl (cow, 64, .inl owf)), (bu, .inl (cbu, 256, .inl buf)), (lt, .inr (0, [.ref lta, .int ltk])), (lta, .inl (clt, 512, .inl ltf)), (wd, .inr (0, [.ref wda, .int (nI 280)])), (wda, .inl (cwd, 280, .inl wf))] s.heap := hP
  have hl := lv_entry ([.ref h0]) (n := 3) (Nat.le_of_ble_eq_true rfl)
  rw [lg_entry_eq]
  generalize (lg_sl ([.ref h0]) ++ List.replicate (3 - (lg_sl ([.ref h0])).length) Slot.unset).toArray = ls at hl ⊢
  have hl : lv_has ls 3 [(0, .ref h0)] := hl
  refine lv_aload_n hx hb d_Schema_keepWords_0 rfl (lv_at hl 0 rfl) ?_
  refine va_get (D := (dC, dI)) (ci := 3) (v := .ref bu) (C := R_Schema) (T := F_Schema) (N := 19) hx hb htw i_Schema hown hK hP 0 rfl rfl 9 (by decide) (htw _ wd_2_31) (fun _ h9 => h9) rfl d_Schema_keepWords_1 ?_
  refine lv_iconst (v := (-1)) hx hb d_Schema_keepWords_4 (by decide) ?_
  have hc0 : 0 + 0 ≤ 0 := by omega
  have hs0 : 0 + 0 ≤ 0 := by omega
  have hPc := hP.sub (ws' := [(bu, .inl (cbu, 256, .inl buf))]) [5] rfl
  have hDc := hD.sub (ws' := [(bu, .inl (cbu, 256, .inl buf))]) [5] (by decide) rfl
  have hKc := hK.sub (tys' := [(cbu, .int)]) [4] rfl
  have hFc := va_free (wc := [(bu, .inl (cbu, 256, .inl buf))]) hD hS hA [5] rfl
  refine va_callv (va_runS (As := [.ref bu, .int ((-1))]) (rest := []) ⟨hx, hb, hml, hown, htw⟩ (c_Arrs_fill l dC dI s.heap.size bu cbu 256 buf ((-1)) (by first | omega | assumption)) ⟨callB_of 2 htw (tw_inL k_Arrs_fill) rfl rfl rfl (htw _ wd_1_12) (htw _ wd_1_232) (by decide +kernel) ⟨Nat.le_of_ble_eq_true rfl, Nat.le_of_ble_eq_true rfl⟩, htw _ wd_1_233⟩ ⟨fun a U g mk q => by obtain ⟨q0, q1, qP, qK, qD⟩ := q; exact ⟨q0, q1, qP, va_K.moved (u := U) (U := U.calling g mk a) (Vm.Alike.refl U.vm) qK, qD⟩, fun U hU hW => ⟨rfl, by rw [hU], by rw [hU]; exact hPc, va_K.moved hW.alike hKc, hDc.weaken (fun _ _ _ _ => trivial)⟩⟩ rfl rfl hl.1 rfl (lv_room (Nat.le_of_ble_eq_true rfl)) d_Schema_keepWords_5 ⟨hc0, hs0⟩) hS (fun q _ h => hFc q h) hFc (fun u t H1 locs ht hvm hw hB hz1 hk1 hS => ?_)
  obtain ⟨g2_2, hp3, hP1, hK1, hD1⟩ := hB
  rw [ht] at hP1
  have hK1 := va_K.moved hvm.symm hK1
  obtain ⟨hP, hD⟩ := va_join (wr := [(h0, .inr (3, [.ref a1, .ref dv, .int md, .int bk, .ref a2, .ref a3, .ref a4, .ref wd, .ref lt, .ref bu, .ref st, .ref le, .ref nx, .ref ow, .int sy, .ref sp, .ref ky, .ref sm, .int sk])), (st, .inl (cst, 64, .inl stf)), (le, .inl (cle, 64, .inl lef)), (nx, .inl (cnx, 64, .inl nxf)), (ow, .inl (cow, 64, .inl owf)), (lt, .inr (0, [.ref lta, .int ltk])), (lta, .inl (clt, 512, .inl ltf)), (wd, .inr (0, [.ref wda, .int (nI 280)])), (wda, .inl (cwd, 280, .inl wf))]) (w1 := [(bu, .inl (cbu, 256, .inl g2_2))]) hP hD [5] [0, 1, 2, 3, 4, 6, 7, 8, 9] rfl rfl (by decide) (by decide) hk1 hFc hP1 hD1
  have hK := (hK.sub (tys' := [(cst, .int), (cle, .int), (cnx, .int), (cow, .int), (clt, .byte), (cwd, .byte)]) [0, 1, 2, 3, 5, 6] rfl).app hK1
  generalize H1 = H at hP hS ⊢
  have hP : va_P (dC, dI) classes [(h0, .inr (3, [.ref a1, .ref dv, .int md, .int bk, .ref a2, .ref a3, .ref a4, .ref wd, .ref lt, .ref bu, .ref st, .ref le, .ref nx, .ref ow, .int sy, .ref sp, .ref ky, .ref sm, .int sk])), (st, .inl (cst, 64, .inl stf)), (le, .inl (cle, 64, .inl lef)), (nx, .inl (cnx, 64, .inl nxf)), (ow, .inl (cow, 64, .inl owf)), (lt, .inr (0, [.ref lta, .int ltk])), (lta, .inl (clt, 512, .inl ltf)), (wd, .inr (0, [.ref wda, .int (nI 280)])), (wda, .inl (cwd, 280, .inl wf)), (bu, .inl (cbu, 256, .inl g2_2))] H := hP
  have hD : va_D A [(h0, .inr (3, [.ref a1, .ref dv, .int md, .int bk, .ref a2, .ref a3, .ref a4, .ref wd, .ref lt, .ref bu, .ref st, .ref le, .ref nx, .ref ow, .int sy, .ref sp, .ref ky, .ref sm, .int sk])), (st, .inl (cst, 64, .inl stf)), (le, .inl (cle, 64, .inl lef)), (nx, .inl (cnx, 64, .inl nxf)), (ow, .inl (cow, 64, .inl owf)), (lt, .inr (0, [.ref lta, .int ltk])), (lta, .inl (clt, 512, .inl ltf)), (wd, .inr (0, [.ref wda, .int (nI 280)])), (wda, .inl (cwd, 280, .inl wf)), (bu, .inl (cbu, 256, .inl g2_2))] := hD
  have hK : va_K (dC, dI) classes [(cst, .int), (cle, .int), (cnx, .int), (cow, .int), (clt, .byte), (cwd, .byte), (cbu, .int)] s := hK
  refine lv_aload_n hx hb d_Schema_keepWords_8 rfl (lv_at hl 0 rfl) ?_
  refine va_get (D := (dC, dI)) (ci := 3) (v := .ref lt) (C := R_Schema) (T := F_Schema) (N := 19) hx hb htw i_Schema hown hK hP 0 rfl rfl 8 (by decide) (htw _ wd_2_30) (fun _ h9 => h9) rfl d_Schema_keepWords_9 ?_
  refine lv_iconst (v := 0) hx hb d_Schema_keepWords_12 (by decide) ?_
  refine va_put (D := (dC, dI)) (ci := 0) (v := .int 0) (ty := .int) (C := R_Bytes) (T := F_Bytes) (N := 2) hx hb htw i_Bytes t_Bytes t_Bytes_ok n_Bytes hown hK hP hD hS 5 rfl rfl 1 (by decide) (htw _ wd_1_70) (fun _ h9 => h9) rfl (by decide +kernel) rfl rfl (Nat.le_of_ble_eq_true rfl) d_Schema_keepWords_13 (fun H locs hP hD hS => ?_)
  have hP : va_P (dC, dI) classes [(h0, .inr (3, [.ref a1, .ref dv, .int md, .int bk, .ref a2, .ref a3, .ref a4, .ref wd, .ref lt, .ref bu, .ref st, .ref le, .ref nx, .ref ow, .int sy, .ref sp, .ref ky, .ref sm, .int sk])), (st, .inl (cst, 64, .inl stf)), (le, .inl (cle, 64, .inl lef)), (nx, .inl (cnx, 64, .inl nxf)), (ow, .inl (cow, 64, .inl owf)), (lt, .inr (0, [.ref lta, .int 0])), (lta, .inl (clt, 512, .inl ltf)), (wd, .inr (0, [.ref wda, .int (nI 280)])), (wda, .inl (cwd, 280, .inl wf)), (bu, .inl (cbu, 256, .inl g2_2))] H := hP
  have hD : va_D A [(h0, .inr (3, [.ref a1, .ref dv, .int md, .int bk, .ref a2, .ref a3, .ref a4, .ref wd, .ref lt, .ref bu, .ref st, .ref le, .ref nx, .ref ow, .int sy, .ref sp, .ref ky, .ref sm, .int sk])), (st, .inl (cst, 64, .inl stf)), (le, .inl (cle, 64, .inl lef)), (nx, .inl (cnx, 64, .inl nxf)), (ow, .inl (cow, 64, .inl owf)), (lt, .inr (0, [.ref lta, .int 0])), (lta, .inl (clt, 512, .inl ltf)), (wd, .inr (0, [.ref wda, .int (nI 280)])), (wda, .inl (cwd, 280, .inl wf)), (bu, .inl (cbu, 256, .inl g2_2))] := hD
  refine lv_aload_n hx hb d_Schema_keepWords_16 rfl (lv_at hl 0 rfl) ?_
  refine lv_iconst (v := 0) hx hb d_Schema_keepWords_17 (by decide) ?_
  refine va_put (D := (dC, dI)) (ci := 3) (v := .int 0) (ty := .int) (C := R_Schema) (T := F_Schema) (N := 19) hx hb htw i_Schema t_Schema t_Schema_ok n_Schema hown hK hP hD hS 0 rfl rfl 14 (by decide) (htw _ wd_2_36) (fun _ h9 => h9) rfl (by decide +kernel) rfl rfl (Nat.le_of_ble_eq_true rfl) d_Schema_keepWords_18 (fun H locs hP hD hS => ?_)
  have hP : va_P (dC, dI) classes [(h0, .inr (3, [.ref a1, .ref dv, .int md, .int bk, .ref a2, .ref a3, .ref a4, .ref wd, .ref lt, .ref bu, .ref st, .ref le, .ref nx, .ref ow, .int 0, .ref sp, .ref ky, .ref sm, .int sk])), (st, .inl (cst, 64, .inl stf)), (le, .inl (cle, 64, .inl lef)), (nx, .inl (cnx, 64, .inl nxf)), (ow, .inl (cow, 64, .inl owf)), (lt, .inr (0, [.ref lta, .int 0])), (lta, .inl (clt, 512, .inl ltf)), (wd, .inr (0, [.ref wda, .int (nI 280)])), (wda, .inl (cwd, 280, .inl wf)), (bu, .inl (cbu, 256, .inl g2_2))] H := hP
  have hD : va_D A [(h0, .inr (3, [.ref a1, .ref dv, .int md, .int bk, .ref a2, .ref a3, .ref a4, .ref wd, .ref lt, .ref bu, .ref st, .ref le, .ref nx, .ref ow, .int 0, .ref sp, .ref ky, .ref sm, .int sk])), (st, .inl (cst, 64, .inl stf)), (le, .inl (cle, 64, .inl lef)), (nx, .inl (cnx, 64, .inl nxf)), (ow, .inl (cow, 64, .inl owf)), (lt, .inr (0, [.ref lta, .int 0])), (lta, .inl (clt, 512, .inl ltf)), (wd, .inr (0, [.ref wda, .int (nI 280)])), (wda, .inl (cwd, 280, .inl wf)), (bu, .inl (cbu, 256, .inl g2_2))] := hD
  refine lv_iconst (v := 0) hx hb d_Schema_keepWords_21 (by decide) ?_
  refine lv_istore_n hx hb d_Schema_keepWords_22 rfl hl (by decide) rfl (fun ls hl => ?_)
  have hl : lv_has ls 3 [(1, .int 0), (0, .ref h0)] := hl
  refine lv_iconst (v := 0) hx hb d_Schema_keepWords_23 (by decide) ?_
  refine lv_istore_n hx hb d_Schema_keepWords_24 rfl hl (by decide) rfl (fun ls hl => ?_)
  have hl : lv_has ls 3 [(2, .int 0), (1, .int 0), (0, .ref h0)] := hl
  have lp : ∀ (fuel : Nat) (fr : Nat) (i : Nat) (sn : Nat) (lk : Nat) (g1 : Nat → Int32) (g2 : Nat → Int32) (g3 : Nat → Int32) (g4 : Nat → Int32) (g5 : Nat → Int32) (g6 : Nat → Int32) (H : Heap) (locs : List Loc) (ls : Array Slot), i ≤ 281 → fr ≤ i → sn ≤ tz_cnt i → lk ≤ fr → tz_inv sn g3 g5 → 282 - i < fuel → lv_has ls 3 [(1, .int (nI fr)), (2, .int (nI i)), (0, .ref h0)] → va_P (dC, dI) classes [(h0, .inr (3, [.ref a1, .ref dv, .int md, .int bk, .ref a2, .ref a3, .ref a4, .ref wd, .ref lt, .ref bu, .ref st, .ref le, .ref nx, .ref ow, .int (nI sn), .ref sp, .ref ky, .ref sm, .int sk])), (st, .inl (cst, 64, .inl g1)), (le, .inl (cle, 64, .inl g2)), (nx, .inl (cnx, 64, .inl g3)), (ow, .inl (cow, 64, .inl g4)), (bu, .inl (cbu, 256, .inl g5)), (lt, .inr (0, [.ref lta, .int (nI lk)])), (lta, .inl (clt, 512, .inl g6)), (wd, .inr (0, [.ref wda, .int (nI 280)])), (wda, .inl (cwd, 280, .inl wf))] H → va_D A [(h0, .inr (3, [.ref a1, .ref dv, .int md, .int bk, .ref a2, .ref a3, .ref a4, .ref wd, .ref lt, .ref bu, .ref st, .ref le, .ref nx, .ref ow, .int (nI sn), .ref sp, .ref ky, .ref sm, .int sk])), (st, .inl (cst, 64, .inl g1)), (le, .inl (cle, 64, .inl g2)), (nx, .inl (cnx, 64, .inl g3)), (ow, .inl (cow, 64, .inl g4)), (bu, .inl (cbu, 256, .inl g5)), (lt, .inr (0, [.ref lta, .int (nI lk)])), (lta, .inl (clt, 512, .inl g6)), (wd, .inr (0, [.ref wda, .int (nI 280)])), (wda, .inl (cwd, 280, .inl wf))] → va_S A s.heap H locs → W p l e (headSpec ws_Schema_keepWords ({ frames := 3, cells := 0, slots := 0, locals := 73 })).room s m [.ref h0].toArray below meth c H locs 0 0 (MQ below (va_Qv (fun _ : Unit => True) (fun _ t => ∃ (s2 : Nat) (k2 : Nat) (g1 : Nat → Int32) (g2 : Nat → Int32) (g3 : Nat → Int32) (g4 : Nat → Int32) (g5 : Nat → Int32) (g6 : Nat → Int32), va_P (dC, dI) classes [(h0, .inr (3, [.ref a1, .ref dv, .int md, .int bk, .ref a2, .ref a3, .ref a4, .ref wd, .ref lt, .ref bu, .ref st, .ref le, .ref nx, .ref ow, .int (nI s2), .ref sp, .ref ky, .ref sm, .int sk])), (st, .inl (cst, 64, .inl g1)), (le, .inl (cle, 64, .inl g2)), (nx, .inl (cnx, 64, .inl g3)), (ow, .inl (cow, 64, .inl g4)), (bu, .inl (cbu, 256, .inl g5)), (lt, .inr (0, [.ref lta, .int (nI k2)])), (lta, .inl (clt, 512, .inl g6)), (wd, .inr (0, [.ref wda, .int (nI 280)])), (wda, .inl (cwd, 280, .inl wf))] t.heap ∧ va_K (dC, dI) classes [(cst, .int), (cle, .int), (cnx, .int), (cow, .int), (cbu, .int), (clt, .byte), (cwd, .byte)] t ∧ va_D A [(h0, .inr (3, [.ref a1, .ref dv, .int md, .int bk, .ref a2, .ref a3, .ref a4, .ref wd, .ref lt, .ref bu, .ref st, .ref le, .ref nx, .ref ow, .int (nI s2), .ref sp, .ref ky, .ref sm, .int sk])), (st, .inl (cst, 64, .inl g1)), (le, .inl (cle, 64, .inl g2)), (nx, .inl (cnx, 64, .inl g3)), (ow, .inl (cow, 64, .inl g4)), (bu, .inl (cbu, 256, .inl g5)), (lt, .inr (0, [.ref lta, .int (nI k2)])), (lta, .inl (clt, 512, .inl g6)), (wd, .inr (0, [.ref wda, .int (nI 280)])), (wda, .inl (cwd, 280, .inl wf))]) A) [.ref h0].toArray s 0 0 A) (F0 m 25 ls []) := by
    intro fuel
    induction fuel with
    | zero => intro fr i sn lk g1 g2 g3 g4 g5 g6 H locs ls hi hf hsc hk hinv hm; omega
    | succ fuel ih =>
      intro fr i sn lk g1 g2 g3 g4 g5 g6 H locs ls hi hf hsc hk hinv hm hl hP hD hS
      refine lv_iload_n hx hb d_Schema_keepWords_25 rfl (lv_at hl 1 rfl) ?_
      refine lv_aload_n hx hb d_Schema_keepWords_26 rfl (lv_at hl 2 rfl) ?_
      refine va_get (D := (dC, dI)) (ci := 3) (v := .ref wd) (C := R_Schema) (T := F_Schema) (N := 19) hx hb htw i_Schema hown hK hP 0 rfl rfl 7 (by decide) (htw _ wd_2_29) (fun _ h9 => h9) rfl d_Schema_keepWords_27 ?_
      refine va_get (D := (dC, dI)) (ci := 0) (v := .int (nI 280)) (C := R_Bytes) (T := F_Bytes) (N := 2) hx hb htw i_Bytes hown hK hP 8 rfl rfl 1 (by decide) (htw _ wd_1_70) (fun _ h9 => h9) rfl d_Schema_keepWords_30 ?_
      refine lv_icmp_gt (tgt := 84) hx hb d_Schema_keepWords_33 rfl (fun h1 => ?_) (fun h1 => ?_)
      · have hP9 := hP.sub (ws' := [(h0, .inr (3, [.ref a1, .ref dv, .int md, .int bk, .ref a2, .ref a3, .ref a4, .ref wd, .ref lt, .ref bu, .ref st, .ref le, .ref nx, .ref ow, .int (nI sn), .ref sp, .ref ky, .ref sm, .int sk])), (st, .inl (cst, 64, .inl g1)), (le, .inl (cle, 64, .inl g2)), (nx, .inl (cnx, 64, .inl g3)), (ow, .inl (cow, 64, .inl g4)), (bu, .inl (cbu, 256, .inl g5)), (lt, .inr (0, [.ref lta, .int (nI lk)])), (lta, .inl (clt, 512, .inl g6)), (wd, .inr (0, [.ref wda, .int (nI 280)])), (wda, .inl (cwd, 280, .inl wf))]) [0, 1, 2, 3, 4, 5, 6, 7, 8, 9] rfl
        have hD9 := hD.sub (ws' := [(h0, .inr (3, [.ref a1, .ref dv, .int md, .int bk, .ref a2, .ref a3, .ref a4, .ref wd, .ref lt, .ref bu, .ref st, .ref le, .ref nx, .ref ow, .int (nI sn), .ref sp, .ref ky, .ref sm, .int sk])), (st, .inl (cst, 64, .inl g1)), (le, .inl (cle, 64, .inl g2)), (nx, .inl (cnx, 64, .inl g3)), (ow, .inl (cow, 64, .inl g4)), (bu, .inl (cbu, 256, .inl g5)), (lt, .inr (0, [.ref lta, .int (nI lk)])), (lta, .inl (clt, 512, .inl g6)), (wd, .inr (0, [.ref wda, .int (nI 280)])), (wda, .inl (cwd, 280, .inl wf))]) [0, 1, 2, 3, 4, 5, 6, 7, 8, 9] (by decide) rfl
        have hK9 := hK.sub (tys' := [(cst, .int), (cle, .int), (cnx, .int), (cow, .int), (cbu, .int), (clt, .byte), (cwd, .byte)]) [0, 1, 2, 3, 6, 4, 5] rfl
        refine W.widen (k := 0) (n := 0) (by omega) (by omega) ?_
        exact W.vret hx hb hr (fun t ht hW => ⟨⟨(), rfl, trivial, sn, lk, g1, g2, g3, g4, g5, g6, by rw [ht]; exact hP9, va_K.moved hW.alike hK9, hD9⟩, hS.F ht⟩) hS.2.2 d_Schema_keepWords_84
      · have h2 : i ≤ 280 := by have := (not_congr (nI_ltI (a := 280) (b := i) (by omega) (by omega))).mp h1; omega
        have hc := tz_cnt_le (i := i + 1) (by omega)
        have hm := tz_cnt_m i
        refine lv_iload_n hx hb d_Schema_keepWords_36 rfl (lv_at hl 1 rfl) ?_
        refine lv_aload_n hx hb d_Schema_keepWords_37 rfl (lv_at hl 2 rfl) ?_
        refine va_get (D := (dC, dI)) (ci := 3) (v := .ref wd) (C := R_Schema) (T := F_Schema) (N := 19) hx hb htw i_Schema hown hK hP 0 rfl rfl 7 (by decide) (htw _ wd_2_29) (fun _ h9 => h9) rfl d_Schema_keepWords_38 ?_
        refine va_get (D := (dC, dI)) (ci := 0) (v := .int (nI 280)) (C := R_Bytes) (T := F_Bytes) (N := 2) hx hb htw i_Bytes hown hK hP 8 rfl rfl 1 (by decide) (htw _ wd_1_70) (fun _ h9 => h9) rfl d_Schema_keepWords_41 ?_
        refine lv_icmp_eq (tgt := 60) hx hb d_Schema_keepWords_44 rfl (fun h3 => ?_) (fun h3 => ?_)
        · have h4 : i = 280 := (nI_eq (by omega) (by omega)).mp h3
          have h5 : tz_wb i = 32 := by rw [h4]; decide +kernel
          have h6 := tz_cnt_s h5
          refine lv_aload_n hx hb d_Schema_keepWords_60 rfl (lv_at hl 2 rfl) ?_
          refine lv_aload_n hx hb d_Schema_keepWords_61 rfl (lv_at hl 2 rfl) ?_
          refine va_get (D := (dC, dI)) (ci := 3) (v := .ref wd) (C := R_Schema) (T := F_Schema) (N := 19) hx hb htw i_Schema hown hK hP 0 rfl rfl 7 (by decide) (htw _ wd_2_29) (fun _ h9 => h9) rfl d_Schema_keepWords_62 ?_
          refine lv_iload_n hx hb d_Schema_keepWords_65 rfl (lv_at hl 0 rfl) ?_
          refine lv_iload_n hx hb d_Schema_keepWords_66 rfl (lv_at hl 1 rfl) ?_
          refine lv_iload_n hx hb d_Schema_keepWords_67 rfl (lv_at hl 0 rfl) ?_
          refine lv_isub hx hb d_Schema_keepWords_68 ?_
          refine lv_topi (fun z9 e9 => ?_)
          have e9 : z9 = nI (i - fr) := e9.trans (pk_sub hf)
          subst e9
          refine lv_iconst (v := 1) hx hb d_Schema_keepWords_69 (by decide) ?_
          have hc0 : 0 + 0 ≤ 0 := by omega
          have hs0 : 0 + 0 ≤ 0 := by omega
          have hPc := hP.sub (ws' := [(h0, .inr (3, [.ref a1, .ref dv, .int md, .int bk, .ref a2, .ref a3, .ref a4, .ref wd, .ref lt, .ref bu, .ref st, .ref le, .ref nx, .ref ow, .int (nI sn), .ref sp, .ref ky, .ref sm, .int sk])), (st, .inl (cst, 64, .inl g1)), (le, .inl (cle, 64, .inl g2)), (nx, .inl (cnx, 64, .inl g3)), (ow, .inl (cow, 64, .inl g4)), (bu, .inl (cbu, 256, .inl g5)), (lt, .inr (0, [.ref lta, .int (nI lk)])), (lta, .inl (clt, 512, .inl g6)), (wd, .inr (0, [.ref wda, .int (nI 280)])), (wda, .inl (cwd, 280, .inl wf))]) [0, 1, 2, 3, 4, 5, 6, 7, 8, 9] rfl
          have hDc := hD.sub (ws' := [(h0, .inr (3, [.ref a1, .ref dv, .int md, .int bk, .ref a2, .ref a3, .ref a4, .ref wd, .ref lt, .ref bu, .ref st, .ref le, .ref nx, .ref ow, .int (nI sn), .ref sp, .ref ky, .ref sm, .int sk])), (st, .inl (cst, 64, .inl g1)), (le, .inl (cle, 64, .inl g2)), (nx, .inl (cnx, 64, .inl g3)), (ow, .inl (cow, 64, .inl g4)), (bu, .inl (cbu, 256, .inl g5)), (lt, .inr (0, [.ref lta, .int (nI lk)])), (lta, .inl (clt, 512, .inl g6)), (wd, .inr (0, [.ref wda, .int (nI 280)])), (wda, .inl (cwd, 280, .inl wf))]) [0, 1, 2, 3, 4, 5, 6, 7, 8, 9] (by decide) rfl
          have hKc := hK.sub (tys' := [(cst, .int), (cle, .int), (cnx, .int), (cow, .int), (cbu, .int), (clt, .byte), (cwd, .byte)]) [0, 1, 2, 3, 6, 4, 5] rfl
          have hFc := va_free (wc := [(h0, .inr (3, [.ref a1, .ref dv, .int md, .int bk, .ref a2, .ref a3, .ref a4, .ref wd, .ref lt, .ref bu, .ref st, .ref le, .ref nx, .ref ow, .int (nI sn), .ref sp, .ref ky, .ref sm, .int sk])), (st, .inl (cst, 64, .inl g1)), (le, .inl (cle, 64, .inl g2)), (nx, .inl (cnx, 64, .inl g3)), (ow, .inl (cow, 64, .inl g4)), (bu, .inl (cbu, 256, .inl g5)), (lt, .inr (0, [.ref lta, .int (nI lk)])), (lta, .inl (clt, 512, .inl g6)), (wd, .inr (0, [.ref wda, .int (nI 280)])), (wda, .inl (cwd, 280, .inl wf))]) hD hS hA [0, 1, 2, 3, 4, 5, 6, 7, 8, 9] rfl
          refine va_calli (va_runV (As := [.ref wd, .int (nI fr), .int (nI (i - fr)), .int 1]) (rest := []) ⟨hx, hb, hml, hown, htw⟩ (c_Schema_symbol l dC dI H.size h0 a1 dv md bk a2 a3 a4 wd lt bu st le nx ow sp ky sm sk cst g1 cle g2 cnx g3 cow g4 cbu g5 lta clt g6 wd wda cwd 280 wf (nI 280) sn lk ((i - fr)) (nI fr) (by first | omega | assumption) (by first | omega | assumption) (by first | omega | assumption) (by first | omega | assumption)) (cwV 4 htw (tw_V wd_1_239 wd_2_0 wd_2_1 wd_1_3 k_Schema_symbol) rfl rfl rfl (by decide +kernel) ⟨Nat.le_of_ble_eq_true rfl, Nat.le_of_ble_eq_true rfl⟩) ⟨fun a U g mk q => by obtain ⟨q0, q1, qP, qK, qD⟩ := q; exact ⟨q0, q1, qP, va_K.moved (u := U) (U := U.calling g mk a) (Vm.Alike.refl U.vm) qK, qD⟩, va_recv hK hP (q := (R_Schema, F_Schema, 19)) (ci := 3) (q0 := 0) rfl rfl, fun U hU hW => ⟨rfl, by rw [hU], by rw [hU]; exact hPc, va_K.moved hW.alike hKc, hDc.weaken (fun _ _ _ _ => trivial)⟩⟩ rfl rfl hl.1 rfl (lv_room (Nat.le_of_ble_eq_true rfl)) d_Schema_keepWords_70 ⟨hc0, hs0⟩) hS (fun q _ h => hFc q h) hFc (fun r4 u t H1 locs ht hvm hw hB hz1 hk1 hS => ?_)
          obtain ⟨s2_5, k2_6, g1_7, g2_8, g3_9, g4_10, g5_11, g6_12, hp13, hp14, hp15, hP1, hK1, hD1⟩ := hB
          rw [ht] at hP1
          have hK1 := va_K.moved hvm.symm hK1
          obtain ⟨hP, hD⟩ := va_join (wr := []) (w1 := [(h0, .inr (3, [.ref a1, .ref dv, .int md, .int bk, .ref a2, .ref a3, .ref a4, .ref wd, .ref lt, .ref bu, .ref st, .ref le, .ref nx, .ref ow, .int (nI s2_5), .ref sp, .ref ky, .ref sm, .int sk])), (st, .inl (cst, 64, .inl g1_7)), (le, .inl (cle, 64, .inl g2_8)), (nx, .inl (cnx, 64, .inl g3_9)), (ow, .inl (cow, 64, .inl g4_10)), (bu, .inl (cbu, 256, .inl g5_11)), (lt, .inr (0, [.ref lta, .int (nI k2_6)])), (lta, .inl (clt, 512, .inl g6_12)), (wd, .inr (0, [.ref wda, .int (nI 280)])), (wda, .inl (cwd, 280, .inl wf))]) hP hD [0, 1, 2, 3, 4, 5, 6, 7, 8, 9] [] rfl rfl (by decide) (by decide) hk1 hFc hP1 hD1
          have hK := (hK.sub (tys' := []) [] rfl).app hK1
          generalize H1 = H at hP hS ⊢
          have hP : va_P (dC, dI) classes [(h0, .inr (3, [.ref a1, .ref dv, .int md, .int bk, .ref a2, .ref a3, .ref a4, .ref wd, .ref lt, .ref bu, .ref st, .ref le, .ref nx, .ref ow, .int (nI s2_5), .ref sp, .ref ky, .ref sm, .int sk])), (st, .inl (cst, 64, .inl g1_7)), (le, .inl (cle, 64, .inl g2_8)), (nx, .inl (cnx, 64, .inl g3_9)), (ow, .inl (cow, 64, .inl g4_10)), (bu, .inl (cbu, 256, .inl g5_11)), (lt, .inr (0, [.ref lta, .int (nI k2_6)])), (lta, .inl (clt, 512, .inl g6_12)), (wd, .inr (0, [.ref wda, .int (nI 280)])), (wda, .inl (cwd, 280, .inl wf))] H := hP
          have hD : va_D A [(h0, .inr (3, [.ref a1, .ref dv, .int md, .int bk, .ref a2, .ref a3, .ref a4, .ref wd, .ref lt, .ref bu, .ref st, .ref le, .ref nx, .ref ow, .int (nI s2_5), .ref sp, .ref ky, .ref sm, .int sk])), (st, .inl (cst, 64, .inl g1_7)), (le, .inl (cle, 64, .inl g2_8)), (nx, .inl (cnx, 64, .inl g3_9)), (ow, .inl (cow, 64, .inl g4_10)), (bu, .inl (cbu, 256, .inl g5_11)), (lt, .inr (0, [.ref lta, .int (nI k2_6)])), (lta, .inl (clt, 512, .inl g6_12)), (wd, .inr (0, [.ref wda, .int (nI 280)])), (wda, .inl (cwd, 280, .inl wf))] := hD
          have hK : va_K (dC, dI) classes [(cst, .int), (cle, .int), (cnx, .int), (cow, .int), (cbu, .int), (clt, .byte), (cwd, .byte)] s := hK
          have hw_r4 := hw
          refine lv_pop hx hb d_Schema_keepWords_73 rfl ?_
          refine lv_iload_n hx hb d_Schema_keepWords_74 rfl (lv_at hl 1 rfl) ?_
          refine lv_iconst (v := 1) hx hb d_Schema_keepWords_75 (by decide) ?_
          refine lv_iadd hx hb d_Schema_keepWords_76 ?_
          refine lv_topi (fun z9 e9 => ?_)
          have e9 : z9 = nI (i + 1) := e9.trans (nI_1 i)
          subst e9
          refine lv_istore_n hx hb d_Schema_keepWords_77 rfl hl (by decide) rfl (fun ls hl => ?_)
          have hl : lv_has ls 3 [(1, .int (nI (i + 1))), (2, .int (nI i)), (0, .ref h0)] := hl
          refine lv_iinc (k := 1) (v := nI (i + 1)) hx hb d_Schema_keepWords_78 hl rfl (nI_1 i) (by decide) rfl (fun ls hl => ?_)
          have hl : lv_has ls 3 [(2, .int (nI (i + 1))), (1, .int (nI (i + 1))), (0, .ref h0)] := hl
          refine lv_goto (tgt := 25) hx hb d_Schema_keepWords_81 rfl ?_
          exact ih (i + 1) (i + 1) s2_5 k2_6 g1_7 g2_8 g3_9 g4_10 g5_11 g6_12 _ _ _ (by omega) (by omega) (by omega) (by omega) (by assumption) (by omega) (lv_sub hl [1, 0, 2] rfl) (hP.sub [0, 1, 2, 3, 4, 5, 6, 7, 8, 9] rfl) (hD.sub [0, 1, 2, 3, 4, 5, 6, 7, 8, 9] (by decide) rfl) hS
        · have h4 : i < 280 := by have := (not_congr (nI_eq (a := i) (b := 280) (by omega) (by omega))).mp h3; omega
          refine lv_aload_n hx hb d_Schema_keepWords_47 rfl (lv_at hl 2 rfl) ?_
          refine va_get (D := (dC, dI)) (ci := 3) (v := .ref wd) (C := R_Schema) (T := F_Schema) (N := 19) hx hb htw i_Schema hown hK hP 0 rfl rfl 7 (by decide) (htw _ wd_2_29) (fun _ h9 => h9) rfl d_Schema_keepWords_48 ?_
          refine lv_iload_n hx hb d_Schema_keepWords_51 rfl (lv_at hl 1 rfl) ?_
          have hc0 : 0 + 0 ≤ 0 := by omega
          have hs0 : 0 + 0 ≤ 0 := by omega
          have hPc := hP.sub (ws' := [(wd, .inr (0, [.ref wda, .int (nI 280)])), (wda, .inl (cwd, 280, .inl wf))]) [8, 9] rfl
          have hDc := hD.sub (ws' := [(wd, .inr (0, [.ref wda, .int (nI 280)])), (wda, .inl (cwd, 280, .inl wf))]) [8, 9] (by decide) rfl
          have hKc := hK.sub (tys' := [(cwd, .byte)]) [5] rfl
          have hFc := va_free (wc := [(wd, .inr (0, [.ref wda, .int (nI 280)])), (wda, .inl (cwd, 280, .inl wf))]) hD hS hA [8, 9] rfl
          refine va_calli (va_runV (As := [.int (nI i)]) (rest := []) ⟨hx, hb, hml, hown, htw⟩ (c_Bytes_get l dC dI H.size wd wda cwd 280 wf (nI 280) (nI i) (by first | omega | assumption)) (cwV 1 htw (tw_V wd_1_235 wd_1_236 wd_1_237 wd_1_2 k_Bytes_get) rfl rfl rfl (by decide +kernel) ⟨Nat.le_of_ble_eq_true rfl, Nat.le_of_ble_eq_true rfl⟩) ⟨fun a U g mk q => by obtain ⟨q0, q1, qP, qK, qD⟩ := q; exact ⟨q0, q1, qP, va_K.moved (u := U) (U := U.calling g mk a) (Vm.Alike.refl U.vm) qK, qD⟩, va_recv hK hP (q := (R_Bytes, F_Bytes, 2)) (ci := 0) (q0 := 8) rfl rfl, fun U hU hW => ⟨rfl, by rw [hU], by rw [hU]; exact hPc, va_K.moved hW.alike hKc, hDc.weaken (fun _ _ _ _ => trivial)⟩⟩ rfl rfl hl.1 rfl (lv_room (Nat.le_of_ble_eq_true rfl)) d_Schema_keepWords_52 ⟨hc0, hs0⟩) hS (fun q _ h => hFc q h) hFc (fun r16 u t H1 locs ht hvm hw hB hz1 hk1 hS => ?_)
          obtain ⟨hP1, hK1, hD1⟩ := hB
          rw [ht] at hP1
          have hK1 := va_K.moved hvm.symm hK1
          obtain ⟨hP, hD⟩ := va_join (wr := [(h0, .inr (3, [.ref a1, .ref dv, .int md, .int bk, .ref a2, .ref a3, .ref a4, .ref wd, .ref lt, .ref bu, .ref st, .ref le, .ref nx, .ref ow, .int (nI sn), .ref sp, .ref ky, .ref sm, .int sk])), (st, .inl (cst, 64, .inl g1)), (le, .inl (cle, 64, .inl g2)), (nx, .inl (cnx, 64, .inl g3)), (ow, .inl (cow, 64, .inl g4)), (bu, .inl (cbu, 256, .inl g5)), (lt, .inr (0, [.ref lta, .int (nI lk)])), (lta, .inl (clt, 512, .inl g6))]) (w1 := [(wd, .inr (0, [.ref wda, .int (nI 280)])), (wda, .inl (cwd, 280, .inl wf))]) hP hD [8, 9] [0, 1, 2, 3, 4, 5, 6, 7] rfl rfl (by decide) (by decide) hk1 hFc hP1 hD1
          have hK := (hK.sub (tys' := [(cst, .int), (cle, .int), (cnx, .int), (cow, .int), (clt, .byte), (cbu, .int)]) [0, 1, 2, 3, 4, 6] rfl).app hK1
          generalize H1 = H at hP hS ⊢
          have hP : va_P (dC, dI) classes [(h0, .inr (3, [.ref a1, .ref dv, .int md, .int bk, .ref a2, .ref a3, .ref a4, .ref wd, .ref lt, .ref bu, .ref st, .ref le, .ref nx, .ref ow, .int (nI sn), .ref sp, .ref ky, .ref sm, .int sk])), (st, .inl (cst, 64, .inl g1)), (le, .inl (cle, 64, .inl g2)), (nx, .inl (cnx, 64, .inl g3)), (ow, .inl (cow, 64, .inl g4)), (bu, .inl (cbu, 256, .inl g5)), (lt, .inr (0, [.ref lta, .int (nI lk)])), (lta, .inl (clt, 512, .inl g6)), (wd, .inr (0, [.ref wda, .int (nI 280)])), (wda, .inl (cwd, 280, .inl wf))] H := hP
          have hD : va_D A [(h0, .inr (3, [.ref a1, .ref dv, .int md, .int bk, .ref a2, .ref a3, .ref a4, .ref wd, .ref lt, .ref bu, .ref st, .ref le, .ref nx, .ref ow, .int (nI sn), .ref sp, .ref ky, .ref sm, .int sk])), (st, .inl (cst, 64, .inl g1)), (le, .inl (cle, 64, .inl g2)), (nx, .inl (cnx, 64, .inl g3)), (ow, .inl (cow, 64, .inl g4)), (bu, .inl (cbu, 256, .inl g5)), (lt, .inr (0, [.ref lta, .int (nI lk)])), (lta, .inl (clt, 512, .inl g6)), (wd, .inr (0, [.ref wda, .int (nI 280)])), (wda, .inl (cwd, 280, .inl wf))] := hD
          have hK : va_K (dC, dI) classes [(cst, .int), (cle, .int), (cnx, .int), (cow, .int), (clt, .byte), (cbu, .int), (cwd, .byte)] s := hK
          subst hw
          refine lv_bipush (v := 32) hx hb d_Schema_keepWords_55 (by decide) ?_
          refine lv_icmp_ne (tgt := 78) hx hb d_Schema_keepWords_57 rfl (fun h7 => ?_) (fun h7 => ?_)
          · refine lv_iinc (k := 1) (v := nI (i + 1)) hx hb d_Schema_keepWords_78 hl rfl (nI_1 i) (by decide) rfl (fun ls hl => ?_)
            have hl : lv_has ls 3 [(2, .int (nI (i + 1))), (1, .int (nI fr)), (0, .ref h0)] := hl
            refine lv_goto (tgt := 25) hx hb d_Schema_keepWords_81 rfl ?_
            exact ih fr (i + 1) sn lk g1 g2 g3 g4 g5 g6 _ _ _ (by omega) (by omega) (by omega) (by omega) (by assumption) (by omega) (lv_sub hl [1, 0, 2] rfl) (hP.sub [0, 1, 2, 3, 4, 5, 6, 7, 8, 9] rfl) (hD.sub [0, 1, 2, 3, 4, 5, 6, 7, 8, 9] (by decide) rfl) hS
          · have h5 : tz_wb i = 32 := by rw [← tz_gw hwf h4]; exact h7
            have h6 := tz_cnt_s h5
            refine lv_aload_n hx hb d_Schema_keepWords_60 rfl (lv_at hl 2 rfl) ?_
            refine lv_aload_n hx hb d_Schema_keepWords_61 rfl (lv_at hl 2 rfl) ?_
            refine va_get (D := (dC, dI)) (ci := 3) (v := .ref wd) (C := R_Schema) (T := F_Schema) (N := 19) hx hb htw i_Schema hown hK hP 0 rfl rfl 7 (by decide) (htw _ wd_2_29) (fun _ h9 => h9) rfl d_Schema_keepWords_62 ?_
            refine lv_iload_n hx hb d_Schema_keepWords_65 rfl (lv_at hl 0 rfl) ?_
            refine lv_iload_n hx hb d_Schema_keepWords_66 rfl (lv_at hl 1 rfl) ?_
            refine lv_iload_n hx hb d_Schema_keepWords_67 rfl (lv_at hl 0 rfl) ?_
            refine lv_isub hx hb d_Schema_keepWords_68 ?_
            refine lv_topi (fun z9 e9 => ?_)
            have e9 : z9 = nI (i - fr) := e9.trans (pk_sub hf)
            subst e9
            refine lv_iconst (v := 1) hx hb d_Schema_keepWords_69 (by decide) ?_
            have hc0 : 0 + 0 ≤ 0 := by omega
            have hs0 : 0 + 0 ≤ 0 := by omega
            have hPc := hP.sub (ws' := [(h0, .inr (3, [.ref a1, .ref dv, .int md, .int bk, .ref a2, .ref a3, .ref a4, .ref wd, .ref lt, .ref bu, .ref st, .ref le, .ref nx, .ref ow, .int (nI sn), .ref sp, .ref ky, .ref sm, .int sk])), (st, .inl (cst, 64, .inl g1)), (le, .inl (cle, 64, .inl g2)), (nx, .inl (cnx, 64, .inl g3)), (ow, .inl (cow, 64, .inl g4)), (bu, .inl (cbu, 256, .inl g5)), (lt, .inr (0, [.ref lta, .int (nI lk)])), (lta, .inl (clt, 512, .inl g6)), (wd, .inr (0, [.ref wda, .int (nI 280)])), (wda, .inl (cwd, 280, .inl wf))]) [0, 1, 2, 3, 4, 5, 6, 7, 8, 9] rfl
            have hDc := hD.sub (ws' := [(h0, .inr (3, [.ref a1, .ref dv, .int md, .int bk, .ref a2, .ref a3, .ref a4, .ref wd, .ref lt, .ref bu, .ref st, .ref le, .ref nx, .ref ow, .int (nI sn), .ref sp, .ref ky, .ref sm, .int sk])), (st, .inl (cst, 64, .inl g1)), (le, .inl (cle, 64, .inl g2)), (nx, .inl (cnx, 64, .inl g3)), (ow, .inl (cow, 64, .inl g4)), (bu, .inl (cbu, 256, .inl g5)), (lt, .inr (0, [.ref lta, .int (nI lk)])), (lta, .inl (clt, 512, .inl g6)), (wd, .inr (0, [.ref wda, .int (nI 280)])), (wda, .inl (cwd, 280, .inl wf))]) [0, 1, 2, 3, 4, 5, 6, 7, 8, 9] (by decide) rfl
            have hKc := hK.sub (tys' := [(cst, .int), (cle, .int), (cnx, .int), (cow, .int), (cbu, .int), (clt, .byte), (cwd, .byte)]) [0, 1, 2, 3, 5, 4, 6] rfl
            have hFc := va_free (wc := [(h0, .inr (3, [.ref a1, .ref dv, .int md, .int bk, .ref a2, .ref a3, .ref a4, .ref wd, .ref lt, .ref bu, .ref st, .ref le, .ref nx, .ref ow, .int (nI sn), .ref sp, .ref ky, .ref sm, .int sk])), (st, .inl (cst, 64, .inl g1)), (le, .inl (cle, 64, .inl g2)), (nx, .inl (cnx, 64, .inl g3)), (ow, .inl (cow, 64, .inl g4)), (bu, .inl (cbu, 256, .inl g5)), (lt, .inr (0, [.ref lta, .int (nI lk)])), (lta, .inl (clt, 512, .inl g6)), (wd, .inr (0, [.ref wda, .int (nI 280)])), (wda, .inl (cwd, 280, .inl wf))]) hD hS hA [0, 1, 2, 3, 4, 5, 6, 7, 8, 9] rfl
            refine va_calli (va_runV (As := [.ref wd, .int (nI fr), .int (nI (i - fr)), .int 1]) (rest := []) ⟨hx, hb, hml, hown, htw⟩ (c_Schema_symbol l dC dI H.size h0 a1 dv md bk a2 a3 a4 wd lt bu st le nx ow sp ky sm sk cst g1 cle g2 cnx g3 cow g4 cbu g5 lta clt g6 wd wda cwd 280 wf (nI 280) sn lk ((i - fr)) (nI fr) (by first | omega | assumption) (by first | omega | assumption) (by first | omega | assumption) (by first | omega | assumption)) (cwV 4 htw (tw_V wd_1_239 wd_2_0 wd_2_1 wd_1_3 k_Schema_symbol) rfl rfl rfl (by decide +kernel) ⟨Nat.le_of_ble_eq_true rfl, Nat.le_of_ble_eq_true rfl⟩) ⟨fun a U g mk q => by obtain ⟨q0, q1, qP, qK, qD⟩ := q; exact ⟨q0, q1, qP, va_K.moved (u := U) (U := U.calling g mk a) (Vm.Alike.refl U.vm) qK, qD⟩, va_recv hK hP (q := (R_Schema, F_Schema, 19)) (ci := 3) (q0 := 0) rfl rfl, fun U hU hW => ⟨rfl, by rw [hU], by rw [hU]; exact hPc, va_K.moved hW.alike hKc, hDc.weaken (fun _ _ _ _ => trivial)⟩⟩ rfl rfl hl.1 rfl (lv_room (Nat.le_of_ble_eq_true rfl)) d_Schema_keepWords_70 ⟨hc0, hs0⟩) hS (fun q _ h => hFc q h) hFc (fun r17 u t H1 locs ht hvm hw hB hz1 hk1 hS => ?_)
            obtain ⟨s2_18, k2_19, g1_20, g2_21, g3_22, g4_23, g5_24, g6_25, hp26, hp27, hp28, hP1, hK1, hD1⟩ := hB
            rw [ht] at hP1
            have hK1 := va_K.moved hvm.symm hK1
            obtain ⟨hP, hD⟩ := va_join (wr := []) (w1 := [(h0, .inr (3, [.ref a1, .ref dv, .int md, .int bk, .ref a2, .ref a3, .ref a4, .ref wd, .ref lt, .ref bu, .ref st, .ref le, .ref nx, .ref ow, .int (nI s2_18), .ref sp, .ref ky, .ref sm, .int sk])), (st, .inl (cst, 64, .inl g1_20)), (le, .inl (cle, 64, .inl g2_21)), (nx, .inl (cnx, 64, .inl g3_22)), (ow, .inl (cow, 64, .inl g4_23)), (bu, .inl (cbu, 256, .inl g5_24)), (lt, .inr (0, [.ref lta, .int (nI k2_19)])), (lta, .inl (clt, 512, .inl g6_25)), (wd, .inr (0, [.ref wda, .int (nI 280)])), (wda, .inl (cwd, 280, .inl wf))]) hP hD [0, 1, 2, 3, 4, 5, 6, 7, 8, 9] [] rfl rfl (by decide) (by decide) hk1 hFc hP1 hD1
            have hK := (hK.sub (tys' := []) [] rfl).app hK1
            generalize H1 = H at hP hS ⊢
            have hP : va_P (dC, dI) classes [(h0, .inr (3, [.ref a1, .ref dv, .int md, .int bk, .ref a2, .ref a3, .ref a4, .ref wd, .ref lt, .ref bu, .ref st, .ref le, .ref nx, .ref ow, .int (nI s2_18), .ref sp, .ref ky, .ref sm, .int sk])), (st, .inl (cst, 64, .inl g1_20)), (le, .inl (cle, 64, .inl g2_21)), (nx, .inl (cnx, 64, .inl g3_22)), (ow, .inl (cow, 64, .inl g4_23)), (bu, .inl (cbu, 256, .inl g5_24)), (lt, .inr (0, [.ref lta, .int (nI k2_19)])), (lta, .inl (clt, 512, .inl g6_25)), (wd, .inr (0, [.ref wda, .int (nI 280)])), (wda, .inl (cwd, 280, .inl wf))] H := hP
            have hD : va_D A [(h0, .inr (3, [.ref a1, .ref dv, .int md, .int bk, .ref a2, .ref a3, .ref a4, .ref wd, .ref lt, .ref bu, .ref st, .ref le, .ref nx, .ref ow, .int (nI s2_18), .ref sp, .ref ky, .ref sm, .int sk])), (st, .inl (cst, 64, .inl g1_20)), (le, .inl (cle, 64, .inl g2_21)), (nx, .inl (cnx, 64, .inl g3_22)), (ow, .inl (cow, 64, .inl g4_23)), (bu, .inl (cbu, 256, .inl g5_24)), (lt, .inr (0, [.ref lta, .int (nI k2_19)])), (lta, .inl (clt, 512, .inl g6_25)), (wd, .inr (0, [.ref wda, .int (nI 280)])), (wda, .inl (cwd, 280, .inl wf))] := hD
            have hK : va_K (dC, dI) classes [(cst, .int), (cle, .int), (cnx, .int), (cow, .int), (cbu, .int), (clt, .byte), (cwd, .byte)] s := hK
            have hw_r17 := hw
            refine lv_pop hx hb d_Schema_keepWords_73 rfl ?_
            refine lv_iload_n hx hb d_Schema_keepWords_74 rfl (lv_at hl 1 rfl) ?_
            refine lv_iconst (v := 1) hx hb d_Schema_keepWords_75 (by decide) ?_
            refine lv_iadd hx hb d_Schema_keepWords_76 ?_
            refine lv_topi (fun z9 e9 => ?_)
            have e9 : z9 = nI (i + 1) := e9.trans (nI_1 i)
            subst e9
            refine lv_istore_n hx hb d_Schema_keepWords_77 rfl hl (by decide) rfl (fun ls hl => ?_)
            have hl : lv_has ls 3 [(1, .int (nI (i + 1))), (2, .int (nI i)), (0, .ref h0)] := hl
            refine lv_iinc (k := 1) (v := nI (i + 1)) hx hb d_Schema_keepWords_78 hl rfl (nI_1 i) (by decide) rfl (fun ls hl => ?_)
            have hl : lv_has ls 3 [(2, .int (nI (i + 1))), (1, .int (nI (i + 1))), (0, .ref h0)] := hl
            refine lv_goto (tgt := 25) hx hb d_Schema_keepWords_81 rfl ?_
            exact ih (i + 1) (i + 1) s2_18 k2_19 g1_20 g2_21 g3_22 g4_23 g5_24 g6_25 _ _ _ (by omega) (by omega) (by omega) (by omega) (by assumption) (by omega) (lv_sub hl [1, 0, 2] rfl) (hP.sub [0, 1, 2, 3, 4, 5, 6, 7, 8, 9] rfl) (hD.sub [0, 1, 2, 3, 4, 5, 6, 7, 8, 9] (by decide) rfl) hS
  exact lp ((282 - 0) + 1) 0 0 0 0 stf lef nxf owf g2_2 ltf _ _ _ (by omega) (by omega) (by omega) (by omega) (tz_inv_0 (by assumption)) (Nat.lt_succ_self _) (lv_sub hl [1, 0, 2] rfl) (hP.sub [0, 1, 2, 3, 4, 9, 5, 6, 7, 8] rfl) (hD.sub [0, 1, 2, 3, 4, 9, 5, 6, 7, 8] (by decide) rfl) hS
