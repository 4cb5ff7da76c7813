/-! by program (wip/p1) -/
theorem wd_3_128 : Cond.methodLink "SyntaxForge$Bytes" 29 ⟨"SyntaxForge$Bytes", "put", "(I)V"⟩ ∈ tw_tbl := tw_t3 (List.mem_of_getElem? (i := 128) rfl) rfl
theorem wd_1_65 : Cond.fieldLink "SyntaxForge" 96 "SyntaxForge$Bytes" "length" "I" ∈ tw_tbl := tw_t1 (List.mem_of_getElem? (i := 65) rfl) rfl
theorem wd_3_57 : Cond.constant "SyntaxForge" 100 65516 ∈ tw_tbl := tw_t3 (List.mem_of_getElem? (i := 57) rfl) rfl
theorem wd_3_124 : Cond.methodLink "SyntaxForge" 104 ⟨"SyntaxForge$Bytes", "putInt", "(I)V"⟩ ∈ tw_tbl := tw_t3 (List.mem_of_getElem? (i := 124) rfl) rfl
theorem wd_3_125 : Cond.instanceMethod ⟨"SyntaxForge$Bytes", "putInt", "(I)V"⟩ ∈ tw_tbl := tw_t3 (List.mem_of_getElem? (i := 125) rfl) rfl
theorem wd_3_126 : Cond.selects "SyntaxForge$Bytes" ⟨"SyntaxForge$Bytes", "putInt", "(I)V"⟩ ⟨"SyntaxForge$Bytes", "putInt", "(I)V"⟩ ∈ tw_tbl := tw_t3 (List.mem_of_getElem? (i := 126) rfl) rfl
theorem wd_2_97 : Cond.fieldLink "SyntaxForge" 156 "SyntaxForge$Scanner" "told" "I" ∈ tw_tbl := tw_t2 (List.mem_of_getElem? (i := 97) rfl) rfl
def y_Bytes_putInt : MethodName := ⟨"SyntaxForge$Bytes", "putInt", "(I)V"⟩
abbrev b_Bytes_putInt : ByteArray := prog_3_method_4_code
abbrev cd_Bytes_putInt : Cond := .code y_Bytes_putInt b_Bytes_putInt 2 none
abbrev ws_Bytes_putInt : List Cond := cd_Bytes_putInt :: tw_tbl
theorem k_Bytes_putInt : cd_Bytes_putInt ∈ tw_tbl := tw_t3 (List.mem_of_getElem? (i := 127) rfl) rfl
theorem d_Bytes_putInt_0 : decode b_Bytes_putInt 0 = .ok (.aload_n 0, 1) := by decide +kernel
theorem d_Bytes_putInt_1 : decode b_Bytes_putInt 1 = .ok (.iload_n 1, 1) := by decide +kernel
theorem d_Bytes_putInt_2 : decode b_Bytes_putInt 2 = .ok (.bipush 24, 2) := by decide +kernel
theorem d_Bytes_putInt_4 : decode b_Bytes_putInt 4 = .ok (.ishr, 1) := by decide +kernel
theorem d_Bytes_putInt_5 : decode b_Bytes_putInt 5 = .ok (.invokevirtual 29, 3) := by decide +kernel
theorem d_Bytes_putInt_8 : decode b_Bytes_putInt 8 = .ok (.aload_n 0, 1) := by decide +kernel
theorem d_Bytes_putInt_9 : decode b_Bytes_putInt 9 = .ok (.iload_n 1, 1) := by decide +kernel
theorem d_Bytes_putInt_10 : decode b_Bytes_putInt 10 = .ok (.bipush 16, 2) := by decide +kernel
theorem d_Bytes_putInt_12 : decode b_Bytes_putInt 12 = .ok (.ishr, 1) := by decide +kernel
theorem d_Bytes_putInt_13 : decode b_Bytes_putInt 13 = .ok (.invokevirtual 29, 3) := by decide +kernel
theorem d_Bytes_putInt_16 : decode b_Bytes_putInt 16 = .ok (.aload_n 0, 1) := by decide +kernel
theorem d_Bytes_putInt_17 : decode b_Bytes_putInt 17 = .ok (.iload_n 1, 1) := by decide +kernel
theorem d_Bytes_putInt_18 : decode b_Bytes_putInt 18 = .ok (.bipush 8, 2) := by decide +kernel
theorem d_Bytes_putInt_20 : decode b_Bytes_putInt 20 = .ok (.ishr, 1) := by decide +kernel
theorem d_Bytes_putInt_21 : decode b_Bytes_putInt 21 = .ok (.invokevirtual 29, 3) := by decide +kernel
theorem d_Bytes_putInt_24 : decode b_Bytes_putInt 24 = .ok (.aload_n 0, 1) := by decide +kernel
theorem d_Bytes_putInt_25 : decode b_Bytes_putInt 25 = .ok (.iload_n 1, 1) := by decide +kernel
theorem d_Bytes_putInt_26 : decode b_Bytes_putInt 26 = .ok (.invokevirtual 29, 3) := by decide +kernel
theorem d_Bytes_putInt_29 : decode b_Bytes_putInt 29 = .ok (.return_, 1) := by decide +kernel
def y_SF_feed : MethodName := ⟨"SyntaxForge", "feed", "(IIIII)I"⟩
abbrev b_SF_feed : ByteArray := prog_1_method_2_code
abbrev cd_SF_feed : Cond := .code y_SF_feed b_SF_feed 6 (some .int)
abbrev ws_SF_feed : List Cond := cd_SF_feed :: tw_tbl
theorem k_SF_feed : cd_SF_feed ∈ tw_tbl := tw_t3 (List.mem_of_getElem? (i := 56) rfl) rfl
theorem d_SF_feed_0 : decode b_SF_feed 0 = .ok (.aload_n 0, 1) := by decide +kernel
theorem d_SF_feed_1 : decode b_SF_feed 1 = .ok (.getfield 12, 3) := by decide +kernel
theorem d_SF_feed_4 : decode b_SF_feed 4 = .ok (.getfield 96, 3) := by decide +kernel
theorem d_SF_feed_7 : decode b_SF_feed 7 = .ok (.ldc 100, 2) := by decide +kernel
theorem d_SF_feed_9 : decode b_SF_feed 9 = .ok (.if_icmp .le 11, 3) := by decide +kernel
theorem d_SF_feed_12 : decode b_SF_feed 12 = .ok (.new 101, 3) := by decide +kernel
theorem d_SF_feed_15 : decode b_SF_feed 15 = .ok (.dup, 1) := by decide +kernel
theorem d_SF_feed_16 : decode b_SF_feed 16 = .ok (.invokespecial 103, 3) := by decide +kernel
theorem d_SF_feed_19 : decode b_SF_feed 19 = .ok (.athrow, 1) := by decide +kernel
theorem d_SF_feed_20 : decode b_SF_feed 20 = .ok (.aload_n 0, 1) := by decide +kernel
theorem d_SF_feed_21 : decode b_SF_feed 21 = .ok (.getfield 12, 3) := by decide +kernel
theorem d_SF_feed_24 : decode b_SF_feed 24 = .ok (.iload_n 1, 1) := by decide +kernel
theorem d_SF_feed_25 : decode b_SF_feed 25 = .ok (.invokevirtual 104, 3) := by decide +kernel
theorem d_SF_feed_28 : decode b_SF_feed 28 = .ok (.aload_n 0, 1) := by decide +kernel
theorem d_SF_feed_29 : decode b_SF_feed 29 = .ok (.getfield 12, 3) := by decide +kernel
theorem d_SF_feed_32 : decode b_SF_feed 32 = .ok (.iload_n 2, 1) := by decide +kernel
theorem d_SF_feed_33 : decode b_SF_feed 33 = .ok (.invokevirtual 104, 3) := by decide +kernel
theorem d_SF_feed_36 : decode b_SF_feed 36 = .ok (.aload_n 0, 1) := by decide +kernel
theorem d_SF_feed_37 : decode b_SF_feed 37 = .ok (.getfield 12, 3) := by decide +kernel
theorem d_SF_feed_40 : decode b_SF_feed 40 = .ok (.iload_n 3, 1) := by decide +kernel
theorem d_SF_feed_41 : decode b_SF_feed 41 = .ok (.invokevirtual 104, 3) := by decide +kernel
theorem d_SF_feed_44 : decode b_SF_feed 44 = .ok (.aload_n 0, 1) := by decide +kernel
theorem d_SF_feed_45 : decode b_SF_feed 45 = .ok (.getfield 12, 3) := by decide +kernel
theorem d_SF_feed_48 : decode b_SF_feed 48 = .ok (.iload 4, 2) := by decide +kernel
theorem d_SF_feed_50 : decode b_SF_feed 50 = .ok (.invokevirtual 104, 3) := by decide +kernel
theorem d_SF_feed_53 : decode b_SF_feed 53 = .ok (.aload_n 0, 1) := by decide +kernel
theorem d_SF_feed_54 : decode b_SF_feed 54 = .ok (.getfield 12, 3) := by decide +kernel
theorem d_SF_feed_57 : decode b_SF_feed 57 = .ok (.iload 5, 2) := by decide +kernel
theorem d_SF_feed_59 : decode b_SF_feed 59 = .ok (.invokevirtual 104, 3) := by decide +kernel
theorem d_SF_feed_62 : decode b_SF_feed 62 = .ok (.aload_n 0, 1) := by decide +kernel
theorem d_SF_feed_63 : decode b_SF_feed 63 = .ok (.getfield 12, 3) := by decide +kernel
theorem d_SF_feed_66 : decode b_SF_feed 66 = .ok (.getfield 96, 3) := by decide +kernel
theorem d_SF_feed_69 : decode b_SF_feed 69 = .ok (.ireturn, 1) := by decide +kernel
def y_SF_end : MethodName := ⟨"SyntaxForge", "end", "(I)I"⟩
abbrev b_SF_end : ByteArray := prog_1_method_3_code
abbrev cd_SF_end : Cond := .code y_SF_end b_SF_end 2 (some .int)
abbrev ws_SF_end : List Cond := cd_SF_end :: tw_tbl
theorem k_SF_end : cd_SF_end ∈ tw_tbl := tw_t3 (List.mem_of_getElem? (i := 136) rfl) rfl
theorem d_SF_end_0 : decode b_SF_end 0 = .ok (.iload_n 1, 1) := by decide +kernel
theorem d_SF_end_1 : decode b_SF_end 1 = .ok (.ifCond .lt 14, 3) := by decide +kernel
theorem d_SF_end_4 : decode b_SF_end 4 = .ok (.iload_n 1, 1) := by decide +kernel
theorem d_SF_end_5 : decode b_SF_end 5 = .ok (.aload_n 0, 1) := by decide +kernel
theorem d_SF_end_6 : decode b_SF_end 6 = .ok (.getfield 12, 3) := by decide +kernel
theorem d_SF_end_9 : decode b_SF_end 9 = .ok (.getfield 96, 3) := by decide +kernel
theorem d_SF_end_12 : decode b_SF_end 12 = .ok (.if_icmp .le 11, 3) := by decide +kernel
theorem d_SF_end_15 : decode b_SF_end 15 = .ok (.new 107, 3) := by decide +kernel
theorem d_SF_end_18 : decode b_SF_end 18 = .ok (.dup, 1) := by decide +kernel
theorem d_SF_end_19 : decode b_SF_end 19 = .ok (.invokespecial 109, 3) := by decide +kernel
theorem d_SF_end_22 : decode b_SF_end 22 = .ok (.athrow, 1) := by decide +kernel
theorem d_SF_end_23 : decode b_SF_end 23 = .ok (.aload_n 0, 1) := by decide +kernel
theorem d_SF_end_24 : decode b_SF_end 24 = .ok (.getfield 12, 3) := by decide +kernel
theorem d_SF_end_27 : decode b_SF_end 27 = .ok (.iload_n 1, 1) := by decide +kernel
theorem d_SF_end_28 : decode b_SF_end 28 = .ok (.putfield 96, 3) := by decide +kernel
theorem d_SF_end_31 : decode b_SF_end 31 = .ok (.iload_n 1, 1) := by decide +kernel
theorem d_SF_end_32 : decode b_SF_end 32 = .ok (.ireturn, 1) := by decide +kernel
def y_SF_count : MethodName := ⟨"SyntaxForge", "count", "(I)I"⟩
abbrev b_SF_count : ByteArray := prog_1_method_9_code
abbrev cd_SF_count : Cond := .code y_SF_count b_SF_count 2 (some .int)
abbrev ws_SF_count : List Cond := cd_SF_count :: tw_tbl
theorem k_SF_count : cd_SF_count ∈ tw_tbl := tw_t9 (List.mem_of_getElem? (i := 213) rfl) rfl
theorem d_SF_count_0 : decode b_SF_count 0 = .ok (.iload_n 1, 1) := by decide +kernel
theorem d_SF_count_1 : decode b_SF_count 1 = .ok (.tableswitch 77 0 3 #[31, 39, 47, 69], 31) := by decide +kernel
theorem d_SF_count_32 : decode b_SF_count 32 = .ok (.aload_n 0, 1) := by decide +kernel
theorem d_SF_count_33 : decode b_SF_count 33 = .ok (.getfield 12, 3) := by decide +kernel
theorem d_SF_count_36 : decode b_SF_count 36 = .ok (.getfield 96, 3) := by decide +kernel
theorem d_SF_count_39 : decode b_SF_count 39 = .ok (.ireturn, 1) := by decide +kernel
theorem d_SF_count_40 : decode b_SF_count 40 = .ok (.aload_n 0, 1) := by decide +kernel
theorem d_SF_count_41 : decode b_SF_count 41 = .ok (.getfield 21, 3) := by decide +kernel
theorem d_SF_count_44 : decode b_SF_count 44 = .ok (.getfield 96, 3) := by decide +kernel
theorem d_SF_count_47 : decode b_SF_count 47 = .ok (.ireturn, 1) := by decide +kernel
theorem d_SF_count_48 : decode b_SF_count 48 = .ok (.aload_n 0, 1) := by decide +kernel
theorem d_SF_count_49 : decode b_SF_count 49 = .ok (.getfield 27, 3) := by decide +kernel
theorem d_SF_count_52 : decode b_SF_count 52 = .ok (.ifCond .eq 16, 3) := by decide +kernel
theorem d_SF_count_55 : decode b_SF_count 55 = .ok (.aload_n 0, 1) := by decide +kernel
theorem d_SF_count_56 : decode b_SF_count 56 = .ok (.getfield 34, 3) := by decide +kernel
theorem d_SF_count_59 : decode b_SF_count 59 = .ok (.getfield 129, 3) := by decide +kernel
theorem d_SF_count_62 : decode b_SF_count 62 = .ok (.invokevirtual 133, 3) := by decide +kernel
theorem d_SF_count_65 : decode b_SF_count 65 = .ok (.goto 4, 3) := by decide +kernel
theorem d_SF_count_68 : decode b_SF_count 68 = .ok (.iconst 0, 1) := by decide +kernel
theorem d_SF_count_69 : decode b_SF_count 69 = .ok (.ireturn, 1) := by decide +kernel
theorem d_SF_count_70 : decode b_SF_count 70 = .ok (.aload_n 0, 1) := by decide +kernel
theorem d_SF_count_71 : decode b_SF_count 71 = .ok (.getfield 44, 3) := by decide +kernel
theorem d_SF_count_74 : decode b_SF_count 74 = .ok (.getfield 156, 3) := by decide +kernel
theorem d_SF_count_77 : decode b_SF_count 77 = .ok (.ireturn, 1) := by decide +kernel
theorem d_SF_count_78 : decode b_SF_count 78 = .ok (.new 107, 3) := by decide +kernel
theorem d_SF_count_81 : decode b_SF_count 81 = .ok (.dup, 1) := by decide +kernel
theorem d_SF_count_82 : decode b_SF_count 82 = .ok (.invokespecial 109, 3) := by decide +kernel
theorem d_SF_count_85 : decode b_SF_count 85 = .ok (.athrow, 1) := by decide +kernel
set_option maxHeartbeats 4000000 in
set_option maxRecDepth 100000 in
theorem c_Bytes_putInt (l : Launch) (dC : Nat → ClassId) (dI : Nat → Nat → Nat) (sz : Nat) (h0 : Nat) (qa : Nat) (ca : ClassId) (n : Nat) (f : Nat → Int32) (k : Nat) (x : Int32) (hk : k + 4 ≤ n) (hn : n ≤ 65536) : Met l y_Bytes_putInt ws_Bytes_putInt ({ frames := 1, cells := 0, slots := 0, locals := 21 }) (va_Pc [.ref h0, .int x] (fun U => U.heap.size = sz ∧ va_P (dC, dI) classes [(h0, .inr (0, [.ref qa, .int (nI k)])), (qa, .inl (ca, n, .inl f))] U.heap ∧ va_K (dC, dI) classes [(ca, .byte)] U ∧ va_D (fun _ => True) [(h0, .inr (0, [.ref qa, .int (nI k)])), (qa, .inl (ca, n, .inl f))])) (va_Qv (fun _ : Unit => True) (fun _ t => ∃ (g2 : Nat → Int32), va_P (dC, dI) classes [(h0, .inr (0, [.ref qa, .int (nI (k + 4))])), (qa, .inl (ca, n, .inl g2))] t.heap ∧ va_K (dC, dI) classes [(ca, .byte)] t ∧ va_D (va_A [(h0, .inr (0, [.ref qa, .int (nI k)])), (qa, .inl (ca, n, .inl f))] sz) [(h0, .inr (0, [.ref qa, .int (nI (k + 4))])), (qa, .inl (ca, n, .inl g2))]) (va_A [(h0, .inr (0, [.ref qa, .int (nI k)])), (qa, .inl (ca, n, .inl f))] sz)) 0 0 (va_A [(h0, .inr (0, [.ref qa, .int (nI k)])), (qa, .inl (ca, n, .inl f))] sz) := by
  refine Met.ofW (cc := b_Bytes_putInt) (maxL := 2) (ret := none) (by decide) rfl ?_
  intro p e s m args below meth c s₁ B hml hv
  obtain ⟨rfl, hsz, hP, hK, hD0⟩ := hv
  have hx := B.exec
  have hb := B.bytes
  have hr := B.returns
  have hts := atoms_spec (ws := ws_Bytes_putInt) B.pre
  have htw : ∀ w ∈ tw_tbl, w.before [.ref h0, .int x].toArray s = true := fun w h => hts w (List.mem_cons_of_mem _ h)
  have hown : s.vm.findClass R_Bytes = some m.cls := findClass_of_methodNamed B.named
  have hlocks := B.notSynchronized
  have hin : meth.name = "putInt" := (name_of_methodNamed B.named B.method).1
  subst hsz
  have hD := hD0.self (sz := s.heap.size)
  generalize hAe : va_A [(h0, .inr (0, [.ref qa, .int (nI k)])), (qa, .inl (ca, n, .inl f))] s.heap.size = A at hD ⊢
  have hA : ∀ q : Nat, s.heap.size ≤ q → A q := fun q h => by rw [← hAe]; exact Or.inr h
  have hS : va_S A s.heap s.heap [] := va_S.rf
  have hP : va_P (dC, dI) classes [(h0, .inr (0, [.ref qa, .int (nI k)])), (qa, .inl (ca, n, .inl f))] s.heap := hP
  have hl := lv_entry ([.ref h0, .int x]) (n := 2) (Nat.le_of_ble_eq_true rfl)
  rw [lg_entry_eq]
  generalize (lg_sl ([.ref h0, .int x]) ++ List.replicate (2 - (lg_sl ([.ref h0, .int x])).length) Slot.unset).toArray = ls at hl ⊢
  have hl : lv_has ls 2 [(0, .ref h0), (1, .int x)] := hl
  refine lv_aload_n hx hb d_Bytes_putInt_0 rfl (lv_at hl 0 rfl) ?_
  refine lv_iload_n hx hb d_Bytes_putInt_1 rfl (lv_at hl 1 rfl) ?_
  refine lv_bipush (v := 24) hx hb d_Bytes_putInt_2 (by decide) ?_
  refine lv_ishr hx hb d_Bytes_putInt_4 ?_
  have hc0 : 0 + 0 ≤ 0 := by omega
  have hs0 : 0 + 0 ≤ 0 := by omega
  have hPc := hP.sub (ws' := [(h0, .inr (0, [.ref qa, .int (nI k)])), (qa, .inl (ca, n, .inl f))]) [0, 1] rfl
  have hDc := hD.sub (ws' := [(h0, .inr (0, [.ref qa, .int (nI k)])), (qa, .inl (ca, n, .inl f))]) [0, 1] (by decide) rfl
  have hKc := hK.sub (tys' := [(ca, .byte)]) [0] rfl
  have hFc := va_free (wc := [(h0, .inr (0, [.ref qa, .int (nI k)])), (qa, .inl (ca, n, .inl f))]) hD hS hA [0, 1] rfl
  refine va_callv (va_runV (As := [.int (x >>> (24 &&& 31))]) (rest := []) ⟨hx, hb, hml, hown, htw⟩ (c_Bytes_put l dC dI s.heap.size h0 qa ca n f k (x >>> (24 &&& 31)) (by first | omega | assumption) (by first | omega | assumption)) (cwV 1 htw (tw_V wd_3_128 wd_1_197 wd_1_198 wd_1_2 k_Bytes_put) rfl rfl rfl (by decide +kernel) ⟨Nat.le_of_ble_eq_true rfl, Nat.le_of_ble_eq_true rfl⟩) ⟨fun a U g mk q => by obtain ⟨q0, q1, qP, qK, qD⟩ := q; exact ⟨q0, q1, qP, va_K.moved (u := U) (U := U.calling g mk a) (Vm.Alike.refl U.vm) qK, qD⟩, va_recv hK hP (q := (R_Bytes, F_Bytes, 2)) (ci := 0) (q0 := 0) rfl rfl, fun U hU hW => ⟨rfl, by rw [hU], by rw [hU]; exact hPc, va_K.moved hW.alike hKc, hDc.weaken (fun _ _ _ _ => trivial)⟩⟩ rfl rfl hl.1 rfl (lv_room (Nat.le_of_ble_eq_true rfl)) d_Bytes_putInt_5 ⟨hc0, hs0⟩) hS (fun q _ h => hFc q h) hFc (fun u t H1 locs ht hvm hw hB hz1 hk1 hS => ?_)
  obtain ⟨hP1, hK1, hD1⟩ := hB
  rw [ht] at hP1
  have hK1 := va_K.moved hvm.symm hK1
  obtain ⟨hP, hD⟩ := va_join (wr := []) (w1 := [(h0, .inr (0, [.ref qa, .int (nI (k + 1))])), (qa, .inl (ca, n, .inl (upd f (nI k).toNatClampNeg (vp_nar .byte (((x >>> (24 &&& 31)) : Int32).toInt8.toInt32)))))]) hP hD [0, 1] [] rfl rfl (by decide) (by decide) hk1 hFc hP1 hD1
  have hK := (hK.sub (tys' := []) [] rfl).app hK1
  generalize H1 = H at hP hS ⊢
  have hP : va_P (dC, dI) classes [(h0, .inr (0, [.ref qa, .int (nI (k + 1))])), (qa, .inl (ca, n, .inl (upd f (nI k).toNatClampNeg (vp_nar .byte (((x >>> (24 &&& 31)) : Int32).toInt8.toInt32)))))] H := hP
  have hD : va_D A [(h0, .inr (0, [.ref qa, .int (nI (k + 1))])), (qa, .inl (ca, n, .inl (upd f (nI k).toNatClampNeg (vp_nar .byte (((x >>> (24 &&& 31)) : Int32).toInt8.toInt32)))))] := hD
  have hK : va_K (dC, dI) classes [(ca, .byte)] s := hK
  refine lv_aload_n hx hb d_Bytes_putInt_8 rfl (lv_at hl 0 rfl) ?_
  refine lv_iload_n hx hb d_Bytes_putInt_9 rfl (lv_at hl 1 rfl) ?_
  refine lv_bipush (v := 16) hx hb d_Bytes_putInt_10 (by decide) ?_
  refine lv_ishr hx hb d_Bytes_putInt_12 ?_
  have hc0 : 0 + 0 ≤ 0 := by omega
  have hs0 : 0 + 0 ≤ 0 := by omega
  have hPc := hP.sub (ws' := [(h0, .inr (0, [.ref qa, .int (nI (k + 1))])), (qa, .inl (ca, n, .inl (upd f (nI k).toNatClampNeg (vp_nar .byte (((x >>> (24 &&& 31)) : Int32).toInt8.toInt32)))))]) [0, 1] rfl
  have hDc := hD.sub (ws' := [(h0, .inr (0, [.ref qa, .int (nI (k + 1))])), (qa, .inl (ca, n, .inl (upd f (nI k).toNatClampNeg (vp_nar .byte (((x >>> (24 &&& 31)) : Int32).toInt8.toInt32)))))]) [0, 1] (by decide) rfl
  have hKc := hK.sub (tys' := [(ca, .byte)]) [0] rfl
  have hFc := va_free (wc := [(h0, .inr (0, [.ref qa, .int (nI (k + 1))])), (qa, .inl (ca, n, .inl (upd f (nI k).toNatClampNeg (vp_nar .byte (((x >>> (24 &&& 31)) : Int32).toInt8.toInt32)))))]) hD hS hA [0, 1] rfl
  refine va_callv (va_runV (As := [.int (x >>> (16 &&& 31))]) (rest := []) ⟨hx, hb, hml, hown, htw⟩ (c_Bytes_put l dC dI H.size h0 qa ca n (upd f (nI k).toNatClampNeg (vp_nar .byte (((x >>> (24 &&& 31)) : Int32).toInt8.toInt32))) ((k + 1)) (x >>> (16 &&& 31)) (by first | omega | assumption) (by first | omega | assumption)) (cwV 1 htw (tw_V wd_3_128 wd_1_197 wd_1_198 wd_1_2 k_Bytes_put) rfl rfl rfl (by decide +kernel) ⟨Nat.le_of_ble_eq_true rfl, Nat.le_of_ble_eq_true rfl⟩) ⟨fun a U g mk q => by obtain ⟨q0, q1, qP, qK, qD⟩ := q; exact ⟨q0, q1, qP, va_K.moved (u := U) (U := U.calling g mk a) (Vm.Alike.refl U.vm) qK, qD⟩, va_recv hK hP (q := (R_Bytes, F_Bytes, 2)) (ci := 0) (q0 := 0) rfl rfl, fun U hU hW => ⟨rfl, by rw [hU], by rw [hU]; exact hPc, va_K.moved hW.alike hKc, hDc.weaken (fun _ _ _ _ => trivial)⟩⟩ rfl rfl hl.1 rfl (lv_room (Nat.le_of_ble_eq_true rfl)) d_Bytes_putInt_13 ⟨hc0, hs0⟩) hS (fun q _ h => hFc q h) hFc (fun u t H1 locs ht hvm hw hB hz1 hk1 hS => ?_)
  obtain ⟨hP1, hK1, hD1⟩ := hB
  rw [ht] at hP1
  have hK1 := va_K.moved hvm.symm hK1
  obtain ⟨hP, hD⟩ := va_join (wr := []) (w1 := [(h0, .inr (0, [.ref qa, .int (nI (((k + 1)) + 1))])), (qa, .inl (ca, n, .inl (upd (upd f (nI k).toNatClampNeg (vp_nar .byte (((x >>> (24 &&& 31)) : Int32).toInt8.toInt32))) (nI ((k + 1))).toNatClampNeg (vp_nar .byte (((x >>> (16 &&& 31)) : Int32).toInt8.toInt32)))))]) hP hD [0, 1] [] rfl rfl (by decide) (by decide) hk1 hFc hP1 hD1
  have hK := (hK.sub (tys' := []) [] rfl).app hK1
  generalize H1 = H at hP hS ⊢
  have hP : va_P (dC, dI) classes [(h0, .inr (0, [.ref qa, .int (nI (((k + 1)) + 1))])), (qa, .inl (ca, n, .inl (upd (upd f (nI k).toNatClampNeg (vp_nar .byte (((x >>> (24 &&& 31)) : Int32).toInt8.toInt32))) (nI ((k + 1))).toNatClampNeg (vp_nar .byte (((x >>> (16 &&& 31)) : Int32).toInt8.toInt32)))))] H := hP
  have hD : va_D A [(h0, .inr (0, [.ref qa, .int (nI (((k + 1)) + 1))])), (qa, .inl (ca, n, .inl (upd (upd f (nI k).toNatClampNeg (vp_nar .byte (((x >>> (24 &&& 31)) : Int32).toInt8.toInt32))) (nI ((k + 1))).toNatClampNeg (vp_nar .byte (((x >>> (16 &&& 31)) : Int32).toInt8.toInt32)))))] := hD
  have hK : va_K (dC, dI) classes [(ca, .byte)] s := hK
  refine lv_aload_n hx hb d_Bytes_putInt_16 rfl (lv_at hl 0 rfl) ?_
  refine lv_iload_n hx hb d_Bytes_putInt_17 rfl (lv_at hl 1 rfl) ?_
  refine lv_bipush (v := 8) hx hb d_Bytes_putInt_18 (by decide) ?_
  refine lv_ishr hx hb d_Bytes_putInt_20 ?_
  have hc0 : 0 + 0 ≤ 0 := by omega
  have hs0 : 0 + 0 ≤ 0 := by omega
  have hPc := hP.sub (ws' := [(h0, .inr (0, [.ref qa, .int (nI (((k + 1)) + 1))])), (qa, .inl (ca, n, .inl (upd (upd f (nI k).toNatClampNeg (vp_nar .byte (((x >>> (24 &&& 31)) : Int32).toInt8.toInt32))) (nI ((k + 1))).toNatClampNeg (vp_nar .byte (((x >>> (16 &&& 31)) : Int32).toInt8.toInt32)))))]) [0, 1] rfl
  have hDc := hD.sub (ws' := [(h0, .inr (0, [.ref qa, .int (nI (((k + 1)) + 1))])), (qa, .inl (ca, n, .inl (upd (upd f (nI k).toNatClampNeg (vp_nar .byte (((x >>> (24 &&& 31)) : Int32).toInt8.toInt32))) (nI ((k + 1))).toNatClampNeg (vp_nar .byte (((x >>> (16 &&& 31)) : Int32).toInt8.toInt32)))))]) [0, 1] (by decide) rfl
  have hKc := hK.sub (tys' := [(ca, .byte)]) [0] rfl
  have hFc := va_free (wc := [(h0, .inr (0, [.ref qa, .int (nI (((k + 1)) + 1))])), (qa, .inl (ca, n, .inl (upd (upd f (nI k).toNatClampNeg (vp_nar .byte (((x >>> (24 &&& 31)) : Int32).toInt8.toInt32))) (nI ((k + 1))).toNatClampNeg (vp_nar .byte (((x >>> (16 &&& 31)) : Int32).toInt8.toInt32)))))]) hD hS hA [0, 1] rfl
  refine va_callv (va_runV (As := [.int (x >>> (8 &&& 31))]) (rest := []) ⟨hx, hb, hml, hown, htw⟩ (c_Bytes_put l dC dI H.size h0 qa ca n (upd (upd f (nI k).toNatClampNeg (vp_nar .byte (((x >>> (24 &&& 31)) : Int32).toInt8.toInt32))) (nI ((k + 1))).toNatClampNeg (vp_nar .byte (((x >>> (16 &&& 31)) : Int32).toInt8.toInt32))) ((((k + 1)) + 1)) (x >>> (8 &&& 31)) (by first | omega | assumption) (by first | omega | assumption)) (cwV 1 htw (tw_V wd_3_128 wd_1_197 wd_1_198 wd_1_2 k_Bytes_put) rfl rfl rfl (by decide +kernel) ⟨Nat.le_of_ble_eq_true rfl, Nat.le_of_ble_eq_true rfl⟩) ⟨fun a U g mk q => by obtain ⟨q0, q1, qP, qK, qD⟩ := q; exact ⟨q0, q1, qP, va_K.moved (u := U) (U := U.calling g mk a) (Vm.Alike.refl U.vm) qK, qD⟩, va_recv hK hP (q := (R_Bytes, F_Bytes, 2)) (ci := 0) (q0 := 0) rfl rfl, fun U hU hW => ⟨rfl, by rw [hU], by rw [hU]; exact hPc, va_K.moved hW.alike hKc, hDc.weaken (fun _ _ _ _ => trivial)⟩⟩ rfl rfl hl.1 rfl (lv_room (Nat.le_of_ble_eq_true rfl)) d_Bytes_putInt_21 ⟨hc0, hs0⟩) hS (fun q _ h => hFc q h) hFc (fun u t H1 locs ht hvm hw hB hz1 hk1 hS => ?_)
  obtain ⟨hP1, hK1, hD1⟩ := hB
  rw [ht] at hP1
  have hK1 := va_K.moved hvm.symm hK1
  obtain ⟨hP, hD⟩ := va_join (wr := []) (w1 := [(h0, .inr (0, [.ref qa, .int (nI (((((k + 1)) + 1)) + 1))])), (qa, .inl (ca, n, .inl (upd (upd (upd f (nI k).toNatClampNeg (vp_nar .byte (((x >>> (24 &&& 31)) : Int32).toInt8.toInt32))) (nI ((k + 1))).toNatClampNeg (vp_nar .byte (((x >>> (16 &&& 31)) : Int32).toInt8.toInt32))) (nI ((((k + 1)) + 1))).toNatClampNeg (vp_nar .byte (((x >>> (8 &&& 31)) : Int32).toInt8.toInt32)))))]) hP hD [0, 1] [] rfl rfl (by decide) (by decide) hk1 hFc hP1 hD1
  have hK := (hK.sub (tys' := []) [] rfl).app hK1
  generalize H1 = H at hP hS ⊢
  have hP : va_P (dC, dI) classes [(h0, .inr (0, [.ref qa, .int (nI (((((k + 1)) + 1)) + 1))])), (qa, .inl (ca, n, .inl (upd (upd (upd f (nI k).toNatClampNeg (vp_nar .byte (((x >>> (24 &&& 31)) : Int32).toInt8.toInt32))) (nI ((k + 1))).toNatClampNeg (vp_nar .byte (((x >>> (16 &&& 31)) : Int32).toInt8.toInt32))) (nI ((((k + 1)) + 1))).toNatClampNeg (vp_nar .byte (((x >>> (8 &&& 31)) : Int32).toInt8.toInt32)))))] H := hP
  have hD : va_D A [(h0, .inr (0, [.ref qa, .int (nI (((((k + 1)) + 1)) + 1))])), (qa, .inl (ca, n, .inl (upd (upd (upd f (nI k).toNatClampNeg (vp_nar .byte (((x >>> (24 &&& 31)) : Int32).toInt8.toInt32))) (nI ((k + 1))).toNatClampNeg (vp_nar .byte (((x >>> (16 &&& 31)) : Int32).toInt8.toInt32))) (nI ((((k + 1)) + 1))).toNatClampNeg (vp_nar .byte (((x >>> (8 &&& 31)) : Int32).toInt8.toInt32)))))] := hD
  have hK : va_K (dC, dI) classes [(ca, .byte)] s := hK
  refine lv_aload_n hx hb d_Bytes_putInt_24 rfl (lv_at hl 0 rfl) ?_
  refine lv_iload_n hx hb d_Bytes_putInt_25 rfl (lv_at hl 1 rfl) ?_
  have hc0 : 0 + 0 ≤ 0 := by omega
  have hs0 : 0 + 0 ≤ 0 := by omega
  have hPc := hP.sub (ws' := [(h0, .inr (0, [.ref qa, .int (nI (((((k + 1)) + 1)) + 1))])), (qa, .inl (ca, n, .inl (upd (upd (upd f (nI k).toNatClampNeg (vp_nar .byte (((x >>> (24 &&& 31)) : Int32).toInt8.toInt32))) (nI ((k + 1))).toNatClampNeg (vp_nar .byte (((x >>> (16 &&& 31)) : Int32).toInt8.toInt32))) (nI ((((k + 1)) + 1))).toNatClampNeg (vp_nar .byte (((x >>> (8 &&& 31)) : Int32).toInt8.toInt32)))))]) [0, 1] rfl
  have hDc := hD.sub (ws' := [(h0, .inr (0, [.ref qa, .int (nI (((((k + 1)) + 1)) + 1))])), (qa, .inl (ca, n, .inl (upd (upd (upd f (nI k).toNatClampNeg (vp_nar .byte (((x >>> (24 &&& 31)) : Int32).toInt8.toInt32))) (nI ((k + 1))).toNatClampNeg (vp_nar .byte (((x >>> (16 &&& 31)) : Int32).toInt8.toInt32))) (nI ((((k + 1)) + 1))).toNatClampNeg (vp_nar .byte (((x >>> (8 &&& 31)) : Int32).toInt8.toInt32)))))]) [0, 1] (by decide) rfl
  have hKc := hK.sub (tys' := [(ca, .byte)]) [0] rfl
  have hFc := va_free (wc := [(h0, .inr (0, [.ref qa, .int (nI (((((k + 1)) + 1)) + 1))])), (qa, .inl (ca, n, .inl (upd (upd (upd f (nI k).toNatClampNeg (vp_nar .byte (((x >>> (24 &&& 31)) : Int32).toInt8.toInt32))) (nI ((k + 1))).toNatClampNeg (vp_nar .byte (((x >>> (16 &&& 31)) : Int32).toInt8.toInt32))) (nI ((((k + 1)) + 1))).toNatClampNeg (vp_nar .byte (((x >>> (8 &&& 31)) : Int32).toInt8.toInt32)))))]) hD hS hA [0, 1] rfl
  refine va_callv (va_runV (As := [.int x]) (rest := []) ⟨hx, hb, hml, hown, htw⟩ (c_Bytes_put l dC dI H.size h0 qa ca n (upd (upd (upd f (nI k).toNatClampNeg (vp_nar .byte (((x >>> (24 &&& 31)) : Int32).toInt8.toInt32))) (nI ((k + 1))).toNatClampNeg (vp_nar .byte (((x >>> (16 &&& 31)) : Int32).toInt8.toInt32))) (nI ((((k + 1)) + 1))).toNatClampNeg (vp_nar .byte (((x >>> (8 &&& 31)) : Int32).toInt8.toInt32))) ((((((k + 1)) + 1)) + 1)) x (by first | omega | assumption) (by first | omega | assumption)) (cwV 1 htw (tw_V wd_3_128 wd_1_197 wd_1_198 wd_1_2 k_Bytes_put) rfl rfl rfl (by decide +kernel) ⟨Nat.le_of_ble_eq_true rfl, Nat.le_of_ble_eq_true rfl⟩) ⟨fun a U g mk q => by obtain ⟨q0, q1, qP, qK, qD⟩ := q; exact ⟨q0, q1, qP, va_K.moved (u := U) (U := U.calling g mk a) (Vm.Alike.refl U.vm) qK, qD⟩, va_recv hK hP (q := (R_Bytes, F_Bytes, 2)) (ci := 0) (q0 := 0) rfl rfl, fun U hU hW => ⟨rfl, by rw [hU], by rw [hU]; exact hPc, va_K.moved hW.alike hKc, hDc.weaken (fun _ _ _ _ => trivial)⟩⟩ rfl rfl hl.1 rfl (lv_room (Nat.le_of_ble_eq_true rfl)) d_Bytes_putInt_26 ⟨hc0, hs0⟩) hS (fun q _ h => hFc q h) hFc (fun u t H1 locs ht hvm hw hB hz1 hk1 hS => ?_)
  obtain ⟨hP1, hK1, hD1⟩ := hB
  rw [ht] at hP1
  have hK1 := va_K.moved hvm.symm hK1
  obtain ⟨hP, hD⟩ := va_join (wr := []) (w1 := [(h0, .inr (0, [.ref qa, .int (nI (((((((k + 1)) + 1)) + 1)) + 1))])), (qa, .inl (ca, n, .inl (upd (upd (upd (upd f (nI k).toNatClampNeg (vp_nar .byte (((x >>> (24 &&& 31)) : Int32).toInt8.toInt32))) (nI ((k + 1))).toNatClampNeg (vp_nar .byte (((x >>> (16 &&& 31)) : Int32).toInt8.toInt32))) (nI ((((k + 1)) + 1))).toNatClampNeg (vp_nar .byte (((x >>> (8 &&& 31)) : Int32).toInt8.toInt32))) (nI ((((((k + 1)) + 1)) + 1))).toNatClampNeg (vp_nar .byte ((x : Int32).toInt8.toInt32)))))]) hP hD [0, 1] [] rfl rfl (by decide) (by decide) hk1 hFc hP1 hD1
  have hK := (hK.sub (tys' := []) [] rfl).app hK1
  generalize H1 = H at hP hS ⊢
  have hP : va_P (dC, dI) classes [(h0, .inr (0, [.ref qa, .int (nI (((((((k + 1)) + 1)) + 1)) + 1))])), (qa, .inl (ca, n, .inl (upd (upd (upd (upd f (nI k).toNatClampNeg (vp_nar .byte (((x >>> (24 &&& 31)) : Int32).toInt8.toInt32))) (nI ((k + 1))).toNatClampNeg (vp_nar .byte (((x >>> (16 &&& 31)) : Int32).toInt8.toInt32))) (nI ((((k + 1)) + 1))).toNatClampNeg (vp_nar .byte (((x >>> (8 &&& 31)) : Int32).toInt8.toInt32))) (nI ((((((k + 1)) + 1)) + 1))).toNatClampNeg (vp_nar .byte ((x : Int32).toInt8.toInt32)))))] H := hP
  have hD : va_D A [(h0, .inr (0, [.ref qa, .int (nI (((((((k + 1)) + 1)) + 1)) + 1))])), (qa, .inl (ca, n, .inl (upd (upd (upd (upd f (nI k).toNatClampNeg (vp_nar .byte (((x >>> (24 &&& 31)) : Int32).toInt8.toInt32))) (nI ((k + 1))).toNatClampNeg (vp_nar .byte (((x >>> (16 &&& 31)) : Int32).toInt8.toInt32))) (nI ((((k + 1)) + 1))).toNatClampNeg (vp_nar .byte (((x >>> (8 &&& 31)) : Int32).toInt8.toInt32))) (nI ((((((k + 1)) + 1)) + 1))).toNatClampNeg (vp_nar .byte ((x : Int32).toInt8.toInt32)))))] := hD
  have hK : va_K (dC, dI) classes [(ca, .byte)] s := hK
  have hP9 := hP.sub (ws' := [(h0, .inr (0, [.ref qa, .int (nI (((((((k + 1)) + 1)) + 1)) + 1))])), (qa, .inl (ca, n, .inl (upd (upd (upd (upd f (nI k).toNatClampNeg (vp_nar .byte (((x >>> (24 &&& 31)) : Int32).toInt8.toInt32))) (nI ((k + 1))).toNatClampNeg (vp_nar .byte (((x >>> (16 &&& 31)) : Int32).toInt8.toInt32))) (nI ((((k + 1)) + 1))).toNatClampNeg (vp_nar .byte (((x >>> (8 &&& 31)) : Int32).toInt8.toInt32))) (nI ((((((k + 1)) + 1)) + 1))).toNatClampNeg (vp_nar .byte ((x : Int32).toInt8.toInt32)))))]) [0, 1] rfl
  have hD9 := hD.sub (ws' := [(h0, .inr (0, [.ref qa, .int (nI (((((((k + 1)) + 1)) + 1)) + 1))])), (qa, .inl (ca, n, .inl (upd (upd (upd (upd f (nI k).toNatClampNeg (vp_nar .byte (((x >>> (24 &&& 31)) : Int32).toInt8.toInt32))) (nI ((k + 1))).toNatClampNeg (vp_nar .byte (((x >>> (16 &&& 31)) : Int32).toInt8.toInt32))) (nI ((((k + 1)) + 1))).toNatClampNeg (vp_nar .byte (((x >>> (8 &&& 31)) : Int32).toInt8.toInt32))) (nI ((((((k + 1)) + 1)) + 1))).toNatClampNeg (vp_nar .byte ((x : Int32).toInt8.toInt32)))))]) [0, 1] (by decide) rfl
  have hK9 := hK.sub (tys' := [(ca, .byte)]) [0] rfl
  refine W.widen (k := 0) (n := 0) (by omega) (by omega) ?_
  exact W.vret hx hb hr (fun t ht hW => ⟨⟨(), rfl, trivial, (upd (upd (upd (upd f (nI k).toNatClampNeg (vp_nar .byte (((x >>> (24 &&& 31)) : Int32).toInt8.toInt32))) (nI ((k + 1))).toNatClampNeg (vp_nar .byte (((x >>> (16 &&& 31)) : Int32).toInt8.toInt32))) (nI ((((k + 1)) + 1))).toNatClampNeg (vp_nar .byte (((x >>> (8 &&& 31)) : Int32).toInt8.toInt32))) (nI ((((((k + 1)) + 1)) + 1))).toNatClampNeg (vp_nar .byte ((x : Int32).toInt8.toInt32))), by rw [ht]; exact hP9, va_K.moved hW.alike hK9, hD9⟩, hS.F ht⟩) hS.2.2 d_Bytes_putInt_29
set_option maxHeartbeats 4000000 in
set_option maxRecDepth 100000 in
theorem c_SF_feed (l : Launch) (dC : Nat → ClassId) (dI : Nat → Nat → Nat) (sz : Nat) (x0 : Nat) (tp : Nat) (tk : Nat) (rs : Nat) (ou : Nat) (sc0 : Nat) (h0 : Nat) (sn0 : Nat) (pa0 : Nat) (vl : Nat) (de : Nat) (br : Nat) (pw : Nat) (pr : Nat) (tpa : Nat) (ctp : ClassId) (z1 : Int32) (z2 : Int32) (z3 : Int32) (z4 : Int32) (z5 : Int32) : Met l y_SF_feed ws_SF_feed ({ frames := 2, cells := 0, slots := 0, locals := 42 }) (va_Pc [.ref x0, .int z1, .int z2, .int z3, .int z4, .int z5] (fun U => U.heap.size = sz ∧ va_P (dC, dI) classes [(x0, .inr (10, [.ref tp, .ref tk, .ref rs, .ref ou, .int 0, .ref sc0, .ref h0, .ref sn0, .ref pa0, .ref vl, .ref de, .ref br, .ref pw, .ref pr])), (tp, .inr (0, [.ref tpa, .int 0])), (tpa, .inl (ctp, 256, .inl ((fun _ => 0))))] U.heap ∧ va_K (dC, dI) classes [(ctp, .byte)] U ∧ va_D (fun _ => True) [(x0, .inr (10, [.ref tp, .ref tk, .ref rs, .ref ou, .int 0, .ref sc0, .ref h0, .ref sn0, .ref pa0, .ref vl, .ref de, .ref br, .ref pw, .ref pr])), (tp, .inr (0, [.ref tpa, .int 0])), (tpa, .inl (ctp, 256, .inl ((fun _ => 0))))])) (va_Qi (fun (r : Int32) (_ : Unit) => r = nI 20) (fun _ t => ∃ (g2 : Nat → Int32), va_P (dC, dI) classes [(x0, .inr (10, [.ref tp, .ref tk, .ref rs, .ref ou, .int 0, .ref sc0, .ref h0, .ref sn0, .ref pa0, .ref vl, .ref de, .ref br, .ref pw, .ref pr])), (tp, .inr (0, [.ref tpa, .int (nI 20)])), (tpa, .inl (ctp, 256, .inl g2))] t.heap ∧ va_K (dC, dI) classes [(ctp, .byte)] t ∧ va_D (va_A [(x0, .inr (10, [.ref tp, .ref tk, .ref rs, .ref ou, .int 0, .ref sc0, .ref h0, .ref sn0, .ref pa0, .ref vl, .ref de, .ref br, .ref pw, .ref pr])), (tp, .inr (0, [.ref tpa, .int 0])), (tpa, .inl (ctp, 256, .inl ((fun _ => 0))))] sz) [(x0, .inr (10, [.ref tp, .ref tk, .ref rs, .ref ou, .int 0, .ref sc0, .ref h0, .ref sn0, .ref pa0, .ref vl, .ref de, .ref br, .ref pw, .ref pr])), (tp, .inr (0, [.ref tpa, .int (nI 20)])), (tpa, .inl (ctp, 256, .inl g2))]) (va_A [(x0, .inr (10, [.ref tp, .ref tk, .ref rs, .ref ou, .int 0, .ref sc0, .ref h0, .ref sn0, .ref pa0, .ref vl, .ref de, .ref br, .ref pw, .ref pr])), (tp, .inr (0, [.ref tpa, .int 0])), (tpa, .inl (ctp, 256, .inl ((fun _ => 0))))] sz)) 0 0 (va_A [(x0, .inr (10, [.ref tp, .ref tk, .ref rs, .ref ou, .int 0, .ref sc0, .ref h0, .ref sn0, .ref pa0, .ref vl, .ref de, .ref br, .ref pw, .ref pr])), (tp, .inr (0, [.ref tpa, .int 0])), (tpa, .inl (ctp, 256, .inl ((fun _ => 0))))] sz) := by
  refine Met.ofW (cc := b_SF_feed) (maxL := 6) (ret := (some .int)) (by decide) rfl ?_
  intro p e s m args below meth c s₁ B hml hv
  obtain ⟨rfl, hsz, hP, hK, hD0⟩ := hv
  have hx := B.exec
  have hb := B.bytes
  have hr := B.returns
  have hts := atoms_spec (ws := ws_SF_feed) B.pre
  have htw : ∀ w ∈ tw_tbl, w.before [.ref x0, .int z1, .int z2, .int z3, .int z4, .int z5].toArray s = true := fun w h => hts w (List.mem_cons_of_mem _ h)
  have hown : s.vm.findClass R_SF = some m.cls := findClass_of_methodNamed B.named
  have hlocks := B.notSynchronized
  have hin : meth.name = "feed" := (name_of_methodNamed B.named B.method).1
  subst hsz
  have hD := hD0.self (sz := s.heap.size)
  generalize hAe : va_A [(x0, .inr (10, [.ref tp, .ref tk, .ref rs, .ref ou, .int 0, .ref sc0, .ref h0, .ref sn0, .ref pa0, .ref vl, .ref de, .ref br, .ref pw, .ref pr])), (tp, .inr (0, [.ref tpa, .int 0])), (tpa, .inl (ctp, 256, .inl ((fun _ => 0))))] s.heap.size = A at hD ⊢
  have hA : ∀ q : Nat, s.heap.size ≤ q → A q := fun q h => by rw [← hAe]; exact Or.inr h
  have hS : va_S A s.heap s.heap [] := va_S.rf
  have hP : va_P (dC, dI) classes [(x0, .inr (10, [.ref tp, .ref tk, .ref rs, .ref ou, .int 0, .ref sc0, .ref h0, .ref sn0, .ref pa0, .ref vl, .ref de, .ref br, .ref pw, .ref pr])), (tp, .inr (0, [.ref tpa, .int 0])), (tpa, .inl (ctp, 256, .inl ((fun _ => 0))))] s.heap := hP
  have hl := lv_entry ([.ref x0, .int z1, .int z2, .int z3, .int z4, .int z5]) (n := 6) (Nat.le_of_ble_eq_true rfl)
  rw [lg_entry_eq]
  generalize (lg_sl ([.ref x0, .int z1, .int z2, .int z3, .int z4, .int z5]) ++ List.replicate (6 - (lg_sl ([.ref x0, .int z1, .int z2, .int z3, .int z4, .int z5])).length) Slot.unset).toArray = ls at hl ⊢
  have hl : lv_has ls 6 [(0, .ref x0), (1, .int z1), (2, .int z2), (3, .int z3), (4, .int z4), (5, .int z5)] := hl
  refine lv_aload_n hx hb d_SF_feed_0 rfl (lv_at hl 0 rfl) ?_
  refine va_get (D := (dC, dI)) (ci := 10) (v := .ref tp) (C := R_SF) (T := F_SF) (N := 14) hx hb htw i_SF hown hK hP 0 rfl rfl 0 (by decide) (htw _ wd_3_6) (fun _ h9 => h9) rfl d_SF_feed_1 ?_
  refine va_get (D := (dC, dI)) (ci := 0) (v := .int 0) (C := R_Bytes) (T := F_Bytes) (N := 2) hx hb htw i_Bytes hown hK hP 1 rfl rfl 1 (by decide) (htw _ wd_1_65) (fun _ h9 => h9) rfl d_SF_feed_4 ?_
  refine lv_ldc (v := 65516) hx hb hown (htw _ wd_3_57) d_SF_feed_7 ?_
  refine lv_icmp_le (tgt := 20) hx hb d_SF_feed_9 rfl (fun _ => ?_) (fun hn => absurd (by decide) hn)
  refine lv_aload_n hx hb d_SF_feed_20 rfl (lv_at hl 0 rfl) ?_
  refine va_get (D := (dC, dI)) (ci := 10) (v := .ref tp) (C := R_SF) (T := F_SF) (N := 14) hx hb htw i_SF hown hK hP 0 rfl rfl 0 (by decide) (htw _ wd_3_6) (fun _ h9 => h9) rfl d_SF_feed_21 ?_
  refine lv_iload_n hx hb d_SF_feed_24 rfl (lv_at hl 1 rfl) ?_
  have hc0 : 0 + 0 ≤ 0 := by omega
  have hs0 : 0 + 0 ≤ 0 := by omega
  have hPc := hP.sub (ws' := [(tp, .inr (0, [.ref tpa, .int 0])), (tpa, .inl (ctp, 256, .inl ((fun _ => 0))))]) [1, 2] rfl
  have hDc := hD.sub (ws' := [(tp, .inr (0, [.ref tpa, .int 0])), (tpa, .inl (ctp, 256, .inl ((fun _ => 0))))]) [1, 2] (by decide) rfl
  have hKc := hK.sub (tys' := [(ctp, .byte)]) [0] rfl
  have hFc := va_free (wc := [(tp, .inr (0, [.ref tpa, .int 0])), (tpa, .inl (ctp, 256, .inl ((fun _ => 0))))]) hD hS hA [1, 2] rfl
  refine va_callv (va_runV (As := [.int z1]) (rest := []) ⟨hx, hb, hml, hown, htw⟩ (c_Bytes_putInt l dC dI s.heap.size tp tpa ctp 256 ((fun _ => 0)) 0 z1 (by first | omega | assumption) (by first | omega | assumption)) (cwV 1 htw (tw_V wd_3_124 wd_3_125 wd_3_126 wd_1_2 k_Bytes_putInt) rfl rfl rfl (by decide +kernel) ⟨Nat.le_of_ble_eq_true rfl, Nat.le_of_ble_eq_true rfl⟩) ⟨fun a U g mk q => by obtain ⟨q0, q1, qP, qK, qD⟩ := q; exact ⟨q0, q1, qP, va_K.moved (u := U) (U := U.calling g mk a) (Vm.Alike.refl U.vm) qK, qD⟩, va_recv hK hP (q := (R_Bytes, F_Bytes, 2)) (ci := 0) (q0 := 1) rfl rfl, fun U hU hW => ⟨rfl, by rw [hU], by rw [hU]; exact hPc, va_K.moved hW.alike hKc, hDc.weaken (fun _ _ _ _ => trivial)⟩⟩ rfl rfl hl.1 rfl (lv_room (Nat.le_of_ble_eq_true rfl)) d_SF_feed_25 ⟨hc0, hs0⟩) hS (fun q _ h => hFc q h) hFc (fun u t H1 locs ht hvm hw hB hz1 hk1 hS => ?_)
  obtain ⟨g2_2, hP1, hK1, hD1⟩ := hB
  rw [ht] at hP1
  have hK1 := va_K.moved hvm.symm hK1
  obtain ⟨hP, hD⟩ := va_join (wr := [(x0, .inr (10, [.ref tp, .ref tk, .ref rs, .ref ou, .int 0, .ref sc0, .ref h0, .ref sn0, .ref pa0, .ref vl, .ref de, .ref br, .ref pw, .ref pr]))]) (w1 := [(tp, .inr (0, [.ref tpa, .int (nI (0 + 4))])), (tpa, .inl (ctp, 256, .inl g2_2))]) hP hD [1, 2] [0] rfl rfl (by decide) (by decide) hk1 hFc hP1 hD1
  have hK := (hK.sub (tys' := []) [] rfl).app hK1
  generalize H1 = H at hP hS ⊢
  have hP : va_P (dC, dI) classes [(x0, .inr (10, [.ref tp, .ref tk, .ref rs, .ref ou, .int 0, .ref sc0, .ref h0, .ref sn0, .ref pa0, .ref vl, .ref de, .ref br, .ref pw, .ref pr])), (tp, .inr (0, [.ref tpa, .int (nI (0 + 4))])), (tpa, .inl (ctp, 256, .inl g2_2))] H := hP
  have hD : va_D A [(x0, .inr (10, [.ref tp, .ref tk, .ref rs, .ref ou, .int 0, .ref sc0, .ref h0, .ref sn0, .ref pa0, .ref vl, .ref de, .ref br, .ref pw, .ref pr])), (tp, .inr (0, [.ref tpa, .int (nI (0 + 4))])), (tpa, .inl (ctp, 256, .inl g2_2))] := hD
  have hK : va_K (dC, dI) classes [(ctp, .byte)] s := hK
  refine lv_aload_n hx hb d_SF_feed_28 rfl (lv_at hl 0 rfl) ?_
  refine va_get (D := (dC, dI)) (ci := 10) (v := .ref tp) (C := R_SF) (T := F_SF) (N := 14) hx hb htw i_SF hown hK hP 0 rfl rfl 0 (by decide) (htw _ wd_3_6) (fun _ h9 => h9) rfl d_SF_feed_29 ?_
  refine lv_iload_n hx hb d_SF_feed_32 rfl (lv_at hl 2 rfl) ?_
  have hc0 : 0 + 0 ≤ 0 := by omega
  have hs0 : 0 + 0 ≤ 0 := by omega
  have hPc := hP.sub (ws' := [(tp, .inr (0, [.ref tpa, .int (nI (0 + 4))])), (tpa, .inl (ctp, 256, .inl g2_2))]) [1, 2] rfl
  have hDc := hD.sub (ws' := [(tp, .inr (0, [.ref tpa, .int (nI (0 + 4))])), (tpa, .inl (ctp, 256, .inl g2_2))]) [1, 2] (by decide) rfl
  have hKc := hK.sub (tys' := [(ctp, .byte)]) [0] rfl
  have hFc := va_free (wc := [(tp, .inr (0, [.ref tpa, .int (nI (0 + 4))])), (tpa, .inl (ctp, 256, .inl g2_2))]) hD hS hA [1, 2] rfl
  refine va_callv (va_runV (As := [.int z2]) (rest := []) ⟨hx, hb, hml, hown, htw⟩ (c_Bytes_putInt l dC dI H.size tp tpa ctp 256 g2_2 ((0 + 4)) z2 (by first | omega | assumption) (by first | omega | assumption)) (cwV 1 htw (tw_V wd_3_124 wd_3_125 wd_3_126 wd_1_2 k_Bytes_putInt) rfl rfl rfl (by decide +kernel) ⟨Nat.le_of_ble_eq_true rfl, Nat.le_of_ble_eq_true rfl⟩) ⟨fun a U g mk q => by obtain ⟨q0, q1, qP, qK, qD⟩ := q; exact ⟨q0, q1, qP, va_K.moved (u := U) (U := U.calling g mk a) (Vm.Alike.refl U.vm) qK, qD⟩, va_recv hK hP (q := (R_Bytes, F_Bytes, 2)) (ci := 0) (q0 := 1) rfl rfl, fun U hU hW => ⟨rfl, by rw [hU], by rw [hU]; exact hPc, va_K.moved hW.alike hKc, hDc.weaken (fun _ _ _ _ => trivial)⟩⟩ rfl rfl hl.1 rfl (lv_room (Nat.le_of_ble_eq_true rfl)) d_SF_feed_33 ⟨hc0, hs0⟩) hS (fun q _ h => hFc q h) hFc (fun u t H1 locs ht hvm hw hB hz1 hk1 hS => ?_)
  obtain ⟨g2_4, hP1, hK1, hD1⟩ := hB
  rw [ht] at hP1
  have hK1 := va_K.moved hvm.symm hK1
  obtain ⟨hP, hD⟩ := va_join (wr := [(x0, .inr (10, [.ref tp, .ref tk, .ref rs, .ref ou, .int 0, .ref sc0, .ref h0, .ref sn0, .ref pa0, .ref vl, .ref de, .ref br, .ref pw, .ref pr]))]) (w1 := [(tp, .inr (0, [.ref tpa, .int (nI (((0 + 4)) + 4))])), (tpa, .inl (ctp, 256, .inl g2_4))]) hP hD [1, 2] [0] rfl rfl (by decide) (by decide) hk1 hFc hP1 hD1
  have hK := (hK.sub (tys' := []) [] rfl).app hK1
  generalize H1 = H at hP hS ⊢
  have hP : va_P (dC, dI) classes [(x0, .inr (10, [.ref tp, .ref tk, .ref rs, .ref ou, .int 0, .ref sc0, .ref h0, .ref sn0, .ref pa0, .ref vl, .ref de, .ref br, .ref pw, .ref pr])), (tp, .inr (0, [.ref tpa, .int (nI (((0 + 4)) + 4))])), (tpa, .inl (ctp, 256, .inl g2_4))] H := hP
  have hD : va_D A [(x0, .inr (10, [.ref tp, .ref tk, .ref rs, .ref ou, .int 0, .ref sc0, .ref h0, .ref sn0, .ref pa0, .ref vl, .ref de, .ref br, .ref pw, .ref pr])), (tp, .inr (0, [.ref tpa, .int (nI (((0 + 4)) + 4))])), (tpa, .inl (ctp, 256, .inl g2_4))] := hD
  have hK : va_K (dC, dI) classes [(ctp, .byte)] s := hK
  refine lv_aload_n hx hb d_SF_feed_36 rfl (lv_at hl 0 rfl) ?_
  refine va_get (D := (dC, dI)) (ci := 10) (v := .ref tp) (C := R_SF) (T := F_SF) (N := 14) hx hb htw i_SF hown hK hP 0 rfl rfl 0 (by decide) (htw _ wd_3_6) (fun _ h9 => h9) rfl d_SF_feed_37 ?_
  refine lv_iload_n hx hb d_SF_feed_40 rfl (lv_at hl 3 rfl) ?_
  have hc0 : 0 + 0 ≤ 0 := by omega
  have hs0 : 0 + 0 ≤ 0 := by omega
  have hPc := hP.sub (ws' := [(tp, .inr (0, [.ref tpa, .int (nI (((0 + 4)) + 4))])), (tpa, .inl (ctp, 256, .inl g2_4))]) [1, 2] rfl
  have hDc := hD.sub (ws' := [(tp, .inr (0, [.ref tpa, .int (nI (((0 + 4)) + 4))])), (tpa, .inl (ctp, 256, .inl g2_4))]) [1, 2] (by decide) rfl
  have hKc := hK.sub (tys' := [(ctp, .byte)]) [0] rfl
  have hFc := va_free (wc := [(tp, .inr (0, [.ref tpa, .int (nI (((0 + 4)) + 4))])), (tpa, .inl (ctp, 256, .inl g2_4))]) hD hS hA [1, 2] rfl
  refine va_callv (va_runV (As := [.int z3]) (rest := []) ⟨hx, hb, hml, hown, htw⟩ (c_Bytes_putInt l dC dI H.size tp tpa ctp 256 g2_4 ((((0 + 4)) + 4)) z3 (by first | omega | assumption) (by first | omega | assumption)) (cwV 1 htw (tw_V wd_3_124 wd_3_125 wd_3_126 wd_1_2 k_Bytes_putInt) rfl rfl rfl (by decide +kernel) ⟨Nat.le_of_ble_eq_true rfl, Nat.le_of_ble_eq_true rfl⟩) ⟨fun a U g mk q => by obtain ⟨q0, q1, qP, qK, qD⟩ := q; exact ⟨q0, q1, qP, va_K.moved (u := U) (U := U.calling g mk a) (Vm.Alike.refl U.vm) qK, qD⟩, va_recv hK hP (q := (R_Bytes, F_Bytes, 2)) (ci := 0) (q0 := 1) rfl rfl, fun U hU hW => ⟨rfl, by rw [hU], by rw [hU]; exact hPc, va_K.moved hW.alike hKc, hDc.weaken (fun _ _ _ _ => trivial)⟩⟩ rfl rfl hl.1 rfl (lv_room (Nat.le_of_ble_eq_true rfl)) d_SF_feed_41 ⟨hc0, hs0⟩) hS (fun q _ h => hFc q h) hFc (fun u t H1 locs ht hvm hw hB hz1 hk1 hS => ?_)
  obtain ⟨g2_6, hP1, hK1, hD1⟩ := hB
  rw [ht] at hP1
  have hK1 := va_K.moved hvm.symm hK1
  obtain ⟨hP, hD⟩ := va_join (wr := [(x0, .inr (10, [.ref tp, .ref tk, .ref rs, .ref ou, .int 0, .ref sc0, .ref h0, .ref sn0, .ref pa0, .ref vl, .ref de, .ref br, .ref pw, .ref pr]))]) (w1 := [(tp, .inr (0, [.ref tpa, .int (nI (((((0 + 4)) + 4)) + 4))])), (tpa, .inl (ctp, 256, .inl g2_6))]) hP hD [1, 2] [0] rfl rfl (by decide) (by decide) hk1 hFc hP1 hD1
  have hK := (hK.sub (tys' := []) [] rfl).app hK1
  generalize H1 = H at hP hS ⊢
  have hP : va_P (dC, dI) classes [(x0, .inr (10, [.ref tp, .ref tk, .ref rs, .ref ou, .int 0, .ref sc0, .ref h0, .ref sn0, .ref pa0, .ref vl, .ref de, .ref br, .ref pw, .ref pr])), (tp, .inr (0, [.ref tpa, .int (nI (((((0 + 4)) + 4)) + 4))])), (tpa, .inl (ctp, 256, .inl g2_6))] H := hP
  have hD : va_D A [(x0, .inr (10, [.ref tp, .ref tk, .ref rs, .ref ou, .int 0, .ref sc0, .ref h0, .ref sn0, .ref pa0, .ref vl, .ref de, .ref br, .ref pw, .ref pr])), (tp, .inr (0, [.ref tpa, .int (nI (((((0 + 4)) + 4)) + 4))])), (tpa, .inl (ctp, 256, .inl g2_6))] := hD
  have hK : va_K (dC, dI) classes [(ctp, .byte)] s := hK
  refine lv_aload_n hx hb d_SF_feed_44 rfl (lv_at hl 0 rfl) ?_
  refine va_get (D := (dC, dI)) (ci := 10) (v := .ref tp) (C := R_SF) (T := F_SF) (N := 14) hx hb htw i_SF hown hK hP 0 rfl rfl 0 (by decide) (htw _ wd_3_6) (fun _ h9 => h9) rfl d_SF_feed_45 ?_
  refine lv_iload hx hb d_SF_feed_48 (lv_at hl 4 rfl) ?_
  have hc0 : 0 + 0 ≤ 0 := by omega
  have hs0 : 0 + 0 ≤ 0 := by omega
  have hPc := hP.sub (ws' := [(tp, .inr (0, [.ref tpa, .int (nI (((((0 + 4)) + 4)) + 4))])), (tpa, .inl (ctp, 256, .inl g2_6))]) [1, 2] rfl
  have hDc := hD.sub (ws' := [(tp, .inr (0, [.ref tpa, .int (nI (((((0 + 4)) + 4)) + 4))])), (tpa, .inl (ctp, 256, .inl g2_6))]) [1, 2] (by decide) rfl
  have hKc := hK.sub (tys' := [(ctp, .byte)]) [0] rfl
  have hFc := va_free (wc := [(tp, .inr (0, [.ref tpa, .int (nI (((((0 + 4)) + 4)) + 4))])), (tpa, .inl (ctp, 256, .inl g2_6))]) hD hS hA [1, 2] rfl
  refine va_callv (va_runV (As := [.int z4]) (rest := []) ⟨hx, hb, hml, hown, htw⟩ (c_Bytes_putInt l dC dI H.size tp tpa ctp 256 g2_6 ((((((0 + 4)) + 4)) + 4)) z4 (by first | omega | assumption) (by first | omega | assumption)) (cwV 1 htw (tw_V wd_3_124 wd_3_125 wd_3_126 wd_1_2 k_Bytes_putInt) rfl rfl rfl (by decide +kernel) ⟨Nat.le_of_ble_eq_true rfl, Nat.le_of_ble_eq_true rfl⟩) ⟨fun a U g mk q => by obtain ⟨q0, q1, qP, qK, qD⟩ := q; exact ⟨q0, q1, qP, va_K.moved (u := U) (U := U.calling g mk a) (Vm.Alike.refl U.vm) qK, qD⟩, va_recv hK hP (q := (R_Bytes, F_Bytes, 2)) (ci := 0) (q0 := 1) rfl rfl, fun U hU hW => ⟨rfl, by rw [hU], by rw [hU]; exact hPc, va_K.moved hW.alike hKc, hDc.weaken (fun _ _ _ _ => trivial)⟩⟩ rfl rfl hl.1 rfl (lv_room (Nat.le_of_ble_eq_true rfl)) d_SF_feed_50 ⟨hc0, hs0⟩) hS (fun q _ h => hFc q h) hFc (fun u t H1 locs ht hvm hw hB hz1 hk1 hS => ?_)
  obtain ⟨g2_8, hP1, hK1, hD1⟩ := hB
  rw [ht] at hP1
  have hK1 := va_K.moved hvm.symm hK1
  obtain ⟨hP, hD⟩ := va_join (wr := [(x0, .inr (10, [.ref tp, .ref tk, .ref rs, .ref ou, .int 0, .ref sc0, .ref h0, .ref sn0, .ref pa0, .ref vl, .ref de, .ref br, .ref pw, .ref pr]))]) (w1 := [(tp, .inr (0, [.ref tpa, .int (nI (((((((0 + 4)) + 4)) + 4)) + 4))])), (tpa, .inl (ctp, 256, .inl g2_8))]) hP hD [1, 2] [0] rfl rfl (by decide) (by decide) hk1 hFc hP1 hD1
  have hK := (hK.sub (tys' := []) [] rfl).app hK1
  generalize H1 = H at hP hS ⊢
  have hP : va_P (dC, dI) classes [(x0, .inr (10, [.ref tp, .ref tk, .ref rs, .ref ou, .int 0, .ref sc0, .ref h0, .ref sn0, .ref pa0, .ref vl, .ref de, .ref br, .ref pw, .ref pr])), (tp, .inr (0, [.ref tpa, .int (nI (((((((0 + 4)) + 4)) + 4)) + 4))])), (tpa, .inl (ctp, 256, .inl g2_8))] H := hP
  have hD : va_D A [(x0, .inr (10, [.ref tp, .ref tk, .ref rs, .ref ou, .int 0, .ref sc0, .ref h0, .ref sn0, .ref pa0, .ref vl, .ref de, .ref br, .ref pw, .ref pr])), (tp, .inr (0, [.ref tpa, .int (nI (((((((0 + 4)) + 4)) + 4)) + 4))])), (tpa, .inl (ctp, 256, .inl g2_8))] := hD
  have hK : va_K (dC, dI) classes [(ctp, .byte)] s := hK
  refine lv_aload_n hx hb d_SF_feed_53 rfl (lv_at hl 0 rfl) ?_
  refine va_get (D := (dC, dI)) (ci := 10) (v := .ref tp) (C := R_SF) (T := F_SF) (N := 14) hx hb htw i_SF hown hK hP 0 rfl rfl 0 (by decide) (htw _ wd_3_6) (fun _ h9 => h9) rfl d_SF_feed_54 ?_
  refine lv_iload hx hb d_SF_feed_57 (lv_at hl 5 rfl) ?_
  have hc0 : 0 + 0 ≤ 0 := by omega
  have hs0 : 0 + 0 ≤ 0 := by omega
  have hPc := hP.sub (ws' := [(tp, .inr (0, [.ref tpa, .int (nI (((((((0 + 4)) + 4)) + 4)) + 4))])), (tpa, .inl (ctp, 256, .inl g2_8))]) [1, 2] rfl
  have hDc := hD.sub (ws' := [(tp, .inr (0, [.ref tpa, .int (nI (((((((0 + 4)) + 4)) + 4)) + 4))])), (tpa, .inl (ctp, 256, .inl g2_8))]) [1, 2] (by decide) rfl
  have hKc := hK.sub (tys' := [(ctp, .byte)]) [0] rfl
  have hFc := va_free (wc := [(tp, .inr (0, [.ref tpa, .int (nI (((((((0 + 4)) + 4)) + 4)) + 4))])), (tpa, .inl (ctp, 256, .inl g2_8))]) hD hS hA [1, 2] rfl
  refine va_callv (va_runV (As := [.int z5]) (rest := []) ⟨hx, hb, hml, hown, htw⟩ (c_Bytes_putInt l dC dI H.size tp tpa ctp 256 g2_8 ((((((((0 + 4)) + 4)) + 4)) + 4)) z5 (by first | omega | assumption) (by first | omega | assumption)) (cwV 1 htw (tw_V wd_3_124 wd_3_125 wd_3_126 wd_1_2 k_Bytes_putInt) rfl rfl rfl (by decide +kernel) ⟨Nat.le_of_ble_eq_true rfl, Nat.le_of_ble_eq_true rfl⟩) ⟨fun a U g mk q => by obtain ⟨q0, q1, qP, qK, qD⟩ := q; exact ⟨q0, q1, qP, va_K.moved (u := U) (U := U.calling g mk a) (Vm.Alike.refl U.vm) qK, qD⟩, va_recv hK hP (q := (R_Bytes, F_Bytes, 2)) (ci := 0) (q0 := 1) rfl rfl, fun U hU hW => ⟨rfl, by rw [hU], by rw [hU]; exact hPc, va_K.moved hW.alike hKc, hDc.weaken (fun _ _ _ _ => trivial)⟩⟩ rfl rfl hl.1 rfl (lv_room (Nat.le_of_ble_eq_true rfl)) d_SF_feed_59 ⟨hc0, hs0⟩) hS (fun q _ h => hFc q h) hFc (fun u t H1 locs ht hvm hw hB hz1 hk1 hS => ?_)
  obtain ⟨g2_10, hP1, hK1, hD1⟩ := hB
  rw [ht] at hP1
  have hK1 := va_K.moved hvm.symm hK1
  obtain ⟨hP, hD⟩ := va_join (wr := [(x0, .inr (10, [.ref tp, .ref tk, .ref rs, .ref ou, .int 0, .ref sc0, .ref h0, .ref sn0, .ref pa0, .ref vl, .ref de, .ref br, .ref pw, .ref pr]))]) (w1 := [(tp, .inr (0, [.ref tpa, .int (nI (((((((((0 + 4)) + 4)) + 4)) + 4)) + 4))])), (tpa, .inl (ctp, 256, .inl g2_10))]) hP hD [1, 2] [0] rfl rfl (by decide) (by decide) hk1 hFc hP1 hD1
  have hK := (hK.sub (tys' := []) [] rfl).app hK1
  generalize H1 = H at hP hS ⊢
  have hP : va_P (dC, dI) classes [(x0, .inr (10, [.ref tp, .ref tk, .ref rs, .ref ou, .int 0, .ref sc0, .ref h0, .ref sn0, .ref pa0, .ref vl, .ref de, .ref br, .ref pw, .ref pr])), (tp, .inr (0, [.ref tpa, .int (nI (((((((((0 + 4)) + 4)) + 4)) + 4)) + 4))])), (tpa, .inl (ctp, 256, .inl g2_10))] H := hP
  have hD : va_D A [(x0, .inr (10, [.ref tp, .ref tk, .ref rs, .ref ou, .int 0, .ref sc0, .ref h0, .ref sn0, .ref pa0, .ref vl, .ref de, .ref br, .ref pw, .ref pr])), (tp, .inr (0, [.ref tpa, .int (nI (((((((((0 + 4)) + 4)) + 4)) + 4)) + 4))])), (tpa, .inl (ctp, 256, .inl g2_10))] := hD
  have hK : va_K (dC, dI) classes [(ctp, .byte)] s := hK
  refine lv_aload_n hx hb d_SF_feed_62 rfl (lv_at hl 0 rfl) ?_
  refine va_get (D := (dC, dI)) (ci := 10) (v := .ref tp) (C := R_SF) (T := F_SF) (N := 14) hx hb htw i_SF hown hK hP 0 rfl rfl 0 (by decide) (htw _ wd_3_6) (fun _ h9 => h9) rfl d_SF_feed_63 ?_
  refine va_get (D := (dC, dI)) (ci := 0) (v := .int (nI (((((((((0 + 4)) + 4)) + 4)) + 4)) + 4))) (C := R_Bytes) (T := F_Bytes) (N := 2) hx hb htw i_Bytes hown hK hP 1 rfl rfl 1 (by decide) (htw _ wd_1_65) (fun _ h9 => h9) rfl d_SF_feed_66 ?_
  have hP9 := hP.sub (ws' := [(x0, .inr (10, [.ref tp, .ref tk, .ref rs, .ref ou, .int 0, .ref sc0, .ref h0, .ref sn0, .ref pa0, .ref vl, .ref de, .ref br, .ref pw, .ref pr])), (tp, .inr (0, [.ref tpa, .int (nI (((((((((0 + 4)) + 4)) + 4)) + 4)) + 4))])), (tpa, .inl (ctp, 256, .inl g2_10))]) [0, 1, 2] rfl
  have hD9 := hD.sub (ws' := [(x0, .inr (10, [.ref tp, .ref tk, .ref rs, .ref ou, .int 0, .ref sc0, .ref h0, .ref sn0, .ref pa0, .ref vl, .ref de, .ref br, .ref pw, .ref pr])), (tp, .inr (0, [.ref tpa, .int (nI (((((((((0 + 4)) + 4)) + 4)) + 4)) + 4))])), (tpa, .inl (ctp, 256, .inl g2_10))]) [0, 1, 2] (by decide) rfl
  have hK9 := hK.sub (tys' := [(ctp, .byte)]) [0] rfl
  refine W.widen (k := 0) (n := 0) (by omega) (by omega) ?_
  exact W.iret (v := nI (((((((((0 + 4)) + 4)) + 4)) + 4)) + 4)) hx hb hr (fun t ht hW => ⟨⟨nI (((((((((0 + 4)) + 4)) + 4)) + 4)) + 4), (), rfl, rfl, g2_10, by rw [ht]; exact hP9, va_K.moved hW.alike hK9, hD9⟩, hS.F ht⟩) hS.2.2 d_SF_feed_69
set_option maxHeartbeats 4000000 in
set_option maxRecDepth 100000 in
theorem c_SF_end (l : Launch) (dC : Nat → ClassId) (dI : Nat → Nat → Nat) (sz : Nat) (x0 : Nat) (tp : Nat) (tk : Nat) (rs : Nat) (ou : Nat) (sc0 : Nat) (h0 : Nat) (sn0 : Nat) (pa0 : Nat) (vl : Nat) (de : Nat) (br : Nat) (pw : Nat) (pr : Nat) (tpa : Nat) (ctp : ClassId) : Met l y_SF_end ws_SF_end ({ frames := 0, cells := 0, slots := 0, locals := 0 }) (va_Pc [.ref x0, .int 0] (fun U => U.heap.size = sz ∧ va_P (dC, dI) classes [(x0, .inr (10, [.ref tp, .ref tk, .ref rs, .ref ou, .int 0, .ref sc0, .ref h0, .ref sn0, .ref pa0, .ref vl, .ref de, .ref br, .ref pw, .ref pr])), (tp, .inr (0, [.ref tpa, .int 0])), (tpa, .inl (ctp, 256, .inl ((fun _ => 0))))] U.heap ∧ va_K (dC, dI) classes [(ctp, .byte)] U ∧ va_D (fun _ => True) [(x0, .inr (10, [.ref tp, .ref tk, .ref rs, .ref ou, .int 0, .ref sc0, .ref h0, .ref sn0, .ref pa0, .ref vl, .ref de, .ref br, .ref pw, .ref pr])), (tp, .inr (0, [.ref tpa, .int 0])), (tpa, .inl (ctp, 256, .inl ((fun _ => 0))))])) (va_Qi (fun (r : Int32) (_ : Unit) => r = 0) (fun _ t => va_P (dC, dI) classes [(x0, .inr (10, [.ref tp, .ref tk, .ref rs, .ref ou, .int 0, .ref sc0, .ref h0, .ref sn0, .ref pa0, .ref vl, .ref de, .ref br, .ref pw, .ref pr])), (tp, .inr (0, [.ref tpa, .int 0])), (tpa, .inl (ctp, 256, .inl ((fun _ => 0))))] t.heap ∧ va_K (dC, dI) classes [(ctp, .byte)] t ∧ va_D (va_A [(x0, .inr (10, [.ref tp, .ref tk, .ref rs, .ref ou, .int 0, .ref sc0, .ref h0, .ref sn0, .ref pa0, .ref vl, .ref de, .ref br, .ref pw, .ref pr])), (tp, .inr (0, [.ref tpa, .int 0])), (tpa, .inl (ctp, 256, .inl ((fun _ => 0))))] sz) [(x0, .inr (10, [.ref tp, .ref tk, .ref rs, .ref ou, .int 0, .ref sc0, .ref h0, .ref sn0, .ref pa0, .ref vl, .ref de, .ref br, .ref pw, .ref pr])), (tp, .inr (0, [.ref tpa, .int 0])), (tpa, .inl (ctp, 256, .inl ((fun _ => 0))))]) (va_A [(x0, .inr (10, [.ref tp, .ref tk, .ref rs, .ref ou, .int 0, .ref sc0, .ref h0, .ref sn0, .ref pa0, .ref vl, .ref de, .ref br, .ref pw, .ref pr])), (tp, .inr (0, [.ref tpa, .int 0])), (tpa, .inl (ctp, 256, .inl ((fun _ => 0))))] sz)) 0 0 (va_A [(x0, .inr (10, [.ref tp, .ref tk, .ref rs, .ref ou, .int 0, .ref sc0, .ref h0, .ref sn0, .ref pa0, .ref vl, .ref de, .ref br, .ref pw, .ref pr])), (tp, .inr (0, [.ref tpa, .int 0])), (tpa, .inl (ctp, 256, .inl ((fun _ => 0))))] sz) := by
  refine Met.ofW (cc := b_SF_end) (maxL := 2) (ret := (some .int)) (by decide) rfl ?_
  intro p e s m args below meth c s₁ B hml hv
  obtain ⟨rfl, hsz, hP, hK, hD0⟩ := hv
  have hx := B.exec
  have hb := B.bytes
  have hr := B.returns
  have hts := atoms_spec (ws := ws_SF_end) B.pre
  have htw : ∀ w ∈ tw_tbl, w.before [.ref x0, .int 0].toArray s = true := fun w h => hts w (List.mem_cons_of_mem _ h)
  have hown : s.vm.findClass R_SF = some m.cls := findClass_of_methodNamed B.named
  have hlocks := B.notSynchronized
  have hin : meth.name = "end" := (name_of_methodNamed B.named B.method).1
  subst hsz
  have hD := hD0.self (sz := s.heap.size)
  generalize hAe : va_A [(x0, .inr (10, [.ref tp, .ref tk, .ref rs, .ref ou, .int 0, .ref sc0, .ref h0, .ref sn0, .ref pa0, .ref vl, .ref de, .ref br, .ref pw, .ref pr])), (tp, .inr (0, [.ref tpa, .int 0])), (tpa, .inl (ctp, 256, .inl ((fun _ => 0))))] s.heap.size = A at hD ⊢
  have hA : ∀ q : Nat, s.heap.size ≤ q → A q := fun q h => by rw [← hAe]; exact Or.inr h
  have hS : va_S A s.heap s.heap [] := va_S.rf
  have hP : va_P (dC, dI) classes [(x0, .inr (10, [.ref tp, .ref tk, .ref rs, .ref ou, .int 0, .ref sc0, .ref h0, .ref sn0, .ref pa0, .ref vl, .ref de, .ref br, .ref pw, .ref pr])), (tp, .inr (0, [.ref tpa, .int 0])), (tpa, .inl (ctp, 256, .inl ((fun _ => 0))))] s.heap := hP
  have hl := lv_entry ([.ref x0, .int 0]) (n := 2) (Nat.le_of_ble_eq_true rfl)
  rw [lg_entry_eq]
  generalize (lg_sl ([.ref x0, .int 0]) ++ List.replicate (2 - (lg_sl ([.ref x0, .int 0])).length) Slot.unset).toArray = ls at hl ⊢
  have hl : lv_has ls 2 [(0, .ref x0), (1, .int 0)] := hl
  refine lv_iload_n hx hb d_SF_end_0 rfl (lv_at hl 1 rfl) ?_
  refine lv_if_lt (tgt := 15) hx hb d_SF_end_1 rfl (fun ht => absurd ht (by decide)) (fun _ => ?_)
  refine lv_iload_n hx hb d_SF_end_4 rfl (lv_at hl 1 rfl) ?_
  refine lv_aload_n hx hb d_SF_end_5 rfl (lv_at hl 0 rfl) ?_
  refine va_get (D := (dC, dI)) (ci := 10) (v := .ref tp) (C := R_SF) (T := F_SF) (N := 14) hx hb htw i_SF hown hK hP 0 rfl rfl 0 (by decide) (htw _ wd_3_6) (fun _ h9 => h9) rfl d_SF_end_6 ?_
  refine va_get (D := (dC, dI)) (ci := 0) (v := .int 0) (C := R_Bytes) (T := F_Bytes) (N := 2) hx hb htw i_Bytes hown hK hP 1 rfl rfl 1 (by decide) (htw _ wd_1_65) (fun _ h9 => h9) rfl d_SF_end_9 ?_
  refine lv_icmp_le (tgt := 23) hx hb d_SF_end_12 rfl (fun _ => ?_) (fun hn => absurd (by decide) hn)
  refine lv_aload_n hx hb d_SF_end_23 rfl (lv_at hl 0 rfl) ?_
  refine va_get (D := (dC, dI)) (ci := 10) (v := .ref tp) (C := R_SF) (T := F_SF) (N := 14) hx hb htw i_SF hown hK hP 0 rfl rfl 0 (by decide) (htw _ wd_3_6) (fun _ h9 => h9) rfl d_SF_end_24 ?_
  refine lv_iload_n hx hb d_SF_end_27 rfl (lv_at hl 1 rfl) ?_
  refine va_put (D := (dC, dI)) (ci := 0) (v := .int 0) (ty := .int) (C := R_Bytes) (T := F_Bytes) (N := 2) hx hb htw i_Bytes t_Bytes t_Bytes_ok n_Bytes hown hK hP hD hS 1 rfl rfl 1 (by decide) (htw _ wd_1_65) (fun _ h9 => h9) rfl (by decide +kernel) rfl rfl (Nat.le_of_ble_eq_true rfl) d_SF_end_28 (fun H locs hP hD hS => ?_)
  have hP : va_P (dC, dI) classes [(x0, .inr (10, [.ref tp, .ref tk, .ref rs, .ref ou, .int 0, .ref sc0, .ref h0, .ref sn0, .ref pa0, .ref vl, .ref de, .ref br, .ref pw, .ref pr])), (tp, .inr (0, [.ref tpa, .int 0])), (tpa, .inl (ctp, 256, .inl ((fun _ => 0))))] H := hP
  have hD : va_D A [(x0, .inr (10, [.ref tp, .ref tk, .ref rs, .ref ou, .int 0, .ref sc0, .ref h0, .ref sn0, .ref pa0, .ref vl, .ref de, .ref br, .ref pw, .ref pr])), (tp, .inr (0, [.ref tpa, .int 0])), (tpa, .inl (ctp, 256, .inl ((fun _ => 0))))] := hD
  refine lv_iload_n hx hb d_SF_end_31 rfl (lv_at hl 1 rfl) ?_
  have hP9 := hP.sub (ws' := [(x0, .inr (10, [.ref tp, .ref tk, .ref rs, .ref ou, .int 0, .ref sc0, .ref h0, .ref sn0, .ref pa0, .ref vl, .ref de, .ref br, .ref pw, .ref pr])), (tp, .inr (0, [.ref tpa, .int 0])), (tpa, .inl (ctp, 256, .inl ((fun _ => 0))))]) [0, 1, 2] rfl
  have hD9 := hD.sub (ws' := [(x0, .inr (10, [.ref tp, .ref tk, .ref rs, .ref ou, .int 0, .ref sc0, .ref h0, .ref sn0, .ref pa0, .ref vl, .ref de, .ref br, .ref pw, .ref pr])), (tp, .inr (0, [.ref tpa, .int 0])), (tpa, .inl (ctp, 256, .inl ((fun _ => 0))))]) [0, 1, 2] (by decide) rfl
  have hK9 := hK.sub (tys' := [(ctp, .byte)]) [0] rfl
  refine W.widen (k := 0) (n := 0) (by omega) (by omega) ?_
  exact W.iret (v := 0) hx hb hr (fun t ht hW => ⟨⟨0, (), rfl, rfl, by rw [ht]; exact hP9, va_K.moved hW.alike hK9, hD9⟩, hS.F ht⟩) hS.2.2 d_SF_end_32
set_option maxHeartbeats 4000000 in
set_option maxRecDepth 100000 in
theorem c_SF_count (l : Launch) (dC : Nat → ClassId) (dI : Nat → Nat → Nat) (sz : Nat) (x0 : Nat) (tp : Nat) (tk : Nat) (rs : Nat) (ou : Nat) (sc0 : Nat) (h0 : Nat) (sn0 : Nat) (pa0 : Nat) (vl : Nat) (de : Nat) (br : Nat) (pw : Nat) (pr : Nat) (tpa : Nat) (rsa : Nat) (kk1 : Nat) (kk2 : Nat) (kk3 : Nat) : Met l y_SF_count ws_SF_count ({ frames := 0, cells := 0, slots := 0, locals := 0 }) (va_Pc [.ref x0, .int 0] (fun U => U.heap.size = sz ∧ va_P (dC, dI) classes [(x0, .inr (10, [.ref tp, .ref tk, .ref rs, .ref ou, .int 0, .ref sc0, .ref h0, .ref sn0, .ref pa0, .ref vl, .ref de, .ref br, .ref pw, .ref pr])), (tp, .inr (0, [.ref tpa, .int 0])), (rs, .inr (0, [.ref rsa, .int 0])), (sn0, .inr (4, [.ref kk1, .ref kk2, .ref kk3, .int 0, .int ((-1)), .null, .null, .int 0]))] U.heap ∧ va_K (dC, dI) classes [] U ∧ va_D (fun _ => True) [(x0, .inr (10, [.ref tp, .ref tk, .ref rs, .ref ou, .int 0, .ref sc0, .ref h0, .ref sn0, .ref pa0, .ref vl, .ref de, .ref br, .ref pw, .ref pr])), (tp, .inr (0, [.ref tpa, .int 0])), (rs, .inr (0, [.ref rsa, .int 0])), (sn0, .inr (4, [.ref kk1, .ref kk2, .ref kk3, .int 0, .int ((-1)), .null, .null, .int 0]))])) (va_Qi (fun (r : Int32) (_ : Unit) => r = 0) (fun _ t => va_P (dC, dI) classes [(x0, .inr (10, [.ref tp, .ref tk, .ref rs, .ref ou, .int 0, .ref sc0, .ref h0, .ref sn0, .ref pa0, .ref vl, .ref de, .ref br, .ref pw, .ref pr])), (tp, .inr (0, [.ref tpa, .int 0])), (rs, .inr (0, [.ref rsa, .int 0])), (sn0, .inr (4, [.ref kk1, .ref kk2, .ref kk3, .int 0, .int ((-1)), .null, .null, .int 0]))] t.heap ∧ va_K (dC, dI) classes [] t ∧ va_D (va_A [(x0, .inr (10, [.ref tp, .ref tk, .ref rs, .ref ou, .int 0, .ref sc0, .ref h0, .ref sn0, .ref pa0, .ref vl, .ref de, .ref br, .ref pw, .ref pr])), (tp, .inr (0, [.ref tpa, .int 0])), (rs, .inr (0, [.ref rsa, .int 0])), (sn0, .inr (4, [.ref kk1, .ref kk2, .ref kk3, .int 0, .int ((-1)), .null, .null, .int 0]))] sz) [(x0, .inr (10, [.ref tp, .ref tk, .ref rs, .ref ou, .int 0, .ref sc0, .ref h0, .ref sn0, .ref pa0, .ref vl, .ref de, .ref br, .ref pw, .ref pr])), (tp, .inr (0, [.ref tpa, .int 0])), (rs, .inr (0, [.ref rsa, .int 0])), (sn0, .inr (4, [.ref kk1, .ref kk2, .ref kk3, .int 0, .int ((-1)), .null, .null, .int 0]))]) (va_A [(x0, .inr (10, [.ref tp, .ref tk, .ref rs, .ref ou, .int 0, .ref sc0, .ref h0, .ref sn0, .ref pa0, .ref vl, .ref de, .ref br, .ref pw, .ref pr])), (tp, .inr (0, [.ref tpa, .int 0])), (rs, .inr (0, [.ref rsa, .int 0])), (sn0, .inr (4, [.ref kk1, .ref kk2, .ref kk3, .int 0, .int ((-1)), .null, .null, .int 0]))] sz)) 0 0 (va_A [(x0, .inr (10, [.ref tp, .ref tk, .ref rs, .ref ou, .int 0, .ref sc0, .ref h0, .ref sn0, .ref pa0, .ref vl, .ref de, .ref br, .ref pw, .ref pr])), (tp, .inr (0, [.ref tpa, .int 0])), (rs, .inr (0, [.ref rsa, .int 0])), (sn0, .inr (4, [.ref kk1, .ref kk2, .ref kk3, .int 0, .int ((-1)), .null, .null, .int 0]))] sz) := by
  refine Met.ofW (cc := b_SF_count) (maxL := 2) (ret := (some .int)) (by decide) rfl ?_
  intro p e s m args below meth c s₁ B hml hv
  obtain ⟨rfl, hsz, hP, hK, hD0⟩ := hv
  have hx := B.exec
  have hb := B.bytes
  have hr := B.returns
  have hts := atoms_spec (ws := ws_SF_count) B.pre
  have htw : ∀ w ∈ tw_tbl, w.before [.ref x0, .int 0].toArray s = true := fun w h => hts w (List.mem_cons_of_mem _ h)
  have hown : s.vm.findClass R_SF = some m.cls := findClass_of_methodNamed B.named
  have hlocks := B.notSynchronized
  have hin : meth.name = "count" := (name_of_methodNamed B.named B.method).1
  subst hsz
  have hD := hD0.self (sz := s.heap.size)
  generalize hAe : va_A [(x0, .inr (10, [.ref tp, .ref tk, .ref rs, .ref ou, .int 0, .ref sc0, .ref h0, .ref sn0, .ref pa0, .ref vl, .ref de, .ref br, .ref pw, .ref pr])), (tp, .inr (0, [.ref tpa, .int 0])), (rs, .inr (0, [.ref rsa, .int 0])), (sn0, .inr (4, [.ref kk1, .ref kk2, .ref kk3, .int 0, .int ((-1)), .null, .null, .int 0]))] s.heap.size = A at hD ⊢
  have hA : ∀ q : Nat, s.heap.size ≤ q → A q := fun q h => by rw [← hAe]; exact Or.inr h
  have hS : va_S A s.heap s.heap [] := va_S.rf
  have hP : va_P (dC, dI) classes [(x0, .inr (10, [.ref tp, .ref tk, .ref rs, .ref ou, .int 0, .ref sc0, .ref h0, .ref sn0, .ref pa0, .ref vl, .ref de, .ref br, .ref pw, .ref pr])), (tp, .inr (0, [.ref tpa, .int 0])), (rs, .inr (0, [.ref rsa, .int 0])), (sn0, .inr (4, [.ref kk1, .ref kk2, .ref kk3, .int 0, .int ((-1)), .null, .null, .int 0]))] s.heap := hP
  have hl := lv_entry ([.ref x0, .int 0]) (n := 2) (Nat.le_of_ble_eq_true rfl)
  rw [lg_entry_eq]
  generalize (lg_sl ([.ref x0, .int 0]) ++ List.replicate (2 - (lg_sl ([.ref x0, .int 0])).length) Slot.unset).toArray = ls at hl ⊢
  have hl : lv_has ls 2 [(0, .ref x0), (1, .int 0)] := hl
  refine lv_iload_n hx hb d_SF_count_0 rfl (lv_at hl 1 rfl) ?_
  refine lv_tableIn (off := 31) (tgt := 32) hx hb d_SF_count_1 (by decide) (by decide) (by decide +kernel) (by decide) ?_
  refine lv_aload_n hx hb d_SF_count_32 rfl (lv_at hl 0 rfl) ?_
  refine va_get (D := (dC, dI)) (ci := 10) (v := .ref tp) (C := R_SF) (T := F_SF) (N := 14) hx hb htw i_SF hown hK hP 0 rfl rfl 0 (by decide) (htw _ wd_3_6) (fun _ h9 => h9) rfl d_SF_count_33 ?_
  refine va_get (D := (dC, dI)) (ci := 0) (v := .int 0) (C := R_Bytes) (T := F_Bytes) (N := 2) hx hb htw i_Bytes hown hK hP 1 rfl rfl 1 (by decide) (htw _ wd_1_65) (fun _ h9 => h9) rfl d_SF_count_36 ?_
  have hP9 := hP.sub (ws' := [(x0, .inr (10, [.ref tp, .ref tk, .ref rs, .ref ou, .int 0, .ref sc0, .ref h0, .ref sn0, .ref pa0, .ref vl, .ref de, .ref br, .ref pw, .ref pr])), (tp, .inr (0, [.ref tpa, .int 0])), (rs, .inr (0, [.ref rsa, .int 0])), (sn0, .inr (4, [.ref kk1, .ref kk2, .ref kk3, .int 0, .int ((-1)), .null, .null, .int 0]))]) [0, 1, 2, 3] rfl
  have hD9 := hD.sub (ws' := [(x0, .inr (10, [.ref tp, .ref tk, .ref rs, .ref ou, .int 0, .ref sc0, .ref h0, .ref sn0, .ref pa0, .ref vl, .ref de, .ref br, .ref pw, .ref pr])), (tp, .inr (0, [.ref tpa, .int 0])), (rs, .inr (0, [.ref rsa, .int 0])), (sn0, .inr (4, [.ref kk1, .ref kk2, .ref kk3, .int 0, .int ((-1)), .null, .null, .int 0]))]) [0, 1, 2, 3] (by decide) rfl
  have hK9 := hK.sub (tys' := []) [] rfl
  refine W.widen (k := 0) (n := 0) (by omega) (by omega) ?_
  exact W.iret (v := 0) hx hb hr (fun t ht hW => ⟨⟨0, (), rfl, rfl, by rw [ht]; exact hP9, va_K.moved hW.alike hK9, hD9⟩, hS.F ht⟩) hS.2.2 d_SF_count_39
set_option maxHeartbeats 4000000 in
set_option maxRecDepth 100000 in
theorem c_SF_count_v2 (l : Launch) (dC : Nat → ClassId) (dI : Nat → Nat → Nat) (sz : Nat) (x0 : Nat) (tp : Nat) (tk : Nat) (rs : Nat) (ou : Nat) (sc0 : Nat) (h0 : Nat) (sn0 : Nat) (pa0 : Nat) (vl : Nat) (de : Nat) (br : Nat) (pw : Nat) (pr : Nat) (tpa : Nat) (rsa : Nat) (kk1 : Nat) (kk2 : Nat) (kk3 : Nat) : Met l y_SF_count ws_SF_count ({ frames := 0, cells := 0, slots := 0, locals := 0 }) (va_Pc [.ref x0, .int 1] (fun U => U.heap.size = sz ∧ va_P (dC, dI) classes [(x0, .inr (10, [.ref tp, .ref tk, .ref rs, .ref ou, .int 0, .ref sc0, .ref h0, .ref sn0, .ref pa0, .ref vl, .ref de, .ref br, .ref pw, .ref pr])), (tp, .inr (0, [.ref tpa, .int 0])), (rs, .inr (0, [.ref rsa, .int 0])), (sn0, .inr (4, [.ref kk1, .ref kk2, .ref kk3, .int 0, .int ((-1)), .null, .null, .int 0]))] U.heap ∧ va_K (dC, dI) classes [] U ∧ va_D (fun _ => True) [(x0, .inr (10, [.ref tp, .ref tk, .ref rs, .ref ou, .int 0, .ref sc0, .ref h0, .ref sn0, .ref pa0, .ref vl, .ref de, .ref br, .ref pw, .ref pr])), (tp, .inr (0, [.ref tpa, .int 0])), (rs, .inr (0, [.ref rsa, .int 0])), (sn0, .inr (4, [.ref kk1, .ref kk2, .ref kk3, .int 0, .int ((-1)), .null, .null, .int 0]))])) (va_Qi (fun (r : Int32) (_ : Unit) => r = 0) (fun _ t => va_P (dC, dI) classes [(x0, .inr (10, [.ref tp, .ref tk, .ref rs, .ref ou, .int 0, .ref sc0, .ref h0, .ref sn0, .ref pa0, .ref vl, .ref de, .ref br, .ref pw, .ref pr])), (tp, .inr (0, [.ref tpa, .int 0])), (rs, .inr (0, [.ref rsa, .int 0])), (sn0, .inr (4, [.ref kk1, .ref kk2, .ref kk3, .int 0, .int ((-1)), .null, .null, .int 0]))] t.heap ∧ va_K (dC, dI) classes [] t ∧ va_D (va_A [(x0, .inr (10, [.ref tp, .ref tk, .ref rs, .ref ou, .int 0, .ref sc0, .ref h0, .ref sn0, .ref pa0, .ref vl, .ref de, .ref br, .ref pw, .ref pr])), (tp, .inr (0, [.ref tpa, .int 0])), (rs, .inr (0, [.ref rsa, .int 0])), (sn0, .inr (4, [.ref kk1, .ref kk2, .ref kk3, .int 0, .int ((-1)), .null, .null, .int 0]))] sz) [(x0, .inr (10, [.ref tp, .ref tk, .ref rs, .ref ou, .int 0, .ref sc0, .ref h0, .ref sn0, .ref pa0, .ref vl, .ref de, .ref br, .ref pw, .ref pr])), (tp, .inr (0, [.ref tpa, .int 0])), (rs, .inr (0, [.ref rsa, .int 0])), (sn0, .inr (4, [.ref kk1, .ref kk2, .ref kk3, .int 0, .int ((-1)), .null, .null, .int 0]))]) (va_A [(x0, .inr (10, [.ref tp, .ref tk, .ref rs, .ref ou, .int 0, .ref sc0, .ref h0, .ref sn0, .ref pa0, .ref vl, .ref de, .ref br, .ref pw, .ref pr])), (tp, .inr (0, [.ref tpa, .int 0])), (rs, .inr (0, [.ref rsa, .int 0])), (sn0, .inr (4, [.ref kk1, .ref kk2, .ref kk3, .int 0, .int ((-1)), .null, .null, .int 0]))] sz)) 0 0 (va_A [(x0, .inr (10, [.ref tp, .ref tk, .ref rs, .ref ou, .int 0, .ref sc0, .ref h0, .ref sn0, .ref pa0, .ref vl, .ref de, .ref br, .ref pw, .ref pr])), (tp, .inr (0, [.ref tpa, .int 0])), (rs, .inr (0, [.ref rsa, .int 0])), (sn0, .inr (4, [.ref kk1, .ref kk2, .ref kk3, .int 0, .int ((-1)), .null, .null, .int 0]))] sz) := by
  refine Met.ofW (cc := b_SF_count) (maxL := 2) (ret := (some .int)) (by decide) rfl ?_
  intro p e s m args below meth c s₁ B hml hv
  obtain ⟨rfl, hsz, hP, hK, hD0⟩ := hv
  have hx := B.exec
  have hb := B.bytes
  have hr := B.returns
  have hts := atoms_spec (ws := ws_SF_count) B.pre
  have htw : ∀ w ∈ tw_tbl, w.before [.ref x0, .int 1].toArray s = true := fun w h => hts w (List.mem_cons_of_mem _ h)
  have hown : s.vm.findClass R_SF = some m.cls := findClass_of_methodNamed B.named
  have hlocks := B.notSynchronized
  have hin : meth.name = "count" := (name_of_methodNamed B.named B.method).1
  subst hsz
  have hD := hD0.self (sz := s.heap.size)
  generalize hAe : va_A [(x0, .inr (10, [.ref tp, .ref tk, .ref rs, .ref ou, .int 0, .ref sc0, .ref h0, .ref sn0, .ref pa0, .ref vl, .ref de, .ref br, .ref pw, .ref pr])), (tp, .inr (0, [.ref tpa, .int 0])), (rs, .inr (0, [.ref rsa, .int 0])), (sn0, .inr (4, [.ref kk1, .ref kk2, .ref kk3, .int 0, .int ((-1)), .null, .null, .int 0]))] s.heap.size = A at hD ⊢
  have hA : ∀ q : Nat, s.heap.size ≤ q → A q := fun q h => by rw [← hAe]; exact Or.inr h
  have hS : va_S A s.heap s.heap [] := va_S.rf
  have hP : va_P (dC, dI) classes [(x0, .inr (10, [.ref tp, .ref tk, .ref rs, .ref ou, .int 0, .ref sc0, .ref h0, .ref sn0, .ref pa0, .ref vl, .ref de, .ref br, .ref pw, .ref pr])), (tp, .inr (0, [.ref tpa, .int 0])), (rs, .inr (0, [.ref rsa, .int 0])), (sn0, .inr (4, [.ref kk1, .ref kk2, .ref kk3, .int 0, .int ((-1)), .null, .null, .int 0]))] s.heap := hP
  have hl := lv_entry ([.ref x0, .int 1]) (n := 2) (Nat.le_of_ble_eq_true rfl)
  rw [lg_entry_eq]
  generalize (lg_sl ([.ref x0, .int 1]) ++ List.replicate (2 - (lg_sl ([.ref x0, .int 1])).length) Slot.unset).toArray = ls at hl ⊢
  have hl : lv_has ls 2 [(0, .ref x0), (1, .int 1)] := hl
  refine lv_iload_n hx hb d_SF_count_0 rfl (lv_at hl 1 rfl) ?_
  refine lv_tableIn (off := 39) (tgt := 40) hx hb d_SF_count_1 (by decide) (by decide) (by decide +kernel) (by decide) ?_
  refine lv_aload_n hx hb d_SF_count_40 rfl (lv_at hl 0 rfl) ?_
  refine va_get (D := (dC, dI)) (ci := 10) (v := .ref rs) (C := R_SF) (T := F_SF) (N := 14) hx hb htw i_SF hown hK hP 0 rfl rfl 2 (by decide) (htw _ wd_3_8) (fun _ h9 => h9) rfl d_SF_count_41 ?_
  refine va_get (D := (dC, dI)) (ci := 0) (v := .int 0) (C := R_Bytes) (T := F_Bytes) (N := 2) hx hb htw i_Bytes hown hK hP 2 rfl rfl 1 (by decide) (htw _ wd_1_65) (fun _ h9 => h9) rfl d_SF_count_44 ?_
  have hP9 := hP.sub (ws' := [(x0, .inr (10, [.ref tp, .ref tk, .ref rs, .ref ou, .int 0, .ref sc0, .ref h0, .ref sn0, .ref pa0, .ref vl, .ref de, .ref br, .ref pw, .ref pr])), (tp, .inr (0, [.ref tpa, .int 0])), (rs, .inr (0, [.ref rsa, .int 0])), (sn0, .inr (4, [.ref kk1, .ref kk2, .ref kk3, .int 0, .int ((-1)), .null, .null, .int 0]))]) [0, 1, 2, 3] rfl
  have hD9 := hD.sub (ws' := [(x0, .inr (10, [.ref tp, .ref tk, .ref rs, .ref ou, .int 0, .ref sc0, .ref h0, .ref sn0, .ref pa0, .ref vl, .ref de, .ref br, .ref pw, .ref pr])), (tp, .inr (0, [.ref tpa, .int 0])), (rs, .inr (0, [.ref rsa, .int 0])), (sn0, .inr (4, [.ref kk1, .ref kk2, .ref kk3, .int 0, .int ((-1)), .null, .null, .int 0]))]) [0, 1, 2, 3] (by decide) rfl
  have hK9 := hK.sub (tys' := []) [] rfl
  refine W.widen (k := 0) (n := 0) (by omega) (by omega) ?_
  exact W.iret (v := 0) hx hb hr (fun t ht hW => ⟨⟨0, (), rfl, rfl, by rw [ht]; exact hP9, va_K.moved hW.alike hK9, hD9⟩, hS.F ht⟩) hS.2.2 d_SF_count_47
set_option maxHeartbeats 4000000 in
set_option maxRecDepth 100000 in
theorem c_SF_count_v3 (l : Launch) (dC : Nat → ClassId) (dI : Nat → Nat → Nat) (sz : Nat) (x0 : Nat) (tp : Nat) (tk : Nat) (rs : Nat) (ou : Nat) (sc0 : Nat) (h0 : Nat) (sn0 : Nat) (pa0 : Nat) (vl : Nat) (de : Nat) (br : Nat) (pw : Nat) (pr : Nat) (tpa : Nat) (rsa : Nat) (kk1 : Nat) (kk2 : Nat) (kk3 : Nat) : Met l y_SF_count ws_SF_count ({ frames := 0, cells := 0, slots := 0, locals := 0 }) (va_Pc [.ref x0, .int 2] (fun U => U.heap.size = sz ∧ va_P (dC, dI) classes [(x0, .inr (10, [.ref tp, .ref tk, .ref rs, .ref ou, .int 0, .ref sc0, .ref h0, .ref sn0, .ref pa0, .ref vl, .ref de, .ref br, .ref pw, .ref pr])), (tp, .inr (0, [.ref tpa, .int 0])), (rs, .inr (0, [.ref rsa, .int 0])), (sn0, .inr (4, [.ref kk1, .ref kk2, .ref kk3, .int 0, .int ((-1)), .null, .null, .int 0]))] U.heap ∧ va_K (dC, dI) classes [] U ∧ va_D (fun _ => True) [(x0, .inr (10, [.ref tp, .ref tk, .ref rs, .ref ou, .int 0, .ref sc0, .ref h0, .ref sn0, .ref pa0, .ref vl, .ref de, .ref br, .ref pw, .ref pr])), (tp, .inr (0, [.ref tpa, .int 0])), (rs, .inr (0, [.ref rsa, .int 0])), (sn0, .inr (4, [.ref kk1, .ref kk2, .ref kk3, .int 0, .int ((-1)), .null, .null, .int 0]))])) (va_Qi (fun (r : Int32) (_ : Unit) => r = 0) (fun _ t => va_P (dC, dI) classes [(x0, .inr (10, [.ref tp, .ref tk, .ref rs, .ref ou, .int 0, .ref sc0, .ref h0, .ref sn0, .ref pa0, .ref vl, .ref de, .ref br, .ref pw, .ref pr])), (tp, .inr (0, [.ref tpa, .int 0])), (rs, .inr (0, [.ref rsa, .int 0])), (sn0, .inr (4, [.ref kk1, .ref kk2, .ref kk3, .int 0, .int ((-1)), .null, .null, .int 0]))] t.heap ∧ va_K (dC, dI) classes [] t ∧ va_D (va_A [(x0, .inr (10, [.ref tp, .ref tk, .ref rs, .ref ou, .int 0, .ref sc0, .ref h0, .ref sn0, .ref pa0, .ref vl, .ref de, .ref br, .ref pw, .ref pr])), (tp, .inr (0, [.ref tpa, .int 0])), (rs, .inr (0, [.ref rsa, .int 0])), (sn0, .inr (4, [.ref kk1, .ref kk2, .ref kk3, .int 0, .int ((-1)), .null, .null, .int 0]))] sz) [(x0, .inr (10, [.ref tp, .ref tk, .ref rs, .ref ou, .int 0, .ref sc0, .ref h0, .ref sn0, .ref pa0, .ref vl, .ref de, .ref br, .ref pw, .ref pr])), (tp, .inr (0, [.ref tpa, .int 0])), (rs, .inr (0, [.ref rsa, .int 0])), (sn0, .inr (4, [.ref kk1, .ref kk2, .ref kk3, .int 0, .int ((-1)), .null, .null, .int 0]))]) (va_A [(x0, .inr (10, [.ref tp, .ref tk, .ref rs, .ref ou, .int 0, .ref sc0, .ref h0, .ref sn0, .ref pa0, .ref vl, .ref de, .ref br, .ref pw, .ref pr])), (tp, .inr (0, [.ref tpa, .int 0])), (rs, .inr (0, [.ref rsa, .int 0])), (sn0, .inr (4, [.ref kk1, .ref kk2, .ref kk3, .int 0, .int ((-1)), .null, .null, .int 0]))] sz)) 0 0 (va_A [(x0, .inr (10, [.ref tp, .ref tk, .ref rs, .ref ou, .int 0, .ref sc0, .ref h0, .ref sn0, .ref pa0, .ref vl, .ref de, .ref br, .ref pw, .ref pr])), (tp, .inr (0, [.ref tpa, .int 0])), (rs, .inr (0, [.ref rsa, .int 0])), (sn0, .inr (4, [.ref kk1, .ref kk2, .ref kk3, .int 0, .int ((-1)), .null, .null, .int 0]))] sz) := by
  refine Met.ofW (cc := b_SF_count) (maxL := 2) (ret := (some .int)) (by decide) rfl ?_
  intro p e s m args below meth c s₁ B hml hv
  obtain ⟨rfl, hsz, hP, hK, hD0⟩ := hv
  have hx := B.exec
  have hb := B.bytes
  have hr := B.returns
  have hts := atoms_spec (ws := ws_SF_count) B.pre
  have htw : ∀ w ∈ tw_tbl, w.before [.ref x0, .int 2].toArray s = true := fun w h => hts w (List.mem_cons_of_mem _ h)
  have hown : s.vm.findClass R_SF = some m.cls := findClass_of_methodNamed B.named
  have hlocks := B.notSynchronized
  have hin : meth.name = "count" := (name_of_methodNamed B.named B.method).1
  subst hsz
  have hD := hD0.self (sz := s.heap.size)
  generalize hAe : va_A [(x0, .inr (10, [.ref tp, .ref tk, .ref rs, .ref ou, .int 0, .ref sc0, .ref h0, .ref sn0, .ref pa0, .ref vl, .ref de, .ref br, .ref pw, .ref pr])), (tp, .inr (0, [.ref tpa, .int 0])), (rs, .inr (0, [.ref rsa, .int 0])), (sn0, .inr (4, [.ref kk1, .ref kk2, .ref kk3, .int 0, .int ((-1)), .null, .null, .int 0]))] s.heap.size = A at hD ⊢
  have hA : ∀ q : Nat, s.heap.size ≤ q → A q := fun q h => by rw [← hAe]; exact Or.inr h
  have hS : va_S A s.heap s.heap [] := va_S.rf
  have hP : va_P (dC, dI) classes [(x0, .inr (10, [.ref tp, .ref tk, .ref rs, .ref ou, .int 0, .ref sc0, .ref h0, .ref sn0, .ref pa0, .ref vl, .ref de, .ref br, .ref pw, .ref pr])), (tp, .inr (0, [.ref tpa, .int 0])), (rs, .inr (0, [.ref rsa, .int 0])), (sn0, .inr (4, [.ref kk1, .ref kk2, .ref kk3, .int 0, .int ((-1)), .null, .null, .int 0]))] s.heap := hP
  have hl := lv_entry ([.ref x0, .int 2]) (n := 2) (Nat.le_of_ble_eq_true rfl)
  rw [lg_entry_eq]
  generalize (lg_sl ([.ref x0, .int 2]) ++ List.replicate (2 - (lg_sl ([.ref x0, .int 2])).length) Slot.unset).toArray = ls at hl ⊢
  have hl : lv_has ls 2 [(0, .ref x0), (1, .int 2)] := hl
  refine lv_iload_n hx hb d_SF_count_0 rfl (lv_at hl 1 rfl) ?_
  refine lv_tableIn (off := 47) (tgt := 48) hx hb d_SF_count_1 (by decide) (by decide) (by decide +kernel) (by decide) ?_
  refine lv_aload_n hx hb d_SF_count_48 rfl (lv_at hl 0 rfl) ?_
  refine va_get (D := (dC, dI)) (ci := 10) (v := .int 0) (C := R_SF) (T := F_SF) (N := 14) hx hb htw i_SF hown hK hP 0 rfl rfl 4 (by decide) (htw _ wd_3_10) (fun _ h9 => h9) rfl d_SF_count_49 ?_
  refine lv_if_eq (tgt := 68) hx hb d_SF_count_52 rfl (fun _ => ?_) (fun hn => absurd (rfl) hn)
  refine lv_iconst (v := 0) hx hb d_SF_count_68 (by decide) ?_
  have hP9 := hP.sub (ws' := [(x0, .inr (10, [.ref tp, .ref tk, .ref rs, .ref ou, .int 0, .ref sc0, .ref h0, .ref sn0, .ref pa0, .ref vl, .ref de, .ref br, .ref pw, .ref pr])), (tp, .inr (0, [.ref tpa, .int 0])), (rs, .inr (0, [.ref rsa, .int 0])), (sn0, .inr (4, [.ref kk1, .ref kk2, .ref kk3, .int 0, .int ((-1)), .null, .null, .int 0]))]) [0, 1, 2, 3] rfl
  have hD9 := hD.sub (ws' := [(x0, .inr (10, [.ref tp, .ref tk, .ref rs, .ref ou, .int 0, .ref sc0, .ref h0, .ref sn0, .ref pa0, .ref vl, .ref de, .ref br, .ref pw, .ref pr])), (tp, .inr (0, [.ref tpa, .int 0])), (rs, .inr (0, [.ref rsa, .int 0])), (sn0, .inr (4, [.ref kk1, .ref kk2, .ref kk3, .int 0, .int ((-1)), .null, .null, .int 0]))]) [0, 1, 2, 3] (by decide) rfl
  have hK9 := hK.sub (tys' := []) [] rfl
  refine W.widen (k := 0) (n := 0) (by omega) (by omega) ?_
  exact W.iret (v := 0) hx hb hr (fun t ht hW => ⟨⟨0, (), rfl, rfl, by rw [ht]; exact hP9, va_K.moved hW.alike hK9, hD9⟩, hS.F ht⟩) hS.2.2 d_SF_count_69
set_option maxHeartbeats 4000000 in
set_option maxRecDepth 100000 in
theorem c_SF_count_v4 (l : Launch) (dC : Nat → ClassId) (dI : Nat → Nat → Nat) (sz : Nat) (x0 : Nat) (tp : Nat) (tk : Nat) (rs : Nat) (ou : Nat) (sc0 : Nat) (h0 : Nat) (sn0 : Nat) (pa0 : Nat) (vl : Nat) (de : Nat) (br : Nat) (pw : Nat) (pr : Nat) (tpa : Nat) (rsa : Nat) (kk1 : Nat) (kk2 : Nat) (kk3 : Nat) : Met l y_SF_count ws_SF_count ({ frames := 0, cells := 0, slots := 0, locals := 0 }) (va_Pc [.ref x0, .int 3] (fun U => U.heap.size = sz ∧ va_P (dC, dI) classes [(x0, .inr (10, [.ref tp, .ref tk, .ref rs, .ref ou, .int 0, .ref sc0, .ref h0, .ref sn0, .ref pa0, .ref vl, .ref de, .ref br, .ref pw, .ref pr])), (tp, .inr (0, [.ref tpa, .int 0])), (rs, .inr (0, [.ref rsa, .int 0])), (sn0, .inr (4, [.ref kk1, .ref kk2, .ref kk3, .int 0, .int ((-1)), .null, .null, .int 0]))] U.heap ∧ va_K (dC, dI) classes [] U ∧ va_D (fun _ => True) [(x0, .inr (10, [.ref tp, .ref tk, .ref rs, .ref ou, .int 0, .ref sc0, .ref h0, .ref sn0, .ref pa0, .ref vl, .ref de, .ref br, .ref pw, .ref pr])), (tp, .inr (0, [.ref tpa, .int 0])), (rs, .inr (0, [.ref rsa, .int 0])), (sn0, .inr (4, [.ref kk1, .ref kk2, .ref kk3, .int 0, .int ((-1)), .null, .null, .int 0]))])) (va_Qi (fun (r : Int32) (_ : Unit) => r = (-1)) (fun _ t => va_P (dC, dI) classes [(x0, .inr (10, [.ref tp, .ref tk, .ref rs, .ref ou, .int 0, .ref sc0, .ref h0, .ref sn0, .ref pa0, .ref vl, .ref de, .ref br, .ref pw, .ref pr])), (tp, .inr (0, [.ref tpa, .int 0])), (rs, .inr (0, [.ref rsa, .int 0])), (sn0, .inr (4, [.ref kk1, .ref kk2, .ref kk3, .int 0, .int ((-1)), .null, .null, .int 0]))] t.heap ∧ va_K (dC, dI) classes [] t ∧ va_D (va_A [(x0, .inr (10, [.ref tp, .ref tk, .ref rs, .ref ou, .int 0, .ref sc0, .ref h0, .ref sn0, .ref pa0, .ref vl, .ref de, .ref br, .ref pw, .ref pr])), (tp, .inr (0, [.ref tpa, .int 0])), (rs, .inr (0, [.ref rsa, .int 0])), (sn0, .inr (4, [.ref kk1, .ref kk2, .ref kk3, .int 0, .int ((-1)), .null, .null, .int 0]))] sz) [(x0, .inr (10, [.ref tp, .ref tk, .ref rs, .ref ou, .int 0, .ref sc0, .ref h0, .ref sn0, .ref pa0, .ref vl, .ref de, .ref br, .ref pw, .ref pr])), (tp, .inr (0, [.ref tpa, .int 0])), (rs, .inr (0, [.ref rsa, .int 0])), (sn0, .inr (4, [.ref kk1, .ref kk2, .ref kk3, .int 0, .int ((-1)), .null, .null, .int 0]))]) (va_A [(x0, .inr (10, [.ref tp, .ref tk, .ref rs, .ref ou, .int 0, .ref sc0, .ref h0, .ref sn0, .ref pa0, .ref vl, .ref de, .ref br, .ref pw, .ref pr])), (tp, .inr (0, [.ref tpa, .int 0])), (rs, .inr (0, [.ref rsa, .int 0])), (sn0, .inr (4, [.ref kk1, .ref kk2, .ref kk3, .int 0, .int ((-1)), .null, .null, .int 0]))] sz)) 0 0 (va_A [(x0, .inr (10, [.ref tp, .ref tk, .ref rs, .ref ou, .int 0, .ref sc0, .ref h0, .ref sn0, .ref pa0, .ref vl, .ref de, .ref br, .ref pw, .ref pr])), (tp, .inr (0, [.ref tpa, .int 0])), (rs, .inr (0, [.ref rsa, .int 0])), (sn0, .inr (4, [.ref kk1, .ref kk2, .ref kk3, .int 0, .int ((-1)), .null, .null, .int 0]))] sz) := by
  refine Met.ofW (cc := b_SF_count) (maxL := 2) (ret := (some .int)) (by decide) rfl ?_
  intro p e s m args below meth c s₁ B hml hv
  obtain ⟨rfl, hsz, hP, hK, hD0⟩ := hv
  have hx := B.exec
  have hb := B.bytes
  have hr := B.returns
  have hts := atoms_spec (ws := ws_SF_count) B.pre
  have htw : ∀ w ∈ tw_tbl, w.before [.ref x0, .int 3].toArray s = true := fun w h => hts w (List.mem_cons_of_mem _ h)
  have hown : s.vm.findClass R_SF = some m.cls := findClass_of_methodNamed B.named
  have hlocks := B.notSynchronized
  have hin : meth.name = "count" := (name_of_methodNamed B.named B.method).1
  subst hsz
  have hD := hD0.self (sz := s.heap.size)
  generalize hAe : va_A [(x0, .inr (10, [.ref tp, .ref tk, .ref rs, .ref ou, .int 0, .ref sc0, .ref h0, .ref sn0, .ref pa0, .ref vl, .ref de, .ref br, .ref pw, .ref pr])), (tp, .inr (0, [.ref tpa, .int 0])), (rs, .inr (0, [.ref rsa, .int 0])), (sn0, .inr (4, [.ref kk1, .ref kk2, .ref kk3, .int 0, .int ((-1)), .null, .null, .int 0]))] s.heap.size = A at hD ⊢
  have hA : ∀ q : Nat, s.heap.size ≤ q → A q := fun q h => by rw [← hAe]; exact Or.inr h
  have hS : va_S A s.heap s.heap [] := va_S.rf
  have hP : va_P (dC, dI) classes [(x0, .inr (10, [.ref tp, .ref tk, .ref rs, .ref ou, .int 0, .ref sc0, .ref h0, .ref sn0, .ref pa0, .ref vl, .ref de, .ref br, .ref pw, .ref pr])), (tp, .inr (0, [.ref tpa, .int 0])), (rs, .inr (0, [.ref rsa, .int 0])), (sn0, .inr (4, [.ref kk1, .ref kk2, .ref kk3, .int 0, .int ((-1)), .null, .null, .int 0]))] s.heap := hP
  have hl := lv_entry ([.ref x0, .int 3]) (n := 2) (Nat.le_of_ble_eq_true rfl)
  rw [lg_entry_eq]
  generalize (lg_sl ([.ref x0, .int 3]) ++ List.replicate (2 - (lg_sl ([.ref x0, .int 3])).length) Slot.unset).toArray = ls at hl ⊢
  have hl : lv_has ls 2 [(0, .ref x0), (1, .int 3)] := hl
  refine lv_iload_n hx hb d_SF_count_0 rfl (lv_at hl 1 rfl) ?_
  refine lv_tableIn (off := 69) (tgt := 70) hx hb d_SF_count_1 (by decide) (by decide) (by decide +kernel) (by decide) ?_
  refine lv_aload_n hx hb d_SF_count_70 rfl (lv_at hl 0 rfl) ?_
  refine va_get (D := (dC, dI)) (ci := 10) (v := .ref sn0) (C := R_SF) (T := F_SF) (N := 14) hx hb htw i_SF hown hK hP 0 rfl rfl 7 (by decide) (htw _ wd_3_13) (fun _ h9 => h9) rfl d_SF_count_71 ?_
  refine va_get (D := (dC, dI)) (ci := 4) (v := .int ((-1))) (C := R_Scanner) (T := F_Scanner) (N := 8) hx hb htw i_Scanner hown hK hP 3 rfl rfl 4 (by decide) (htw _ wd_2_97) (fun _ h9 => h9) rfl d_SF_count_74 ?_
  have hP9 := hP.sub (ws' := [(x0, .inr (10, [.ref tp, .ref tk, .ref rs, .ref ou, .int 0, .ref sc0, .ref h0, .ref sn0, .ref pa0, .ref vl, .ref de, .ref br, .ref pw, .ref pr])), (tp, .inr (0, [.ref tpa, .int 0])), (rs, .inr (0, [.ref rsa, .int 0])), (sn0, .inr (4, [.ref kk1, .ref kk2, .ref kk3, .int 0, .int ((-1)), .null, .null, .int 0]))]) [0, 1, 2, 3] rfl
  have hD9 := hD.sub (ws' := [(x0, .inr (10, [.ref tp, .ref tk, .ref rs, .ref ou, .int 0, .ref sc0, .ref h0, .ref sn0, .ref pa0, .ref vl, .ref de, .ref br, .ref pw, .ref pr])), (tp, .inr (0, [.ref tpa, .int 0])), (rs, .inr (0, [.ref rsa, .int 0])), (sn0, .inr (4, [.ref kk1, .ref kk2, .ref kk3, .int 0, .int ((-1)), .null, .null, .int 0]))]) [0, 1, 2, 3] (by decide) rfl
  have hK9 := hK.sub (tys' := []) [] rfl
  refine W.widen (k := 0) (n := 0) (by omega) (by omega) ?_
  exact W.iret (v := (-1)) hx hb hr (fun t ht hW => ⟨⟨(-1), (), rfl, rfl, by rw [ht]; exact hP9, va_K.moved hW.alike hK9, hD9⟩, hS.F ht⟩) hS.2.2 d_SF_count_77
