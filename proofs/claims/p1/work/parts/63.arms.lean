/-! by program (wip/p1) -/
set_option maxHeartbeats 40000000 in
set_option maxRecDepth 100000 in
theorem la_3 {p : Program} {e : Env} {s : State} {m : MethodId} {below : List Frame} {meth : Method} {c : Code} (l : Launch) (hNT : tk_NT l) {b : Nat} {xs : Nat → Int32} {A : Nat → Prop} {dC : Nat → ClassId} {dI : Nat → Nat → Nat} {dE wk wv : Nat} {q1 : Nat} {tp_3 : Nat} {tk_5 : Nat} {rs_7 : Nat} {ou_9 : Nat} {sc0_10 : Nat} {h0_11 : Nat} {sn0_12 : Nat} {pa0_13 : Nat} {vl_14 : Nat} {de_15 : Nat} {br_16 : Nat} {pw_17 : Nat} {pr_18 : Nat} {q68 : Nat} {m_tape_70 : Nat} {m_result_71 : Nat} {m_signs_72 : Nat} {m_keptWords_73 : Nat} {m_spelled_74 : Nat} {m_pieced_75 : Nat} {m_hexes_76 : Nat} {m_words_77 : Nat} {m_nextWords_78 : Nat} {m_firstWords_79 : Nat} {m_pool_80 : Nat} {m_chain_81 : Nat} {m_waiting_82 : Nat} {m_back_83 : Nat} {m_spare_84 : Nat} {m_packed_85 : Nat} {m_theres_86 : Nat} {q88 : Nat} {cA89 : ClassId} (hx : p.tables.exec = Jvm.exec) (hb : c.code = b_Law_law) (hr : meth.sig.returnType = ret) (hml : c.maxLocals = 8) (hown : s.vm.findClass R_law = some m.cls) (htw : ∀ w ∈ tw_tbl, w.before #[Value.ref b] s = true) (hX : va_X b 6 xs s s.heap) (hbl : b < s.heap.size) (hbA : ¬ A b) (hA : ∀ q : Nat, s.heap.size ≤ q → A q) (hAe : A = fun q : Nat => s.heap.size ≤ q) (hlocks : meth.locks = false) (hx0 : va_Z "java/util/ArrayList" "DEFAULTCAPACITY_EMPTY_ELEMENTDATA" "[Ljava/lang/Object;" (.ref dE) A s s.heap) (hx1 : va_Z "java/lang/String" "COMPACT_STRINGS" "Z" (.int 1) A s s.heap) (hx2 : va_Zq "jdk/internal/util/Preconditions" "SIOOBE_FORMATTER" "Ljava/util/function/BiFunction;" A s s.heap) (hx3 : va_O "java/lang/String" wk A s s.heap) (hx4 : va_OF "java/lang/String" "coder" "B" (.int 0) wk A s s.heap) (hx5 : va_OF "java/lang/String" "value" "[B" (.ref wv) wk A s s.heap) (hx6 : va_T .byte wv 280 (fun j => .int (tz_wb j)) A s s.heap) (hx7 : vk_R "SyntaxForge$Schema" 36 "DEFINITIONS EXPLICIT IMPLICIT AUTOMATIC TAGS BEGIN END UNIVERSAL APPLICATION PRIVATE INTEGER ENUMERATED BIT STRING OCTET OBJECT IDENTIFIER SEQUENCE SET OF CHOICE SIZE OPTIONAL DEFAULT BOOLEAN TRUE FALSE NULL MIN MAX UTF8String PrintableString IA5String NumericString VisibleString" wk s) (hx8 : va_AO "SyntaxForge$Value" s) (hx9 : va_Zq "java/lang/Throwable" "UNASSIGNED_STACK" "[Ljava/lang/StackTraceElement;" A s s.heap) (hx10 : va_Zq "java/lang/Throwable" "SUPPRESSED_SENTINEL" "Ljava/util/List;" A s s.heap) (hx11 : tz_LS "java/lang/Throwable" "UNASSIGNED_STACK" "[Ljava/lang/StackTraceElement;" A s s.heap) (hx12 : tz_LS "java/lang/Throwable" "SUPPRESSED_SENTINEL" "Ljava/util/List;" A s s.heap) (hx13 : va_AO "java/lang/String" s) (hx14 : va_AO "SyntaxForgeModel$Type" s) (hx15 : va_Nw (.methodLinkNest "SyntaxForgeModel" 318 ⟨"SyntaxForgeModel$Module", "<init>", "()V"⟩ "SyntaxForgeModel") s) (hx16 : va_AO "SyntaxForgeModel$Value" s) (hx17 : tz_St "SyntaxForgeModel" tz_sl A s s.heap) (hx18 : tm_AO .boolean s) (hx19 : va_Nw (.methodLinkNest "SyntaxForgeModel" 126 ⟨"SyntaxForgeModel$Chars", "<init>", "()V"⟩ "SyntaxForgeModel") s) (hx20 : tz_NC "java/lang/IllegalStateException" "java/lang/IllegalArgumentException" s)  {z0 z1 z2 z3 z4 z5 : Int32} (hv0 : z0 = xs 0) (hv1 : z1 = xs 1) (hv2 : z2 = xs 2) (hv3 : z3 = xs 3) (hv4 : z4 = xs 4) (hv5 : z5 = xs 5) {H : Heap} {locs : List Loc} {ls : Array Slot} (hl : lv_has ls 8 [(4, .int 0), (3, .ref q88), (2, .ref q68), (1, .ref q1), (0, .ref b)]) (hK : va_K (dC, dI) classes [(cA89, .long)] s) (hP : va_P (dC, dI) classes [(q1, .inr (10, [.ref tp_3, .ref tk_5, .ref rs_7, .ref ou_9, .int 0, .ref sc0_10, .ref h0_11, .ref sn0_12, .ref pa0_13, .ref vl_14, .ref de_15, .ref br_16, .ref pw_17, .ref pr_18])), (q68, .inr (11, [.int 0, .ref m_tape_70, .int 0, .ref m_result_71, .int 0, .int ((-1)), .ref m_signs_72, .ref m_keptWords_73, .int 0, .int 0, .int 0, .long 0, .null, .int 0, .int 0, .int 0, .ref m_spelled_74, .ref m_pieced_75, .ref m_hexes_76, .ref m_words_77, .ref m_nextWords_78, .ref m_firstWords_79, .int 0, .ref m_pool_80, .int 0, .int 0, .null, .null, .ref m_chain_81, .ref m_waiting_82, .int 0, .int 0, .ref m_back_83, .ref m_spare_84, .int 0, .ref m_packed_85, .int 0, .int 0, .int 0, .int 0, .int 0, .long 0, .int 0, .int 0, .int 0, .long 0, .long 0, .ref m_theres_86, .int 0, .int 0, .int 0, .long 0, .int 0])), (q88, .inl (cA89, 1, .inr (.inl ((fun _ => 0)))))] H) (hD : va_D A [(q1, .inr (10, [.ref tp_3, .ref tk_5, .ref rs_7, .ref ou_9, .int 0, .ref sc0_10, .ref h0_11, .ref sn0_12, .ref pa0_13, .ref vl_14, .ref de_15, .ref br_16, .ref pw_17, .ref pr_18])), (q68, .inr (11, [.int 0, .ref m_tape_70, .int 0, .ref m_result_71, .int 0, .int ((-1)), .ref m_signs_72, .ref m_keptWords_73, .int 0, .int 0, .int 0, .long 0, .null, .int 0, .int 0, .int 0, .ref m_spelled_74, .ref m_pieced_75, .ref m_hexes_76, .ref m_words_77, .ref m_nextWords_78, .ref m_firstWords_79, .int 0, .ref m_pool_80, .int 0, .int 0, .null, .null, .ref m_chain_81, .ref m_waiting_82, .int 0, .int 0, .ref m_back_83, .ref m_spare_84, .int 0, .ref m_packed_85, .int 0, .int 0, .int 0, .int 0, .int 0, .long 0, .int 0, .int 0, .int 0, .long 0, .long 0, .ref m_theres_86, .int 0, .int 0, .int 0, .long 0, .int 0])), (q88, .inl (cA89, 1, .inr (.inl ((fun _ => 0)))))]) (hS : va_S A s.heap H locs) : W p l e room_1 s m #[Value.ref b] below meth c H locs 156 335610 (lw_Z below #[Value.ref b] s) (F0 m 292 ls []) := by
  by_cases hu1 : z1 < 0
  · have ha : ¬ z1 < 0 → ¬ z2 < 0 → (1 : Int32) < z2 := fun h => absurd hu1 h
    refine lv_aload_n hx hb d_Law_law_292 rfl (lv_at hl 3 rfl) ?_
    refine lv_aload_n hx hb d_Law_law_293 rfl (lv_at hl 4 rfl) ?_
    refine lv_iload hx hb d_Law_law_294 (lv_at hl 0 rfl) ?_
    refine lv_iconst (v := 1) hx hb d_Law_law_296 (by decide) ?_
    refine lv_iadd hx hb d_Law_law_297 ?_
    refine lv_topi (fun z9 e9 => ?_)
    have e9 : z9 = 1 := e9.trans (by decide)
    subst e9
    refine va_sld hx hb hX hbl hbA hS (by unfold vp_in; decide) d_Law_law_298 ?_
    refine lv_topi (fun z9 e9 => ?_)
    have e9 : z1 = z9 := (e9.trans ((congrArg xs (by decide)).trans (hv1.symm))).symm
    subst e9
    refine lv_aload_n hx hb d_Law_law_299 rfl (lv_at hl 4 rfl) ?_
    refine lv_iload hx hb d_Law_law_300 (lv_at hl 0 rfl) ?_
    refine lv_iconst (v := 2) hx hb d_Law_law_302 (by decide) ?_
    refine lv_iadd hx hb d_Law_law_303 ?_
    refine lv_topi (fun z9 e9 => ?_)
    have e9 : z9 = 2 := e9.trans (by decide)
    subst e9
    refine va_sld hx hb hX hbl hbA hS (by unfold vp_in; decide) d_Law_law_304 ?_
    refine lv_topi (fun z9 e9 => ?_)
    have e9 : z2 = z9 := (e9.trans ((congrArg xs (by decide)).trans (hv2.symm))).symm
    subst e9
    refine lv_aload_n hx hb d_Law_law_305 rfl (lv_at hl 1 rfl) ?_
    have hc0 : 156 + 1 ≤ 600002 := by omega
    have hs0 : 335610 + 6 ≤ 7302232 := by omega
    have hPc := hP.sub (ws' := [(q1, .inr (10, [.ref tp_3, .ref tk_5, .ref rs_7, .ref ou_9, .int 0, .ref sc0_10, .ref h0_11, .ref sn0_12, .ref pa0_13, .ref vl_14, .ref de_15, .ref br_16, .ref pw_17, .ref pr_18]))]) [0] rfl
    have hDc := hD.sub (ws' := [(q1, .inr (10, [.ref tp_3, .ref tk_5, .ref rs_7, .ref ou_9, .int 0, .ref sc0_10, .ref h0_11, .ref sn0_12, .ref pa0_13, .ref vl_14, .ref de_15, .ref br_16, .ref pw_17, .ref pr_18]))]) [0] (by decide) rfl
    have hKc := hK.sub (tys' := []) [] rfl
    have hFc := va_free (wc := [(q1, .inr (10, [.ref tp_3, .ref tk_5, .ref rs_7, .ref ou_9, .int 0, .ref sc0_10, .ref h0_11, .ref sn0_12, .ref pa0_13, .ref vl_14, .ref de_15, .ref br_16, .ref pw_17, .ref pr_18]))]) hD hS hA [0] rfl
    refine va_calli (tk_runSW (As := [.ref q1, .int z1, .int z2, .ref q88]) (rest := []) ⟨hx, hb, hml, hown, htw⟩ (c_Law_encode l dC dI H.size q1 tp_3 tk_5 rs_7 ou_9 sc0_10 h0_11 sn0_12 pa0_13 vl_14 de_15 br_16 pw_17 pr_18 z1 z2 q88 (by first | omega | assumption) (by first | omega | assumption)) ⟨tk_cbW 4 htw (tw_inL k_Law_encode) rfl rfl rfl (htw _ wd_1_0) (htw _ wd_7_189) (by decide +kernel) ⟨Nat.le_of_ble_eq_true rfl, Nat.le_of_ble_eq_true rfl⟩, htw _ wd_7_190⟩ List.mem_cons_self ⟨fun a U g mk q => by obtain ⟨q0, q1, qP, qK, qD, hq0, hq1, hq2, hq3⟩ := q; exact ⟨q0, q1, qP, va_K.moved (u := U) (U := U.calling g mk a) (Vm.Alike.refl U.vm) qK, qD, va_Zq.moved (u := U) (U := U.calling g mk a) (Vm.Alike.refl U.vm) hq0, va_Zq.moved (u := U) (U := U.calling g mk a) (Vm.Alike.refl U.vm) hq1, tz_LS.moved (u := U) (U := U.calling g mk a) (Vm.Alike.refl U.vm) hq2, tz_LS.moved (u := U) (U := U.calling g mk a) (Vm.Alike.refl U.vm) hq3⟩, fun U hU hW => ⟨rfl, by rw [hU], by rw [hU]; exact hPc, va_K.moved hW.alike hKc, hDc.weaken (fun _ _ _ _ => trivial), by rw [hU]; exact va_Zq.moved hW.alike ((va_Zq.kept hx9 hS.2.1).narrow hFc), by rw [hU]; exact va_Zq.moved hW.alike ((va_Zq.kept hx10 hS.2.1).narrow hFc), by rw [hU]; exact tz_LS.moved hW.alike ((tz_LS.kept hx11 hS.2.1).narrow hFc), by rw [hU]; exact tz_LS.moved hW.alike ((tz_LS.kept hx12 hS.2.1).narrow hFc)⟩⟩ rfl rfl hl.1 rfl (lv_room (Nat.le_of_ble_eq_true rfl)) d_Law_law_306 ⟨hc0, hs0⟩) hS (fun q _ h => hFc q h) hFc (fun r90 u t H1 locs ht hvm hw hB hz1 hk1 hS => ?_)
    obtain ⟨hP1, hK1, hD1⟩ := hB
    rw [ht] at hP1
    have hK1 := va_K.moved hvm.symm hK1
    obtain ⟨hP, hD⟩ := va_join (wr := [(q68, .inr (11, [.int 0, .ref m_tape_70, .int 0, .ref m_result_71, .int 0, .int ((-1)), .ref m_signs_72, .ref m_keptWords_73, .int 0, .int 0, .int 0, .long 0, .null, .int 0, .int 0, .int 0, .ref m_spelled_74, .ref m_pieced_75, .ref m_hexes_76, .ref m_words_77, .ref m_nextWords_78, .ref m_firstWords_79, .int 0, .ref m_pool_80, .int 0, .int 0, .null, .null, .ref m_chain_81, .ref m_waiting_82, .int 0, .int 0, .ref m_back_83, .ref m_spare_84, .int 0, .ref m_packed_85, .int 0, .int 0, .int 0, .int 0, .int 0, .long 0, .int 0, .int 0, .int 0, .long 0, .long 0, .ref m_theres_86, .int 0, .int 0, .int 0, .long 0, .int 0])), (q88, .inl (cA89, 1, .inr (.inl ((fun _ => 0)))))]) (w1 := []) hP hD [0] [1, 2] rfl rfl (by decide) (by decide) hk1 hFc hP1 hD1
    have hK := (hK.sub (tys' := [(cA89, .long)]) [0] rfl).app hK1
    generalize H1 = H at hP hS ⊢
    have hP : va_P (dC, dI) classes [(q68, .inr (11, [.int 0, .ref m_tape_70, .int 0, .ref m_result_71, .int 0, .int ((-1)), .ref m_signs_72, .ref m_keptWords_73, .int 0, .int 0, .int 0, .long 0, .null, .int 0, .int 0, .int 0, .ref m_spelled_74, .ref m_pieced_75, .ref m_hexes_76, .ref m_words_77, .ref m_nextWords_78, .ref m_firstWords_79, .int 0, .ref m_pool_80, .int 0, .int 0, .null, .null, .ref m_chain_81, .ref m_waiting_82, .int 0, .int 0, .ref m_back_83, .ref m_spare_84, .int 0, .ref m_packed_85, .int 0, .int 0, .int 0, .int 0, .int 0, .long 0, .int 0, .int 0, .int 0, .long 0, .long 0, .ref m_theres_86, .int 0, .int 0, .int 0, .long 0, .int 0])), (q88, .inl (cA89, 1, .inr (.inl ((fun _ => 0)))))] H := hP
    have hD : va_D A [(q68, .inr (11, [.int 0, .ref m_tape_70, .int 0, .ref m_result_71, .int 0, .int ((-1)), .ref m_signs_72, .ref m_keptWords_73, .int 0, .int 0, .int 0, .long 0, .null, .int 0, .int 0, .int 0, .ref m_spelled_74, .ref m_pieced_75, .ref m_hexes_76, .ref m_words_77, .ref m_nextWords_78, .ref m_firstWords_79, .int 0, .ref m_pool_80, .int 0, .int 0, .null, .null, .ref m_chain_81, .ref m_waiting_82, .int 0, .int 0, .ref m_back_83, .ref m_spare_84, .int 0, .ref m_packed_85, .int 0, .int 0, .int 0, .int 0, .int 0, .long 0, .int 0, .int 0, .int 0, .long 0, .long 0, .ref m_theres_86, .int 0, .int 0, .int 0, .long 0, .int 0])), (q88, .inl (cA89, 1, .inr (.inl ((fun _ => 0)))))] := hD
    have hK : va_K (dC, dI) classes [(cA89, .long)] s := hK
    subst hw
    refine lv_istore hx hb d_Law_law_309 hl (by decide) rfl (fun ls hl => ?_)
    have hl : lv_has ls 8 [(5, .int 1), (4, .int 0), (3, .ref q88), (2, .ref q68), (1, .ref q1), (0, .ref b)] := hl
    refine lv_aload_n hx hb d_Law_law_311 rfl (lv_at hl 3 rfl) ?_
    refine lv_aload_n hx hb d_Law_law_312 rfl (lv_at hl 5 rfl) ?_
    refine lv_iload hx hb d_Law_law_313 (lv_at hl 1 rfl) ?_
    refine lv_iconst (v := 1) hx hb d_Law_law_315 (by decide) ?_
    refine lv_iadd hx hb d_Law_law_316 ?_
    refine lv_topi (fun z9 e9 => ?_)
    have e9 : z9 = 1 := e9.trans (by decide)
    subst e9
    refine va_sld hx hb hX hbl hbA hS (by unfold vp_in; decide) d_Law_law_317 ?_
    refine lv_topi (fun z9 e9 => ?_)
    have e9 : z1 = z9 := (e9.trans ((congrArg xs (by decide)).trans (hv1.symm))).symm
    subst e9
    refine lv_aload_n hx hb d_Law_law_318 rfl (lv_at hl 5 rfl) ?_
    refine lv_iload hx hb d_Law_law_319 (lv_at hl 1 rfl) ?_
    refine lv_iconst (v := 2) hx hb d_Law_law_321 (by decide) ?_
    refine lv_iadd hx hb d_Law_law_322 ?_
    refine lv_topi (fun z9 e9 => ?_)
    have e9 : z9 = 2 := e9.trans (by decide)
    subst e9
    refine va_sld hx hb hX hbl hbA hS (by unfold vp_in; decide) d_Law_law_323 ?_
    refine lv_topi (fun z9 e9 => ?_)
    have e9 : z2 = z9 := (e9.trans ((congrArg xs (by decide)).trans (hv2.symm))).symm
    subst e9
    have hc0 : 157 + 0 ≤ 600002 := by omega
    have hs0 : 335616 + 0 ≤ 7302232 := by omega
    have hPc := hP.sub (ws' := [(q68, .inr (11, [.int 0, .ref m_tape_70, .int 0, .ref m_result_71, .int 0, .int ((-1)), .ref m_signs_72, .ref m_keptWords_73, .int 0, .int 0, .int 0, .long 0, .null, .int 0, .int 0, .int 0, .ref m_spelled_74, .ref m_pieced_75, .ref m_hexes_76, .ref m_words_77, .ref m_nextWords_78, .ref m_firstWords_79, .int 0, .ref m_pool_80, .int 0, .int 0, .null, .null, .ref m_chain_81, .ref m_waiting_82, .int 0, .int 0, .ref m_back_83, .ref m_spare_84, .int 0, .ref m_packed_85, .int 0, .int 0, .int 0, .int 0, .int 0, .long 0, .int 0, .int 0, .int 0, .long 0, .long 0, .ref m_theres_86, .int 0, .int 0, .int 0, .long 0, .int 0]))]) [0] rfl
    have hDc := hD.sub (ws' := [(q68, .inr (11, [.int 0, .ref m_tape_70, .int 0, .ref m_result_71, .int 0, .int ((-1)), .ref m_signs_72, .ref m_keptWords_73, .int 0, .int 0, .int 0, .long 0, .null, .int 0, .int 0, .int 0, .ref m_spelled_74, .ref m_pieced_75, .ref m_hexes_76, .ref m_words_77, .ref m_nextWords_78, .ref m_firstWords_79, .int 0, .ref m_pool_80, .int 0, .int 0, .null, .null, .ref m_chain_81, .ref m_waiting_82, .int 0, .int 0, .ref m_back_83, .ref m_spare_84, .int 0, .ref m_packed_85, .int 0, .int 0, .int 0, .int 0, .int 0, .long 0, .int 0, .int 0, .int 0, .long 0, .long 0, .ref m_theres_86, .int 0, .int 0, .int 0, .long 0, .int 0]))]) [0] (by decide) rfl
    have hKc := hK.sub (tys' := []) [] rfl
    have hFc := va_free (wc := [(q68, .inr (11, [.int 0, .ref m_tape_70, .int 0, .ref m_result_71, .int 0, .int ((-1)), .ref m_signs_72, .ref m_keptWords_73, .int 0, .int 0, .int 0, .long 0, .null, .int 0, .int 0, .int 0, .ref m_spelled_74, .ref m_pieced_75, .ref m_hexes_76, .ref m_words_77, .ref m_nextWords_78, .ref m_firstWords_79, .int 0, .ref m_pool_80, .int 0, .int 0, .null, .null, .ref m_chain_81, .ref m_waiting_82, .int 0, .int 0, .ref m_back_83, .ref m_spare_84, .int 0, .ref m_packed_85, .int 0, .int 0, .int 0, .int 0, .int 0, .long 0, .int 0, .int 0, .int 0, .long 0, .long 0, .ref m_theres_86, .int 0, .int 0, .int 0, .long 0, .int 0]))]) hD hS hA [0] rfl
    refine va_calli (tk_runVW (As := [.int z1, .int z2]) (rest := []) ⟨hx, hb, hml, hown, htw⟩ (c_Mo_encode l dC dI H.size q68 m_tape_70 m_result_71 m_signs_72 m_keptWords_73 m_spelled_74 m_pieced_75 m_hexes_76 m_words_77 m_nextWords_78 m_firstWords_79 m_pool_80 m_chain_81 m_waiting_82 m_back_83 m_spare_84 m_packed_85 m_theres_86 z1 z2 (by first | omega | assumption)) ⟨tk_cbW 2 htw (tw_inL k_Mo_encode) rfl rfl rfl (htw _ wd_1_21) (htw _ wd_13_239) (by decide +kernel) ⟨Nat.le_of_ble_eq_true rfl, Nat.le_of_ble_eq_true rfl⟩, htw _ wd_14_0, htw _ wd_14_1⟩ List.mem_cons_self ⟨fun a U g mk q => by obtain ⟨q0, q1, qP, qK, qD⟩ := q; exact ⟨q0, q1, qP, va_K.moved (u := U) (U := U.calling g mk a) (Vm.Alike.refl U.vm) qK, qD⟩, va_recv hK hP (q := (R_Mo, F_Mo, 53)) (ci := 11) (q0 := 0) rfl rfl, fun U hU hW => ⟨rfl, by rw [hU], by rw [hU]; exact hPc, va_K.moved hW.alike hKc, hDc.weaken (fun _ _ _ _ => trivial)⟩⟩ rfl rfl hl.1 rfl (lv_room (Nat.le_of_ble_eq_true rfl)) d_Law_law_324 ⟨hc0, hs0⟩) hS (fun q _ h => hFc q h) hFc (fun r91 u t H1 locs ht hvm hw hB hz1 hk1 hS => ?_)
    obtain ⟨hP1, hK1, hD1⟩ := hB
    rw [ht] at hP1
    have hK1 := va_K.moved hvm.symm hK1
    obtain ⟨hP, hD⟩ := va_join (wr := [(q88, .inl (cA89, 1, .inr (.inl ((fun _ => 0)))))]) (w1 := [(q68, .inr (11, [.int 1, .ref m_tape_70, .int 0, .ref m_result_71, .int 0, .int ((-1)), .ref m_signs_72, .ref m_keptWords_73, .int 0, .int 0, .int 0, .long 0, .null, .int 0, .int 0, .int 0, .ref m_spelled_74, .ref m_pieced_75, .ref m_hexes_76, .ref m_words_77, .ref m_nextWords_78, .ref m_firstWords_79, .int 0, .ref m_pool_80, .int 0, .int 0, .null, .null, .ref m_chain_81, .ref m_waiting_82, .int 0, .int 0, .ref m_back_83, .ref m_spare_84, .int 0, .ref m_packed_85, .int 0, .int 0, .int 0, .int 0, .int 0, .long 0, .int 0, .int 0, .int 0, .long 0, .long 0, .ref m_theres_86, .int 0, .int 0, .int 0, .long 0, .int 0]))]) hP hD [0] [1] rfl rfl (by decide) (by decide) hk1 hFc hP1 hD1
    have hK := (hK.sub (tys' := [(cA89, .long)]) [0] rfl).app hK1
    generalize H1 = H at hP hS ⊢
    have hP : va_P (dC, dI) classes [(q88, .inl (cA89, 1, .inr (.inl ((fun _ => 0))))), (q68, .inr (11, [.int 1, .ref m_tape_70, .int 0, .ref m_result_71, .int 0, .int ((-1)), .ref m_signs_72, .ref m_keptWords_73, .int 0, .int 0, .int 0, .long 0, .null, .int 0, .int 0, .int 0, .ref m_spelled_74, .ref m_pieced_75, .ref m_hexes_76, .ref m_words_77, .ref m_nextWords_78, .ref m_firstWords_79, .int 0, .ref m_pool_80, .int 0, .int 0, .null, .null, .ref m_chain_81, .ref m_waiting_82, .int 0, .int 0, .ref m_back_83, .ref m_spare_84, .int 0, .ref m_packed_85, .int 0, .int 0, .int 0, .int 0, .int 0, .long 0, .int 0, .int 0, .int 0, .long 0, .long 0, .ref m_theres_86, .int 0, .int 0, .int 0, .long 0, .int 0]))] H := hP
    have hD : va_D A [(q88, .inl (cA89, 1, .inr (.inl ((fun _ => 0))))), (q68, .inr (11, [.int 1, .ref m_tape_70, .int 0, .ref m_result_71, .int 0, .int ((-1)), .ref m_signs_72, .ref m_keptWords_73, .int 0, .int 0, .int 0, .long 0, .null, .int 0, .int 0, .int 0, .ref m_spelled_74, .ref m_pieced_75, .ref m_hexes_76, .ref m_words_77, .ref m_nextWords_78, .ref m_firstWords_79, .int 0, .ref m_pool_80, .int 0, .int 0, .null, .null, .ref m_chain_81, .ref m_waiting_82, .int 0, .int 0, .ref m_back_83, .ref m_spare_84, .int 0, .ref m_packed_85, .int 0, .int 0, .int 0, .int 0, .int 0, .long 0, .int 0, .int 0, .int 0, .long 0, .long 0, .ref m_theres_86, .int 0, .int 0, .int 0, .long 0, .int 0]))] := hD
    have hK : va_K (dC, dI) classes [(cA89, .long)] s := hK
    subst hw
    refine lv_istore hx hb d_Law_law_327 hl (by decide) rfl (fun ls hl => ?_)
    have hl : lv_has ls 8 [(6, .int 0), (5, .int 1), (4, .int 0), (3, .ref q88), (2, .ref q68), (1, .ref q1), (0, .ref b)] := hl
    refine lv_aload_n hx hb d_Law_law_329 rfl (lv_at hl 4 rfl) ?_
    have hc0 : 157 + 0 ≤ 600002 := by omega
    have hs0 : 335616 + 0 ≤ 7302232 := by omega
    have hPc := hP.sub (ws' := [(q68, .inr (11, [.int 1, .ref m_tape_70, .int 0, .ref m_result_71, .int 0, .int ((-1)), .ref m_signs_72, .ref m_keptWords_73, .int 0, .int 0, .int 0, .long 0, .null, .int 0, .int 0, .int 0, .ref m_spelled_74, .ref m_pieced_75, .ref m_hexes_76, .ref m_words_77, .ref m_nextWords_78, .ref m_firstWords_79, .int 0, .ref m_pool_80, .int 0, .int 0, .null, .null, .ref m_chain_81, .ref m_waiting_82, .int 0, .int 0, .ref m_back_83, .ref m_spare_84, .int 0, .ref m_packed_85, .int 0, .int 0, .int 0, .int 0, .int 0, .long 0, .int 0, .int 0, .int 0, .long 0, .long 0, .ref m_theres_86, .int 0, .int 0, .int 0, .long 0, .int 0]))]) [1] rfl
    have hDc := hD.sub (ws' := [(q68, .inr (11, [.int 1, .ref m_tape_70, .int 0, .ref m_result_71, .int 0, .int ((-1)), .ref m_signs_72, .ref m_keptWords_73, .int 0, .int 0, .int 0, .long 0, .null, .int 0, .int 0, .int 0, .ref m_spelled_74, .ref m_pieced_75, .ref m_hexes_76, .ref m_words_77, .ref m_nextWords_78, .ref m_firstWords_79, .int 0, .ref m_pool_80, .int 0, .int 0, .null, .null, .ref m_chain_81, .ref m_waiting_82, .int 0, .int 0, .ref m_back_83, .ref m_spare_84, .int 0, .ref m_packed_85, .int 0, .int 0, .int 0, .int 0, .int 0, .long 0, .int 0, .int 0, .int 0, .long 0, .long 0, .ref m_theres_86, .int 0, .int 0, .int 0, .long 0, .int 0]))]) [1] (by decide) rfl
    have hKc := hK.sub (tys' := []) [] rfl
    have hFc := va_free (wc := [(q68, .inr (11, [.int 1, .ref m_tape_70, .int 0, .ref m_result_71, .int 0, .int ((-1)), .ref m_signs_72, .ref m_keptWords_73, .int 0, .int 0, .int 0, .long 0, .null, .int 0, .int 0, .int 0, .ref m_spelled_74, .ref m_pieced_75, .ref m_hexes_76, .ref m_words_77, .ref m_nextWords_78, .ref m_firstWords_79, .int 0, .ref m_pool_80, .int 0, .int 0, .null, .null, .ref m_chain_81, .ref m_waiting_82, .int 0, .int 0, .ref m_back_83, .ref m_spare_84, .int 0, .ref m_packed_85, .int 0, .int 0, .int 0, .int 0, .int 0, .long 0, .int 0, .int 0, .int 0, .long 0, .long 0, .ref m_theres_86, .int 0, .int 0, .int 0, .long 0, .int 0]))]) hD hS hA [1] rfl
    refine va_calli (va_runV (As := []) (rest := []) ⟨hx, hb, hml, hown, htw⟩ (c_Mo_thrown l dC dI H.size q68 m_tape_70 m_result_71 m_signs_72 m_keptWords_73 m_spelled_74 m_pieced_75 m_hexes_76 m_words_77 m_nextWords_78 m_firstWords_79 m_pool_80 m_chain_81 m_waiting_82 m_back_83 m_spare_84 m_packed_85 m_theres_86 1 0) (cwV 0 htw (tw_V wd_10_212 wd_10_213 wd_10_214 wd_1_21 k_Mo_thrown) rfl rfl rfl (by decide +kernel) ⟨Nat.le_of_ble_eq_true rfl, Nat.le_of_ble_eq_true rfl⟩) ⟨fun a U g mk q => by obtain ⟨q0, q1, qP, qK, qD⟩ := q; exact ⟨q0, q1, qP, va_K.moved (u := U) (U := U.calling g mk a) (Vm.Alike.refl U.vm) qK, qD⟩, va_recv hK hP (q := (R_Mo, F_Mo, 53)) (ci := 11) (q0 := 1) rfl rfl, fun U hU hW => ⟨rfl, by rw [hU], by rw [hU]; exact hPc, va_K.moved hW.alike hKc, hDc.weaken (fun _ _ _ _ => trivial)⟩⟩ rfl rfl hl.1 rfl (lv_room (Nat.le_of_ble_eq_true rfl)) d_Law_law_330 ⟨hc0, hs0⟩) hS (fun q _ h => hFc q h) hFc (fun r92 u t H1 locs ht hvm hw hB hz1 hk1 hS => ?_)
    obtain ⟨hP1, hK1, hD1⟩ := hB
    rw [ht] at hP1
    have hK1 := va_K.moved hvm.symm hK1
    obtain ⟨hP, hD⟩ := va_join (wr := [(q88, .inl (cA89, 1, .inr (.inl ((fun _ => 0)))))]) (w1 := [(q68, .inr (11, [.int 1, .ref m_tape_70, .int 0, .ref m_result_71, .int 0, .int ((-1)), .ref m_signs_72, .ref m_keptWords_73, .int 0, .int 0, .int 0, .long 0, .null, .int 0, .int 0, .int 0, .ref m_spelled_74, .ref m_pieced_75, .ref m_hexes_76, .ref m_words_77, .ref m_nextWords_78, .ref m_firstWords_79, .int 0, .ref m_pool_80, .int 0, .int 0, .null, .null, .ref m_chain_81, .ref m_waiting_82, .int 0, .int 0, .ref m_back_83, .ref m_spare_84, .int 0, .ref m_packed_85, .int 0, .int 0, .int 0, .int 0, .int 0, .long 0, .int 0, .int 0, .int 0, .long 0, .long 0, .ref m_theres_86, .int 0, .int 0, .int 0, .long 0, .int 0]))]) hP hD [1] [0] rfl rfl (by decide) (by decide) hk1 hFc hP1 hD1
    have hK := (hK.sub (tys' := [(cA89, .long)]) [0] rfl).app hK1
    generalize H1 = H at hP hS ⊢
    have hP : va_P (dC, dI) classes [(q88, .inl (cA89, 1, .inr (.inl ((fun _ => 0))))), (q68, .inr (11, [.int 1, .ref m_tape_70, .int 0, .ref m_result_71, .int 0, .int ((-1)), .ref m_signs_72, .ref m_keptWords_73, .int 0, .int 0, .int 0, .long 0, .null, .int 0, .int 0, .int 0, .ref m_spelled_74, .ref m_pieced_75, .ref m_hexes_76, .ref m_words_77, .ref m_nextWords_78, .ref m_firstWords_79, .int 0, .ref m_pool_80, .int 0, .int 0, .null, .null, .ref m_chain_81, .ref m_waiting_82, .int 0, .int 0, .ref m_back_83, .ref m_spare_84, .int 0, .ref m_packed_85, .int 0, .int 0, .int 0, .int 0, .int 0, .long 0, .int 0, .int 0, .int 0, .long 0, .long 0, .ref m_theres_86, .int 0, .int 0, .int 0, .long 0, .int 0]))] H := hP
    have hD : va_D A [(q88, .inl (cA89, 1, .inr (.inl ((fun _ => 0))))), (q68, .inr (11, [.int 1, .ref m_tape_70, .int 0, .ref m_result_71, .int 0, .int ((-1)), .ref m_signs_72, .ref m_keptWords_73, .int 0, .int 0, .int 0, .long 0, .null, .int 0, .int 0, .int 0, .ref m_spelled_74, .ref m_pieced_75, .ref m_hexes_76, .ref m_words_77, .ref m_nextWords_78, .ref m_firstWords_79, .int 0, .ref m_pool_80, .int 0, .int 0, .null, .null, .ref m_chain_81, .ref m_waiting_82, .int 0, .int 0, .ref m_back_83, .ref m_spare_84, .int 0, .ref m_packed_85, .int 0, .int 0, .int 0, .int 0, .int 0, .long 0, .int 0, .int 0, .int 0, .long 0, .long 0, .ref m_theres_86, .int 0, .int 0, .int 0, .long 0, .int 0]))] := hD
    have hK : va_K (dC, dI) classes [(cA89, .long)] s := hK
    subst hw
    refine lv_iload hx hb d_Law_law_333 (lv_at hl 1 rfl) ?_
    refine lv_icmp_eq (tgt := 340) hx hb d_Law_law_335 rfl (fun _ => ?_) (fun hn => absurd (rfl) hn)
    refine lv_iload hx hb d_Law_law_340 (lv_at hl 1 rfl) ?_
    refine lv_if_ne (tgt := 357) hx hb d_Law_law_342 rfl (fun _ => ?_) (fun hn => absurd hn (by decide))
    refine lv_goto (tgt := 594) hx hb d_Law_law_357 rfl ?_
    refine lv_iinc (k := 2) (v := 6) hx hb d_Law_law_594 hl rfl (by decide) (by decide) rfl (fun ls hl => ?_)
    have hl : lv_has ls 8 [(4, .int 6), (6, .int 0), (5, .int 1), (3, .ref q88), (2, .ref q68), (1, .ref q1), (0, .ref b)] := hl
    refine lv_goto (tgt := 23) hx hb d_Law_law_597 rfl ?_
    refine lv_iload hx hb d_Law_law_23 (lv_at hl 0 rfl) ?_
    refine lv_aload_n hx hb d_Law_law_25 rfl (lv_at hl 6 rfl) ?_
    refine va_slen hx hb hX hbl hbA hS d_Law_law_26 ?_
    refine lv_bipush (v := 6) hx hb d_Law_law_27 (by decide) ?_
    refine lv_isub hx hb d_Law_law_29 ?_
    refine lv_icmp_gt (tgt := 600) hx hb d_Law_law_30 rfl (fun _ => ?_) (fun hn => absurd (by decide) hn)
    refine lv_iconst (v := 1) hx hb d_Law_law_600 (by decide) ?_
    refine va_forget (fun q hq => by have h9 := hS.2.2 q hq; rw [hAe] at h9; exact h9) ?_
    refine W.widen (k := 600002) (n := 7302232) (by omega) (by omega) ?_
    exact lw_ret hx hb hr hlocks d_Law_law_601
  · by_cases hu2 : ¬ z2 < 0 ∧ z2 ≤ 1
    · have ha : ¬ z1 < 0 ∧ ¬ z2 < 0 ∧ ¬ (1 : Int32) < z2 := ⟨hu1, hu2.1, Int32.not_lt.mpr hu2.2⟩
      refine lv_aload_n hx hb d_Law_law_292 rfl (lv_at hl 3 rfl) ?_
      refine lv_aload_n hx hb d_Law_law_293 rfl (lv_at hl 4 rfl) ?_
      refine lv_iload hx hb d_Law_law_294 (lv_at hl 0 rfl) ?_
      refine lv_iconst (v := 1) hx hb d_Law_law_296 (by decide) ?_
      refine lv_iadd hx hb d_Law_law_297 ?_
      refine lv_topi (fun z9 e9 => ?_)
      have e9 : z9 = 1 := e9.trans (by decide)
      subst e9
      refine va_sld hx hb hX hbl hbA hS (by unfold vp_in; decide) d_Law_law_298 ?_
      refine lv_topi (fun z9 e9 => ?_)
      have e9 : z1 = z9 := (e9.trans ((congrArg xs (by decide)).trans (hv1.symm))).symm
      subst e9
      refine lv_aload_n hx hb d_Law_law_299 rfl (lv_at hl 4 rfl) ?_
      refine lv_iload hx hb d_Law_law_300 (lv_at hl 0 rfl) ?_
      refine lv_iconst (v := 2) hx hb d_Law_law_302 (by decide) ?_
      refine lv_iadd hx hb d_Law_law_303 ?_
      refine lv_topi (fun z9 e9 => ?_)
      have e9 : z9 = 2 := e9.trans (by decide)
      subst e9
      refine va_sld hx hb hX hbl hbA hS (by unfold vp_in; decide) d_Law_law_304 ?_
      refine lv_topi (fun z9 e9 => ?_)
      have e9 : z2 = z9 := (e9.trans ((congrArg xs (by decide)).trans (hv2.symm))).symm
      subst e9
      refine lv_aload_n hx hb d_Law_law_305 rfl (lv_at hl 1 rfl) ?_
      have hc0 : 156 + 1 ≤ 600002 := by omega
      have hs0 : 335610 + 6 ≤ 7302232 := by omega
      have hPc := hP.sub (ws' := [(q1, .inr (10, [.ref tp_3, .ref tk_5, .ref rs_7, .ref ou_9, .int 0, .ref sc0_10, .ref h0_11, .ref sn0_12, .ref pa0_13, .ref vl_14, .ref de_15, .ref br_16, .ref pw_17, .ref pr_18]))]) [0] rfl
      have hDc := hD.sub (ws' := [(q1, .inr (10, [.ref tp_3, .ref tk_5, .ref rs_7, .ref ou_9, .int 0, .ref sc0_10, .ref h0_11, .ref sn0_12, .ref pa0_13, .ref vl_14, .ref de_15, .ref br_16, .ref pw_17, .ref pr_18]))]) [0] (by decide) rfl
      have hKc := hK.sub (tys' := []) [] rfl
      have hFc := va_free (wc := [(q1, .inr (10, [.ref tp_3, .ref tk_5, .ref rs_7, .ref ou_9, .int 0, .ref sc0_10, .ref h0_11, .ref sn0_12, .ref pa0_13, .ref vl_14, .ref de_15, .ref br_16, .ref pw_17, .ref pr_18]))]) hD hS hA [0] rfl
      refine va_calli (tk_runSW (As := [.ref q1, .int z1, .int z2, .ref q88]) (rest := []) ⟨hx, hb, hml, hown, htw⟩ (c_Law_encode_v2 l dC dI H.size q1 tp_3 tk_5 rs_7 ou_9 sc0_10 h0_11 sn0_12 pa0_13 vl_14 de_15 br_16 pw_17 pr_18 z1 z2 q88 (by first | omega | assumption) (by first | omega | assumption)) ⟨tk_cbW 4 htw (tw_inL k_Law_encode) rfl rfl rfl (htw _ wd_1_0) (htw _ wd_7_189) (by decide +kernel) ⟨Nat.le_of_ble_eq_true rfl, Nat.le_of_ble_eq_true rfl⟩, htw _ wd_7_190⟩ List.mem_cons_self ⟨fun a U g mk q => by obtain ⟨q0, q1, qP, qK, qD, hq0, hq1, hq2, hq3, hq4⟩ := q; exact ⟨q0, q1, qP, va_K.moved (u := U) (U := U.calling g mk a) (Vm.Alike.refl U.vm) qK, qD, va_Zq.moved (u := U) (U := U.calling g mk a) (Vm.Alike.refl U.vm) hq0, va_Zq.moved (u := U) (U := U.calling g mk a) (Vm.Alike.refl U.vm) hq1, tz_LS.moved (u := U) (U := U.calling g mk a) (Vm.Alike.refl U.vm) hq2, tz_LS.moved (u := U) (U := U.calling g mk a) (Vm.Alike.refl U.vm) hq3, tz_NC.moved (u := U) (U := U.calling g mk a) (Vm.Alike.refl U.vm) hq4⟩, fun U hU hW => ⟨rfl, by rw [hU], by rw [hU]; exact hPc, va_K.moved hW.alike hKc, hDc.weaken (fun _ _ _ _ => trivial), by rw [hU]; exact va_Zq.moved hW.alike ((va_Zq.kept hx9 hS.2.1).narrow hFc), by rw [hU]; exact va_Zq.moved hW.alike ((va_Zq.kept hx10 hS.2.1).narrow hFc), by rw [hU]; exact tz_LS.moved hW.alike ((tz_LS.kept hx11 hS.2.1).narrow hFc), by rw [hU]; exact tz_LS.moved hW.alike ((tz_LS.kept hx12 hS.2.1).narrow hFc), tz_NC.moved hW.alike hx20⟩⟩ rfl rfl hl.1 rfl (lv_room (Nat.le_of_ble_eq_true rfl)) d_Law_law_306 ⟨hc0, hs0⟩) hS (fun q _ h => hFc q h) hFc (fun r93 u t H1 locs ht hvm hw hB hz1 hk1 hS => ?_)
      obtain ⟨hP1, hK1, hD1⟩ := hB
      rw [ht] at hP1
      have hK1 := va_K.moved hvm.symm hK1
      obtain ⟨hP, hD⟩ := va_join (wr := [(q68, .inr (11, [.int 0, .ref m_tape_70, .int 0, .ref m_result_71, .int 0, .int ((-1)), .ref m_signs_72, .ref m_keptWords_73, .int 0, .int 0, .int 0, .long 0, .null, .int 0, .int 0, .int 0, .ref m_spelled_74, .ref m_pieced_75, .ref m_hexes_76, .ref m_words_77, .ref m_nextWords_78, .ref m_firstWords_79, .int 0, .ref m_pool_80, .int 0, .int 0, .null, .null, .ref m_chain_81, .ref m_waiting_82, .int 0, .int 0, .ref m_back_83, .ref m_spare_84, .int 0, .ref m_packed_85, .int 0, .int 0, .int 0, .int 0, .int 0, .long 0, .int 0, .int 0, .int 0, .long 0, .long 0, .ref m_theres_86, .int 0, .int 0, .int 0, .long 0, .int 0])), (q88, .inl (cA89, 1, .inr (.inl ((fun _ => 0)))))]) (w1 := []) hP hD [0] [1, 2] rfl rfl (by decide) (by decide) hk1 hFc hP1 hD1
      have hK := (hK.sub (tys' := [(cA89, .long)]) [0] rfl).app hK1
      generalize H1 = H at hP hS ⊢
      have hP : va_P (dC, dI) classes [(q68, .inr (11, [.int 0, .ref m_tape_70, .int 0, .ref m_result_71, .int 0, .int ((-1)), .ref m_signs_72, .ref m_keptWords_73, .int 0, .int 0, .int 0, .long 0, .null, .int 0, .int 0, .int 0, .ref m_spelled_74, .ref m_pieced_75, .ref m_hexes_76, .ref m_words_77, .ref m_nextWords_78, .ref m_firstWords_79, .int 0, .ref m_pool_80, .int 0, .int 0, .null, .null, .ref m_chain_81, .ref m_waiting_82, .int 0, .int 0, .ref m_back_83, .ref m_spare_84, .int 0, .ref m_packed_85, .int 0, .int 0, .int 0, .int 0, .int 0, .long 0, .int 0, .int 0, .int 0, .long 0, .long 0, .ref m_theres_86, .int 0, .int 0, .int 0, .long 0, .int 0])), (q88, .inl (cA89, 1, .inr (.inl ((fun _ => 0)))))] H := hP
      have hD : va_D A [(q68, .inr (11, [.int 0, .ref m_tape_70, .int 0, .ref m_result_71, .int 0, .int ((-1)), .ref m_signs_72, .ref m_keptWords_73, .int 0, .int 0, .int 0, .long 0, .null, .int 0, .int 0, .int 0, .ref m_spelled_74, .ref m_pieced_75, .ref m_hexes_76, .ref m_words_77, .ref m_nextWords_78, .ref m_firstWords_79, .int 0, .ref m_pool_80, .int 0, .int 0, .null, .null, .ref m_chain_81, .ref m_waiting_82, .int 0, .int 0, .ref m_back_83, .ref m_spare_84, .int 0, .ref m_packed_85, .int 0, .int 0, .int 0, .int 0, .int 0, .long 0, .int 0, .int 0, .int 0, .long 0, .long 0, .ref m_theres_86, .int 0, .int 0, .int 0, .long 0, .int 0])), (q88, .inl (cA89, 1, .inr (.inl ((fun _ => 0)))))] := hD
      have hK : va_K (dC, dI) classes [(cA89, .long)] s := hK
      subst hw
      refine lv_istore hx hb d_Law_law_309 hl (by decide) rfl (fun ls hl => ?_)
      have hl : lv_has ls 8 [(5, .int 2), (4, .int 0), (3, .ref q88), (2, .ref q68), (1, .ref q1), (0, .ref b)] := hl
      refine lv_aload_n hx hb d_Law_law_311 rfl (lv_at hl 3 rfl) ?_
      refine lv_aload_n hx hb d_Law_law_312 rfl (lv_at hl 5 rfl) ?_
      refine lv_iload hx hb d_Law_law_313 (lv_at hl 1 rfl) ?_
      refine lv_iconst (v := 1) hx hb d_Law_law_315 (by decide) ?_
      refine lv_iadd hx hb d_Law_law_316 ?_
      refine lv_topi (fun z9 e9 => ?_)
      have e9 : z9 = 1 := e9.trans (by decide)
      subst e9
      refine va_sld hx hb hX hbl hbA hS (by unfold vp_in; decide) d_Law_law_317 ?_
      refine lv_topi (fun z9 e9 => ?_)
      have e9 : z1 = z9 := (e9.trans ((congrArg xs (by decide)).trans (hv1.symm))).symm
      subst e9
      refine lv_aload_n hx hb d_Law_law_318 rfl (lv_at hl 5 rfl) ?_
      refine lv_iload hx hb d_Law_law_319 (lv_at hl 1 rfl) ?_
      refine lv_iconst (v := 2) hx hb d_Law_law_321 (by decide) ?_
      refine lv_iadd hx hb d_Law_law_322 ?_
      refine lv_topi (fun z9 e9 => ?_)
      have e9 : z9 = 2 := e9.trans (by decide)
      subst e9
      refine va_sld hx hb hX hbl hbA hS (by unfold vp_in; decide) d_Law_law_323 ?_
      refine lv_topi (fun z9 e9 => ?_)
      have e9 : z2 = z9 := (e9.trans ((congrArg xs (by decide)).trans (hv2.symm))).symm
      subst e9
      have hc0 : 157 + 0 ≤ 600002 := by omega
      have hs0 : 335616 + 0 ≤ 7302232 := by omega
      have hPc := hP.sub (ws' := [(q68, .inr (11, [.int 0, .ref m_tape_70, .int 0, .ref m_result_71, .int 0, .int ((-1)), .ref m_signs_72, .ref m_keptWords_73, .int 0, .int 0, .int 0, .long 0, .null, .int 0, .int 0, .int 0, .ref m_spelled_74, .ref m_pieced_75, .ref m_hexes_76, .ref m_words_77, .ref m_nextWords_78, .ref m_firstWords_79, .int 0, .ref m_pool_80, .int 0, .int 0, .null, .null, .ref m_chain_81, .ref m_waiting_82, .int 0, .int 0, .ref m_back_83, .ref m_spare_84, .int 0, .ref m_packed_85, .int 0, .int 0, .int 0, .int 0, .int 0, .long 0, .int 0, .int 0, .int 0, .long 0, .long 0, .ref m_theres_86, .int 0, .int 0, .int 0, .long 0, .int 0]))]) [0] rfl
      have hDc := hD.sub (ws' := [(q68, .inr (11, [.int 0, .ref m_tape_70, .int 0, .ref m_result_71, .int 0, .int ((-1)), .ref m_signs_72, .ref m_keptWords_73, .int 0, .int 0, .int 0, .long 0, .null, .int 0, .int 0, .int 0, .ref m_spelled_74, .ref m_pieced_75, .ref m_hexes_76, .ref m_words_77, .ref m_nextWords_78, .ref m_firstWords_79, .int 0, .ref m_pool_80, .int 0, .int 0, .null, .null, .ref m_chain_81, .ref m_waiting_82, .int 0, .int 0, .ref m_back_83, .ref m_spare_84, .int 0, .ref m_packed_85, .int 0, .int 0, .int 0, .int 0, .int 0, .long 0, .int 0, .int 0, .int 0, .long 0, .long 0, .ref m_theres_86, .int 0, .int 0, .int 0, .long 0, .int 0]))]) [0] (by decide) rfl
      have hKc := hK.sub (tys' := []) [] rfl
      have hFc := va_free (wc := [(q68, .inr (11, [.int 0, .ref m_tape_70, .int 0, .ref m_result_71, .int 0, .int ((-1)), .ref m_signs_72, .ref m_keptWords_73, .int 0, .int 0, .int 0, .long 0, .null, .int 0, .int 0, .int 0, .ref m_spelled_74, .ref m_pieced_75, .ref m_hexes_76, .ref m_words_77, .ref m_nextWords_78, .ref m_firstWords_79, .int 0, .ref m_pool_80, .int 0, .int 0, .null, .null, .ref m_chain_81, .ref m_waiting_82, .int 0, .int 0, .ref m_back_83, .ref m_spare_84, .int 0, .ref m_packed_85, .int 0, .int 0, .int 0, .int 0, .int 0, .long 0, .int 0, .int 0, .int 0, .long 0, .long 0, .ref m_theres_86, .int 0, .int 0, .int 0, .long 0, .int 0]))]) hD hS hA [0] rfl
      refine va_calli (tk_runVW (As := [.int z1, .int z2]) (rest := []) ⟨hx, hb, hml, hown, htw⟩ (c_Mo_encode_v3 l dC dI H.size q68 m_tape_70 m_result_71 m_signs_72 m_keptWords_73 m_spelled_74 m_pieced_75 m_hexes_76 m_words_77 m_nextWords_78 m_firstWords_79 m_pool_80 m_chain_81 m_waiting_82 m_back_83 m_spare_84 m_packed_85 m_theres_86 z1 z2 (by first | omega | assumption) (by first | omega | assumption)) ⟨tk_cbW 2 htw (tw_inL k_Mo_encode) rfl rfl rfl (htw _ wd_1_21) (htw _ wd_13_239) (by decide +kernel) ⟨Nat.le_of_ble_eq_true rfl, Nat.le_of_ble_eq_true rfl⟩, htw _ wd_14_0, htw _ wd_14_1⟩ List.mem_cons_self ⟨fun a U g mk q => by obtain ⟨q0, q1, qP, qK, qD⟩ := q; exact ⟨q0, q1, qP, va_K.moved (u := U) (U := U.calling g mk a) (Vm.Alike.refl U.vm) qK, qD⟩, va_recv hK hP (q := (R_Mo, F_Mo, 53)) (ci := 11) (q0 := 0) rfl rfl, fun U hU hW => ⟨rfl, by rw [hU], by rw [hU]; exact hPc, va_K.moved hW.alike hKc, hDc.weaken (fun _ _ _ _ => trivial)⟩⟩ rfl rfl hl.1 rfl (lv_room (Nat.le_of_ble_eq_true rfl)) d_Law_law_324 ⟨hc0, hs0⟩) hS (fun q _ h => hFc q h) hFc (fun r94 u t H1 locs ht hvm hw hB hz1 hk1 hS => ?_)
      obtain ⟨hP1, hK1, hD1⟩ := hB
      rw [ht] at hP1
      have hK1 := va_K.moved hvm.symm hK1
      obtain ⟨hP, hD⟩ := va_join (wr := [(q88, .inl (cA89, 1, .inr (.inl ((fun _ => 0)))))]) (w1 := [(q68, .inr (11, [.int 2, .ref m_tape_70, .int 0, .ref m_result_71, .int 0, .int ((-1)), .ref m_signs_72, .ref m_keptWords_73, .int 0, .int 0, .int 0, .long 0, .null, .int 0, .int 0, .int 0, .ref m_spelled_74, .ref m_pieced_75, .ref m_hexes_76, .ref m_words_77, .ref m_nextWords_78, .ref m_firstWords_79, .int 0, .ref m_pool_80, .int 0, .int 0, .null, .null, .ref m_chain_81, .ref m_waiting_82, .int 0, .int 0, .ref m_back_83, .ref m_spare_84, .int 0, .ref m_packed_85, .int 0, .int 0, .int 0, .int 0, .int 0, .long 0, .int 0, .int 0, .int 0, .long 0, .long 0, .ref m_theres_86, .int 0, .int 0, .int 0, .long 0, .int 0]))]) hP hD [0] [1] rfl rfl (by decide) (by decide) hk1 hFc hP1 hD1
      have hK := (hK.sub (tys' := [(cA89, .long)]) [0] rfl).app hK1
      generalize H1 = H at hP hS ⊢
      have hP : va_P (dC, dI) classes [(q88, .inl (cA89, 1, .inr (.inl ((fun _ => 0))))), (q68, .inr (11, [.int 2, .ref m_tape_70, .int 0, .ref m_result_71, .int 0, .int ((-1)), .ref m_signs_72, .ref m_keptWords_73, .int 0, .int 0, .int 0, .long 0, .null, .int 0, .int 0, .int 0, .ref m_spelled_74, .ref m_pieced_75, .ref m_hexes_76, .ref m_words_77, .ref m_nextWords_78, .ref m_firstWords_79, .int 0, .ref m_pool_80, .int 0, .int 0, .null, .null, .ref m_chain_81, .ref m_waiting_82, .int 0, .int 0, .ref m_back_83, .ref m_spare_84, .int 0, .ref m_packed_85, .int 0, .int 0, .int 0, .int 0, .int 0, .long 0, .int 0, .int 0, .int 0, .long 0, .long 0, .ref m_theres_86, .int 0, .int 0, .int 0, .long 0, .int 0]))] H := hP
      have hD : va_D A [(q88, .inl (cA89, 1, .inr (.inl ((fun _ => 0))))), (q68, .inr (11, [.int 2, .ref m_tape_70, .int 0, .ref m_result_71, .int 0, .int ((-1)), .ref m_signs_72, .ref m_keptWords_73, .int 0, .int 0, .int 0, .long 0, .null, .int 0, .int 0, .int 0, .ref m_spelled_74, .ref m_pieced_75, .ref m_hexes_76, .ref m_words_77, .ref m_nextWords_78, .ref m_firstWords_79, .int 0, .ref m_pool_80, .int 0, .int 0, .null, .null, .ref m_chain_81, .ref m_waiting_82, .int 0, .int 0, .ref m_back_83, .ref m_spare_84, .int 0, .ref m_packed_85, .int 0, .int 0, .int 0, .int 0, .int 0, .long 0, .int 0, .int 0, .int 0, .long 0, .long 0, .ref m_theres_86, .int 0, .int 0, .int 0, .long 0, .int 0]))] := hD
      have hK : va_K (dC, dI) classes [(cA89, .long)] s := hK
      subst hw
      refine lv_istore hx hb d_Law_law_327 hl (by decide) rfl (fun ls hl => ?_)
      have hl : lv_has ls 8 [(6, .int 0), (5, .int 2), (4, .int 0), (3, .ref q88), (2, .ref q68), (1, .ref q1), (0, .ref b)] := hl
      refine lv_aload_n hx hb d_Law_law_329 rfl (lv_at hl 4 rfl) ?_
      have hc0 : 157 + 0 ≤ 600002 := by omega
      have hs0 : 335616 + 0 ≤ 7302232 := by omega
      have hPc := hP.sub (ws' := [(q68, .inr (11, [.int 2, .ref m_tape_70, .int 0, .ref m_result_71, .int 0, .int ((-1)), .ref m_signs_72, .ref m_keptWords_73, .int 0, .int 0, .int 0, .long 0, .null, .int 0, .int 0, .int 0, .ref m_spelled_74, .ref m_pieced_75, .ref m_hexes_76, .ref m_words_77, .ref m_nextWords_78, .ref m_firstWords_79, .int 0, .ref m_pool_80, .int 0, .int 0, .null, .null, .ref m_chain_81, .ref m_waiting_82, .int 0, .int 0, .ref m_back_83, .ref m_spare_84, .int 0, .ref m_packed_85, .int 0, .int 0, .int 0, .int 0, .int 0, .long 0, .int 0, .int 0, .int 0, .long 0, .long 0, .ref m_theres_86, .int 0, .int 0, .int 0, .long 0, .int 0]))]) [1] rfl
      have hDc := hD.sub (ws' := [(q68, .inr (11, [.int 2, .ref m_tape_70, .int 0, .ref m_result_71, .int 0, .int ((-1)), .ref m_signs_72, .ref m_keptWords_73, .int 0, .int 0, .int 0, .long 0, .null, .int 0, .int 0, .int 0, .ref m_spelled_74, .ref m_pieced_75, .ref m_hexes_76, .ref m_words_77, .ref m_nextWords_78, .ref m_firstWords_79, .int 0, .ref m_pool_80, .int 0, .int 0, .null, .null, .ref m_chain_81, .ref m_waiting_82, .int 0, .int 0, .ref m_back_83, .ref m_spare_84, .int 0, .ref m_packed_85, .int 0, .int 0, .int 0, .int 0, .int 0, .long 0, .int 0, .int 0, .int 0, .long 0, .long 0, .ref m_theres_86, .int 0, .int 0, .int 0, .long 0, .int 0]))]) [1] (by decide) rfl
      have hKc := hK.sub (tys' := []) [] rfl
      have hFc := va_free (wc := [(q68, .inr (11, [.int 2, .ref m_tape_70, .int 0, .ref m_result_71, .int 0, .int ((-1)), .ref m_signs_72, .ref m_keptWords_73, .int 0, .int 0, .int 0, .long 0, .null, .int 0, .int 0, .int 0, .ref m_spelled_74, .ref m_pieced_75, .ref m_hexes_76, .ref m_words_77, .ref m_nextWords_78, .ref m_firstWords_79, .int 0, .ref m_pool_80, .int 0, .int 0, .null, .null, .ref m_chain_81, .ref m_waiting_82, .int 0, .int 0, .ref m_back_83, .ref m_spare_84, .int 0, .ref m_packed_85, .int 0, .int 0, .int 0, .int 0, .int 0, .long 0, .int 0, .int 0, .int 0, .long 0, .long 0, .ref m_theres_86, .int 0, .int 0, .int 0, .long 0, .int 0]))]) hD hS hA [1] rfl
      refine va_calli (va_runV (As := []) (rest := []) ⟨hx, hb, hml, hown, htw⟩ (c_Mo_thrown l dC dI H.size q68 m_tape_70 m_result_71 m_signs_72 m_keptWords_73 m_spelled_74 m_pieced_75 m_hexes_76 m_words_77 m_nextWords_78 m_firstWords_79 m_pool_80 m_chain_81 m_waiting_82 m_back_83 m_spare_84 m_packed_85 m_theres_86 2 0) (cwV 0 htw (tw_V wd_10_212 wd_10_213 wd_10_214 wd_1_21 k_Mo_thrown) rfl rfl rfl (by decide +kernel) ⟨Nat.le_of_ble_eq_true rfl, Nat.le_of_ble_eq_true rfl⟩) ⟨fun a U g mk q => by obtain ⟨q0, q1, qP, qK, qD⟩ := q; exact ⟨q0, q1, qP, va_K.moved (u := U) (U := U.calling g mk a) (Vm.Alike.refl U.vm) qK, qD⟩, va_recv hK hP (q := (R_Mo, F_Mo, 53)) (ci := 11) (q0 := 1) rfl rfl, fun U hU hW => ⟨rfl, by rw [hU], by rw [hU]; exact hPc, va_K.moved hW.alike hKc, hDc.weaken (fun _ _ _ _ => trivial)⟩⟩ rfl rfl hl.1 rfl (lv_room (Nat.le_of_ble_eq_true rfl)) d_Law_law_330 ⟨hc0, hs0⟩) hS (fun q _ h => hFc q h) hFc (fun r95 u t H1 locs ht hvm hw hB hz1 hk1 hS => ?_)
      obtain ⟨hP1, hK1, hD1⟩ := hB
      rw [ht] at hP1
      have hK1 := va_K.moved hvm.symm hK1
      obtain ⟨hP, hD⟩ := va_join (wr := [(q88, .inl (cA89, 1, .inr (.inl ((fun _ => 0)))))]) (w1 := [(q68, .inr (11, [.int 2, .ref m_tape_70, .int 0, .ref m_result_71, .int 0, .int ((-1)), .ref m_signs_72, .ref m_keptWords_73, .int 0, .int 0, .int 0, .long 0, .null, .int 0, .int 0, .int 0, .ref m_spelled_74, .ref m_pieced_75, .ref m_hexes_76, .ref m_words_77, .ref m_nextWords_78, .ref m_firstWords_79, .int 0, .ref m_pool_80, .int 0, .int 0, .null, .null, .ref m_chain_81, .ref m_waiting_82, .int 0, .int 0, .ref m_back_83, .ref m_spare_84, .int 0, .ref m_packed_85, .int 0, .int 0, .int 0, .int 0, .int 0, .long 0, .int 0, .int 0, .int 0, .long 0, .long 0, .ref m_theres_86, .int 0, .int 0, .int 0, .long 0, .int 0]))]) hP hD [1] [0] rfl rfl (by decide) (by decide) hk1 hFc hP1 hD1
      have hK := (hK.sub (tys' := [(cA89, .long)]) [0] rfl).app hK1
      generalize H1 = H at hP hS ⊢
      have hP : va_P (dC, dI) classes [(q88, .inl (cA89, 1, .inr (.inl ((fun _ => 0))))), (q68, .inr (11, [.int 2, .ref m_tape_70, .int 0, .ref m_result_71, .int 0, .int ((-1)), .ref m_signs_72, .ref m_keptWords_73, .int 0, .int 0, .int 0, .long 0, .null, .int 0, .int 0, .int 0, .ref m_spelled_74, .ref m_pieced_75, .ref m_hexes_76, .ref m_words_77, .ref m_nextWords_78, .ref m_firstWords_79, .int 0, .ref m_pool_80, .int 0, .int 0, .null, .null, .ref m_chain_81, .ref m_waiting_82, .int 0, .int 0, .ref m_back_83, .ref m_spare_84, .int 0, .ref m_packed_85, .int 0, .int 0, .int 0, .int 0, .int 0, .long 0, .int 0, .int 0, .int 0, .long 0, .long 0, .ref m_theres_86, .int 0, .int 0, .int 0, .long 0, .int 0]))] H := hP
      have hD : va_D A [(q88, .inl (cA89, 1, .inr (.inl ((fun _ => 0))))), (q68, .inr (11, [.int 2, .ref m_tape_70, .int 0, .ref m_result_71, .int 0, .int ((-1)), .ref m_signs_72, .ref m_keptWords_73, .int 0, .int 0, .int 0, .long 0, .null, .int 0, .int 0, .int 0, .ref m_spelled_74, .ref m_pieced_75, .ref m_hexes_76, .ref m_words_77, .ref m_nextWords_78, .ref m_firstWords_79, .int 0, .ref m_pool_80, .int 0, .int 0, .null, .null, .ref m_chain_81, .ref m_waiting_82, .int 0, .int 0, .ref m_back_83, .ref m_spare_84, .int 0, .ref m_packed_85, .int 0, .int 0, .int 0, .int 0, .int 0, .long 0, .int 0, .int 0, .int 0, .long 0, .long 0, .ref m_theres_86, .int 0, .int 0, .int 0, .long 0, .int 0]))] := hD
      have hK : va_K (dC, dI) classes [(cA89, .long)] s := hK
      subst hw
      refine lv_iload hx hb d_Law_law_333 (lv_at hl 1 rfl) ?_
      refine lv_icmp_eq (tgt := 340) hx hb d_Law_law_335 rfl (fun _ => ?_) (fun hn => absurd (rfl) hn)
      refine lv_iload hx hb d_Law_law_340 (lv_at hl 1 rfl) ?_
      refine lv_if_ne (tgt := 357) hx hb d_Law_law_342 rfl (fun _ => ?_) (fun hn => absurd hn (by decide))
      refine lv_goto (tgt := 594) hx hb d_Law_law_357 rfl ?_
      refine lv_iinc (k := 2) (v := 6) hx hb d_Law_law_594 hl rfl (by decide) (by decide) rfl (fun ls hl => ?_)
      have hl : lv_has ls 8 [(4, .int 6), (6, .int 0), (5, .int 2), (3, .ref q88), (2, .ref q68), (1, .ref q1), (0, .ref b)] := hl
      refine lv_goto (tgt := 23) hx hb d_Law_law_597 rfl ?_
      refine lv_iload hx hb d_Law_law_23 (lv_at hl 0 rfl) ?_
      refine lv_aload_n hx hb d_Law_law_25 rfl (lv_at hl 6 rfl) ?_
      refine va_slen hx hb hX hbl hbA hS d_Law_law_26 ?_
      refine lv_bipush (v := 6) hx hb d_Law_law_27 (by decide) ?_
      refine lv_isub hx hb d_Law_law_29 ?_
      refine lv_icmp_gt (tgt := 600) hx hb d_Law_law_30 rfl (fun _ => ?_) (fun hn => absurd (by decide) hn)
      refine lv_iconst (v := 1) hx hb d_Law_law_600 (by decide) ?_
      refine va_forget (fun q hq => by have h9 := hS.2.2 q hq; rw [hAe] at h9; exact h9) ?_
      refine W.widen (k := 600002) (n := 7302232) (by omega) (by omega) ?_
      exact lw_ret hx hb hr hlocks d_Law_law_601
    · have ha : ¬ z1 < 0 → ¬ z2 < 0 → (1 : Int32) < z2 := fun _ h => Int32.not_le.mp (fun q => hu2 ⟨h, q⟩)
      have hb9 : ¬ z2 < 0 → ¬ z2 ≤ 1 := fun h q => hu2 ⟨h, q⟩
      refine lv_aload_n hx hb d_Law_law_292 rfl (lv_at hl 3 rfl) ?_
      refine lv_aload_n hx hb d_Law_law_293 rfl (lv_at hl 4 rfl) ?_
      refine lv_iload hx hb d_Law_law_294 (lv_at hl 0 rfl) ?_
      refine lv_iconst (v := 1) hx hb d_Law_law_296 (by decide) ?_
      refine lv_iadd hx hb d_Law_law_297 ?_
      refine lv_topi (fun z9 e9 => ?_)
      have e9 : z9 = 1 := e9.trans (by decide)
      subst e9
      refine va_sld hx hb hX hbl hbA hS (by unfold vp_in; decide) d_Law_law_298 ?_
      refine lv_topi (fun z9 e9 => ?_)
      have e9 : z1 = z9 := (e9.trans ((congrArg xs (by decide)).trans (hv1.symm))).symm
      subst e9
      refine lv_aload_n hx hb d_Law_law_299 rfl (lv_at hl 4 rfl) ?_
      refine lv_iload hx hb d_Law_law_300 (lv_at hl 0 rfl) ?_
      refine lv_iconst (v := 2) hx hb d_Law_law_302 (by decide) ?_
      refine lv_iadd hx hb d_Law_law_303 ?_
      refine lv_topi (fun z9 e9 => ?_)
      have e9 : z9 = 2 := e9.trans (by decide)
      subst e9
      refine va_sld hx hb hX hbl hbA hS (by unfold vp_in; decide) d_Law_law_304 ?_
      refine lv_topi (fun z9 e9 => ?_)
      have e9 : z2 = z9 := (e9.trans ((congrArg xs (by decide)).trans (hv2.symm))).symm
      subst e9
      refine lv_aload_n hx hb d_Law_law_305 rfl (lv_at hl 1 rfl) ?_
      have hc0 : 156 + 1 ≤ 600002 := by omega
      have hs0 : 335610 + 6 ≤ 7302232 := by omega
      have hPc := hP.sub (ws' := [(q1, .inr (10, [.ref tp_3, .ref tk_5, .ref rs_7, .ref ou_9, .int 0, .ref sc0_10, .ref h0_11, .ref sn0_12, .ref pa0_13, .ref vl_14, .ref de_15, .ref br_16, .ref pw_17, .ref pr_18]))]) [0] rfl
      have hDc := hD.sub (ws' := [(q1, .inr (10, [.ref tp_3, .ref tk_5, .ref rs_7, .ref ou_9, .int 0, .ref sc0_10, .ref h0_11, .ref sn0_12, .ref pa0_13, .ref vl_14, .ref de_15, .ref br_16, .ref pw_17, .ref pr_18]))]) [0] (by decide) rfl
      have hKc := hK.sub (tys' := []) [] rfl
      have hFc := va_free (wc := [(q1, .inr (10, [.ref tp_3, .ref tk_5, .ref rs_7, .ref ou_9, .int 0, .ref sc0_10, .ref h0_11, .ref sn0_12, .ref pa0_13, .ref vl_14, .ref de_15, .ref br_16, .ref pw_17, .ref pr_18]))]) hD hS hA [0] rfl
      refine va_calli (tk_runSW (As := [.ref q1, .int z1, .int z2, .ref q88]) (rest := []) ⟨hx, hb, hml, hown, htw⟩ (c_Law_encode l dC dI H.size q1 tp_3 tk_5 rs_7 ou_9 sc0_10 h0_11 sn0_12 pa0_13 vl_14 de_15 br_16 pw_17 pr_18 z1 z2 q88 (by first | omega | assumption) (by first | omega | assumption)) ⟨tk_cbW 4 htw (tw_inL k_Law_encode) rfl rfl rfl (htw _ wd_1_0) (htw _ wd_7_189) (by decide +kernel) ⟨Nat.le_of_ble_eq_true rfl, Nat.le_of_ble_eq_true rfl⟩, htw _ wd_7_190⟩ List.mem_cons_self ⟨fun a U g mk q => by obtain ⟨q0, q1, qP, qK, qD, hq0, hq1, hq2, hq3⟩ := q; exact ⟨q0, q1, qP, va_K.moved (u := U) (U := U.calling g mk a) (Vm.Alike.refl U.vm) qK, qD, va_Zq.moved (u := U) (U := U.calling g mk a) (Vm.Alike.refl U.vm) hq0, va_Zq.moved (u := U) (U := U.calling g mk a) (Vm.Alike.refl U.vm) hq1, tz_LS.moved (u := U) (U := U.calling g mk a) (Vm.Alike.refl U.vm) hq2, tz_LS.moved (u := U) (U := U.calling g mk a) (Vm.Alike.refl U.vm) hq3⟩, fun U hU hW => ⟨rfl, by rw [hU], by rw [hU]; exact hPc, va_K.moved hW.alike hKc, hDc.weaken (fun _ _ _ _ => trivial), by rw [hU]; exact va_Zq.moved hW.alike ((va_Zq.kept hx9 hS.2.1).narrow hFc), by rw [hU]; exact va_Zq.moved hW.alike ((va_Zq.kept hx10 hS.2.1).narrow hFc), by rw [hU]; exact tz_LS.moved hW.alike ((tz_LS.kept hx11 hS.2.1).narrow hFc), by rw [hU]; exact tz_LS.moved hW.alike ((tz_LS.kept hx12 hS.2.1).narrow hFc)⟩⟩ rfl rfl hl.1 rfl (lv_room (Nat.le_of_ble_eq_true rfl)) d_Law_law_306 ⟨hc0, hs0⟩) hS (fun q _ h => hFc q h) hFc (fun r96 u t H1 locs ht hvm hw hB hz1 hk1 hS => ?_)
      obtain ⟨hP1, hK1, hD1⟩ := hB
      rw [ht] at hP1
      have hK1 := va_K.moved hvm.symm hK1
      obtain ⟨hP, hD⟩ := va_join (wr := [(q68, .inr (11, [.int 0, .ref m_tape_70, .int 0, .ref m_result_71, .int 0, .int ((-1)), .ref m_signs_72, .ref m_keptWords_73, .int 0, .int 0, .int 0, .long 0, .null, .int 0, .int 0, .int 0, .ref m_spelled_74, .ref m_pieced_75, .ref m_hexes_76, .ref m_words_77, .ref m_nextWords_78, .ref m_firstWords_79, .int 0, .ref m_pool_80, .int 0, .int 0, .null, .null, .ref m_chain_81, .ref m_waiting_82, .int 0, .int 0, .ref m_back_83, .ref m_spare_84, .int 0, .ref m_packed_85, .int 0, .int 0, .int 0, .int 0, .int 0, .long 0, .int 0, .int 0, .int 0, .long 0, .long 0, .ref m_theres_86, .int 0, .int 0, .int 0, .long 0, .int 0])), (q88, .inl (cA89, 1, .inr (.inl ((fun _ => 0)))))]) (w1 := []) hP hD [0] [1, 2] rfl rfl (by decide) (by decide) hk1 hFc hP1 hD1
      have hK := (hK.sub (tys' := [(cA89, .long)]) [0] rfl).app hK1
      generalize H1 = H at hP hS ⊢
      have hP : va_P (dC, dI) classes [(q68, .inr (11, [.int 0, .ref m_tape_70, .int 0, .ref m_result_71, .int 0, .int ((-1)), .ref m_signs_72, .ref m_keptWords_73, .int 0, .int 0, .int 0, .long 0, .null, .int 0, .int 0, .int 0, .ref m_spelled_74, .ref m_pieced_75, .ref m_hexes_76, .ref m_words_77, .ref m_nextWords_78, .ref m_firstWords_79, .int 0, .ref m_pool_80, .int 0, .int 0, .null, .null, .ref m_chain_81, .ref m_waiting_82, .int 0, .int 0, .ref m_back_83, .ref m_spare_84, .int 0, .ref m_packed_85, .int 0, .int 0, .int 0, .int 0, .int 0, .long 0, .int 0, .int 0, .int 0, .long 0, .long 0, .ref m_theres_86, .int 0, .int 0, .int 0, .long 0, .int 0])), (q88, .inl (cA89, 1, .inr (.inl ((fun _ => 0)))))] H := hP
      have hD : va_D A [(q68, .inr (11, [.int 0, .ref m_tape_70, .int 0, .ref m_result_71, .int 0, .int ((-1)), .ref m_signs_72, .ref m_keptWords_73, .int 0, .int 0, .int 0, .long 0, .null, .int 0, .int 0, .int 0, .ref m_spelled_74, .ref m_pieced_75, .ref m_hexes_76, .ref m_words_77, .ref m_nextWords_78, .ref m_firstWords_79, .int 0, .ref m_pool_80, .int 0, .int 0, .null, .null, .ref m_chain_81, .ref m_waiting_82, .int 0, .int 0, .ref m_back_83, .ref m_spare_84, .int 0, .ref m_packed_85, .int 0, .int 0, .int 0, .int 0, .int 0, .long 0, .int 0, .int 0, .int 0, .long 0, .long 0, .ref m_theres_86, .int 0, .int 0, .int 0, .long 0, .int 0])), (q88, .inl (cA89, 1, .inr (.inl ((fun _ => 0)))))] := hD
      have hK : va_K (dC, dI) classes [(cA89, .long)] s := hK
      subst hw
      refine lv_istore hx hb d_Law_law_309 hl (by decide) rfl (fun ls hl => ?_)
      have hl : lv_has ls 8 [(5, .int 1), (4, .int 0), (3, .ref q88), (2, .ref q68), (1, .ref q1), (0, .ref b)] := hl
      refine lv_aload_n hx hb d_Law_law_311 rfl (lv_at hl 3 rfl) ?_
      refine lv_aload_n hx hb d_Law_law_312 rfl (lv_at hl 5 rfl) ?_
      refine lv_iload hx hb d_Law_law_313 (lv_at hl 1 rfl) ?_
      refine lv_iconst (v := 1) hx hb d_Law_law_315 (by decide) ?_
      refine lv_iadd hx hb d_Law_law_316 ?_
      refine lv_topi (fun z9 e9 => ?_)
      have e9 : z9 = 1 := e9.trans (by decide)
      subst e9
      refine va_sld hx hb hX hbl hbA hS (by unfold vp_in; decide) d_Law_law_317 ?_
      refine lv_topi (fun z9 e9 => ?_)
      have e9 : z1 = z9 := (e9.trans ((congrArg xs (by decide)).trans (hv1.symm))).symm
      subst e9
      refine lv_aload_n hx hb d_Law_law_318 rfl (lv_at hl 5 rfl) ?_
      refine lv_iload hx hb d_Law_law_319 (lv_at hl 1 rfl) ?_
      refine lv_iconst (v := 2) hx hb d_Law_law_321 (by decide) ?_
      refine lv_iadd hx hb d_Law_law_322 ?_
      refine lv_topi (fun z9 e9 => ?_)
      have e9 : z9 = 2 := e9.trans (by decide)
      subst e9
      refine va_sld hx hb hX hbl hbA hS (by unfold vp_in; decide) d_Law_law_323 ?_
      refine lv_topi (fun z9 e9 => ?_)
      have e9 : z2 = z9 := (e9.trans ((congrArg xs (by decide)).trans (hv2.symm))).symm
      subst e9
      have hc0 : 157 + 0 ≤ 600002 := by omega
      have hs0 : 335616 + 0 ≤ 7302232 := by omega
      have hPc := hP.sub (ws' := [(q68, .inr (11, [.int 0, .ref m_tape_70, .int 0, .ref m_result_71, .int 0, .int ((-1)), .ref m_signs_72, .ref m_keptWords_73, .int 0, .int 0, .int 0, .long 0, .null, .int 0, .int 0, .int 0, .ref m_spelled_74, .ref m_pieced_75, .ref m_hexes_76, .ref m_words_77, .ref m_nextWords_78, .ref m_firstWords_79, .int 0, .ref m_pool_80, .int 0, .int 0, .null, .null, .ref m_chain_81, .ref m_waiting_82, .int 0, .int 0, .ref m_back_83, .ref m_spare_84, .int 0, .ref m_packed_85, .int 0, .int 0, .int 0, .int 0, .int 0, .long 0, .int 0, .int 0, .int 0, .long 0, .long 0, .ref m_theres_86, .int 0, .int 0, .int 0, .long 0, .int 0]))]) [0] rfl
      have hDc := hD.sub (ws' := [(q68, .inr (11, [.int 0, .ref m_tape_70, .int 0, .ref m_result_71, .int 0, .int ((-1)), .ref m_signs_72, .ref m_keptWords_73, .int 0, .int 0, .int 0, .long 0, .null, .int 0, .int 0, .int 0, .ref m_spelled_74, .ref m_pieced_75, .ref m_hexes_76, .ref m_words_77, .ref m_nextWords_78, .ref m_firstWords_79, .int 0, .ref m_pool_80, .int 0, .int 0, .null, .null, .ref m_chain_81, .ref m_waiting_82, .int 0, .int 0, .ref m_back_83, .ref m_spare_84, .int 0, .ref m_packed_85, .int 0, .int 0, .int 0, .int 0, .int 0, .long 0, .int 0, .int 0, .int 0, .long 0, .long 0, .ref m_theres_86, .int 0, .int 0, .int 0, .long 0, .int 0]))]) [0] (by decide) rfl
      have hKc := hK.sub (tys' := []) [] rfl
      have hFc := va_free (wc := [(q68, .inr (11, [.int 0, .ref m_tape_70, .int 0, .ref m_result_71, .int 0, .int ((-1)), .ref m_signs_72, .ref m_keptWords_73, .int 0, .int 0, .int 0, .long 0, .null, .int 0, .int 0, .int 0, .ref m_spelled_74, .ref m_pieced_75, .ref m_hexes_76, .ref m_words_77, .ref m_nextWords_78, .ref m_firstWords_79, .int 0, .ref m_pool_80, .int 0, .int 0, .null, .null, .ref m_chain_81, .ref m_waiting_82, .int 0, .int 0, .ref m_back_83, .ref m_spare_84, .int 0, .ref m_packed_85, .int 0, .int 0, .int 0, .int 0, .int 0, .long 0, .int 0, .int 0, .int 0, .long 0, .long 0, .ref m_theres_86, .int 0, .int 0, .int 0, .long 0, .int 0]))]) hD hS hA [0] rfl
      refine va_calli (tk_runVW (As := [.int z1, .int z2]) (rest := []) ⟨hx, hb, hml, hown, htw⟩ (c_Mo_encode_v2 l dC dI H.size q68 m_tape_70 m_result_71 m_signs_72 m_keptWords_73 m_spelled_74 m_pieced_75 m_hexes_76 m_words_77 m_nextWords_78 m_firstWords_79 m_pool_80 m_chain_81 m_waiting_82 m_back_83 m_spare_84 m_packed_85 m_theres_86 z1 z2 (by first | omega | assumption) (by first | omega | assumption)) ⟨tk_cbW 2 htw (tw_inL k_Mo_encode) rfl rfl rfl (htw _ wd_1_21) (htw _ wd_13_239) (by decide +kernel) ⟨Nat.le_of_ble_eq_true rfl, Nat.le_of_ble_eq_true rfl⟩, htw _ wd_14_0, htw _ wd_14_1⟩ List.mem_cons_self ⟨fun a U g mk q => by obtain ⟨q0, q1, qP, qK, qD⟩ := q; exact ⟨q0, q1, qP, va_K.moved (u := U) (U := U.calling g mk a) (Vm.Alike.refl U.vm) qK, qD⟩, va_recv hK hP (q := (R_Mo, F_Mo, 53)) (ci := 11) (q0 := 0) rfl rfl, fun U hU hW => ⟨rfl, by rw [hU], by rw [hU]; exact hPc, va_K.moved hW.alike hKc, hDc.weaken (fun _ _ _ _ => trivial)⟩⟩ rfl rfl hl.1 rfl (lv_room (Nat.le_of_ble_eq_true rfl)) d_Law_law_324 ⟨hc0, hs0⟩) hS (fun q _ h => hFc q h) hFc (fun r97 u t H1 locs ht hvm hw hB hz1 hk1 hS => ?_)
      obtain ⟨hP1, hK1, hD1⟩ := hB
      rw [ht] at hP1
      have hK1 := va_K.moved hvm.symm hK1
      obtain ⟨hP, hD⟩ := va_join (wr := [(q88, .inl (cA89, 1, .inr (.inl ((fun _ => 0)))))]) (w1 := [(q68, .inr (11, [.int 1, .ref m_tape_70, .int 0, .ref m_result_71, .int 0, .int ((-1)), .ref m_signs_72, .ref m_keptWords_73, .int 0, .int 0, .int 0, .long 0, .null, .int 0, .int 0, .int 0, .ref m_spelled_74, .ref m_pieced_75, .ref m_hexes_76, .ref m_words_77, .ref m_nextWords_78, .ref m_firstWords_79, .int 0, .ref m_pool_80, .int 0, .int 0, .null, .null, .ref m_chain_81, .ref m_waiting_82, .int 0, .int 0, .ref m_back_83, .ref m_spare_84, .int 0, .ref m_packed_85, .int 0, .int 0, .int 0, .int 0, .int 0, .long 0, .int 0, .int 0, .int 0, .long 0, .long 0, .ref m_theres_86, .int 0, .int 0, .int 0, .long 0, .int 0]))]) hP hD [0] [1] rfl rfl (by decide) (by decide) hk1 hFc hP1 hD1
      have hK := (hK.sub (tys' := [(cA89, .long)]) [0] rfl).app hK1
      generalize H1 = H at hP hS ⊢
      have hP : va_P (dC, dI) classes [(q88, .inl (cA89, 1, .inr (.inl ((fun _ => 0))))), (q68, .inr (11, [.int 1, .ref m_tape_70, .int 0, .ref m_result_71, .int 0, .int ((-1)), .ref m_signs_72, .ref m_keptWords_73, .int 0, .int 0, .int 0, .long 0, .null, .int 0, .int 0, .int 0, .ref m_spelled_74, .ref m_pieced_75, .ref m_hexes_76, .ref m_words_77, .ref m_nextWords_78, .ref m_firstWords_79, .int 0, .ref m_pool_80, .int 0, .int 0, .null, .null, .ref m_chain_81, .ref m_waiting_82, .int 0, .int 0, .ref m_back_83, .ref m_spare_84, .int 0, .ref m_packed_85, .int 0, .int 0, .int 0, .int 0, .int 0, .long 0, .int 0, .int 0, .int 0, .long 0, .long 0, .ref m_theres_86, .int 0, .int 0, .int 0, .long 0, .int 0]))] H := hP
      have hD : va_D A [(q88, .inl (cA89, 1, .inr (.inl ((fun _ => 0))))), (q68, .inr (11, [.int 1, .ref m_tape_70, .int 0, .ref m_result_71, .int 0, .int ((-1)), .ref m_signs_72, .ref m_keptWords_73, .int 0, .int 0, .int 0, .long 0, .null, .int 0, .int 0, .int 0, .ref m_spelled_74, .ref m_pieced_75, .ref m_hexes_76, .ref m_words_77, .ref m_nextWords_78, .ref m_firstWords_79, .int 0, .ref m_pool_80, .int 0, .int 0, .null, .null, .ref m_chain_81, .ref m_waiting_82, .int 0, .int 0, .ref m_back_83, .ref m_spare_84, .int 0, .ref m_packed_85, .int 0, .int 0, .int 0, .int 0, .int 0, .long 0, .int 0, .int 0, .int 0, .long 0, .long 0, .ref m_theres_86, .int 0, .int 0, .int 0, .long 0, .int 0]))] := hD
      have hK : va_K (dC, dI) classes [(cA89, .long)] s := hK
      subst hw
      refine lv_istore hx hb d_Law_law_327 hl (by decide) rfl (fun ls hl => ?_)
      have hl : lv_has ls 8 [(6, .int 0), (5, .int 1), (4, .int 0), (3, .ref q88), (2, .ref q68), (1, .ref q1), (0, .ref b)] := hl
      refine lv_aload_n hx hb d_Law_law_329 rfl (lv_at hl 4 rfl) ?_
      have hc0 : 157 + 0 ≤ 600002 := by omega
      have hs0 : 335616 + 0 ≤ 7302232 := by omega
      have hPc := hP.sub (ws' := [(q68, .inr (11, [.int 1, .ref m_tape_70, .int 0, .ref m_result_71, .int 0, .int ((-1)), .ref m_signs_72, .ref m_keptWords_73, .int 0, .int 0, .int 0, .long 0, .null, .int 0, .int 0, .int 0, .ref m_spelled_74, .ref m_pieced_75, .ref m_hexes_76, .ref m_words_77, .ref m_nextWords_78, .ref m_firstWords_79, .int 0, .ref m_pool_80, .int 0, .int 0, .null, .null, .ref m_chain_81, .ref m_waiting_82, .int 0, .int 0, .ref m_back_83, .ref m_spare_84, .int 0, .ref m_packed_85, .int 0, .int 0, .int 0, .int 0, .int 0, .long 0, .int 0, .int 0, .int 0, .long 0, .long 0, .ref m_theres_86, .int 0, .int 0, .int 0, .long 0, .int 0]))]) [1] rfl
      have hDc := hD.sub (ws' := [(q68, .inr (11, [.int 1, .ref m_tape_70, .int 0, .ref m_result_71, .int 0, .int ((-1)), .ref m_signs_72, .ref m_keptWords_73, .int 0, .int 0, .int 0, .long 0, .null, .int 0, .int 0, .int 0, .ref m_spelled_74, .ref m_pieced_75, .ref m_hexes_76, .ref m_words_77, .ref m_nextWords_78, .ref m_firstWords_79, .int 0, .ref m_pool_80, .int 0, .int 0, .null, .null, .ref m_chain_81, .ref m_waiting_82, .int 0, .int 0, .ref m_back_83, .ref m_spare_84, .int 0, .ref m_packed_85, .int 0, .int 0, .int 0, .int 0, .int 0, .long 0, .int 0, .int 0, .int 0, .long 0, .long 0, .ref m_theres_86, .int 0, .int 0, .int 0, .long 0, .int 0]))]) [1] (by decide) rfl
      have hKc := hK.sub (tys' := []) [] rfl
      have hFc := va_free (wc := [(q68, .inr (11, [.int 1, .ref m_tape_70, .int 0, .ref m_result_71, .int 0, .int ((-1)), .ref m_signs_72, .ref m_keptWords_73, .int 0, .int 0, .int 0, .long 0, .null, .int 0, .int 0, .int 0, .ref m_spelled_74, .ref m_pieced_75, .ref m_hexes_76, .ref m_words_77, .ref m_nextWords_78, .ref m_firstWords_79, .int 0, .ref m_pool_80, .int 0, .int 0, .null, .null, .ref m_chain_81, .ref m_waiting_82, .int 0, .int 0, .ref m_back_83, .ref m_spare_84, .int 0, .ref m_packed_85, .int 0, .int 0, .int 0, .int 0, .int 0, .long 0, .int 0, .int 0, .int 0, .long 0, .long 0, .ref m_theres_86, .int 0, .int 0, .int 0, .long 0, .int 0]))]) hD hS hA [1] rfl
      refine va_calli (va_runV (As := []) (rest := []) ⟨hx, hb, hml, hown, htw⟩ (c_Mo_thrown l dC dI H.size q68 m_tape_70 m_result_71 m_signs_72 m_keptWords_73 m_spelled_74 m_pieced_75 m_hexes_76 m_words_77 m_nextWords_78 m_firstWords_79 m_pool_80 m_chain_81 m_waiting_82 m_back_83 m_spare_84 m_packed_85 m_theres_86 1 0) (cwV 0 htw (tw_V wd_10_212 wd_10_213 wd_10_214 wd_1_21 k_Mo_thrown) rfl rfl rfl (by decide +kernel) ⟨Nat.le_of_ble_eq_true rfl, Nat.le_of_ble_eq_true rfl⟩) ⟨fun a U g mk q => by obtain ⟨q0, q1, qP, qK, qD⟩ := q; exact ⟨q0, q1, qP, va_K.moved (u := U) (U := U.calling g mk a) (Vm.Alike.refl U.vm) qK, qD⟩, va_recv hK hP (q := (R_Mo, F_Mo, 53)) (ci := 11) (q0 := 1) rfl rfl, fun U hU hW => ⟨rfl, by rw [hU], by rw [hU]; exact hPc, va_K.moved hW.alike hKc, hDc.weaken (fun _ _ _ _ => trivial)⟩⟩ rfl rfl hl.1 rfl (lv_room (Nat.le_of_ble_eq_true rfl)) d_Law_law_330 ⟨hc0, hs0⟩) hS (fun q _ h => hFc q h) hFc (fun r98 u t H1 locs ht hvm hw hB hz1 hk1 hS => ?_)
      obtain ⟨hP1, hK1, hD1⟩ := hB
      rw [ht] at hP1
      have hK1 := va_K.moved hvm.symm hK1
      obtain ⟨hP, hD⟩ := va_join (wr := [(q88, .inl (cA89, 1, .inr (.inl ((fun _ => 0)))))]) (w1 := [(q68, .inr (11, [.int 1, .ref m_tape_70, .int 0, .ref m_result_71, .int 0, .int ((-1)), .ref m_signs_72, .ref m_keptWords_73, .int 0, .int 0, .int 0, .long 0, .null, .int 0, .int 0, .int 0, .ref m_spelled_74, .ref m_pieced_75, .ref m_hexes_76, .ref m_words_77, .ref m_nextWords_78, .ref m_firstWords_79, .int 0, .ref m_pool_80, .int 0, .int 0, .null, .null, .ref m_chain_81, .ref m_waiting_82, .int 0, .int 0, .ref m_back_83, .ref m_spare_84, .int 0, .ref m_packed_85, .int 0, .int 0, .int 0, .int 0, .int 0, .long 0, .int 0, .int 0, .int 0, .long 0, .long 0, .ref m_theres_86, .int 0, .int 0, .int 0, .long 0, .int 0]))]) hP hD [1] [0] rfl rfl (by decide) (by decide) hk1 hFc hP1 hD1
      have hK := (hK.sub (tys' := [(cA89, .long)]) [0] rfl).app hK1
      generalize H1 = H at hP hS ⊢
      have hP : va_P (dC, dI) classes [(q88, .inl (cA89, 1, .inr (.inl ((fun _ => 0))))), (q68, .inr (11, [.int 1, .ref m_tape_70, .int 0, .ref m_result_71, .int 0, .int ((-1)), .ref m_signs_72, .ref m_keptWords_73, .int 0, .int 0, .int 0, .long 0, .null, .int 0, .int 0, .int 0, .ref m_spelled_74, .ref m_pieced_75, .ref m_hexes_76, .ref m_words_77, .ref m_nextWords_78, .ref m_firstWords_79, .int 0, .ref m_pool_80, .int 0, .int 0, .null, .null, .ref m_chain_81, .ref m_waiting_82, .int 0, .int 0, .ref m_back_83, .ref m_spare_84, .int 0, .ref m_packed_85, .int 0, .int 0, .int 0, .int 0, .int 0, .long 0, .int 0, .int 0, .int 0, .long 0, .long 0, .ref m_theres_86, .int 0, .int 0, .int 0, .long 0, .int 0]))] H := hP
      have hD : va_D A [(q88, .inl (cA89, 1, .inr (.inl ((fun _ => 0))))), (q68, .inr (11, [.int 1, .ref m_tape_70, .int 0, .ref m_result_71, .int 0, .int ((-1)), .ref m_signs_72, .ref m_keptWords_73, .int 0, .int 0, .int 0, .long 0, .null, .int 0, .int 0, .int 0, .ref m_spelled_74, .ref m_pieced_75, .ref m_hexes_76, .ref m_words_77, .ref m_nextWords_78, .ref m_firstWords_79, .int 0, .ref m_pool_80, .int 0, .int 0, .null, .null, .ref m_chain_81, .ref m_waiting_82, .int 0, .int 0, .ref m_back_83, .ref m_spare_84, .int 0, .ref m_packed_85, .int 0, .int 0, .int 0, .int 0, .int 0, .long 0, .int 0, .int 0, .int 0, .long 0, .long 0, .ref m_theres_86, .int 0, .int 0, .int 0, .long 0, .int 0]))] := hD
      have hK : va_K (dC, dI) classes [(cA89, .long)] s := hK
      subst hw
      refine lv_iload hx hb d_Law_law_333 (lv_at hl 1 rfl) ?_
      refine lv_icmp_eq (tgt := 340) hx hb d_Law_law_335 rfl (fun _ => ?_) (fun hn => absurd (rfl) hn)
      refine lv_iload hx hb d_Law_law_340 (lv_at hl 1 rfl) ?_
      refine lv_if_ne (tgt := 357) hx hb d_Law_law_342 rfl (fun _ => ?_) (fun hn => absurd hn (by decide))
      refine lv_goto (tgt := 594) hx hb d_Law_law_357 rfl ?_
      refine lv_iinc (k := 2) (v := 6) hx hb d_Law_law_594 hl rfl (by decide) (by decide) rfl (fun ls hl => ?_)
      have hl : lv_has ls 8 [(4, .int 6), (6, .int 0), (5, .int 1), (3, .ref q88), (2, .ref q68), (1, .ref q1), (0, .ref b)] := hl
      refine lv_goto (tgt := 23) hx hb d_Law_law_597 rfl ?_
      refine lv_iload hx hb d_Law_law_23 (lv_at hl 0 rfl) ?_
      refine lv_aload_n hx hb d_Law_law_25 rfl (lv_at hl 6 rfl) ?_
      refine va_slen hx hb hX hbl hbA hS d_Law_law_26 ?_
      refine lv_bipush (v := 6) hx hb d_Law_law_27 (by decide) ?_
      refine lv_isub hx hb d_Law_law_29 ?_
      refine lv_icmp_gt (tgt := 600) hx hb d_Law_law_30 rfl (fun _ => ?_) (fun hn => absurd (by decide) hn)
      refine lv_iconst (v := 1) hx hb d_Law_law_600 (by decide) ?_
      refine va_forget (fun q hq => by have h9 := hS.2.2 q hq; rw [hAe] at h9; exact h9) ?_
      refine W.widen (k := 600002) (n := 7302232) (by omega) (by omega) ?_
      exact lw_ret hx hb hr hlocks d_Law_law_601
set_option maxHeartbeats 40000000 in
set_option maxRecDepth 100000 in
theorem la_4 {p : Program} {e : Env} {s : State} {m : MethodId} {below : List Frame} {meth : Method} {c : Code} (l : Launch) (hNT : tk_NT l) {b : Nat} {xs : Nat → Int32} {A : Nat → Prop} {dC : Nat → ClassId} {dI : Nat → Nat → Nat} {dE wk wv : Nat} {q1 : Nat} {tp_3 : Nat} {tk_5 : Nat} {rs_7 : Nat} {ou_9 : Nat} {sc0_10 : Nat} {h0_11 : Nat} {sn0_12 : Nat} {pa0_13 : Nat} {vl_14 : Nat} {de_15 : Nat} {br_16 : Nat} {pw_17 : Nat} {pr_18 : Nat} {q68 : Nat} {m_tape_70 : Nat} {m_result_71 : Nat} {m_signs_72 : Nat} {m_keptWords_73 : Nat} {m_spelled_74 : Nat} {m_pieced_75 : Nat} {m_hexes_76 : Nat} {m_words_77 : Nat} {m_nextWords_78 : Nat} {m_firstWords_79 : Nat} {m_pool_80 : Nat} {m_chain_81 : Nat} {m_waiting_82 : Nat} {m_back_83 : Nat} {m_spare_84 : Nat} {m_packed_85 : Nat} {m_theres_86 : Nat} {q88 : Nat} {cA89 : ClassId} (hx : p.tables.exec = Jvm.exec) (hb : c.code = b_Law_law) (hr : meth.sig.returnType = ret) (hml : c.maxLocals = 8) (hown : s.vm.findClass R_law = some m.cls) (htw : ∀ w ∈ tw_tbl, w.before #[Value.ref b] s = true) (hX : va_X b 6 xs s s.heap) (hbl : b < s.heap.size) (hbA : ¬ A b) (hA : ∀ q : Nat, s.heap.size ≤ q → A q) (hAe : A = fun q : Nat => s.heap.size ≤ q) (hlocks : meth.locks = false) (hx0 : va_Z "java/util/ArrayList" "DEFAULTCAPACITY_EMPTY_ELEMENTDATA" "[Ljava/lang/Object;" (.ref dE) A s s.heap) (hx1 : va_Z "java/lang/String" "COMPACT_STRINGS" "Z" (.int 1) A s s.heap) (hx2 : va_Zq "jdk/internal/util/Preconditions" "SIOOBE_FORMATTER" "Ljava/util/function/BiFunction;" A s s.heap) (hx3 : va_O "java/lang/String" wk A s s.heap) (hx4 : va_OF "java/lang/String" "coder" "B" (.int 0) wk A s s.heap) (hx5 : va_OF "java/lang/String" "value" "[B" (.ref wv) wk A s s.heap) (hx6 : va_T .byte wv 280 (fun j => .int (tz_wb j)) A s s.heap) (hx7 : vk_R "SyntaxForge$Schema" 36 "DEFINITIONS EXPLICIT IMPLICIT AUTOMATIC TAGS BEGIN END UNIVERSAL APPLICATION PRIVATE INTEGER ENUMERATED BIT STRING OCTET OBJECT IDENTIFIER SEQUENCE SET OF CHOICE SIZE OPTIONAL DEFAULT BOOLEAN TRUE FALSE NULL MIN MAX UTF8String PrintableString IA5String NumericString VisibleString" wk s) (hx8 : va_AO "SyntaxForge$Value" s) (hx9 : va_Zq "java/lang/Throwable" "UNASSIGNED_STACK" "[Ljava/lang/StackTraceElement;" A s s.heap) (hx10 : va_Zq "java/lang/Throwable" "SUPPRESSED_SENTINEL" "Ljava/util/List;" A s s.heap) (hx11 : tz_LS "java/lang/Throwable" "UNASSIGNED_STACK" "[Ljava/lang/StackTraceElement;" A s s.heap) (hx12 : tz_LS "java/lang/Throwable" "SUPPRESSED_SENTINEL" "Ljava/util/List;" A s s.heap) (hx13 : va_AO "java/lang/String" s) (hx14 : va_AO "SyntaxForgeModel$Type" s) (hx15 : va_Nw (.methodLinkNest "SyntaxForgeModel" 318 ⟨"SyntaxForgeModel$Module", "<init>", "()V"⟩ "SyntaxForgeModel") s) (hx16 : va_AO "SyntaxForgeModel$Value" s) (hx17 : tz_St "SyntaxForgeModel" tz_sl A s s.heap) (hx18 : tm_AO .boolean s) (hx19 : va_Nw (.methodLinkNest "SyntaxForgeModel" 126 ⟨"SyntaxForgeModel$Chars", "<init>", "()V"⟩ "SyntaxForgeModel") s) (hx20 : tz_NC "java/lang/IllegalStateException" "java/lang/IllegalArgumentException" s)  {z0 z1 z2 z3 z4 z5 : Int32} (hv0 : z0 = xs 0) (hv1 : z1 = xs 1) (hv2 : z2 = xs 2) (hv3 : z3 = xs 3) (hv4 : z4 = xs 4) (hv5 : z5 = xs 5) {H : Heap} {locs : List Loc} {ls : Array Slot} (hl : lv_has ls 8 [(4, .int 0), (3, .ref q88), (2, .ref q68), (1, .ref q1), (0, .ref b)]) (hK : va_K (dC, dI) classes [(cA89, .long)] s) (hP : va_P (dC, dI) classes [(q1, .inr (10, [.ref tp_3, .ref tk_5, .ref rs_7, .ref ou_9, .int 0, .ref sc0_10, .ref h0_11, .ref sn0_12, .ref pa0_13, .ref vl_14, .ref de_15, .ref br_16, .ref pw_17, .ref pr_18])), (q68, .inr (11, [.int 0, .ref m_tape_70, .int 0, .ref m_result_71, .int 0, .int ((-1)), .ref m_signs_72, .ref m_keptWords_73, .int 0, .int 0, .int 0, .long 0, .null, .int 0, .int 0, .int 0, .ref m_spelled_74, .ref m_pieced_75, .ref m_hexes_76, .ref m_words_77, .ref m_nextWords_78, .ref m_firstWords_79, .int 0, .ref m_pool_80, .int 0, .int 0, .null, .null, .ref m_chain_81, .ref m_waiting_82, .int 0, .int 0, .ref m_back_83, .ref m_spare_84, .int 0, .ref m_packed_85, .int 0, .int 0, .int 0, .int 0, .int 0, .long 0, .int 0, .int 0, .int 0, .long 0, .long 0, .ref m_theres_86, .int 0, .int 0, .int 0, .long 0, .int 0])), (q88, .inl (cA89, 1, .inr (.inl ((fun _ => 0)))))] H) (hD : va_D A [(q1, .inr (10, [.ref tp_3, .ref tk_5, .ref rs_7, .ref ou_9, .int 0, .ref sc0_10, .ref h0_11, .ref sn0_12, .ref pa0_13, .ref vl_14, .ref de_15, .ref br_16, .ref pw_17, .ref pr_18])), (q68, .inr (11, [.int 0, .ref m_tape_70, .int 0, .ref m_result_71, .int 0, .int ((-1)), .ref m_signs_72, .ref m_keptWords_73, .int 0, .int 0, .int 0, .long 0, .null, .int 0, .int 0, .int 0, .ref m_spelled_74, .ref m_pieced_75, .ref m_hexes_76, .ref m_words_77, .ref m_nextWords_78, .ref m_firstWords_79, .int 0, .ref m_pool_80, .int 0, .int 0, .null, .null, .ref m_chain_81, .ref m_waiting_82, .int 0, .int 0, .ref m_back_83, .ref m_spare_84, .int 0, .ref m_packed_85, .int 0, .int 0, .int 0, .int 0, .int 0, .long 0, .int 0, .int 0, .int 0, .long 0, .long 0, .ref m_theres_86, .int 0, .int 0, .int 0, .long 0, .int 0])), (q88, .inl (cA89, 1, .inr (.inl ((fun _ => 0)))))]) (hS : va_S A s.heap H locs) : W p l e room_1 s m #[Value.ref b] below meth c H locs 156 335610 (lw_Z below #[Value.ref b] s) (F0 m 360 ls []) := by
  by_cases hu1 : z1 < 0
  · have ha : ¬ z1 < 0 → ¬ z2 < 0 → (2 : Int32) < z2 := fun h => absurd hu1 h
    refine lv_aload_n hx hb d_Law_law_360 rfl (lv_at hl 3 rfl) ?_
    refine lv_aload_n hx hb d_Law_law_361 rfl (lv_at hl 4 rfl) ?_
    refine lv_iload hx hb d_Law_law_362 (lv_at hl 0 rfl) ?_
    refine lv_iconst (v := 1) hx hb d_Law_law_364 (by decide) ?_
    refine lv_iadd hx hb d_Law_law_365 ?_
    refine lv_topi (fun z9 e9 => ?_)
    have e9 : z9 = 1 := e9.trans (by decide)
    subst e9
    refine va_sld hx hb hX hbl hbA hS (by unfold vp_in; decide) d_Law_law_366 ?_
    refine lv_topi (fun z9 e9 => ?_)
    have e9 : z1 = z9 := (e9.trans ((congrArg xs (by decide)).trans (hv1.symm))).symm
    subst e9
    refine lv_aload_n hx hb d_Law_law_367 rfl (lv_at hl 4 rfl) ?_
    refine lv_iload hx hb d_Law_law_368 (lv_at hl 0 rfl) ?_
    refine lv_iconst (v := 2) hx hb d_Law_law_370 (by decide) ?_
    refine lv_iadd hx hb d_Law_law_371 ?_
    refine lv_topi (fun z9 e9 => ?_)
    have e9 : z9 = 2 := e9.trans (by decide)
    subst e9
    refine va_sld hx hb hX hbl hbA hS (by unfold vp_in; decide) d_Law_law_372 ?_
    refine lv_topi (fun z9 e9 => ?_)
    have e9 : z2 = z9 := (e9.trans ((congrArg xs (by decide)).trans (hv2.symm))).symm
    subst e9
    refine lv_aload_n hx hb d_Law_law_373 rfl (lv_at hl 1 rfl) ?_
    have hc0 : 156 + 1 ≤ 600002 := by omega
    have hs0 : 335610 + 6 ≤ 7302232 := by omega
    have hPc := hP.sub (ws' := [(q1, .inr (10, [.ref tp_3, .ref tk_5, .ref rs_7, .ref ou_9, .int 0, .ref sc0_10, .ref h0_11, .ref sn0_12, .ref pa0_13, .ref vl_14, .ref de_15, .ref br_16, .ref pw_17, .ref pr_18]))]) [0] rfl
    have hDc := hD.sub (ws' := [(q1, .inr (10, [.ref tp_3, .ref tk_5, .ref rs_7, .ref ou_9, .int 0, .ref sc0_10, .ref h0_11, .ref sn0_12, .ref pa0_13, .ref vl_14, .ref de_15, .ref br_16, .ref pw_17, .ref pr_18]))]) [0] (by decide) rfl
    have hKc := hK.sub (tys' := []) [] rfl
    have hFc := va_free (wc := [(q1, .inr (10, [.ref tp_3, .ref tk_5, .ref rs_7, .ref ou_9, .int 0, .ref sc0_10, .ref h0_11, .ref sn0_12, .ref pa0_13, .ref vl_14, .ref de_15, .ref br_16, .ref pw_17, .ref pr_18]))]) hD hS hA [0] rfl
    refine va_calli (tk_runSW (As := [.ref q1, .int z1, .int z2, .ref q88]) (rest := []) ⟨hx, hb, hml, hown, htw⟩ (c_Law_decode l dC dI H.size q1 tp_3 tk_5 rs_7 ou_9 sc0_10 h0_11 sn0_12 pa0_13 vl_14 de_15 br_16 pw_17 pr_18 z1 z2 q88 (by first | omega | assumption) (by first | omega | assumption)) ⟨tk_cbW 4 htw (tw_inL k_Law_decode) rfl rfl rfl (htw _ wd_1_0) (htw _ wd_8_115) (by decide +kernel) ⟨Nat.le_of_ble_eq_true rfl, Nat.le_of_ble_eq_true rfl⟩, htw _ wd_8_116⟩ List.mem_cons_self ⟨fun a U g mk q => by obtain ⟨q0, q1, qP, qK, qD, hq0, hq1, hq2, hq3⟩ := q; exact ⟨q0, q1, qP, va_K.moved (u := U) (U := U.calling g mk a) (Vm.Alike.refl U.vm) qK, qD, va_Zq.moved (u := U) (U := U.calling g mk a) (Vm.Alike.refl U.vm) hq0, va_Zq.moved (u := U) (U := U.calling g mk a) (Vm.Alike.refl U.vm) hq1, tz_LS.moved (u := U) (U := U.calling g mk a) (Vm.Alike.refl U.vm) hq2, tz_LS.moved (u := U) (U := U.calling g mk a) (Vm.Alike.refl U.vm) hq3⟩, fun U hU hW => ⟨rfl, by rw [hU], by rw [hU]; exact hPc, va_K.moved hW.alike hKc, hDc.weaken (fun _ _ _ _ => trivial), by rw [hU]; exact va_Zq.moved hW.alike ((va_Zq.kept hx9 hS.2.1).narrow hFc), by rw [hU]; exact va_Zq.moved hW.alike ((va_Zq.kept hx10 hS.2.1).narrow hFc), by rw [hU]; exact tz_LS.moved hW.alike ((tz_LS.kept hx11 hS.2.1).narrow hFc), by rw [hU]; exact tz_LS.moved hW.alike ((tz_LS.kept hx12 hS.2.1).narrow hFc)⟩⟩ rfl rfl hl.1 rfl (lv_room (Nat.le_of_ble_eq_true rfl)) d_Law_law_374 ⟨hc0, hs0⟩) hS (fun q _ h => hFc q h) hFc (fun r90 u t H1 locs ht hvm hw hB hz1 hk1 hS => ?_)
    obtain ⟨hP1, hK1, hD1⟩ := hB
    rw [ht] at hP1
    have hK1 := va_K.moved hvm.symm hK1
    obtain ⟨hP, hD⟩ := va_join (wr := [(q68, .inr (11, [.int 0, .ref m_tape_70, .int 0, .ref m_result_71, .int 0, .int ((-1)), .ref m_signs_72, .ref m_keptWords_73, .int 0, .int 0, .int 0, .long 0, .null, .int 0, .int 0, .int 0, .ref m_spelled_74, .ref m_pieced_75, .ref m_hexes_76, .ref m_words_77, .ref m_nextWords_78, .ref m_firstWords_79, .int 0, .ref m_pool_80, .int 0, .int 0, .null, .null, .ref m_chain_81, .ref m_waiting_82, .int 0, .int 0, .ref m_back_83, .ref m_spare_84, .int 0, .ref m_packed_85, .int 0, .int 0, .int 0, .int 0, .int 0, .long 0, .int 0, .int 0, .int 0, .long 0, .long 0, .ref m_theres_86, .int 0, .int 0, .int 0, .long 0, .int 0])), (q88, .inl (cA89, 1, .inr (.inl ((fun _ => 0)))))]) (w1 := []) hP hD [0] [1, 2] rfl rfl (by decide) (by decide) hk1 hFc hP1 hD1
    have hK := (hK.sub (tys' := [(cA89, .long)]) [0] rfl).app hK1
    generalize H1 = H at hP hS ⊢
    have hP : va_P (dC, dI) classes [(q68, .inr (11, [.int 0, .ref m_tape_70, .int 0, .ref m_result_71, .int 0, .int ((-1)), .ref m_signs_72, .ref m_keptWords_73, .int 0, .int 0, .int 0, .long 0, .null, .int 0, .int 0, .int 0, .ref m_spelled_74, .ref m_pieced_75, .ref m_hexes_76, .ref m_words_77, .ref m_nextWords_78, .ref m_firstWords_79, .int 0, .ref m_pool_80, .int 0, .int 0, .null, .null, .ref m_chain_81, .ref m_waiting_82, .int 0, .int 0, .ref m_back_83, .ref m_spare_84, .int 0, .ref m_packed_85, .int 0, .int 0, .int 0, .int 0, .int 0, .long 0, .int 0, .int 0, .int 0, .long 0, .long 0, .ref m_theres_86, .int 0, .int 0, .int 0, .long 0, .int 0])), (q88, .inl (cA89, 1, .inr (.inl ((fun _ => 0)))))] H := hP
    have hD : va_D A [(q68, .inr (11, [.int 0, .ref m_tape_70, .int 0, .ref m_result_71, .int 0, .int ((-1)), .ref m_signs_72, .ref m_keptWords_73, .int 0, .int 0, .int 0, .long 0, .null, .int 0, .int 0, .int 0, .ref m_spelled_74, .ref m_pieced_75, .ref m_hexes_76, .ref m_words_77, .ref m_nextWords_78, .ref m_firstWords_79, .int 0, .ref m_pool_80, .int 0, .int 0, .null, .null, .ref m_chain_81, .ref m_waiting_82, .int 0, .int 0, .ref m_back_83, .ref m_spare_84, .int 0, .ref m_packed_85, .int 0, .int 0, .int 0, .int 0, .int 0, .long 0, .int 0, .int 0, .int 0, .long 0, .long 0, .ref m_theres_86, .int 0, .int 0, .int 0, .long 0, .int 0])), (q88, .inl (cA89, 1, .inr (.inl ((fun _ => 0)))))] := hD
    have hK : va_K (dC, dI) classes [(cA89, .long)] s := hK
    subst hw
    refine lv_istore hx hb d_Law_law_377 hl (by decide) rfl (fun ls hl => ?_)
    have hl : lv_has ls 8 [(5, .int 1), (4, .int 0), (3, .ref q88), (2, .ref q68), (1, .ref q1), (0, .ref b)] := hl
    refine lv_aload_n hx hb d_Law_law_379 rfl (lv_at hl 3 rfl) ?_
    refine lv_aload_n hx hb d_Law_law_380 rfl (lv_at hl 5 rfl) ?_
    refine lv_iload hx hb d_Law_law_381 (lv_at hl 1 rfl) ?_
    refine lv_iconst (v := 1) hx hb d_Law_law_383 (by decide) ?_
    refine lv_iadd hx hb d_Law_law_384 ?_
    refine lv_topi (fun z9 e9 => ?_)
    have e9 : z9 = 1 := e9.trans (by decide)
    subst e9
    refine va_sld hx hb hX hbl hbA hS (by unfold vp_in; decide) d_Law_law_385 ?_
    refine lv_topi (fun z9 e9 => ?_)
    have e9 : z1 = z9 := (e9.trans ((congrArg xs (by decide)).trans (hv1.symm))).symm
    subst e9
    refine lv_aload_n hx hb d_Law_law_386 rfl (lv_at hl 5 rfl) ?_
    refine lv_iload hx hb d_Law_law_387 (lv_at hl 1 rfl) ?_
    refine lv_iconst (v := 2) hx hb d_Law_law_389 (by decide) ?_
    refine lv_iadd hx hb d_Law_law_390 ?_
    refine lv_topi (fun z9 e9 => ?_)
    have e9 : z9 = 2 := e9.trans (by decide)
    subst e9
    refine va_sld hx hb hX hbl hbA hS (by unfold vp_in; decide) d_Law_law_391 ?_
    refine lv_topi (fun z9 e9 => ?_)
    have e9 : z2 = z9 := (e9.trans ((congrArg xs (by decide)).trans (hv2.symm))).symm
    subst e9
    have hc0 : 157 + 0 ≤ 600002 := by omega
    have hs0 : 335616 + 0 ≤ 7302232 := by omega
    have hPc := hP.sub (ws' := [(q68, .inr (11, [.int 0, .ref m_tape_70, .int 0, .ref m_result_71, .int 0, .int ((-1)), .ref m_signs_72, .ref m_keptWords_73, .int 0, .int 0, .int 0, .long 0, .null, .int 0, .int 0, .int 0, .ref m_spelled_74, .ref m_pieced_75, .ref m_hexes_76, .ref m_words_77, .ref m_nextWords_78, .ref m_firstWords_79, .int 0, .ref m_pool_80, .int 0, .int 0, .null, .null, .ref m_chain_81, .ref m_waiting_82, .int 0, .int 0, .ref m_back_83, .ref m_spare_84, .int 0, .ref m_packed_85, .int 0, .int 0, .int 0, .int 0, .int 0, .long 0, .int 0, .int 0, .int 0, .long 0, .long 0, .ref m_theres_86, .int 0, .int 0, .int 0, .long 0, .int 0]))]) [0] rfl
    have hDc := hD.sub (ws' := [(q68, .inr (11, [.int 0, .ref m_tape_70, .int 0, .ref m_result_71, .int 0, .int ((-1)), .ref m_signs_72, .ref m_keptWords_73, .int 0, .int 0, .int 0, .long 0, .null, .int 0, .int 0, .int 0, .ref m_spelled_74, .ref m_pieced_75, .ref m_hexes_76, .ref m_words_77, .ref m_nextWords_78, .ref m_firstWords_79, .int 0, .ref m_pool_80, .int 0, .int 0, .null, .null, .ref m_chain_81, .ref m_waiting_82, .int 0, .int 0, .ref m_back_83, .ref m_spare_84, .int 0, .ref m_packed_85, .int 0, .int 0, .int 0, .int 0, .int 0, .long 0, .int 0, .int 0, .int 0, .long 0, .long 0, .ref m_theres_86, .int 0, .int 0, .int 0, .long 0, .int 0]))]) [0] (by decide) rfl
    have hKc := hK.sub (tys' := []) [] rfl
    have hFc := va_free (wc := [(q68, .inr (11, [.int 0, .ref m_tape_70, .int 0, .ref m_result_71, .int 0, .int ((-1)), .ref m_signs_72, .ref m_keptWords_73, .int 0, .int 0, .int 0, .long 0, .null, .int 0, .int 0, .int 0, .ref m_spelled_74, .ref m_pieced_75, .ref m_hexes_76, .ref m_words_77, .ref m_nextWords_78, .ref m_firstWords_79, .int 0, .ref m_pool_80, .int 0, .int 0, .null, .null, .ref m_chain_81, .ref m_waiting_82, .int 0, .int 0, .ref m_back_83, .ref m_spare_84, .int 0, .ref m_packed_85, .int 0, .int 0, .int 0, .int 0, .int 0, .long 0, .int 0, .int 0, .int 0, .long 0, .long 0, .ref m_theres_86, .int 0, .int 0, .int 0, .long 0, .int 0]))]) hD hS hA [0] rfl
    refine va_calli (tk_runVW (As := [.int z1, .int z2]) (rest := []) ⟨hx, hb, hml, hown, htw⟩ (c_Mo_decode l dC dI H.size q68 m_tape_70 m_result_71 m_signs_72 m_keptWords_73 m_spelled_74 m_pieced_75 m_hexes_76 m_words_77 m_nextWords_78 m_firstWords_79 m_pool_80 m_chain_81 m_waiting_82 m_back_83 m_spare_84 m_packed_85 m_theres_86 z1 z2 (by first | omega | assumption)) ⟨tk_cbW 2 htw (tw_inL k_Mo_decode) rfl rfl rfl (htw _ wd_1_21) (htw _ wd_14_163) (by decide +kernel) ⟨Nat.le_of_ble_eq_true rfl, Nat.le_of_ble_eq_true rfl⟩, htw _ wd_14_164, htw _ wd_14_165⟩ List.mem_cons_self ⟨fun a U g mk q => by obtain ⟨q0, q1, qP, qK, qD⟩ := q; exact ⟨q0, q1, qP, va_K.moved (u := U) (U := U.calling g mk a) (Vm.Alike.refl U.vm) qK, qD⟩, va_recv hK hP (q := (R_Mo, F_Mo, 53)) (ci := 11) (q0 := 0) rfl rfl, fun U hU hW => ⟨rfl, by rw [hU], by rw [hU]; exact hPc, va_K.moved hW.alike hKc, hDc.weaken (fun _ _ _ _ => trivial)⟩⟩ rfl rfl hl.1 rfl (lv_room (Nat.le_of_ble_eq_true rfl)) d_Law_law_392 ⟨hc0, hs0⟩) hS (fun q _ h => hFc q h) hFc (fun r91 u t H1 locs ht hvm hw hB hz1 hk1 hS => ?_)
    obtain ⟨hP1, hK1, hD1⟩ := hB
    rw [ht] at hP1
    have hK1 := va_K.moved hvm.symm hK1
    obtain ⟨hP, hD⟩ := va_join (wr := [(q88, .inl (cA89, 1, .inr (.inl ((fun _ => 0)))))]) (w1 := [(q68, .inr (11, [.int 1, .ref m_tape_70, .int 0, .ref m_result_71, .int 0, .int ((-1)), .ref m_signs_72, .ref m_keptWords_73, .int 0, .int 0, .int 0, .long 0, .null, .int 0, .int 0, .int 0, .ref m_spelled_74, .ref m_pieced_75, .ref m_hexes_76, .ref m_words_77, .ref m_nextWords_78, .ref m_firstWords_79, .int 0, .ref m_pool_80, .int 0, .int 0, .null, .null, .ref m_chain_81, .ref m_waiting_82, .int 0, .int 0, .ref m_back_83, .ref m_spare_84, .int 0, .ref m_packed_85, .int 0, .int 0, .int 0, .int 0, .int 0, .long 0, .int 0, .int 0, .int 0, .long 0, .long 0, .ref m_theres_86, .int 0, .int 0, .int 0, .long 0, .int 0]))]) hP hD [0] [1] rfl rfl (by decide) (by decide) hk1 hFc hP1 hD1
    have hK := (hK.sub (tys' := [(cA89, .long)]) [0] rfl).app hK1
    generalize H1 = H at hP hS ⊢
    have hP : va_P (dC, dI) classes [(q88, .inl (cA89, 1, .inr (.inl ((fun _ => 0))))), (q68, .inr (11, [.int 1, .ref m_tape_70, .int 0, .ref m_result_71, .int 0, .int ((-1)), .ref m_signs_72, .ref m_keptWords_73, .int 0, .int 0, .int 0, .long 0, .null, .int 0, .int 0, .int 0, .ref m_spelled_74, .ref m_pieced_75, .ref m_hexes_76, .ref m_words_77, .ref m_nextWords_78, .ref m_firstWords_79, .int 0, .ref m_pool_80, .int 0, .int 0, .null, .null, .ref m_chain_81, .ref m_waiting_82, .int 0, .int 0, .ref m_back_83, .ref m_spare_84, .int 0, .ref m_packed_85, .int 0, .int 0, .int 0, .int 0, .int 0, .long 0, .int 0, .int 0, .int 0, .long 0, .long 0, .ref m_theres_86, .int 0, .int 0, .int 0, .long 0, .int 0]))] H := hP
    have hD : va_D A [(q88, .inl (cA89, 1, .inr (.inl ((fun _ => 0))))), (q68, .inr (11, [.int 1, .ref m_tape_70, .int 0, .ref m_result_71, .int 0, .int ((-1)), .ref m_signs_72, .ref m_keptWords_73, .int 0, .int 0, .int 0, .long 0, .null, .int 0, .int 0, .int 0, .ref m_spelled_74, .ref m_pieced_75, .ref m_hexes_76, .ref m_words_77, .ref m_nextWords_78, .ref m_firstWords_79, .int 0, .ref m_pool_80, .int 0, .int 0, .null, .null, .ref m_chain_81, .ref m_waiting_82, .int 0, .int 0, .ref m_back_83, .ref m_spare_84, .int 0, .ref m_packed_85, .int 0, .int 0, .int 0, .int 0, .int 0, .long 0, .int 0, .int 0, .int 0, .long 0, .long 0, .ref m_theres_86, .int 0, .int 0, .int 0, .long 0, .int 0]))] := hD
    have hK : va_K (dC, dI) classes [(cA89, .long)] s := hK
    subst hw
    refine lv_istore hx hb d_Law_law_395 hl (by decide) rfl (fun ls hl => ?_)
    have hl : lv_has ls 8 [(6, .int 0), (5, .int 1), (4, .int 0), (3, .ref q88), (2, .ref q68), (1, .ref q1), (0, .ref b)] := hl
    refine lv_aload_n hx hb d_Law_law_397 rfl (lv_at hl 4 rfl) ?_
    have hc0 : 157 + 0 ≤ 600002 := by omega
    have hs0 : 335616 + 0 ≤ 7302232 := by omega
    have hPc := hP.sub (ws' := [(q68, .inr (11, [.int 1, .ref m_tape_70, .int 0, .ref m_result_71, .int 0, .int ((-1)), .ref m_signs_72, .ref m_keptWords_73, .int 0, .int 0, .int 0, .long 0, .null, .int 0, .int 0, .int 0, .ref m_spelled_74, .ref m_pieced_75, .ref m_hexes_76, .ref m_words_77, .ref m_nextWords_78, .ref m_firstWords_79, .int 0, .ref m_pool_80, .int 0, .int 0, .null, .null, .ref m_chain_81, .ref m_waiting_82, .int 0, .int 0, .ref m_back_83, .ref m_spare_84, .int 0, .ref m_packed_85, .int 0, .int 0, .int 0, .int 0, .int 0, .long 0, .int 0, .int 0, .int 0, .long 0, .long 0, .ref m_theres_86, .int 0, .int 0, .int 0, .long 0, .int 0]))]) [1] rfl
    have hDc := hD.sub (ws' := [(q68, .inr (11, [.int 1, .ref m_tape_70, .int 0, .ref m_result_71, .int 0, .int ((-1)), .ref m_signs_72, .ref m_keptWords_73, .int 0, .int 0, .int 0, .long 0, .null, .int 0, .int 0, .int 0, .ref m_spelled_74, .ref m_pieced_75, .ref m_hexes_76, .ref m_words_77, .ref m_nextWords_78, .ref m_firstWords_79, .int 0, .ref m_pool_80, .int 0, .int 0, .null, .null, .ref m_chain_81, .ref m_waiting_82, .int 0, .int 0, .ref m_back_83, .ref m_spare_84, .int 0, .ref m_packed_85, .int 0, .int 0, .int 0, .int 0, .int 0, .long 0, .int 0, .int 0, .int 0, .long 0, .long 0, .ref m_theres_86, .int 0, .int 0, .int 0, .long 0, .int 0]))]) [1] (by decide) rfl
    have hKc := hK.sub (tys' := []) [] rfl
    have hFc := va_free (wc := [(q68, .inr (11, [.int 1, .ref m_tape_70, .int 0, .ref m_result_71, .int 0, .int ((-1)), .ref m_signs_72, .ref m_keptWords_73, .int 0, .int 0, .int 0, .long 0, .null, .int 0, .int 0, .int 0, .ref m_spelled_74, .ref m_pieced_75, .ref m_hexes_76, .ref m_words_77, .ref m_nextWords_78, .ref m_firstWords_79, .int 0, .ref m_pool_80, .int 0, .int 0, .null, .null, .ref m_chain_81, .ref m_waiting_82, .int 0, .int 0, .ref m_back_83, .ref m_spare_84, .int 0, .ref m_packed_85, .int 0, .int 0, .int 0, .int 0, .int 0, .long 0, .int 0, .int 0, .int 0, .long 0, .long 0, .ref m_theres_86, .int 0, .int 0, .int 0, .long 0, .int 0]))]) hD hS hA [1] rfl
    refine va_calli (va_runV (As := []) (rest := []) ⟨hx, hb, hml, hown, htw⟩ (c_Mo_thrown l dC dI H.size q68 m_tape_70 m_result_71 m_signs_72 m_keptWords_73 m_spelled_74 m_pieced_75 m_hexes_76 m_words_77 m_nextWords_78 m_firstWords_79 m_pool_80 m_chain_81 m_waiting_82 m_back_83 m_spare_84 m_packed_85 m_theres_86 1 0) (cwV 0 htw (tw_V wd_10_212 wd_10_213 wd_10_214 wd_1_21 k_Mo_thrown) rfl rfl rfl (by decide +kernel) ⟨Nat.le_of_ble_eq_true rfl, Nat.le_of_ble_eq_true rfl⟩) ⟨fun a U g mk q => by obtain ⟨q0, q1, qP, qK, qD⟩ := q; exact ⟨q0, q1, qP, va_K.moved (u := U) (U := U.calling g mk a) (Vm.Alike.refl U.vm) qK, qD⟩, va_recv hK hP (q := (R_Mo, F_Mo, 53)) (ci := 11) (q0 := 1) rfl rfl, fun U hU hW => ⟨rfl, by rw [hU], by rw [hU]; exact hPc, va_K.moved hW.alike hKc, hDc.weaken (fun _ _ _ _ => trivial)⟩⟩ rfl rfl hl.1 rfl (lv_room (Nat.le_of_ble_eq_true rfl)) d_Law_law_398 ⟨hc0, hs0⟩) hS (fun q _ h => hFc q h) hFc (fun r92 u t H1 locs ht hvm hw hB hz1 hk1 hS => ?_)
    obtain ⟨hP1, hK1, hD1⟩ := hB
    rw [ht] at hP1
    have hK1 := va_K.moved hvm.symm hK1
    obtain ⟨hP, hD⟩ := va_join (wr := [(q88, .inl (cA89, 1, .inr (.inl ((fun _ => 0)))))]) (w1 := [(q68, .inr (11, [.int 1, .ref m_tape_70, .int 0, .ref m_result_71, .int 0, .int ((-1)), .ref m_signs_72, .ref m_keptWords_73, .int 0, .int 0, .int 0, .long 0, .null, .int 0, .int 0, .int 0, .ref m_spelled_74, .ref m_pieced_75, .ref m_hexes_76, .ref m_words_77, .ref m_nextWords_78, .ref m_firstWords_79, .int 0, .ref m_pool_80, .int 0, .int 0, .null, .null, .ref m_chain_81, .ref m_waiting_82, .int 0, .int 0, .ref m_back_83, .ref m_spare_84, .int 0, .ref m_packed_85, .int 0, .int 0, .int 0, .int 0, .int 0, .long 0, .int 0, .int 0, .int 0, .long 0, .long 0, .ref m_theres_86, .int 0, .int 0, .int 0, .long 0, .int 0]))]) hP hD [1] [0] rfl rfl (by decide) (by decide) hk1 hFc hP1 hD1
    have hK := (hK.sub (tys' := [(cA89, .long)]) [0] rfl).app hK1
    generalize H1 = H at hP hS ⊢
    have hP : va_P (dC, dI) classes [(q88, .inl (cA89, 1, .inr (.inl ((fun _ => 0))))), (q68, .inr (11, [.int 1, .ref m_tape_70, .int 0, .ref m_result_71, .int 0, .int ((-1)), .ref m_signs_72, .ref m_keptWords_73, .int 0, .int 0, .int 0, .long 0, .null, .int 0, .int 0, .int 0, .ref m_spelled_74, .ref m_pieced_75, .ref m_hexes_76, .ref m_words_77, .ref m_nextWords_78, .ref m_firstWords_79, .int 0, .ref m_pool_80, .int 0, .int 0, .null, .null, .ref m_chain_81, .ref m_waiting_82, .int 0, .int 0, .ref m_back_83, .ref m_spare_84, .int 0, .ref m_packed_85, .int 0, .int 0, .int 0, .int 0, .int 0, .long 0, .int 0, .int 0, .int 0, .long 0, .long 0, .ref m_theres_86, .int 0, .int 0, .int 0, .long 0, .int 0]))] H := hP
    have hD : va_D A [(q88, .inl (cA89, 1, .inr (.inl ((fun _ => 0))))), (q68, .inr (11, [.int 1, .ref m_tape_70, .int 0, .ref m_result_71, .int 0, .int ((-1)), .ref m_signs_72, .ref m_keptWords_73, .int 0, .int 0, .int 0, .long 0, .null, .int 0, .int 0, .int 0, .ref m_spelled_74, .ref m_pieced_75, .ref m_hexes_76, .ref m_words_77, .ref m_nextWords_78, .ref m_firstWords_79, .int 0, .ref m_pool_80, .int 0, .int 0, .null, .null, .ref m_chain_81, .ref m_waiting_82, .int 0, .int 0, .ref m_back_83, .ref m_spare_84, .int 0, .ref m_packed_85, .int 0, .int 0, .int 0, .int 0, .int 0, .long 0, .int 0, .int 0, .int 0, .long 0, .long 0, .ref m_theres_86, .int 0, .int 0, .int 0, .long 0, .int 0]))] := hD
    have hK : va_K (dC, dI) classes [(cA89, .long)] s := hK
    subst hw
    refine lv_iload hx hb d_Law_law_401 (lv_at hl 1 rfl) ?_
    refine lv_icmp_eq (tgt := 408) hx hb d_Law_law_403 rfl (fun _ => ?_) (fun hn => absurd (rfl) hn)
    refine lv_iload hx hb d_Law_law_408 (lv_at hl 1 rfl) ?_
    refine lv_if_ne (tgt := 425) hx hb d_Law_law_410 rfl (fun _ => ?_) (fun hn => absurd hn (by decide))
    refine lv_goto (tgt := 594) hx hb d_Law_law_425 rfl ?_
    refine lv_iinc (k := 2) (v := 6) hx hb d_Law_law_594 hl rfl (by decide) (by decide) rfl (fun ls hl => ?_)
    have hl : lv_has ls 8 [(4, .int 6), (6, .int 0), (5, .int 1), (3, .ref q88), (2, .ref q68), (1, .ref q1), (0, .ref b)] := hl
    refine lv_goto (tgt := 23) hx hb d_Law_law_597 rfl ?_
    refine lv_iload hx hb d_Law_law_23 (lv_at hl 0 rfl) ?_
    refine lv_aload_n hx hb d_Law_law_25 rfl (lv_at hl 6 rfl) ?_
    refine va_slen hx hb hX hbl hbA hS d_Law_law_26 ?_
    refine lv_bipush (v := 6) hx hb d_Law_law_27 (by decide) ?_
    refine lv_isub hx hb d_Law_law_29 ?_
    refine lv_icmp_gt (tgt := 600) hx hb d_Law_law_30 rfl (fun _ => ?_) (fun hn => absurd (by decide) hn)
    refine lv_iconst (v := 1) hx hb d_Law_law_600 (by decide) ?_
    refine va_forget (fun q hq => by have h9 := hS.2.2 q hq; rw [hAe] at h9; exact h9) ?_
    refine W.widen (k := 600002) (n := 7302232) (by omega) (by omega) ?_
    exact lw_ret hx hb hr hlocks d_Law_law_601
  · by_cases hu2 : ¬ z2 < 0 ∧ z2 ≤ 2
    · have ha : ¬ z1 < 0 ∧ ¬ z2 < 0 ∧ ¬ (2 : Int32) < z2 := ⟨hu1, hu2.1, Int32.not_lt.mpr hu2.2⟩
      refine lv_aload_n hx hb d_Law_law_360 rfl (lv_at hl 3 rfl) ?_
      refine lv_aload_n hx hb d_Law_law_361 rfl (lv_at hl 4 rfl) ?_
      refine lv_iload hx hb d_Law_law_362 (lv_at hl 0 rfl) ?_
      refine lv_iconst (v := 1) hx hb d_Law_law_364 (by decide) ?_
      refine lv_iadd hx hb d_Law_law_365 ?_
      refine lv_topi (fun z9 e9 => ?_)
      have e9 : z9 = 1 := e9.trans (by decide)
      subst e9
      refine va_sld hx hb hX hbl hbA hS (by unfold vp_in; decide) d_Law_law_366 ?_
      refine lv_topi (fun z9 e9 => ?_)
      have e9 : z1 = z9 := (e9.trans ((congrArg xs (by decide)).trans (hv1.symm))).symm
      subst e9
      refine lv_aload_n hx hb d_Law_law_367 rfl (lv_at hl 4 rfl) ?_
      refine lv_iload hx hb d_Law_law_368 (lv_at hl 0 rfl) ?_
      refine lv_iconst (v := 2) hx hb d_Law_law_370 (by decide) ?_
      refine lv_iadd hx hb d_Law_law_371 ?_
      refine lv_topi (fun z9 e9 => ?_)
      have e9 : z9 = 2 := e9.trans (by decide)
      subst e9
      refine va_sld hx hb hX hbl hbA hS (by unfold vp_in; decide) d_Law_law_372 ?_
      refine lv_topi (fun z9 e9 => ?_)
      have e9 : z2 = z9 := (e9.trans ((congrArg xs (by decide)).trans (hv2.symm))).symm
      subst e9
      refine lv_aload_n hx hb d_Law_law_373 rfl (lv_at hl 1 rfl) ?_
      have hc0 : 156 + 1 ≤ 600002 := by omega
      have hs0 : 335610 + 6 ≤ 7302232 := by omega
      have hPc := hP.sub (ws' := [(q1, .inr (10, [.ref tp_3, .ref tk_5, .ref rs_7, .ref ou_9, .int 0, .ref sc0_10, .ref h0_11, .ref sn0_12, .ref pa0_13, .ref vl_14, .ref de_15, .ref br_16, .ref pw_17, .ref pr_18]))]) [0] rfl
      have hDc := hD.sub (ws' := [(q1, .inr (10, [.ref tp_3, .ref tk_5, .ref rs_7, .ref ou_9, .int 0, .ref sc0_10, .ref h0_11, .ref sn0_12, .ref pa0_13, .ref vl_14, .ref de_15, .ref br_16, .ref pw_17, .ref pr_18]))]) [0] (by decide) rfl
      have hKc := hK.sub (tys' := []) [] rfl
      have hFc := va_free (wc := [(q1, .inr (10, [.ref tp_3, .ref tk_5, .ref rs_7, .ref ou_9, .int 0, .ref sc0_10, .ref h0_11, .ref sn0_12, .ref pa0_13, .ref vl_14, .ref de_15, .ref br_16, .ref pw_17, .ref pr_18]))]) hD hS hA [0] rfl
      refine va_calli (tk_runSW (As := [.ref q1, .int z1, .int z2, .ref q88]) (rest := []) ⟨hx, hb, hml, hown, htw⟩ (c_Law_decode_v2 l dC dI H.size q1 tp_3 tk_5 rs_7 ou_9 sc0_10 h0_11 sn0_12 pa0_13 vl_14 de_15 br_16 pw_17 pr_18 z1 z2 q88 (by first | omega | assumption) (by first | omega | assumption)) ⟨tk_cbW 4 htw (tw_inL k_Law_decode) rfl rfl rfl (htw _ wd_1_0) (htw _ wd_8_115) (by decide +kernel) ⟨Nat.le_of_ble_eq_true rfl, Nat.le_of_ble_eq_true rfl⟩, htw _ wd_8_116⟩ List.mem_cons_self ⟨fun a U g mk q => by obtain ⟨q0, q1, qP, qK, qD, hq0, hq1, hq2, hq3, hq4⟩ := q; exact ⟨q0, q1, qP, va_K.moved (u := U) (U := U.calling g mk a) (Vm.Alike.refl U.vm) qK, qD, va_Zq.moved (u := U) (U := U.calling g mk a) (Vm.Alike.refl U.vm) hq0, va_Zq.moved (u := U) (U := U.calling g mk a) (Vm.Alike.refl U.vm) hq1, tz_LS.moved (u := U) (U := U.calling g mk a) (Vm.Alike.refl U.vm) hq2, tz_LS.moved (u := U) (U := U.calling g mk a) (Vm.Alike.refl U.vm) hq3, tz_NC.moved (u := U) (U := U.calling g mk a) (Vm.Alike.refl U.vm) hq4⟩, fun U hU hW => ⟨rfl, by rw [hU], by rw [hU]; exact hPc, va_K.moved hW.alike hKc, hDc.weaken (fun _ _ _ _ => trivial), by rw [hU]; exact va_Zq.moved hW.alike ((va_Zq.kept hx9 hS.2.1).narrow hFc), by rw [hU]; exact va_Zq.moved hW.alike ((va_Zq.kept hx10 hS.2.1).narrow hFc), by rw [hU]; exact tz_LS.moved hW.alike ((tz_LS.kept hx11 hS.2.1).narrow hFc), by rw [hU]; exact tz_LS.moved hW.alike ((tz_LS.kept hx12 hS.2.1).narrow hFc), tz_NC.moved hW.alike hx20⟩⟩ rfl rfl hl.1 rfl (lv_room (Nat.le_of_ble_eq_true rfl)) d_Law_law_374 ⟨hc0, hs0⟩) hS (fun q _ h => hFc q h) hFc (fun r93 u t H1 locs ht hvm hw hB hz1 hk1 hS => ?_)
      obtain ⟨hP1, hK1, hD1⟩ := hB
      rw [ht] at hP1
      have hK1 := va_K.moved hvm.symm hK1
      obtain ⟨hP, hD⟩ := va_join (wr := [(q68, .inr (11, [.int 0, .ref m_tape_70, .int 0, .ref m_result_71, .int 0, .int ((-1)), .ref m_signs_72, .ref m_keptWords_73, .int 0, .int 0, .int 0, .long 0, .null, .int 0, .int 0, .int 0, .ref m_spelled_74, .ref m_pieced_75, .ref m_hexes_76, .ref m_words_77, .ref m_nextWords_78, .ref m_firstWords_79, .int 0, .ref m_pool_80, .int 0, .int 0, .null, .null, .ref m_chain_81, .ref m_waiting_82, .int 0, .int 0, .ref m_back_83, .ref m_spare_84, .int 0, .ref m_packed_85, .int 0, .int 0, .int 0, .int 0, .int 0, .long 0, .int 0, .int 0, .int 0, .long 0, .long 0, .ref m_theres_86, .int 0, .int 0, .int 0, .long 0, .int 0])), (q88, .inl (cA89, 1, .inr (.inl ((fun _ => 0)))))]) (w1 := []) hP hD [0] [1, 2] rfl rfl (by decide) (by decide) hk1 hFc hP1 hD1
      have hK := (hK.sub (tys' := [(cA89, .long)]) [0] rfl).app hK1
      generalize H1 = H at hP hS ⊢
      have hP : va_P (dC, dI) classes [(q68, .inr (11, [.int 0, .ref m_tape_70, .int 0, .ref m_result_71, .int 0, .int ((-1)), .ref m_signs_72, .ref m_keptWords_73, .int 0, .int 0, .int 0, .long 0, .null, .int 0, .int 0, .int 0, .ref m_spelled_74, .ref m_pieced_75, .ref m_hexes_76, .ref m_words_77, .ref m_nextWords_78, .ref m_firstWords_79, .int 0, .ref m_pool_80, .int 0, .int 0, .null, .null, .ref m_chain_81, .ref m_waiting_82, .int 0, .int 0, .ref m_back_83, .ref m_spare_84, .int 0, .ref m_packed_85, .int 0, .int 0, .int 0, .int 0, .int 0, .long 0, .int 0, .int 0, .int 0, .long 0, .long 0, .ref m_theres_86, .int 0, .int 0, .int 0, .long 0, .int 0])), (q88, .inl (cA89, 1, .inr (.inl ((fun _ => 0)))))] H := hP
      have hD : va_D A [(q68, .inr (11, [.int 0, .ref m_tape_70, .int 0, .ref m_result_71, .int 0, .int ((-1)), .ref m_signs_72, .ref m_keptWords_73, .int 0, .int 0, .int 0, .long 0, .null, .int 0, .int 0, .int 0, .ref m_spelled_74, .ref m_pieced_75, .ref m_hexes_76, .ref m_words_77, .ref m_nextWords_78, .ref m_firstWords_79, .int 0, .ref m_pool_80, .int 0, .int 0, .null, .null, .ref m_chain_81, .ref m_waiting_82, .int 0, .int 0, .ref m_back_83, .ref m_spare_84, .int 0, .ref m_packed_85, .int 0, .int 0, .int 0, .int 0, .int 0, .long 0, .int 0, .int 0, .int 0, .long 0, .long 0, .ref m_theres_86, .int 0, .int 0, .int 0, .long 0, .int 0])), (q88, .inl (cA89, 1, .inr (.inl ((fun _ => 0)))))] := hD
      have hK : va_K (dC, dI) classes [(cA89, .long)] s := hK
      subst hw
      refine lv_istore hx hb d_Law_law_377 hl (by decide) rfl (fun ls hl => ?_)
      have hl : lv_has ls 8 [(5, .int 2), (4, .int 0), (3, .ref q88), (2, .ref q68), (1, .ref q1), (0, .ref b)] := hl
      refine lv_aload_n hx hb d_Law_law_379 rfl (lv_at hl 3 rfl) ?_
      refine lv_aload_n hx hb d_Law_law_380 rfl (lv_at hl 5 rfl) ?_
      refine lv_iload hx hb d_Law_law_381 (lv_at hl 1 rfl) ?_
      refine lv_iconst (v := 1) hx hb d_Law_law_383 (by decide) ?_
      refine lv_iadd hx hb d_Law_law_384 ?_
      refine lv_topi (fun z9 e9 => ?_)
      have e9 : z9 = 1 := e9.trans (by decide)
      subst e9
      refine va_sld hx hb hX hbl hbA hS (by unfold vp_in; decide) d_Law_law_385 ?_
      refine lv_topi (fun z9 e9 => ?_)
      have e9 : z1 = z9 := (e9.trans ((congrArg xs (by decide)).trans (hv1.symm))).symm
      subst e9
      refine lv_aload_n hx hb d_Law_law_386 rfl (lv_at hl 5 rfl) ?_
      refine lv_iload hx hb d_Law_law_387 (lv_at hl 1 rfl) ?_
      refine lv_iconst (v := 2) hx hb d_Law_law_389 (by decide) ?_
      refine lv_iadd hx hb d_Law_law_390 ?_
      refine lv_topi (fun z9 e9 => ?_)
      have e9 : z9 = 2 := e9.trans (by decide)
      subst e9
      refine va_sld hx hb hX hbl hbA hS (by unfold vp_in; decide) d_Law_law_391 ?_
      refine lv_topi (fun z9 e9 => ?_)
      have e9 : z2 = z9 := (e9.trans ((congrArg xs (by decide)).trans (hv2.symm))).symm
      subst e9
      have hc0 : 157 + 0 ≤ 600002 := by omega
      have hs0 : 335616 + 0 ≤ 7302232 := by omega
      have hPc := hP.sub (ws' := [(q68, .inr (11, [.int 0, .ref m_tape_70, .int 0, .ref m_result_71, .int 0, .int ((-1)), .ref m_signs_72, .ref m_keptWords_73, .int 0, .int 0, .int 0, .long 0, .null, .int 0, .int 0, .int 0, .ref m_spelled_74, .ref m_pieced_75, .ref m_hexes_76, .ref m_words_77, .ref m_nextWords_78, .ref m_firstWords_79, .int 0, .ref m_pool_80, .int 0, .int 0, .null, .null, .ref m_chain_81, .ref m_waiting_82, .int 0, .int 0, .ref m_back_83, .ref m_spare_84, .int 0, .ref m_packed_85, .int 0, .int 0, .int 0, .int 0, .int 0, .long 0, .int 0, .int 0, .int 0, .long 0, .long 0, .ref m_theres_86, .int 0, .int 0, .int 0, .long 0, .int 0]))]) [0] rfl
      have hDc := hD.sub (ws' := [(q68, .inr (11, [.int 0, .ref m_tape_70, .int 0, .ref m_result_71, .int 0, .int ((-1)), .ref m_signs_72, .ref m_keptWords_73, .int 0, .int 0, .int 0, .long 0, .null, .int 0, .int 0, .int 0, .ref m_spelled_74, .ref m_pieced_75, .ref m_hexes_76, .ref m_words_77, .ref m_nextWords_78, .ref m_firstWords_79, .int 0, .ref m_pool_80, .int 0, .int 0, .null, .null, .ref m_chain_81, .ref m_waiting_82, .int 0, .int 0, .ref m_back_83, .ref m_spare_84, .int 0, .ref m_packed_85, .int 0, .int 0, .int 0, .int 0, .int 0, .long 0, .int 0, .int 0, .int 0, .long 0, .long 0, .ref m_theres_86, .int 0, .int 0, .int 0, .long 0, .int 0]))]) [0] (by decide) rfl
      have hKc := hK.sub (tys' := []) [] rfl
      have hFc := va_free (wc := [(q68, .inr (11, [.int 0, .ref m_tape_70, .int 0, .ref m_result_71, .int 0, .int ((-1)), .ref m_signs_72, .ref m_keptWords_73, .int 0, .int 0, .int 0, .long 0, .null, .int 0, .int 0, .int 0, .ref m_spelled_74, .ref m_pieced_75, .ref m_hexes_76, .ref m_words_77, .ref m_nextWords_78, .ref m_firstWords_79, .int 0, .ref m_pool_80, .int 0, .int 0, .null, .null, .ref m_chain_81, .ref m_waiting_82, .int 0, .int 0, .ref m_back_83, .ref m_spare_84, .int 0, .ref m_packed_85, .int 0, .int 0, .int 0, .int 0, .int 0, .long 0, .int 0, .int 0, .int 0, .long 0, .long 0, .ref m_theres_86, .int 0, .int 0, .int 0, .long 0, .int 0]))]) hD hS hA [0] rfl
      refine va_calli (tk_runVW (As := [.int z1, .int z2]) (rest := []) ⟨hx, hb, hml, hown, htw⟩ (c_Mo_decode_v3 l dC dI H.size q68 m_tape_70 m_result_71 m_signs_72 m_keptWords_73 m_spelled_74 m_pieced_75 m_hexes_76 m_words_77 m_nextWords_78 m_firstWords_79 m_pool_80 m_chain_81 m_waiting_82 m_back_83 m_spare_84 m_packed_85 m_theres_86 z1 z2 (by first | omega | assumption) (by first | omega | assumption)) ⟨tk_cbW 2 htw (tw_inL k_Mo_decode) rfl rfl rfl (htw _ wd_1_21) (htw _ wd_14_163) (by decide +kernel) ⟨Nat.le_of_ble_eq_true rfl, Nat.le_of_ble_eq_true rfl⟩, htw _ wd_14_164, htw _ wd_14_165⟩ List.mem_cons_self ⟨fun a U g mk q => by obtain ⟨q0, q1, qP, qK, qD⟩ := q; exact ⟨q0, q1, qP, va_K.moved (u := U) (U := U.calling g mk a) (Vm.Alike.refl U.vm) qK, qD⟩, va_recv hK hP (q := (R_Mo, F_Mo, 53)) (ci := 11) (q0 := 0) rfl rfl, fun U hU hW => ⟨rfl, by rw [hU], by rw [hU]; exact hPc, va_K.moved hW.alike hKc, hDc.weaken (fun _ _ _ _ => trivial)⟩⟩ rfl rfl hl.1 rfl (lv_room (Nat.le_of_ble_eq_true rfl)) d_Law_law_392 ⟨hc0, hs0⟩) hS (fun q _ h => hFc q h) hFc (fun r94 u t H1 locs ht hvm hw hB hz1 hk1 hS => ?_)
      obtain ⟨hP1, hK1, hD1⟩ := hB
      rw [ht] at hP1
      have hK1 := va_K.moved hvm.symm hK1
      obtain ⟨hP, hD⟩ := va_join (wr := [(q88, .inl (cA89, 1, .inr (.inl ((fun _ => 0)))))]) (w1 := [(q68, .inr (11, [.int 2, .ref m_tape_70, .int 0, .ref m_result_71, .int 0, .int ((-1)), .ref m_signs_72, .ref m_keptWords_73, .int 0, .int 0, .int 0, .long 0, .null, .int 0, .int 0, .int 0, .ref m_spelled_74, .ref m_pieced_75, .ref m_hexes_76, .ref m_words_77, .ref m_nextWords_78, .ref m_firstWords_79, .int 0, .ref m_pool_80, .int 0, .int 0, .null, .null, .ref m_chain_81, .ref m_waiting_82, .int 0, .int 0, .ref m_back_83, .ref m_spare_84, .int 0, .ref m_packed_85, .int 0, .int 0, .int 0, .int 0, .int 0, .long 0, .int 0, .int 0, .int 0, .long 0, .long 0, .ref m_theres_86, .int 0, .int 0, .int 0, .long 0, .int 0]))]) hP hD [0] [1] rfl rfl (by decide) (by decide) hk1 hFc hP1 hD1
      have hK := (hK.sub (tys' := [(cA89, .long)]) [0] rfl).app hK1
      generalize H1 = H at hP hS ⊢
      have hP : va_P (dC, dI) classes [(q88, .inl (cA89, 1, .inr (.inl ((fun _ => 0))))), (q68, .inr (11, [.int 2, .ref m_tape_70, .int 0, .ref m_result_71, .int 0, .int ((-1)), .ref m_signs_72, .ref m_keptWords_73, .int 0, .int 0, .int 0, .long 0, .null, .int 0, .int 0, .int 0, .ref m_spelled_74, .ref m_pieced_75, .ref m_hexes_76, .ref m_words_77, .ref m_nextWords_78, .ref m_firstWords_79, .int 0, .ref m_pool_80, .int 0, .int 0, .null, .null, .ref m_chain_81, .ref m_waiting_82, .int 0, .int 0, .ref m_back_83, .ref m_spare_84, .int 0, .ref m_packed_85, .int 0, .int 0, .int 0, .int 0, .int 0, .long 0, .int 0, .int 0, .int 0, .long 0, .long 0, .ref m_theres_86, .int 0, .int 0, .int 0, .long 0, .int 0]))] H := hP
      have hD : va_D A [(q88, .inl (cA89, 1, .inr (.inl ((fun _ => 0))))), (q68, .inr (11, [.int 2, .ref m_tape_70, .int 0, .ref m_result_71, .int 0, .int ((-1)), .ref m_signs_72, .ref m_keptWords_73, .int 0, .int 0, .int 0, .long 0, .null, .int 0, .int 0, .int 0, .ref m_spelled_74, .ref m_pieced_75, .ref m_hexes_76, .ref m_words_77, .ref m_nextWords_78, .ref m_firstWords_79, .int 0, .ref m_pool_80, .int 0, .int 0, .null, .null, .ref m_chain_81, .ref m_waiting_82, .int 0, .int 0, .ref m_back_83, .ref m_spare_84, .int 0, .ref m_packed_85, .int 0, .int 0, .int 0, .int 0, .int 0, .long 0, .int 0, .int 0, .int 0, .long 0, .long 0, .ref m_theres_86, .int 0, .int 0, .int 0, .long 0, .int 0]))] := hD
      have hK : va_K (dC, dI) classes [(cA89, .long)] s := hK
      subst hw
      refine lv_istore hx hb d_Law_law_395 hl (by decide) rfl (fun ls hl => ?_)
      have hl : lv_has ls 8 [(6, .int 0), (5, .int 2), (4, .int 0), (3, .ref q88), (2, .ref q68), (1, .ref q1), (0, .ref b)] := hl
      refine lv_aload_n hx hb d_Law_law_397 rfl (lv_at hl 4 rfl) ?_
      have hc0 : 157 + 0 ≤ 600002 := by omega
      have hs0 : 335616 + 0 ≤ 7302232 := by omega
      have hPc := hP.sub (ws' := [(q68, .inr (11, [.int 2, .ref m_tape_70, .int 0, .ref m_result_71, .int 0, .int ((-1)), .ref m_signs_72, .ref m_keptWords_73, .int 0, .int 0, .int 0, .long 0, .null, .int 0, .int 0, .int 0, .ref m_spelled_74, .ref m_pieced_75, .ref m_hexes_76, .ref m_words_77, .ref m_nextWords_78, .ref m_firstWords_79, .int 0, .ref m_pool_80, .int 0, .int 0, .null, .null, .ref m_chain_81, .ref m_waiting_82, .int 0, .int 0, .ref m_back_83, .ref m_spare_84, .int 0, .ref m_packed_85, .int 0, .int 0, .int 0, .int 0, .int 0, .long 0, .int 0, .int 0, .int 0, .long 0, .long 0, .ref m_theres_86, .int 0, .int 0, .int 0, .long 0, .int 0]))]) [1] rfl
      have hDc := hD.sub (ws' := [(q68, .inr (11, [.int 2, .ref m_tape_70, .int 0, .ref m_result_71, .int 0, .int ((-1)), .ref m_signs_72, .ref m_keptWords_73, .int 0, .int 0, .int 0, .long 0, .null, .int 0, .int 0, .int 0, .ref m_spelled_74, .ref m_pieced_75, .ref m_hexes_76, .ref m_words_77, .ref m_nextWords_78, .ref m_firstWords_79, .int 0, .ref m_pool_80, .int 0, .int 0, .null, .null, .ref m_chain_81, .ref m_waiting_82, .int 0, .int 0, .ref m_back_83, .ref m_spare_84, .int 0, .ref m_packed_85, .int 0, .int 0, .int 0, .int 0, .int 0, .long 0, .int 0, .int 0, .int 0, .long 0, .long 0, .ref m_theres_86, .int 0, .int 0, .int 0, .long 0, .int 0]))]) [1] (by decide) rfl
      have hKc := hK.sub (tys' := []) [] rfl
      have hFc := va_free (wc := [(q68, .inr (11, [.int 2, .ref m_tape_70, .int 0, .ref m_result_71, .int 0, .int ((-1)), .ref m_signs_72, .ref m_keptWords_73, .int 0, .int 0, .int 0, .long 0, .null, .int 0, .int 0, .int 0, .ref m_spelled_74, .ref m_pieced_75, .ref m_hexes_76, .ref m_words_77, .ref m_nextWords_78, .ref m_firstWords_79, .int 0, .ref m_pool_80, .int 0, .int 0, .null, .null, .ref m_chain_81, .ref m_waiting_82, .int 0, .int 0, .ref m_back_83, .ref m_spare_84, .int 0, .ref m_packed_85, .int 0, .int 0, .int 0, .int 0, .int 0, .long 0, .int 0, .int 0, .int 0, .long 0, .long 0, .ref m_theres_86, .int 0, .int 0, .int 0, .long 0, .int 0]))]) hD hS hA [1] rfl
      refine va_calli (va_runV (As := []) (rest := []) ⟨hx, hb, hml, hown, htw⟩ (c_Mo_thrown l dC dI H.size q68 m_tape_70 m_result_71 m_signs_72 m_keptWords_73 m_spelled_74 m_pieced_75 m_hexes_76 m_words_77 m_nextWords_78 m_firstWords_79 m_pool_80 m_chain_81 m_waiting_82 m_back_83 m_spare_84 m_packed_85 m_theres_86 2 0) (cwV 0 htw (tw_V wd_10_212 wd_10_213 wd_10_214 wd_1_21 k_Mo_thrown) rfl rfl rfl (by decide +kernel) ⟨Nat.le_of_ble_eq_true rfl, Nat.le_of_ble_eq_true rfl⟩) ⟨fun a U g mk q => by obtain ⟨q0, q1, qP, qK, qD⟩ := q; exact ⟨q0, q1, qP, va_K.moved (u := U) (U := U.calling g mk a) (Vm.Alike.refl U.vm) qK, qD⟩, va_recv hK hP (q := (R_Mo, F_Mo, 53)) (ci := 11) (q0 := 1) rfl rfl, fun U hU hW => ⟨rfl, by rw [hU], by rw [hU]; exact hPc, va_K.moved hW.alike hKc, hDc.weaken (fun _ _ _ _ => trivial)⟩⟩ rfl rfl hl.1 rfl (lv_room (Nat.le_of_ble_eq_true rfl)) d_Law_law_398 ⟨hc0, hs0⟩) hS (fun q _ h => hFc q h) hFc (fun r95 u t H1 locs ht hvm hw hB hz1 hk1 hS => ?_)
      obtain ⟨hP1, hK1, hD1⟩ := hB
      rw [ht] at hP1
      have hK1 := va_K.moved hvm.symm hK1
      obtain ⟨hP, hD⟩ := va_join (wr := [(q88, .inl (cA89, 1, .inr (.inl ((fun _ => 0)))))]) (w1 := [(q68, .inr (11, [.int 2, .ref m_tape_70, .int 0, .ref m_result_71, .int 0, .int ((-1)), .ref m_signs_72, .ref m_keptWords_73, .int 0, .int 0, .int 0, .long 0, .null, .int 0, .int 0, .int 0, .ref m_spelled_74, .ref m_pieced_75, .ref m_hexes_76, .ref m_words_77, .ref m_nextWords_78, .ref m_firstWords_79, .int 0, .ref m_pool_80, .int 0, .int 0, .null, .null, .ref m_chain_81, .ref m_waiting_82, .int 0, .int 0, .ref m_back_83, .ref m_spare_84, .int 0, .ref m_packed_85, .int 0, .int 0, .int 0, .int 0, .int 0, .long 0, .int 0, .int 0, .int 0, .long 0, .long 0, .ref m_theres_86, .int 0, .int 0, .int 0, .long 0, .int 0]))]) hP hD [1] [0] rfl rfl (by decide) (by decide) hk1 hFc hP1 hD1
      have hK := (hK.sub (tys' := [(cA89, .long)]) [0] rfl).app hK1
      generalize H1 = H at hP hS ⊢
      have hP : va_P (dC, dI) classes [(q88, .inl (cA89, 1, .inr (.inl ((fun _ => 0))))), (q68, .inr (11, [.int 2, .ref m_tape_70, .int 0, .ref m_result_71, .int 0, .int ((-1)), .ref m_signs_72, .ref m_keptWords_73, .int 0, .int 0, .int 0, .long 0, .null, .int 0, .int 0, .int 0, .ref m_spelled_74, .ref m_pieced_75, .ref m_hexes_76, .ref m_words_77, .ref m_nextWords_78, .ref m_firstWords_79, .int 0, .ref m_pool_80, .int 0, .int 0, .null, .null, .ref m_chain_81, .ref m_waiting_82, .int 0, .int 0, .ref m_back_83, .ref m_spare_84, .int 0, .ref m_packed_85, .int 0, .int 0, .int 0, .int 0, .int 0, .long 0, .int 0, .int 0, .int 0, .long 0, .long 0, .ref m_theres_86, .int 0, .int 0, .int 0, .long 0, .int 0]))] H := hP
      have hD : va_D A [(q88, .inl (cA89, 1, .inr (.inl ((fun _ => 0))))), (q68, .inr (11, [.int 2, .ref m_tape_70, .int 0, .ref m_result_71, .int 0, .int ((-1)), .ref m_signs_72, .ref m_keptWords_73, .int 0, .int 0, .int 0, .long 0, .null, .int 0, .int 0, .int 0, .ref m_spelled_74, .ref m_pieced_75, .ref m_hexes_76, .ref m_words_77, .ref m_nextWords_78, .ref m_firstWords_79, .int 0, .ref m_pool_80, .int 0, .int 0, .null, .null, .ref m_chain_81, .ref m_waiting_82, .int 0, .int 0, .ref m_back_83, .ref m_spare_84, .int 0, .ref m_packed_85, .int 0, .int 0, .int 0, .int 0, .int 0, .long 0, .int 0, .int 0, .int 0, .long 0, .long 0, .ref m_theres_86, .int 0, .int 0, .int 0, .long 0, .int 0]))] := hD
      have hK : va_K (dC, dI) classes [(cA89, .long)] s := hK
      subst hw
      refine lv_iload hx hb d_Law_law_401 (lv_at hl 1 rfl) ?_
      refine lv_icmp_eq (tgt := 408) hx hb d_Law_law_403 rfl (fun _ => ?_) (fun hn => absurd (rfl) hn)
      refine lv_iload hx hb d_Law_law_408 (lv_at hl 1 rfl) ?_
      refine lv_if_ne (tgt := 425) hx hb d_Law_law_410 rfl (fun _ => ?_) (fun hn => absurd hn (by decide))
      refine lv_goto (tgt := 594) hx hb d_Law_law_425 rfl ?_
      refine lv_iinc (k := 2) (v := 6) hx hb d_Law_law_594 hl rfl (by decide) (by decide) rfl (fun ls hl => ?_)
      have hl : lv_has ls 8 [(4, .int 6), (6, .int 0), (5, .int 2), (3, .ref q88), (2, .ref q68), (1, .ref q1), (0, .ref b)] := hl
      refine lv_goto (tgt := 23) hx hb d_Law_law_597 rfl ?_
      refine lv_iload hx hb d_Law_law_23 (lv_at hl 0 rfl) ?_
      refine lv_aload_n hx hb d_Law_law_25 rfl (lv_at hl 6 rfl) ?_
      refine va_slen hx hb hX hbl hbA hS d_Law_law_26 ?_
      refine lv_bipush (v := 6) hx hb d_Law_law_27 (by decide) ?_
      refine lv_isub hx hb d_Law_law_29 ?_
      refine lv_icmp_gt (tgt := 600) hx hb d_Law_law_30 rfl (fun _ => ?_) (fun hn => absurd (by decide) hn)
      refine lv_iconst (v := 1) hx hb d_Law_law_600 (by decide) ?_
      refine va_forget (fun q hq => by have h9 := hS.2.2 q hq; rw [hAe] at h9; exact h9) ?_
      refine W.widen (k := 600002) (n := 7302232) (by omega) (by omega) ?_
      exact lw_ret hx hb hr hlocks d_Law_law_601
    · have ha : ¬ z1 < 0 → ¬ z2 < 0 → (2 : Int32) < z2 := fun _ h => Int32.not_le.mp (fun q => hu2 ⟨h, q⟩)
      have hb9 : ¬ z2 < 0 → ¬ z2 ≤ 2 := fun h q => hu2 ⟨h, q⟩
      refine lv_aload_n hx hb d_Law_law_360 rfl (lv_at hl 3 rfl) ?_
      refine lv_aload_n hx hb d_Law_law_361 rfl (lv_at hl 4 rfl) ?_
      refine lv_iload hx hb d_Law_law_362 (lv_at hl 0 rfl) ?_
      refine lv_iconst (v := 1) hx hb d_Law_law_364 (by decide) ?_
      refine lv_iadd hx hb d_Law_law_365 ?_
      refine lv_topi (fun z9 e9 => ?_)
      have e9 : z9 = 1 := e9.trans (by decide)
      subst e9
      refine va_sld hx hb hX hbl hbA hS (by unfold vp_in; decide) d_Law_law_366 ?_
      refine lv_topi (fun z9 e9 => ?_)
      have e9 : z1 = z9 := (e9.trans ((congrArg xs (by decide)).trans (hv1.symm))).symm
      subst e9
      refine lv_aload_n hx hb d_Law_law_367 rfl (lv_at hl 4 rfl) ?_
      refine lv_iload hx hb d_Law_law_368 (lv_at hl 0 rfl) ?_
      refine lv_iconst (v := 2) hx hb d_Law_law_370 (by decide) ?_
      refine lv_iadd hx hb d_Law_law_371 ?_
      refine lv_topi (fun z9 e9 => ?_)
      have e9 : z9 = 2 := e9.trans (by decide)
      subst e9
      refine va_sld hx hb hX hbl hbA hS (by unfold vp_in; decide) d_Law_law_372 ?_
      refine lv_topi (fun z9 e9 => ?_)
      have e9 : z2 = z9 := (e9.trans ((congrArg xs (by decide)).trans (hv2.symm))).symm
      subst e9
      refine lv_aload_n hx hb d_Law_law_373 rfl (lv_at hl 1 rfl) ?_
      have hc0 : 156 + 1 ≤ 600002 := by omega
      have hs0 : 335610 + 6 ≤ 7302232 := by omega
      have hPc := hP.sub (ws' := [(q1, .inr (10, [.ref tp_3, .ref tk_5, .ref rs_7, .ref ou_9, .int 0, .ref sc0_10, .ref h0_11, .ref sn0_12, .ref pa0_13, .ref vl_14, .ref de_15, .ref br_16, .ref pw_17, .ref pr_18]))]) [0] rfl
      have hDc := hD.sub (ws' := [(q1, .inr (10, [.ref tp_3, .ref tk_5, .ref rs_7, .ref ou_9, .int 0, .ref sc0_10, .ref h0_11, .ref sn0_12, .ref pa0_13, .ref vl_14, .ref de_15, .ref br_16, .ref pw_17, .ref pr_18]))]) [0] (by decide) rfl
      have hKc := hK.sub (tys' := []) [] rfl
      have hFc := va_free (wc := [(q1, .inr (10, [.ref tp_3, .ref tk_5, .ref rs_7, .ref ou_9, .int 0, .ref sc0_10, .ref h0_11, .ref sn0_12, .ref pa0_13, .ref vl_14, .ref de_15, .ref br_16, .ref pw_17, .ref pr_18]))]) hD hS hA [0] rfl
      refine va_calli (tk_runSW (As := [.ref q1, .int z1, .int z2, .ref q88]) (rest := []) ⟨hx, hb, hml, hown, htw⟩ (c_Law_decode l dC dI H.size q1 tp_3 tk_5 rs_7 ou_9 sc0_10 h0_11 sn0_12 pa0_13 vl_14 de_15 br_16 pw_17 pr_18 z1 z2 q88 (by first | omega | assumption) (by first | omega | assumption)) ⟨tk_cbW 4 htw (tw_inL k_Law_decode) rfl rfl rfl (htw _ wd_1_0) (htw _ wd_8_115) (by decide +kernel) ⟨Nat.le_of_ble_eq_true rfl, Nat.le_of_ble_eq_true rfl⟩, htw _ wd_8_116⟩ List.mem_cons_self ⟨fun a U g mk q => by obtain ⟨q0, q1, qP, qK, qD, hq0, hq1, hq2, hq3⟩ := q; exact ⟨q0, q1, qP, va_K.moved (u := U) (U := U.calling g mk a) (Vm.Alike.refl U.vm) qK, qD, va_Zq.moved (u := U) (U := U.calling g mk a) (Vm.Alike.refl U.vm) hq0, va_Zq.moved (u := U) (U := U.calling g mk a) (Vm.Alike.refl U.vm) hq1, tz_LS.moved (u := U) (U := U.calling g mk a) (Vm.Alike.refl U.vm) hq2, tz_LS.moved (u := U) (U := U.calling g mk a) (Vm.Alike.refl U.vm) hq3⟩, fun U hU hW => ⟨rfl, by rw [hU], by rw [hU]; exact hPc, va_K.moved hW.alike hKc, hDc.weaken (fun _ _ _ _ => trivial), by rw [hU]; exact va_Zq.moved hW.alike ((va_Zq.kept hx9 hS.2.1).narrow hFc), by rw [hU]; exact va_Zq.moved hW.alike ((va_Zq.kept hx10 hS.2.1).narrow hFc), by rw [hU]; exact tz_LS.moved hW.alike ((tz_LS.kept hx11 hS.2.1).narrow hFc), by rw [hU]; exact tz_LS.moved hW.alike ((tz_LS.kept hx12 hS.2.1).narrow hFc)⟩⟩ rfl rfl hl.1 rfl (lv_room (Nat.le_of_ble_eq_true rfl)) d_Law_law_374 ⟨hc0, hs0⟩) hS (fun q _ h => hFc q h) hFc (fun r96 u t H1 locs ht hvm hw hB hz1 hk1 hS => ?_)
      obtain ⟨hP1, hK1, hD1⟩ := hB
      rw [ht] at hP1
      have hK1 := va_K.moved hvm.symm hK1
      obtain ⟨hP, hD⟩ := va_join (wr := [(q68, .inr (11, [.int 0, .ref m_tape_70, .int 0, .ref m_result_71, .int 0, .int ((-1)), .ref m_signs_72, .ref m_keptWords_73, .int 0, .int 0, .int 0, .long 0, .null, .int 0, .int 0, .int 0, .ref m_spelled_74, .ref m_pieced_75, .ref m_hexes_76, .ref m_words_77, .ref m_nextWords_78, .ref m_firstWords_79, .int 0, .ref m_pool_80, .int 0, .int 0, .null, .null, .ref m_chain_81, .ref m_waiting_82, .int 0, .int 0, .ref m_back_83, .ref m_spare_84, .int 0, .ref m_packed_85, .int 0, .int 0, .int 0, .int 0, .int 0, .long 0, .int 0, .int 0, .int 0, .long 0, .long 0, .ref m_theres_86, .int 0, .int 0, .int 0, .long 0, .int 0])), (q88, .inl (cA89, 1, .inr (.inl ((fun _ => 0)))))]) (w1 := []) hP hD [0] [1, 2] rfl rfl (by decide) (by decide) hk1 hFc hP1 hD1
      have hK := (hK.sub (tys' := [(cA89, .long)]) [0] rfl).app hK1
      generalize H1 = H at hP hS ⊢
      have hP : va_P (dC, dI) classes [(q68, .inr (11, [.int 0, .ref m_tape_70, .int 0, .ref m_result_71, .int 0, .int ((-1)), .ref m_signs_72, .ref m_keptWords_73, .int 0, .int 0, .int 0, .long 0, .null, .int 0, .int 0, .int 0, .ref m_spelled_74, .ref m_pieced_75, .ref m_hexes_76, .ref m_words_77, .ref m_nextWords_78, .ref m_firstWords_79, .int 0, .ref m_pool_80, .int 0, .int 0, .null, .null, .ref m_chain_81, .ref m_waiting_82, .int 0, .int 0, .ref m_back_83, .ref m_spare_84, .int 0, .ref m_packed_85, .int 0, .int 0, .int 0, .int 0, .int 0, .long 0, .int 0, .int 0, .int 0, .long 0, .long 0, .ref m_theres_86, .int 0, .int 0, .int 0, .long 0, .int 0])), (q88, .inl (cA89, 1, .inr (.inl ((fun _ => 0)))))] H := hP
      have hD : va_D A [(q68, .inr (11, [.int 0, .ref m_tape_70, .int 0, .ref m_result_71, .int 0, .int ((-1)), .ref m_signs_72, .ref m_keptWords_73, .int 0, .int 0, .int 0, .long 0, .null, .int 0, .int 0, .int 0, .ref m_spelled_74, .ref m_pieced_75, .ref m_hexes_76, .ref m_words_77, .ref m_nextWords_78, .ref m_firstWords_79, .int 0, .ref m_pool_80, .int 0, .int 0, .null, .null, .ref m_chain_81, .ref m_waiting_82, .int 0, .int 0, .ref m_back_83, .ref m_spare_84, .int 0, .ref m_packed_85, .int 0, .int 0, .int 0, .int 0, .int 0, .long 0, .int 0, .int 0, .int 0, .long 0, .long 0, .ref m_theres_86, .int 0, .int 0, .int 0, .long 0, .int 0])), (q88, .inl (cA89, 1, .inr (.inl ((fun _ => 0)))))] := hD
      have hK : va_K (dC, dI) classes [(cA89, .long)] s := hK
      subst hw
      refine lv_istore hx hb d_Law_law_377 hl (by decide) rfl (fun ls hl => ?_)
      have hl : lv_has ls 8 [(5, .int 1), (4, .int 0), (3, .ref q88), (2, .ref q68), (1, .ref q1), (0, .ref b)] := hl
      refine lv_aload_n hx hb d_Law_law_379 rfl (lv_at hl 3 rfl) ?_
      refine lv_aload_n hx hb d_Law_law_380 rfl (lv_at hl 5 rfl) ?_
      refine lv_iload hx hb d_Law_law_381 (lv_at hl 1 rfl) ?_
      refine lv_iconst (v := 1) hx hb d_Law_law_383 (by decide) ?_
      refine lv_iadd hx hb d_Law_law_384 ?_
      refine lv_topi (fun z9 e9 => ?_)
      have e9 : z9 = 1 := e9.trans (by decide)
      subst e9
      refine va_sld hx hb hX hbl hbA hS (by unfold vp_in; decide) d_Law_law_385 ?_
      refine lv_topi (fun z9 e9 => ?_)
      have e9 : z1 = z9 := (e9.trans ((congrArg xs (by decide)).trans (hv1.symm))).symm
      subst e9
      refine lv_aload_n hx hb d_Law_law_386 rfl (lv_at hl 5 rfl) ?_
      refine lv_iload hx hb d_Law_law_387 (lv_at hl 1 rfl) ?_
      refine lv_iconst (v := 2) hx hb d_Law_law_389 (by decide) ?_
      refine lv_iadd hx hb d_Law_law_390 ?_
      refine lv_topi (fun z9 e9 => ?_)
      have e9 : z9 = 2 := e9.trans (by decide)
      subst e9
      refine va_sld hx hb hX hbl hbA hS (by unfold vp_in; decide) d_Law_law_391 ?_
      refine lv_topi (fun z9 e9 => ?_)
      have e9 : z2 = z9 := (e9.trans ((congrArg xs (by decide)).trans (hv2.symm))).symm
      subst e9
      have hc0 : 157 + 0 ≤ 600002 := by omega
      have hs0 : 335616 + 0 ≤ 7302232 := by omega
      have hPc := hP.sub (ws' := [(q68, .inr (11, [.int 0, .ref m_tape_70, .int 0, .ref m_result_71, .int 0, .int ((-1)), .ref m_signs_72, .ref m_keptWords_73, .int 0, .int 0, .int 0, .long 0, .null, .int 0, .int 0, .int 0, .ref m_spelled_74, .ref m_pieced_75, .ref m_hexes_76, .ref m_words_77, .ref m_nextWords_78, .ref m_firstWords_79, .int 0, .ref m_pool_80, .int 0, .int 0, .null, .null, .ref m_chain_81, .ref m_waiting_82, .int 0, .int 0, .ref m_back_83, .ref m_spare_84, .int 0, .ref m_packed_85, .int 0, .int 0, .int 0, .int 0, .int 0, .long 0, .int 0, .int 0, .int 0, .long 0, .long 0, .ref m_theres_86, .int 0, .int 0, .int 0, .long 0, .int 0]))]) [0] rfl
      have hDc := hD.sub (ws' := [(q68, .inr (11, [.int 0, .ref m_tape_70, .int 0, .ref m_result_71, .int 0, .int ((-1)), .ref m_signs_72, .ref m_keptWords_73, .int 0, .int 0, .int 0, .long 0, .null, .int 0, .int 0, .int 0, .ref m_spelled_74, .ref m_pieced_75, .ref m_hexes_76, .ref m_words_77, .ref m_nextWords_78, .ref m_firstWords_79, .int 0, .ref m_pool_80, .int 0, .int 0, .null, .null, .ref m_chain_81, .ref m_waiting_82, .int 0, .int 0, .ref m_back_83, .ref m_spare_84, .int 0, .ref m_packed_85, .int 0, .int 0, .int 0, .int 0, .int 0, .long 0, .int 0, .int 0, .int 0, .long 0, .long 0, .ref m_theres_86, .int 0, .int 0, .int 0, .long 0, .int 0]))]) [0] (by decide) rfl
      have hKc := hK.sub (tys' := []) [] rfl
      have hFc := va_free (wc := [(q68, .inr (11, [.int 0, .ref m_tape_70, .int 0, .ref m_result_71, .int 0, .int ((-1)), .ref m_signs_72, .ref m_keptWords_73, .int 0, .int 0, .int 0, .long 0, .null, .int 0, .int 0, .int 0, .ref m_spelled_74, .ref m_pieced_75, .ref m_hexes_76, .ref m_words_77, .ref m_nextWords_78, .ref m_firstWords_79, .int 0, .ref m_pool_80, .int 0, .int 0, .null, .null, .ref m_chain_81, .ref m_waiting_82, .int 0, .int 0, .ref m_back_83, .ref m_spare_84, .int 0, .ref m_packed_85, .int 0, .int 0, .int 0, .int 0, .int 0, .long 0, .int 0, .int 0, .int 0, .long 0, .long 0, .ref m_theres_86, .int 0, .int 0, .int 0, .long 0, .int 0]))]) hD hS hA [0] rfl
      refine va_calli (tk_runVW (As := [.int z1, .int z2]) (rest := []) ⟨hx, hb, hml, hown, htw⟩ (c_Mo_decode_v2 l dC dI H.size q68 m_tape_70 m_result_71 m_signs_72 m_keptWords_73 m_spelled_74 m_pieced_75 m_hexes_76 m_words_77 m_nextWords_78 m_firstWords_79 m_pool_80 m_chain_81 m_waiting_82 m_back_83 m_spare_84 m_packed_85 m_theres_86 z1 z2 (by first | omega | assumption) (by first | omega | assumption)) ⟨tk_cbW 2 htw (tw_inL k_Mo_decode) rfl rfl rfl (htw _ wd_1_21) (htw _ wd_14_163) (by decide +kernel) ⟨Nat.le_of_ble_eq_true rfl, Nat.le_of_ble_eq_true rfl⟩, htw _ wd_14_164, htw _ wd_14_165⟩ List.mem_cons_self ⟨fun a U g mk q => by obtain ⟨q0, q1, qP, qK, qD⟩ := q; exact ⟨q0, q1, qP, va_K.moved (u := U) (U := U.calling g mk a) (Vm.Alike.refl U.vm) qK, qD⟩, va_recv hK hP (q := (R_Mo, F_Mo, 53)) (ci := 11) (q0 := 0) rfl rfl, fun U hU hW => ⟨rfl, by rw [hU], by rw [hU]; exact hPc, va_K.moved hW.alike hKc, hDc.weaken (fun _ _ _ _ => trivial)⟩⟩ rfl rfl hl.1 rfl (lv_room (Nat.le_of_ble_eq_true rfl)) d_Law_law_392 ⟨hc0, hs0⟩) hS (fun q _ h => hFc q h) hFc (fun r97 u t H1 locs ht hvm hw hB hz1 hk1 hS => ?_)
      obtain ⟨hP1, hK1, hD1⟩ := hB
      rw [ht] at hP1
      have hK1 := va_K.moved hvm.symm hK1
      obtain ⟨hP, hD⟩ := va_join (wr := [(q88, .inl (cA89, 1, .inr (.inl ((fun _ => 0)))))]) (w1 := [(q68, .inr (11, [.int 1, .ref m_tape_70, .int 0, .ref m_result_71, .int 0, .int ((-1)), .ref m_signs_72, .ref m_keptWords_73, .int 0, .int 0, .int 0, .long 0, .null, .int 0, .int 0, .int 0, .ref m_spelled_74, .ref m_pieced_75, .ref m_hexes_76, .ref m_words_77, .ref m_nextWords_78, .ref m_firstWords_79, .int 0, .ref m_pool_80, .int 0, .int 0, .null, .null, .ref m_chain_81, .ref m_waiting_82, .int 0, .int 0, .ref m_back_83, .ref m_spare_84, .int 0, .ref m_packed_85, .int 0, .int 0, .int 0, .int 0, .int 0, .long 0, .int 0, .int 0, .int 0, .long 0, .long 0, .ref m_theres_86, .int 0, .int 0, .int 0, .long 0, .int 0]))]) hP hD [0] [1] rfl rfl (by decide) (by decide) hk1 hFc hP1 hD1
      have hK := (hK.sub (tys' := [(cA89, .long)]) [0] rfl).app hK1
      generalize H1 = H at hP hS ⊢
      have hP : va_P (dC, dI) classes [(q88, .inl (cA89, 1, .inr (.inl ((fun _ => 0))))), (q68, .inr (11, [.int 1, .ref m_tape_70, .int 0, .ref m_result_71, .int 0, .int ((-1)), .ref m_signs_72, .ref m_keptWords_73, .int 0, .int 0, .int 0, .long 0, .null, .int 0, .int 0, .int 0, .ref m_spelled_74, .ref m_pieced_75, .ref m_hexes_76, .ref m_words_77, .ref m_nextWords_78, .ref m_firstWords_79, .int 0, .ref m_pool_80, .int 0, .int 0, .null, .null, .ref m_chain_81, .ref m_waiting_82, .int 0, .int 0, .ref m_back_83, .ref m_spare_84, .int 0, .ref m_packed_85, .int 0, .int 0, .int 0, .int 0, .int 0, .long 0, .int 0, .int 0, .int 0, .long 0, .long 0, .ref m_theres_86, .int 0, .int 0, .int 0, .long 0, .int 0]))] H := hP
      have hD : va_D A [(q88, .inl (cA89, 1, .inr (.inl ((fun _ => 0))))), (q68, .inr (11, [.int 1, .ref m_tape_70, .int 0, .ref m_result_71, .int 0, .int ((-1)), .ref m_signs_72, .ref m_keptWords_73, .int 0, .int 0, .int 0, .long 0, .null, .int 0, .int 0, .int 0, .ref m_spelled_74, .ref m_pieced_75, .ref m_hexes_76, .ref m_words_77, .ref m_nextWords_78, .ref m_firstWords_79, .int 0, .ref m_pool_80, .int 0, .int 0, .null, .null, .ref m_chain_81, .ref m_waiting_82, .int 0, .int 0, .ref m_back_83, .ref m_spare_84, .int 0, .ref m_packed_85, .int 0, .int 0, .int 0, .int 0, .int 0, .long 0, .int 0, .int 0, .int 0, .long 0, .long 0, .ref m_theres_86, .int 0, .int 0, .int 0, .long 0, .int 0]))] := hD
      have hK : va_K (dC, dI) classes [(cA89, .long)] s := hK
      subst hw
      refine lv_istore hx hb d_Law_law_395 hl (by decide) rfl (fun ls hl => ?_)
      have hl : lv_has ls 8 [(6, .int 0), (5, .int 1), (4, .int 0), (3, .ref q88), (2, .ref q68), (1, .ref q1), (0, .ref b)] := hl
      refine lv_aload_n hx hb d_Law_law_397 rfl (lv_at hl 4 rfl) ?_
      have hc0 : 157 + 0 ≤ 600002 := by omega
      have hs0 : 335616 + 0 ≤ 7302232 := by omega
      have hPc := hP.sub (ws' := [(q68, .inr (11, [.int 1, .ref m_tape_70, .int 0, .ref m_result_71, .int 0, .int ((-1)), .ref m_signs_72, .ref m_keptWords_73, .int 0, .int 0, .int 0, .long 0, .null, .int 0, .int 0, .int 0, .ref m_spelled_74, .ref m_pieced_75, .ref m_hexes_76, .ref m_words_77, .ref m_nextWords_78, .ref m_firstWords_79, .int 0, .ref m_pool_80, .int 0, .int 0, .null, .null, .ref m_chain_81, .ref m_waiting_82, .int 0, .int 0, .ref m_back_83, .ref m_spare_84, .int 0, .ref m_packed_85, .int 0, .int 0, .int 0, .int 0, .int 0, .long 0, .int 0, .int 0, .int 0, .long 0, .long 0, .ref m_theres_86, .int 0, .int 0, .int 0, .long 0, .int 0]))]) [1] rfl
      have hDc := hD.sub (ws' := [(q68, .inr (11, [.int 1, .ref m_tape_70, .int 0, .ref m_result_71, .int 0, .int ((-1)), .ref m_signs_72, .ref m_keptWords_73, .int 0, .int 0, .int 0, .long 0, .null, .int 0, .int 0, .int 0, .ref m_spelled_74, .ref m_pieced_75, .ref m_hexes_76, .ref m_words_77, .ref m_nextWords_78, .ref m_firstWords_79, .int 0, .ref m_pool_80, .int 0, .int 0, .null, .null, .ref m_chain_81, .ref m_waiting_82, .int 0, .int 0, .ref m_back_83, .ref m_spare_84, .int 0, .ref m_packed_85, .int 0, .int 0, .int 0, .int 0, .int 0, .long 0, .int 0, .int 0, .int 0, .long 0, .long 0, .ref m_theres_86, .int 0, .int 0, .int 0, .long 0, .int 0]))]) [1] (by decide) rfl
      have hKc := hK.sub (tys' := []) [] rfl
      have hFc := va_free (wc := [(q68, .inr (11, [.int 1, .ref m_tape_70, .int 0, .ref m_result_71, .int 0, .int ((-1)), .ref m_signs_72, .ref m_keptWords_73, .int 0, .int 0, .int 0, .long 0, .null, .int 0, .int 0, .int 0, .ref m_spelled_74, .ref m_pieced_75, .ref m_hexes_76, .ref m_words_77, .ref m_nextWords_78, .ref m_firstWords_79, .int 0, .ref m_pool_80, .int 0, .int 0, .null, .null, .ref m_chain_81, .ref m_waiting_82, .int 0, .int 0, .ref m_back_83, .ref m_spare_84, .int 0, .ref m_packed_85, .int 0, .int 0, .int 0, .int 0, .int 0, .long 0, .int 0, .int 0, .int 0, .long 0, .long 0, .ref m_theres_86, .int 0, .int 0, .int 0, .long 0, .int 0]))]) hD hS hA [1] rfl
      refine va_calli (va_runV (As := []) (rest := []) ⟨hx, hb, hml, hown, htw⟩ (c_Mo_thrown l dC dI H.size q68 m_tape_70 m_result_71 m_signs_72 m_keptWords_73 m_spelled_74 m_pieced_75 m_hexes_76 m_words_77 m_nextWords_78 m_firstWords_79 m_pool_80 m_chain_81 m_waiting_82 m_back_83 m_spare_84 m_packed_85 m_theres_86 1 0) (cwV 0 htw (tw_V wd_10_212 wd_10_213 wd_10_214 wd_1_21 k_Mo_thrown) rfl rfl rfl (by decide +kernel) ⟨Nat.le_of_ble_eq_true rfl, Nat.le_of_ble_eq_true rfl⟩) ⟨fun a U g mk q => by obtain ⟨q0, q1, qP, qK, qD⟩ := q; exact ⟨q0, q1, qP, va_K.moved (u := U) (U := U.calling g mk a) (Vm.Alike.refl U.vm) qK, qD⟩, va_recv hK hP (q := (R_Mo, F_Mo, 53)) (ci := 11) (q0 := 1) rfl rfl, fun U hU hW => ⟨rfl, by rw [hU], by rw [hU]; exact hPc, va_K.moved hW.alike hKc, hDc.weaken (fun _ _ _ _ => trivial)⟩⟩ rfl rfl hl.1 rfl (lv_room (Nat.le_of_ble_eq_true rfl)) d_Law_law_398 ⟨hc0, hs0⟩) hS (fun q _ h => hFc q h) hFc (fun r98 u t H1 locs ht hvm hw hB hz1 hk1 hS => ?_)
      obtain ⟨hP1, hK1, hD1⟩ := hB
      rw [ht] at hP1
      have hK1 := va_K.moved hvm.symm hK1
      obtain ⟨hP, hD⟩ := va_join (wr := [(q88, .inl (cA89, 1, .inr (.inl ((fun _ => 0)))))]) (w1 := [(q68, .inr (11, [.int 1, .ref m_tape_70, .int 0, .ref m_result_71, .int 0, .int ((-1)), .ref m_signs_72, .ref m_keptWords_73, .int 0, .int 0, .int 0, .long 0, .null, .int 0, .int 0, .int 0, .ref m_spelled_74, .ref m_pieced_75, .ref m_hexes_76, .ref m_words_77, .ref m_nextWords_78, .ref m_firstWords_79, .int 0, .ref m_pool_80, .int 0, .int 0, .null, .null, .ref m_chain_81, .ref m_waiting_82, .int 0, .int 0, .ref m_back_83, .ref m_spare_84, .int 0, .ref m_packed_85, .int 0, .int 0, .int 0, .int 0, .int 0, .long 0, .int 0, .int 0, .int 0, .long 0, .long 0, .ref m_theres_86, .int 0, .int 0, .int 0, .long 0, .int 0]))]) hP hD [1] [0] rfl rfl (by decide) (by decide) hk1 hFc hP1 hD1
      have hK := (hK.sub (tys' := [(cA89, .long)]) [0] rfl).app hK1
      generalize H1 = H at hP hS ⊢
      have hP : va_P (dC, dI) classes [(q88, .inl (cA89, 1, .inr (.inl ((fun _ => 0))))), (q68, .inr (11, [.int 1, .ref m_tape_70, .int 0, .ref m_result_71, .int 0, .int ((-1)), .ref m_signs_72, .ref m_keptWords_73, .int 0, .int 0, .int 0, .long 0, .null, .int 0, .int 0, .int 0, .ref m_spelled_74, .ref m_pieced_75, .ref m_hexes_76, .ref m_words_77, .ref m_nextWords_78, .ref m_firstWords_79, .int 0, .ref m_pool_80, .int 0, .int 0, .null, .null, .ref m_chain_81, .ref m_waiting_82, .int 0, .int 0, .ref m_back_83, .ref m_spare_84, .int 0, .ref m_packed_85, .int 0, .int 0, .int 0, .int 0, .int 0, .long 0, .int 0, .int 0, .int 0, .long 0, .long 0, .ref m_theres_86, .int 0, .int 0, .int 0, .long 0, .int 0]))] H := hP
      have hD : va_D A [(q88, .inl (cA89, 1, .inr (.inl ((fun _ => 0))))), (q68, .inr (11, [.int 1, .ref m_tape_70, .int 0, .ref m_result_71, .int 0, .int ((-1)), .ref m_signs_72, .ref m_keptWords_73, .int 0, .int 0, .int 0, .long 0, .null, .int 0, .int 0, .int 0, .ref m_spelled_74, .ref m_pieced_75, .ref m_hexes_76, .ref m_words_77, .ref m_nextWords_78, .ref m_firstWords_79, .int 0, .ref m_pool_80, .int 0, .int 0, .null, .null, .ref m_chain_81, .ref m_waiting_82, .int 0, .int 0, .ref m_back_83, .ref m_spare_84, .int 0, .ref m_packed_85, .int 0, .int 0, .int 0, .int 0, .int 0, .long 0, .int 0, .int 0, .int 0, .long 0, .long 0, .ref m_theres_86, .int 0, .int 0, .int 0, .long 0, .int 0]))] := hD
      have hK : va_K (dC, dI) classes [(cA89, .long)] s := hK
      subst hw
      refine lv_iload hx hb d_Law_law_401 (lv_at hl 1 rfl) ?_
      refine lv_icmp_eq (tgt := 408) hx hb d_Law_law_403 rfl (fun _ => ?_) (fun hn => absurd (rfl) hn)
      refine lv_iload hx hb d_Law_law_408 (lv_at hl 1 rfl) ?_
      refine lv_if_ne (tgt := 425) hx hb d_Law_law_410 rfl (fun _ => ?_) (fun hn => absurd hn (by decide))
      refine lv_goto (tgt := 594) hx hb d_Law_law_425 rfl ?_
      refine lv_iinc (k := 2) (v := 6) hx hb d_Law_law_594 hl rfl (by decide) (by decide) rfl (fun ls hl => ?_)
      have hl : lv_has ls 8 [(4, .int 6), (6, .int 0), (5, .int 1), (3, .ref q88), (2, .ref q68), (1, .ref q1), (0, .ref b)] := hl
      refine lv_goto (tgt := 23) hx hb d_Law_law_597 rfl ?_
      refine lv_iload hx hb d_Law_law_23 (lv_at hl 0 rfl) ?_
      refine lv_aload_n hx hb d_Law_law_25 rfl (lv_at hl 6 rfl) ?_
      refine va_slen hx hb hX hbl hbA hS d_Law_law_26 ?_
      refine lv_bipush (v := 6) hx hb d_Law_law_27 (by decide) ?_
      refine lv_isub hx hb d_Law_law_29 ?_
      refine lv_icmp_gt (tgt := 600) hx hb d_Law_law_30 rfl (fun _ => ?_) (fun hn => absurd (by decide) hn)
      refine lv_iconst (v := 1) hx hb d_Law_law_600 (by decide) ?_
      refine va_forget (fun q hq => by have h9 := hS.2.2 q hq; rw [hAe] at h9; exact h9) ?_
      refine W.widen (k := 600002) (n := 7302232) (by omega) (by omega) ?_
      exact lw_ret hx hb hr hlocks d_Law_law_601
