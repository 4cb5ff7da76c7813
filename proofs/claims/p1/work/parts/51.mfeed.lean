/-! by program (wip/p1) -/
theorem wd_9_220 : Cond.constant "SyntaxForgeModel" 9 65536 ∈ tw_tbl := tw_t9 (List.mem_of_getElem? (i := 220) rfl) rfl
theorem wd_10_52 : Cond.fieldLink "SyntaxForgeModel" 10 "SyntaxForgeModel" "tape" "[B" ∈ tw_tbl := tw_t10 (List.mem_of_getElem? (i := 52) rfl) rfl
def y_Mo_feed : MethodName := ⟨"SyntaxForgeModel", "feed", "(IIIII)I"⟩
abbrev b_Mo_feed : ByteArray := prog_15_method_161_code
abbrev cd_Mo_feed : Cond := .code y_Mo_feed b_Mo_feed 8 (some .int)
abbrev ws_Mo_feed : List Cond := cd_Mo_feed :: tw_tbl
theorem k_Mo_feed : cd_Mo_feed ∈ tw_tbl := tw_t10 (List.mem_of_getElem? (i := 219) rfl) rfl
theorem d_Mo_feed_0 : decode b_Mo_feed 0 = .ok (.aload_n 0, 1) := by decide +kernel
theorem d_Mo_feed_1 : decode b_Mo_feed 1 = .ok (.iconst 0, 1) := by decide +kernel
theorem d_Mo_feed_2 : decode b_Mo_feed 2 = .ok (.putfield 177, 3) := by decide +kernel
theorem d_Mo_feed_5 : decode b_Mo_feed 5 = .ok (.aload_n 0, 1) := by decide +kernel
theorem d_Mo_feed_6 : decode b_Mo_feed 6 = .ok (.getfield 180, 3) := by decide +kernel
theorem d_Mo_feed_9 : decode b_Mo_feed 9 = .ok (.bipush 20, 2) := by decide +kernel
theorem d_Mo_feed_11 : decode b_Mo_feed 11 = .ok (.iadd, 1) := by decide +kernel
theorem d_Mo_feed_12 : decode b_Mo_feed 12 = .ok (.ldc 9, 2) := by decide +kernel
theorem d_Mo_feed_14 : decode b_Mo_feed 14 = .ok (.if_icmp .le 9, 3) := by decide +kernel
theorem d_Mo_feed_17 : decode b_Mo_feed 17 = .ok (.aload_n 0, 1) := by decide +kernel
theorem d_Mo_feed_18 : decode b_Mo_feed 18 = .ok (.iconst 1, 1) := by decide +kernel
theorem d_Mo_feed_19 : decode b_Mo_feed 19 = .ok (.invokevirtual 1054, 3) := by decide +kernel
theorem d_Mo_feed_22 : decode b_Mo_feed 22 = .ok (.ireturn, 1) := by decide +kernel
theorem d_Mo_feed_23 : decode b_Mo_feed 23 = .ok (.iconst 0, 1) := by decide +kernel
theorem d_Mo_feed_24 : decode b_Mo_feed 24 = .ok (.istore 6, 2) := by decide +kernel
theorem d_Mo_feed_26 : decode b_Mo_feed 26 = .ok (.iload 6, 2) := by decide +kernel
theorem d_Mo_feed_28 : decode b_Mo_feed 28 = .ok (.bipush 20, 2) := by decide +kernel
theorem d_Mo_feed_30 : decode b_Mo_feed 30 = .ok (.if_icmp .ge 90, 3) := by decide +kernel
theorem d_Mo_feed_33 : decode b_Mo_feed 33 = .ok (.iload 6, 2) := by decide +kernel
theorem d_Mo_feed_35 : decode b_Mo_feed 35 = .ok (.iconst 4, 1) := by decide +kernel
theorem d_Mo_feed_36 : decode b_Mo_feed 36 = .ok (.if_icmp .ge 7, 3) := by decide +kernel
theorem d_Mo_feed_39 : decode b_Mo_feed 39 = .ok (.iload_n 1, 1) := by decide +kernel
theorem d_Mo_feed_40 : decode b_Mo_feed 40 = .ok (.goto 39, 3) := by decide +kernel
theorem d_Mo_feed_43 : decode b_Mo_feed 43 = .ok (.iload 6, 2) := by decide +kernel
theorem d_Mo_feed_45 : decode b_Mo_feed 45 = .ok (.bipush 8, 2) := by decide +kernel
theorem d_Mo_feed_47 : decode b_Mo_feed 47 = .ok (.if_icmp .ge 7, 3) := by decide +kernel
theorem d_Mo_feed_50 : decode b_Mo_feed 50 = .ok (.iload_n 2, 1) := by decide +kernel
theorem d_Mo_feed_51 : decode b_Mo_feed 51 = .ok (.goto 28, 3) := by decide +kernel
theorem d_Mo_feed_54 : decode b_Mo_feed 54 = .ok (.iload 6, 2) := by decide +kernel
theorem d_Mo_feed_56 : decode b_Mo_feed 56 = .ok (.bipush 12, 2) := by decide +kernel
theorem d_Mo_feed_58 : decode b_Mo_feed 58 = .ok (.if_icmp .ge 7, 3) := by decide +kernel
theorem d_Mo_feed_61 : decode b_Mo_feed 61 = .ok (.iload_n 3, 1) := by decide +kernel
theorem d_Mo_feed_62 : decode b_Mo_feed 62 = .ok (.goto 17, 3) := by decide +kernel
theorem d_Mo_feed_65 : decode b_Mo_feed 65 = .ok (.iload 6, 2) := by decide +kernel
theorem d_Mo_feed_67 : decode b_Mo_feed 67 = .ok (.bipush 16, 2) := by decide +kernel
theorem d_Mo_feed_69 : decode b_Mo_feed 69 = .ok (.if_icmp .ge 8, 3) := by decide +kernel
theorem d_Mo_feed_72 : decode b_Mo_feed 72 = .ok (.iload 4, 2) := by decide +kernel
theorem d_Mo_feed_74 : decode b_Mo_feed 74 = .ok (.goto 5, 3) := by decide +kernel
theorem d_Mo_feed_77 : decode b_Mo_feed 77 = .ok (.iload 5, 2) := by decide +kernel
theorem d_Mo_feed_79 : decode b_Mo_feed 79 = .ok (.istore 7, 2) := by decide +kernel
theorem d_Mo_feed_81 : decode b_Mo_feed 81 = .ok (.aload_n 0, 1) := by decide +kernel
theorem d_Mo_feed_82 : decode b_Mo_feed 82 = .ok (.getfield 10, 3) := by decide +kernel
theorem d_Mo_feed_85 : decode b_Mo_feed 85 = .ok (.aload_n 0, 1) := by decide +kernel
theorem d_Mo_feed_86 : decode b_Mo_feed 86 = .ok (.getfield 180, 3) := by decide +kernel
theorem d_Mo_feed_89 : decode b_Mo_feed 89 = .ok (.iload 7, 2) := by decide +kernel
theorem d_Mo_feed_91 : decode b_Mo_feed 91 = .ok (.bipush 24, 2) := by decide +kernel
theorem d_Mo_feed_93 : decode b_Mo_feed 93 = .ok (.bipush 8, 2) := by decide +kernel
theorem d_Mo_feed_95 : decode b_Mo_feed 95 = .ok (.iload 6, 2) := by decide +kernel
theorem d_Mo_feed_97 : decode b_Mo_feed 97 = .ok (.iconst 4, 1) := by decide +kernel
theorem d_Mo_feed_98 : decode b_Mo_feed 98 = .ok (.irem, 1) := by decide +kernel
theorem d_Mo_feed_99 : decode b_Mo_feed 99 = .ok (.imul, 1) := by decide +kernel
theorem d_Mo_feed_100 : decode b_Mo_feed 100 = .ok (.isub, 1) := by decide +kernel
theorem d_Mo_feed_101 : decode b_Mo_feed 101 = .ok (.ishr, 1) := by decide +kernel
theorem d_Mo_feed_102 : decode b_Mo_feed 102 = .ok (.i2b, 1) := by decide +kernel
theorem d_Mo_feed_103 : decode b_Mo_feed 103 = .ok (.bastore, 1) := by decide +kernel
theorem d_Mo_feed_104 : decode b_Mo_feed 104 = .ok (.aload_n 0, 1) := by decide +kernel
theorem d_Mo_feed_105 : decode b_Mo_feed 105 = .ok (.dup, 1) := by decide +kernel
theorem d_Mo_feed_106 : decode b_Mo_feed 106 = .ok (.getfield 180, 3) := by decide +kernel
theorem d_Mo_feed_109 : decode b_Mo_feed 109 = .ok (.iconst 1, 1) := by decide +kernel
theorem d_Mo_feed_110 : decode b_Mo_feed 110 = .ok (.iadd, 1) := by decide +kernel
theorem d_Mo_feed_111 : decode b_Mo_feed 111 = .ok (.putfield 180, 3) := by decide +kernel
theorem d_Mo_feed_114 : decode b_Mo_feed 114 = .ok (.iinc 6 1, 3) := by decide +kernel
theorem d_Mo_feed_117 : decode b_Mo_feed 117 = .ok (.goto (-91), 3) := by decide +kernel
theorem d_Mo_feed_120 : decode b_Mo_feed 120 = .ok (.aload_n 0, 1) := by decide +kernel
theorem d_Mo_feed_121 : decode b_Mo_feed 121 = .ok (.getfield 180, 3) := by decide +kernel
theorem d_Mo_feed_124 : decode b_Mo_feed 124 = .ok (.ireturn, 1) := by decide +kernel
set_option maxHeartbeats 4000000 in
set_option maxRecDepth 100000 in
theorem c_Mo_feed (l : Launch) (dC : Nat → ClassId) (dI : Nat → Nat → Nat) (sz : Nat) (y0 : Nat) (m_tape : Nat) (m_result : Nat) (m_signs : Nat) (m_keptWords : Nat) (m_spelled : Nat) (m_pieced : Nat) (m_hexes : Nat) (m_words : Nat) (m_nextWords : Nat) (m_firstWords : Nat) (m_pool : Nat) (m_chain : Nat) (m_waiting : Nat) (m_back : Nat) (m_spare : Nat) (m_packed : Nat) (m_theres : Nat) (cmt : ClassId) (f : Nat → Int32) (z1 : Int32) (z2 : Int32) (z3 : Int32) (z4 : Int32) (z5 : Int32) : Met l y_Mo_feed ws_Mo_feed ({ frames := 0, cells := 0, slots := 0, locals := 0 }) (va_Pc [.ref y0, .int z1, .int z2, .int z3, .int z4, .int z5] (fun U => U.heap.size = sz ∧ va_P (dC, dI) classes [(y0, .inr (11, [.int 0, .ref m_tape, .int 0, .ref m_result, .int 0, .int ((-1)), .ref m_signs, .ref m_keptWords, .int 0, .int 0, .int 0, .long 0, .null, .int 0, .int 0, .int 0, .ref m_spelled, .ref m_pieced, .ref m_hexes, .ref m_words, .ref m_nextWords, .ref m_firstWords, .int 0, .ref m_pool, .int 0, .int 0, .null, .null, .ref m_chain, .ref m_waiting, .int 0, .int 0, .ref m_back, .ref m_spare, .int 0, .ref m_packed, .int 0, .int 0, .int 0, .int 0, .int 0, .long 0, .int 0, .int 0, .int 0, .long 0, .long 0, .ref m_theres, .int 0, .int 0, .int 0, .long 0, .int 0])), (m_tape, .inl (cmt, 65536, .inl f))] U.heap ∧ va_K (dC, dI) classes [(cmt, .byte)] U ∧ va_D (fun _ => True) [(y0, .inr (11, [.int 0, .ref m_tape, .int 0, .ref m_result, .int 0, .int ((-1)), .ref m_signs, .ref m_keptWords, .int 0, .int 0, .int 0, .long 0, .null, .int 0, .int 0, .int 0, .ref m_spelled, .ref m_pieced, .ref m_hexes, .ref m_words, .ref m_nextWords, .ref m_firstWords, .int 0, .ref m_pool, .int 0, .int 0, .null, .null, .ref m_chain, .ref m_waiting, .int 0, .int 0, .ref m_back, .ref m_spare, .int 0, .ref m_packed, .int 0, .int 0, .int 0, .int 0, .int 0, .long 0, .int 0, .int 0, .int 0, .long 0, .long 0, .ref m_theres, .int 0, .int 0, .int 0, .long 0, .int 0])), (m_tape, .inl (cmt, 65536, .inl f))])) (va_Qi (fun (r : Int32) (_ : Unit) => r = nI 20) (fun _ t => ∃ (g2 : Nat → Int32), va_P (dC, dI) classes [(y0, .inr (11, [.int 0, .ref m_tape, .int (nI 20), .ref m_result, .int 0, .int ((-1)), .ref m_signs, .ref m_keptWords, .int 0, .int 0, .int 0, .long 0, .null, .int 0, .int 0, .int 0, .ref m_spelled, .ref m_pieced, .ref m_hexes, .ref m_words, .ref m_nextWords, .ref m_firstWords, .int 0, .ref m_pool, .int 0, .int 0, .null, .null, .ref m_chain, .ref m_waiting, .int 0, .int 0, .ref m_back, .ref m_spare, .int 0, .ref m_packed, .int 0, .int 0, .int 0, .int 0, .int 0, .long 0, .int 0, .int 0, .int 0, .long 0, .long 0, .ref m_theres, .int 0, .int 0, .int 0, .long 0, .int 0])), (m_tape, .inl (cmt, 65536, .inl g2))] t.heap ∧ va_K (dC, dI) classes [(cmt, .byte)] t ∧ va_D (va_A [(y0, .inr (11, [.int 0, .ref m_tape, .int 0, .ref m_result, .int 0, .int ((-1)), .ref m_signs, .ref m_keptWords, .int 0, .int 0, .int 0, .long 0, .null, .int 0, .int 0, .int 0, .ref m_spelled, .ref m_pieced, .ref m_hexes, .ref m_words, .ref m_nextWords, .ref m_firstWords, .int 0, .ref m_pool, .int 0, .int 0, .null, .null, .ref m_chain, .ref m_waiting, .int 0, .int 0, .ref m_back, .ref m_spare, .int 0, .ref m_packed, .int 0, .int 0, .int 0, .int 0, .int 0, .long 0, .int 0, .int 0, .int 0, .long 0, .long 0, .ref m_theres, .int 0, .int 0, .int 0, .long 0, .int 0])), (m_tape, .inl (cmt, 65536, .inl f))] sz) [(y0, .inr (11, [.int 0, .ref m_tape, .int (nI 20), .ref m_result, .int 0, .int ((-1)), .ref m_signs, .ref m_keptWords, .int 0, .int 0, .int 0, .long 0, .null, .int 0, .int 0, .int 0, .ref m_spelled, .ref m_pieced, .ref m_hexes, .ref m_words, .ref m_nextWords, .ref m_firstWords, .int 0, .ref m_pool, .int 0, .int 0, .null, .null, .ref m_chain, .ref m_waiting, .int 0, .int 0, .ref m_back, .ref m_spare, .int 0, .ref m_packed, .int 0, .int 0, .int 0, .int 0, .int 0, .long 0, .int 0, .int 0, .int 0, .long 0, .long 0, .ref m_theres, .int 0, .int 0, .int 0, .long 0, .int 0])), (m_tape, .inl (cmt, 65536, .inl g2))]) (va_A [(y0, .inr (11, [.int 0, .ref m_tape, .int 0, .ref m_result, .int 0, .int ((-1)), .ref m_signs, .ref m_keptWords, .int 0, .int 0, .int 0, .long 0, .null, .int 0, .int 0, .int 0, .ref m_spelled, .ref m_pieced, .ref m_hexes, .ref m_words, .ref m_nextWords, .ref m_firstWords, .int 0, .ref m_pool, .int 0, .int 0, .null, .null, .ref m_chain, .ref m_waiting, .int 0, .int 0, .ref m_back, .ref m_spare, .int 0, .ref m_packed, .int 0, .int 0, .int 0, .int 0, .int 0, .long 0, .int 0, .int 0, .int 0, .long 0, .long 0, .ref m_theres, .int 0, .int 0, .int 0, .long 0, .int 0])), (m_tape, .inl (cmt, 65536, .inl f))] sz)) 0 0 (va_A [(y0, .inr (11, [.int 0, .ref m_tape, .int 0, .ref m_result, .int 0, .int ((-1)), .ref m_signs, .ref m_keptWords, .int 0, .int 0, .int 0, .long 0, .null, .int 0, .int 0, .int 0, .ref m_spelled, .ref m_pieced, .ref m_hexes, .ref m_words, .ref m_nextWords, .ref m_firstWords, .int 0, .ref m_pool, .int 0, .int 0, .null, .null, .ref m_chain, .ref m_waiting, .int 0, .int 0, .ref m_back, .ref m_spare, .int 0, .ref m_packed, .int 0, .int 0, .int 0, .int 0, .int 0, .long 0, .int 0, .int 0, .int 0, .long 0, .long 0, .ref m_theres, .int 0, .int 0, .int 0, .long 0, .int 0])), (m_tape, .inl (cmt, 65536, .inl f))] sz) := by
  refine Met.ofW (cc := b_Mo_feed) (maxL := 8) (ret := (some .int)) (by decide) rfl ?_
  intro p e s m args below meth c s₁ B hml hv
  obtain ⟨rfl, hsz, hP, hK, hD0⟩ := hv
  have hx := B.exec
  have hb := B.bytes
  have hr := B.returns
  have hts := atoms_spec (ws := ws_Mo_feed) B.pre
  have htw : ∀ w ∈ tw_tbl, w.before [.ref y0, .int z1, .int z2, .int z3, .int z4, .int z5].toArray s = true := fun w h => hts w (List.mem_cons_of_mem _ h)
  have hown : s.vm.findClass R_Mo = some m.cls := findClass_of_methodNamed B.named
  have hlocks := B.notSynchronized
  have hin : meth.name = "feed" := (name_of_methodNamed B.named B.method).1
  subst hsz
  have hD := hD0.self (sz := s.heap.size)
  generalize hAe : va_A [(y0, .inr (11, [.int 0, .ref m_tape, .int 0, .ref m_result, .int 0, .int ((-1)), .ref m_signs, .ref m_keptWords, .int 0, .int 0, .int 0, .long 0, .null, .int 0, .int 0, .int 0, .ref m_spelled, .ref m_pieced, .ref m_hexes, .ref m_words, .ref m_nextWords, .ref m_firstWords, .int 0, .ref m_pool, .int 0, .int 0, .null, .null, .ref m_chain, .ref m_waiting, .int 0, .int 0, .ref m_back, .ref m_spare, .int 0, .ref m_packed, .int 0, .int 0, .int 0, .int 0, .int 0, .long 0, .int 0, .int 0, .int 0, .long 0, .long 0, .ref m_theres, .int 0, .int 0, .int 0, .long 0, .int 0])), (m_tape, .inl (cmt, 65536, .inl f))] s.heap.size = A at hD ⊢
  have hA : ∀ q : Nat, s.heap.size ≤ q → A q := fun q h => by rw [← hAe]; exact Or.inr h
  have hS : va_S A s.heap s.heap [] := va_S.rf
  have hP : va_P (dC, dI) classes [(y0, .inr (11, [.int 0, .ref m_tape, .int 0, .ref m_result, .int 0, .int ((-1)), .ref m_signs, .ref m_keptWords, .int 0, .int 0, .int 0, .long 0, .null, .int 0, .int 0, .int 0, .ref m_spelled, .ref m_pieced, .ref m_hexes, .ref m_words, .ref m_nextWords, .ref m_firstWords, .int 0, .ref m_pool, .int 0, .int 0, .null, .null, .ref m_chain, .ref m_waiting, .int 0, .int 0, .ref m_back, .ref m_spare, .int 0, .ref m_packed, .int 0, .int 0, .int 0, .int 0, .int 0, .long 0, .int 0, .int 0, .int 0, .long 0, .long 0, .ref m_theres, .int 0, .int 0, .int 0, .long 0, .int 0])), (m_tape, .inl (cmt, 65536, .inl f))] s.heap := hP
  have hl := lv_entry ([.ref y0, .int z1, .int z2, .int z3, .int z4, .int z5]) (n := 8) (Nat.le_of_ble_eq_true rfl)
  rw [lg_entry_eq]
  generalize (lg_sl ([.ref y0, .int z1, .int z2, .int z3, .int z4, .int z5]) ++ List.replicate (8 - (lg_sl ([.ref y0, .int z1, .int z2, .int z3, .int z4, .int z5])).length) Slot.unset).toArray = ls at hl ⊢
  have hl : lv_has ls 8 [(0, .ref y0), (1, .int z1), (2, .int z2), (3, .int z3), (4, .int z4), (5, .int z5)] := hl
  refine lv_aload_n hx hb d_Mo_feed_0 rfl (lv_at hl 0 rfl) ?_
  refine lv_iconst (v := 0) hx hb d_Mo_feed_1 (by decide) ?_
  refine va_put (D := (dC, dI)) (ci := 11) (v := .int 0) (ty := .int) (C := R_Mo) (T := F_Mo) (N := 53) hx hb htw i_Mo t_Mo t_Mo_ok n_Mo hown hK hP hD hS 0 rfl rfl 0 (by decide) (htw _ wd_10_51) (fun _ h9 => h9) rfl (by decide +kernel) rfl rfl (Nat.le_of_ble_eq_true rfl) d_Mo_feed_2 (fun H locs hP hD hS => ?_)
  have hP : va_P (dC, dI) classes [(y0, .inr (11, [.int 0, .ref m_tape, .int 0, .ref m_result, .int 0, .int ((-1)), .ref m_signs, .ref m_keptWords, .int 0, .int 0, .int 0, .long 0, .null, .int 0, .int 0, .int 0, .ref m_spelled, .ref m_pieced, .ref m_hexes, .ref m_words, .ref m_nextWords, .ref m_firstWords, .int 0, .ref m_pool, .int 0, .int 0, .null, .null, .ref m_chain, .ref m_waiting, .int 0, .int 0, .ref m_back, .ref m_spare, .int 0, .ref m_packed, .int 0, .int 0, .int 0, .int 0, .int 0, .long 0, .int 0, .int 0, .int 0, .long 0, .long 0, .ref m_theres, .int 0, .int 0, .int 0, .long 0, .int 0])), (m_tape, .inl (cmt, 65536, .inl f))] H := hP
  have hD : va_D A [(y0, .inr (11, [.int 0, .ref m_tape, .int 0, .ref m_result, .int 0, .int ((-1)), .ref m_signs, .ref m_keptWords, .int 0, .int 0, .int 0, .long 0, .null, .int 0, .int 0, .int 0, .ref m_spelled, .ref m_pieced, .ref m_hexes, .ref m_words, .ref m_nextWords, .ref m_firstWords, .int 0, .ref m_pool, .int 0, .int 0, .null, .null, .ref m_chain, .ref m_waiting, .int 0, .int 0, .ref m_back, .ref m_spare, .int 0, .ref m_packed, .int 0, .int 0, .int 0, .int 0, .int 0, .long 0, .int 0, .int 0, .int 0, .long 0, .long 0, .ref m_theres, .int 0, .int 0, .int 0, .long 0, .int 0])), (m_tape, .inl (cmt, 65536, .inl f))] := hD
  refine lv_aload_n hx hb d_Mo_feed_5 rfl (lv_at hl 0 rfl) ?_
  refine va_get (D := (dC, dI)) (ci := 11) (v := .int 0) (C := R_Mo) (T := F_Mo) (N := 53) hx hb htw i_Mo hown hK hP 0 rfl rfl 2 (by decide) (htw _ wd_10_53) (fun _ h9 => h9) rfl d_Mo_feed_6 ?_
  refine lv_bipush (v := 20) hx hb d_Mo_feed_9 (by decide) ?_
  refine lv_iadd hx hb d_Mo_feed_11 ?_
  refine lv_ldc (v := 65536) hx hb hown (htw _ wd_9_220) d_Mo_feed_12 ?_
  refine lv_icmp_le (tgt := 23) hx hb d_Mo_feed_14 rfl (fun _ => ?_) (fun hn => absurd (by decide) hn)
  refine lv_iconst (v := 0) hx hb d_Mo_feed_23 (by decide) ?_
  refine lv_istore hx hb d_Mo_feed_24 hl (by decide) rfl (fun ls hl => ?_)
  have hl : lv_has ls 8 [(6, .int 0), (0, .ref y0), (1, .int z1), (2, .int z2), (3, .int z3), (4, .int z4), (5, .int z5)] := hl
  have lp : ∀ (fuel : Nat) (k : Nat) (g : Nat → Int32) (H : Heap) (locs : List Loc) (ls : Array Slot), k ≤ 20 → 20 - k < fuel → lv_has ls 8 [(6, .int (nI k)), (0, .ref y0), (1, .int z1), (2, .int z2), (3, .int z3), (4, .int z4), (5, .int z5)] → va_P (dC, dI) classes [(y0, .inr (11, [.int 0, .ref m_tape, .int (nI k), .ref m_result, .int 0, .int ((-1)), .ref m_signs, .ref m_keptWords, .int 0, .int 0, .int 0, .long 0, .null, .int 0, .int 0, .int 0, .ref m_spelled, .ref m_pieced, .ref m_hexes, .ref m_words, .ref m_nextWords, .ref m_firstWords, .int 0, .ref m_pool, .int 0, .int 0, .null, .null, .ref m_chain, .ref m_waiting, .int 0, .int 0, .ref m_back, .ref m_spare, .int 0, .ref m_packed, .int 0, .int 0, .int 0, .int 0, .int 0, .long 0, .int 0, .int 0, .int 0, .long 0, .long 0, .ref m_theres, .int 0, .int 0, .int 0, .long 0, .int 0])), (m_tape, .inl (cmt, 65536, .inl g))] H → va_D A [(y0, .inr (11, [.int 0, .ref m_tape, .int (nI k), .ref m_result, .int 0, .int ((-1)), .ref m_signs, .ref m_keptWords, .int 0, .int 0, .int 0, .long 0, .null, .int 0, .int 0, .int 0, .ref m_spelled, .ref m_pieced, .ref m_hexes, .ref m_words, .ref m_nextWords, .ref m_firstWords, .int 0, .ref m_pool, .int 0, .int 0, .null, .null, .ref m_chain, .ref m_waiting, .int 0, .int 0, .ref m_back, .ref m_spare, .int 0, .ref m_packed, .int 0, .int 0, .int 0, .int 0, .int 0, .long 0, .int 0, .int 0, .int 0, .long 0, .long 0, .ref m_theres, .int 0, .int 0, .int 0, .long 0, .int 0])), (m_tape, .inl (cmt, 65536, .inl g))] → va_S A s.heap H locs → W p l e (headSpec ws_Mo_feed ({ frames := 0, cells := 0, slots := 0, locals := 0 })).room s m [.ref y0, .int z1, .int z2, .int z3, .int z4, .int z5].toArray below meth c H locs 0 0 (MQ below (va_Qi (fun (r : Int32) (_ : Unit) => r = nI 20) (fun _ t => ∃ (g2 : Nat → Int32), va_P (dC, dI) classes [(y0, .inr (11, [.int 0, .ref m_tape, .int (nI 20), .ref m_result, .int 0, .int ((-1)), .ref m_signs, .ref m_keptWords, .int 0, .int 0, .int 0, .long 0, .null, .int 0, .int 0, .int 0, .ref m_spelled, .ref m_pieced, .ref m_hexes, .ref m_words, .ref m_nextWords, .ref m_firstWords, .int 0, .ref m_pool, .int 0, .int 0, .null, .null, .ref m_chain, .ref m_waiting, .int 0, .int 0, .ref m_back, .ref m_spare, .int 0, .ref m_packed, .int 0, .int 0, .int 0, .int 0, .int 0, .long 0, .int 0, .int 0, .int 0, .long 0, .long 0, .ref m_theres, .int 0, .int 0, .int 0, .long 0, .int 0])), (m_tape, .inl (cmt, 65536, .inl g2))] t.heap ∧ va_K (dC, dI) classes [(cmt, .byte)] t ∧ va_D A [(y0, .inr (11, [.int 0, .ref m_tape, .int (nI 20), .ref m_result, .int 0, .int ((-1)), .ref m_signs, .ref m_keptWords, .int 0, .int 0, .int 0, .long 0, .null, .int 0, .int 0, .int 0, .ref m_spelled, .ref m_pieced, .ref m_hexes, .ref m_words, .ref m_nextWords, .ref m_firstWords, .int 0, .ref m_pool, .int 0, .int 0, .null, .null, .ref m_chain, .ref m_waiting, .int 0, .int 0, .ref m_back, .ref m_spare, .int 0, .ref m_packed, .int 0, .int 0, .int 0, .int 0, .int 0, .long 0, .int 0, .int 0, .int 0, .long 0, .long 0, .ref m_theres, .int 0, .int 0, .int 0, .long 0, .int 0])), (m_tape, .inl (cmt, 65536, .inl g2))]) A) [.ref y0, .int z1, .int z2, .int z3, .int z4, .int z5].toArray s 0 0 A) (F0 m 26 ls []) := by
    intro fuel
    induction fuel with
    | zero => intro k g H locs ls hk hm; omega
    | succ fuel ih =>
      intro k g H locs ls hk hm hl hP hD hS
      refine lv_iload hx hb d_Mo_feed_26 (lv_at hl 0 rfl) ?_
      refine lv_bipush (v := 20) hx hb d_Mo_feed_28 (by decide) ?_
      refine lv_icmp_ge (tgt := 120) hx hb d_Mo_feed_30 rfl (fun h1 => ?_) (fun h1 => ?_)
      · have h2 : k = 20 := by have := (nI_leI (a := 20) (b := k) (by omega) (by omega)).mp h1; omega
        subst h2
        refine lv_aload_n hx hb d_Mo_feed_120 rfl (lv_at hl 1 rfl) ?_
        refine va_get (D := (dC, dI)) (ci := 11) (v := .int (nI 20)) (C := R_Mo) (T := F_Mo) (N := 53) hx hb htw i_Mo hown hK hP 0 rfl rfl 2 (by decide) (htw _ wd_10_53) (fun _ h9 => h9) rfl d_Mo_feed_121 ?_
        have hP9 := hP.sub (ws' := [(y0, .inr (11, [.int 0, .ref m_tape, .int (nI 20), .ref m_result, .int 0, .int ((-1)), .ref m_signs, .ref m_keptWords, .int 0, .int 0, .int 0, .long 0, .null, .int 0, .int 0, .int 0, .ref m_spelled, .ref m_pieced, .ref m_hexes, .ref m_words, .ref m_nextWords, .ref m_firstWords, .int 0, .ref m_pool, .int 0, .int 0, .null, .null, .ref m_chain, .ref m_waiting, .int 0, .int 0, .ref m_back, .ref m_spare, .int 0, .ref m_packed, .int 0, .int 0, .int 0, .int 0, .int 0, .long 0, .int 0, .int 0, .int 0, .long 0, .long 0, .ref m_theres, .int 0, .int 0, .int 0, .long 0, .int 0])), (m_tape, .inl (cmt, 65536, .inl g))]) [0, 1] rfl
        have hD9 := hD.sub (ws' := [(y0, .inr (11, [.int 0, .ref m_tape, .int (nI 20), .ref m_result, .int 0, .int ((-1)), .ref m_signs, .ref m_keptWords, .int 0, .int 0, .int 0, .long 0, .null, .int 0, .int 0, .int 0, .ref m_spelled, .ref m_pieced, .ref m_hexes, .ref m_words, .ref m_nextWords, .ref m_firstWords, .int 0, .ref m_pool, .int 0, .int 0, .null, .null, .ref m_chain, .ref m_waiting, .int 0, .int 0, .ref m_back, .ref m_spare, .int 0, .ref m_packed, .int 0, .int 0, .int 0, .int 0, .int 0, .long 0, .int 0, .int 0, .int 0, .long 0, .long 0, .ref m_theres, .int 0, .int 0, .int 0, .long 0, .int 0])), (m_tape, .inl (cmt, 65536, .inl g))]) [0, 1] (by decide) rfl
        have hK9 := hK.sub (tys' := [(cmt, .byte)]) [0] rfl
        refine W.widen (k := 0) (n := 0) (by omega) (by omega) ?_
        exact W.iret (v := nI 20) hx hb hr (fun t ht hW => ⟨⟨nI 20, (), rfl, rfl, g, by rw [ht]; exact hP9, va_K.moved hW.alike hK9, hD9⟩, hS.F ht⟩) hS.2.2 d_Mo_feed_124
      · have h2 : k < 20 := by have := (not_congr (nI_leI (a := 20) (b := k) (by omega) (by omega))).mp h1; omega
        refine lv_iload hx hb d_Mo_feed_33 (lv_at hl 0 rfl) ?_
        refine lv_iconst (v := 4) hx hb d_Mo_feed_35 (by decide) ?_
        refine lv_icmp_ge (tgt := 43) hx hb d_Mo_feed_36 rfl (fun h3 => ?_) (fun h3 => ?_)
        · refine lv_iload hx hb d_Mo_feed_43 (lv_at hl 0 rfl) ?_
          refine lv_bipush (v := 8) hx hb d_Mo_feed_45 (by decide) ?_
          refine lv_icmp_ge (tgt := 54) hx hb d_Mo_feed_47 rfl (fun h3 => ?_) (fun h3 => ?_)
          · refine lv_iload hx hb d_Mo_feed_54 (lv_at hl 0 rfl) ?_
            refine lv_bipush (v := 12) hx hb d_Mo_feed_56 (by decide) ?_
            refine lv_icmp_ge (tgt := 65) hx hb d_Mo_feed_58 rfl (fun h3 => ?_) (fun h3 => ?_)
            · refine lv_iload hx hb d_Mo_feed_65 (lv_at hl 0 rfl) ?_
              refine lv_bipush (v := 16) hx hb d_Mo_feed_67 (by decide) ?_
              refine lv_icmp_ge (tgt := 77) hx hb d_Mo_feed_69 rfl (fun h3 => ?_) (fun h3 => ?_)
              · refine lv_iload hx hb d_Mo_feed_77 (lv_at hl 6 rfl) ?_
                refine lv_istore hx hb d_Mo_feed_79 hl (by decide) rfl (fun ls hl => ?_)
                have hl : lv_has ls 8 [(7, .int z5), (6, .int (nI k)), (0, .ref y0), (1, .int z1), (2, .int z2), (3, .int z3), (4, .int z4), (5, .int z5)] := hl
                refine lv_aload_n hx hb d_Mo_feed_81 rfl (lv_at hl 2 rfl) ?_
                refine va_get (D := (dC, dI)) (ci := 11) (v := .ref m_tape) (C := R_Mo) (T := F_Mo) (N := 53) hx hb htw i_Mo hown hK hP 0 rfl rfl 1 (by decide) (htw _ wd_10_52) (fun _ h9 => h9) rfl d_Mo_feed_82 ?_
                refine lv_aload_n hx hb d_Mo_feed_85 rfl (lv_at hl 2 rfl) ?_
                refine va_get (D := (dC, dI)) (ci := 11) (v := .int (nI k)) (C := R_Mo) (T := F_Mo) (N := 53) hx hb htw i_Mo hown hK hP 0 rfl rfl 2 (by decide) (htw _ wd_10_53) (fun _ h9 => h9) rfl d_Mo_feed_86 ?_
                refine lv_iload hx hb d_Mo_feed_89 (lv_at hl 0 rfl) ?_
                refine lv_bipush (v := 24) hx hb d_Mo_feed_91 (by decide) ?_
                refine lv_bipush (v := 8) hx hb d_Mo_feed_93 (by decide) ?_
                refine lv_iload hx hb d_Mo_feed_95 (lv_at hl 1 rfl) ?_
                refine lv_iconst (v := 4) hx hb d_Mo_feed_97 (by decide) ?_
                refine lv_irem hx hb d_Mo_feed_98 (by decide) ?_
                refine lv_imul hx hb d_Mo_feed_99 ?_
                refine lv_isub hx hb d_Mo_feed_100 ?_
                refine lv_ishr hx hb d_Mo_feed_101 ?_
                refine lv_i2b hx hb d_Mo_feed_102 rfl ?_
                refine va_bast hx hb hK hP hD hS 1 0 rfl rfl (vp_in_nI (by omega) (by decide)) d_Mo_feed_103 (fun H locs hP hD hS => ?_)
                have hP : va_P (dC, dI) classes [(y0, .inr (11, [.int 0, .ref m_tape, .int (nI k), .ref m_result, .int 0, .int ((-1)), .ref m_signs, .ref m_keptWords, .int 0, .int 0, .int 0, .long 0, .null, .int 0, .int 0, .int 0, .ref m_spelled, .ref m_pieced, .ref m_hexes, .ref m_words, .ref m_nextWords, .ref m_firstWords, .int 0, .ref m_pool, .int 0, .int 0, .null, .null, .ref m_chain, .ref m_waiting, .int 0, .int 0, .ref m_back, .ref m_spare, .int 0, .ref m_packed, .int 0, .int 0, .int 0, .int 0, .int 0, .long 0, .int 0, .int 0, .int 0, .long 0, .long 0, .ref m_theres, .int 0, .int 0, .int 0, .long 0, .int 0])), (m_tape, .inl (cmt, 65536, .inl (upd g (nI k).toNatClampNeg (vp_nar .byte (((z5 >>> ((24 - (8 * ((nI k) - (nI k) / 4 * 4))) &&& 31)) : Int32).toInt8.toInt32)))))] H := hP
                have hD : va_D A [(y0, .inr (11, [.int 0, .ref m_tape, .int (nI k), .ref m_result, .int 0, .int ((-1)), .ref m_signs, .ref m_keptWords, .int 0, .int 0, .int 0, .long 0, .null, .int 0, .int 0, .int 0, .ref m_spelled, .ref m_pieced, .ref m_hexes, .ref m_words, .ref m_nextWords, .ref m_firstWords, .int 0, .ref m_pool, .int 0, .int 0, .null, .null, .ref m_chain, .ref m_waiting, .int 0, .int 0, .ref m_back, .ref m_spare, .int 0, .ref m_packed, .int 0, .int 0, .int 0, .int 0, .int 0, .long 0, .int 0, .int 0, .int 0, .long 0, .long 0, .ref m_theres, .int 0, .int 0, .int 0, .long 0, .int 0])), (m_tape, .inl (cmt, 65536, .inl (upd g (nI k).toNatClampNeg (vp_nar .byte (((z5 >>> ((24 - (8 * ((nI k) - (nI k) / 4 * 4))) &&& 31)) : Int32).toInt8.toInt32)))))] := hD
                refine lv_aload_n hx hb d_Mo_feed_104 rfl (lv_at hl 2 rfl) ?_
                refine lv_dup hx hb d_Mo_feed_105 rfl ?_
                refine va_get (D := (dC, dI)) (ci := 11) (v := .int (nI k)) (C := R_Mo) (T := F_Mo) (N := 53) hx hb htw i_Mo hown hK hP 0 rfl rfl 2 (by decide) (htw _ wd_10_53) (fun _ h9 => h9) rfl d_Mo_feed_106 ?_
                refine lv_iconst (v := 1) hx hb d_Mo_feed_109 (by decide) ?_
                refine lv_iadd hx hb d_Mo_feed_110 ?_
                refine lv_topi (fun z9 e9 => ?_)
                have e9 : z9 = nI (k + 1) := e9.trans (nI_1 k)
                subst e9
                refine va_put (D := (dC, dI)) (ci := 11) (v := .int (nI (k + 1))) (ty := .int) (C := R_Mo) (T := F_Mo) (N := 53) hx hb htw i_Mo t_Mo t_Mo_ok n_Mo hown hK hP hD hS 0 rfl rfl 2 (by decide) (htw _ wd_10_53) (fun _ h9 => h9) rfl (by decide +kernel) rfl rfl (Nat.le_of_ble_eq_true rfl) d_Mo_feed_111 (fun H locs hP hD hS => ?_)
                have hP : va_P (dC, dI) classes [(y0, .inr (11, [.int 0, .ref m_tape, .int (nI (k + 1)), .ref m_result, .int 0, .int ((-1)), .ref m_signs, .ref m_keptWords, .int 0, .int 0, .int 0, .long 0, .null, .int 0, .int 0, .int 0, .ref m_spelled, .ref m_pieced, .ref m_hexes, .ref m_words, .ref m_nextWords, .ref m_firstWords, .int 0, .ref m_pool, .int 0, .int 0, .null, .null, .ref m_chain, .ref m_waiting, .int 0, .int 0, .ref m_back, .ref m_spare, .int 0, .ref m_packed, .int 0, .int 0, .int 0, .int 0, .int 0, .long 0, .int 0, .int 0, .int 0, .long 0, .long 0, .ref m_theres, .int 0, .int 0, .int 0, .long 0, .int 0])), (m_tape, .inl (cmt, 65536, .inl (upd g (nI k).toNatClampNeg (vp_nar .byte (((z5 >>> ((24 - (8 * ((nI k) - (nI k) / 4 * 4))) &&& 31)) : Int32).toInt8.toInt32)))))] H := hP
                have hD : va_D A [(y0, .inr (11, [.int 0, .ref m_tape, .int (nI (k + 1)), .ref m_result, .int 0, .int ((-1)), .ref m_signs, .ref m_keptWords, .int 0, .int 0, .int 0, .long 0, .null, .int 0, .int 0, .int 0, .ref m_spelled, .ref m_pieced, .ref m_hexes, .ref m_words, .ref m_nextWords, .ref m_firstWords, .int 0, .ref m_pool, .int 0, .int 0, .null, .null, .ref m_chain, .ref m_waiting, .int 0, .int 0, .ref m_back, .ref m_spare, .int 0, .ref m_packed, .int 0, .int 0, .int 0, .int 0, .int 0, .long 0, .int 0, .int 0, .int 0, .long 0, .long 0, .ref m_theres, .int 0, .int 0, .int 0, .long 0, .int 0])), (m_tape, .inl (cmt, 65536, .inl (upd g (nI k).toNatClampNeg (vp_nar .byte (((z5 >>> ((24 - (8 * ((nI k) - (nI k) / 4 * 4))) &&& 31)) : Int32).toInt8.toInt32)))))] := hD
                refine lv_iinc (k := 1) (v := nI (k + 1)) hx hb d_Mo_feed_114 hl rfl (nI_1 k) (by decide) rfl (fun ls hl => ?_)
                have hl : lv_has ls 8 [(6, .int (nI (k + 1))), (7, .int z5), (0, .ref y0), (1, .int z1), (2, .int z2), (3, .int z3), (4, .int z4), (5, .int z5)] := hl
                refine lv_goto (tgt := 26) hx hb d_Mo_feed_117 rfl ?_
                exact ih (k + 1) (upd g (nI k).toNatClampNeg (vp_nar .byte (((z5 >>> ((24 - (8 * ((nI k) - (nI k) / 4 * 4))) &&& 31)) : Int32).toInt8.toInt32))) _ _ _ (by omega) (by omega) (lv_sub hl [0, 2, 3, 4, 5, 6, 7] rfl) (hP.sub [0, 1] rfl) (hD.sub [0, 1] (by decide) rfl) hS
              · refine lv_iload hx hb d_Mo_feed_72 (lv_at hl 5 rfl) ?_
                refine lv_goto (tgt := 79) hx hb d_Mo_feed_74 rfl ?_
                refine lv_istore hx hb d_Mo_feed_79 hl (by decide) rfl (fun ls hl => ?_)
                have hl : lv_has ls 8 [(7, .int z4), (6, .int (nI k)), (0, .ref y0), (1, .int z1), (2, .int z2), (3, .int z3), (4, .int z4), (5, .int z5)] := hl
                refine lv_aload_n hx hb d_Mo_feed_81 rfl (lv_at hl 2 rfl) ?_
                refine va_get (D := (dC, dI)) (ci := 11) (v := .ref m_tape) (C := R_Mo) (T := F_Mo) (N := 53) hx hb htw i_Mo hown hK hP 0 rfl rfl 1 (by decide) (htw _ wd_10_52) (fun _ h9 => h9) rfl d_Mo_feed_82 ?_
                refine lv_aload_n hx hb d_Mo_feed_85 rfl (lv_at hl 2 rfl) ?_
                refine va_get (D := (dC, dI)) (ci := 11) (v := .int (nI k)) (C := R_Mo) (T := F_Mo) (N := 53) hx hb htw i_Mo hown hK hP 0 rfl rfl 2 (by decide) (htw _ wd_10_53) (fun _ h9 => h9) rfl d_Mo_feed_86 ?_
                refine lv_iload hx hb d_Mo_feed_89 (lv_at hl 0 rfl) ?_
                refine lv_bipush (v := 24) hx hb d_Mo_feed_91 (by decide) ?_
                refine lv_bipush (v := 8) hx hb d_Mo_feed_93 (by decide) ?_
                refine lv_iload hx hb d_Mo_feed_95 (lv_at hl 1 rfl) ?_
                refine lv_iconst (v := 4) hx hb d_Mo_feed_97 (by decide) ?_
                refine lv_irem hx hb d_Mo_feed_98 (by decide) ?_
                refine lv_imul hx hb d_Mo_feed_99 ?_
                refine lv_isub hx hb d_Mo_feed_100 ?_
                refine lv_ishr hx hb d_Mo_feed_101 ?_
                refine lv_i2b hx hb d_Mo_feed_102 rfl ?_
                refine va_bast hx hb hK hP hD hS 1 0 rfl rfl (vp_in_nI (by omega) (by decide)) d_Mo_feed_103 (fun H locs hP hD hS => ?_)
                have hP : va_P (dC, dI) classes [(y0, .inr (11, [.int 0, .ref m_tape, .int (nI k), .ref m_result, .int 0, .int ((-1)), .ref m_signs, .ref m_keptWords, .int 0, .int 0, .int 0, .long 0, .null, .int 0, .int 0, .int 0, .ref m_spelled, .ref m_pieced, .ref m_hexes, .ref m_words, .ref m_nextWords, .ref m_firstWords, .int 0, .ref m_pool, .int 0, .int 0, .null, .null, .ref m_chain, .ref m_waiting, .int 0, .int 0, .ref m_back, .ref m_spare, .int 0, .ref m_packed, .int 0, .int 0, .int 0, .int 0, .int 0, .long 0, .int 0, .int 0, .int 0, .long 0, .long 0, .ref m_theres, .int 0, .int 0, .int 0, .long 0, .int 0])), (m_tape, .inl (cmt, 65536, .inl (upd g (nI k).toNatClampNeg (vp_nar .byte (((z4 >>> ((24 - (8 * ((nI k) - (nI k) / 4 * 4))) &&& 31)) : Int32).toInt8.toInt32)))))] H := hP
                have hD : va_D A [(y0, .inr (11, [.int 0, .ref m_tape, .int (nI k), .ref m_result, .int 0, .int ((-1)), .ref m_signs, .ref m_keptWords, .int 0, .int 0, .int 0, .long 0, .null, .int 0, .int 0, .int 0, .ref m_spelled, .ref m_pieced, .ref m_hexes, .ref m_words, .ref m_nextWords, .ref m_firstWords, .int 0, .ref m_pool, .int 0, .int 0, .null, .null, .ref m_chain, .ref m_waiting, .int 0, .int 0, .ref m_back, .ref m_spare, .int 0, .ref m_packed, .int 0, .int 0, .int 0, .int 0, .int 0, .long 0, .int 0, .int 0, .int 0, .long 0, .long 0, .ref m_theres, .int 0, .int 0, .int 0, .long 0, .int 0])), (m_tape, .inl (cmt, 65536, .inl (upd g (nI k).toNatClampNeg (vp_nar .byte (((z4 >>> ((24 - (8 * ((nI k) - (nI k) / 4 * 4))) &&& 31)) : Int32).toInt8.toInt32)))))] := hD
                refine lv_aload_n hx hb d_Mo_feed_104 rfl (lv_at hl 2 rfl) ?_
                refine lv_dup hx hb d_Mo_feed_105 rfl ?_
                refine va_get (D := (dC, dI)) (ci := 11) (v := .int (nI k)) (C := R_Mo) (T := F_Mo) (N := 53) hx hb htw i_Mo hown hK hP 0 rfl rfl 2 (by decide) (htw _ wd_10_53) (fun _ h9 => h9) rfl d_Mo_feed_106 ?_
                refine lv_iconst (v := 1) hx hb d_Mo_feed_109 (by decide) ?_
                refine lv_iadd hx hb d_Mo_feed_110 ?_
                refine lv_topi (fun z9 e9 => ?_)
                have e9 : z9 = nI (k + 1) := e9.trans (nI_1 k)
                subst e9
                refine va_put (D := (dC, dI)) (ci := 11) (v := .int (nI (k + 1))) (ty := .int) (C := R_Mo) (T := F_Mo) (N := 53) hx hb htw i_Mo t_Mo t_Mo_ok n_Mo hown hK hP hD hS 0 rfl rfl 2 (by decide) (htw _ wd_10_53) (fun _ h9 => h9) rfl (by decide +kernel) rfl rfl (Nat.le_of_ble_eq_true rfl) d_Mo_feed_111 (fun H locs hP hD hS => ?_)
                have hP : va_P (dC, dI) classes [(y0, .inr (11, [.int 0, .ref m_tape, .int (nI (k + 1)), .ref m_result, .int 0, .int ((-1)), .ref m_signs, .ref m_keptWords, .int 0, .int 0, .int 0, .long 0, .null, .int 0, .int 0, .int 0, .ref m_spelled, .ref m_pieced, .ref m_hexes, .ref m_words, .ref m_nextWords, .ref m_firstWords, .int 0, .ref m_pool, .int 0, .int 0, .null, .null, .ref m_chain, .ref m_waiting, .int 0, .int 0, .ref m_back, .ref m_spare, .int 0, .ref m_packed, .int 0, .int 0, .int 0, .int 0, .int 0, .long 0, .int 0, .int 0, .int 0, .long 0, .long 0, .ref m_theres, .int 0, .int 0, .int 0, .long 0, .int 0])), (m_tape, .inl (cmt, 65536, .inl (upd g (nI k).toNatClampNeg (vp_nar .byte (((z4 >>> ((24 - (8 * ((nI k) - (nI k) / 4 * 4))) &&& 31)) : Int32).toInt8.toInt32)))))] H := hP
                have hD : va_D A [(y0, .inr (11, [.int 0, .ref m_tape, .int (nI (k + 1)), .ref m_result, .int 0, .int ((-1)), .ref m_signs, .ref m_keptWords, .int 0, .int 0, .int 0, .long 0, .null, .int 0, .int 0, .int 0, .ref m_spelled, .ref m_pieced, .ref m_hexes, .ref m_words, .ref m_nextWords, .ref m_firstWords, .int 0, .ref m_pool, .int 0, .int 0, .null, .null, .ref m_chain, .ref m_waiting, .int 0, .int 0, .ref m_back, .ref m_spare, .int 0, .ref m_packed, .int 0, .int 0, .int 0, .int 0, .int 0, .long 0, .int 0, .int 0, .int 0, .long 0, .long 0, .ref m_theres, .int 0, .int 0, .int 0, .long 0, .int 0])), (m_tape, .inl (cmt, 65536, .inl (upd g (nI k).toNatClampNeg (vp_nar .byte (((z4 >>> ((24 - (8 * ((nI k) - (nI k) / 4 * 4))) &&& 31)) : Int32).toInt8.toInt32)))))] := hD
                refine lv_iinc (k := 1) (v := nI (k + 1)) hx hb d_Mo_feed_114 hl rfl (nI_1 k) (by decide) rfl (fun ls hl => ?_)
                have hl : lv_has ls 8 [(6, .int (nI (k + 1))), (7, .int z4), (0, .ref y0), (1, .int z1), (2, .int z2), (3, .int z3), (4, .int z4), (5, .int z5)] := hl
                refine lv_goto (tgt := 26) hx hb d_Mo_feed_117 rfl ?_
                exact ih (k + 1) (upd g (nI k).toNatClampNeg (vp_nar .byte (((z4 >>> ((24 - (8 * ((nI k) - (nI k) / 4 * 4))) &&& 31)) : Int32).toInt8.toInt32))) _ _ _ (by omega) (by omega) (lv_sub hl [0, 2, 3, 4, 5, 6, 7] rfl) (hP.sub [0, 1] rfl) (hD.sub [0, 1] (by decide) rfl) hS
            · refine lv_iload_n hx hb d_Mo_feed_61 rfl (lv_at hl 4 rfl) ?_
              refine lv_goto (tgt := 79) hx hb d_Mo_feed_62 rfl ?_
              refine lv_istore hx hb d_Mo_feed_79 hl (by decide) rfl (fun ls hl => ?_)
              have hl : lv_has ls 8 [(7, .int z3), (6, .int (nI k)), (0, .ref y0), (1, .int z1), (2, .int z2), (3, .int z3), (4, .int z4), (5, .int z5)] := hl
              refine lv_aload_n hx hb d_Mo_feed_81 rfl (lv_at hl 2 rfl) ?_
              refine va_get (D := (dC, dI)) (ci := 11) (v := .ref m_tape) (C := R_Mo) (T := F_Mo) (N := 53) hx hb htw i_Mo hown hK hP 0 rfl rfl 1 (by decide) (htw _ wd_10_52) (fun _ h9 => h9) rfl d_Mo_feed_82 ?_
              refine lv_aload_n hx hb d_Mo_feed_85 rfl (lv_at hl 2 rfl) ?_
              refine va_get (D := (dC, dI)) (ci := 11) (v := .int (nI k)) (C := R_Mo) (T := F_Mo) (N := 53) hx hb htw i_Mo hown hK hP 0 rfl rfl 2 (by decide) (htw _ wd_10_53) (fun _ h9 => h9) rfl d_Mo_feed_86 ?_
              refine lv_iload hx hb d_Mo_feed_89 (lv_at hl 0 rfl) ?_
              refine lv_bipush (v := 24) hx hb d_Mo_feed_91 (by decide) ?_
              refine lv_bipush (v := 8) hx hb d_Mo_feed_93 (by decide) ?_
              refine lv_iload hx hb d_Mo_feed_95 (lv_at hl 1 rfl) ?_
              refine lv_iconst (v := 4) hx hb d_Mo_feed_97 (by decide) ?_
              refine lv_irem hx hb d_Mo_feed_98 (by decide) ?_
              refine lv_imul hx hb d_Mo_feed_99 ?_
              refine lv_isub hx hb d_Mo_feed_100 ?_
              refine lv_ishr hx hb d_Mo_feed_101 ?_
              refine lv_i2b hx hb d_Mo_feed_102 rfl ?_
              refine va_bast hx hb hK hP hD hS 1 0 rfl rfl (vp_in_nI (by omega) (by decide)) d_Mo_feed_103 (fun H locs hP hD hS => ?_)
              have hP : va_P (dC, dI) classes [(y0, .inr (11, [.int 0, .ref m_tape, .int (nI k), .ref m_result, .int 0, .int ((-1)), .ref m_signs, .ref m_keptWords, .int 0, .int 0, .int 0, .long 0, .null, .int 0, .int 0, .int 0, .ref m_spelled, .ref m_pieced, .ref m_hexes, .ref m_words, .ref m_nextWords, .ref m_firstWords, .int 0, .ref m_pool, .int 0, .int 0, .null, .null, .ref m_chain, .ref m_waiting, .int 0, .int 0, .ref m_back, .ref m_spare, .int 0, .ref m_packed, .int 0, .int 0, .int 0, .int 0, .int 0, .long 0, .int 0, .int 0, .int 0, .long 0, .long 0, .ref m_theres, .int 0, .int 0, .int 0, .long 0, .int 0])), (m_tape, .inl (cmt, 65536, .inl (upd g (nI k).toNatClampNeg (vp_nar .byte (((z3 >>> ((24 - (8 * ((nI k) - (nI k) / 4 * 4))) &&& 31)) : Int32).toInt8.toInt32)))))] H := hP
              have hD : va_D A [(y0, .inr (11, [.int 0, .ref m_tape, .int (nI k), .ref m_result, .int 0, .int ((-1)), .ref m_signs, .ref m_keptWords, .int 0, .int 0, .int 0, .long 0, .null, .int 0, .int 0, .int 0, .ref m_spelled, .ref m_pieced, .ref m_hexes, .ref m_words, .ref m_nextWords, .ref m_firstWords, .int 0, .ref m_pool, .int 0, .int 0, .null, .null, .ref m_chain, .ref m_waiting, .int 0, .int 0, .ref m_back, .ref m_spare, .int 0, .ref m_packed, .int 0, .int 0, .int 0, .int 0, .int 0, .long 0, .int 0, .int 0, .int 0, .long 0, .long 0, .ref m_theres, .int 0, .int 0, .int 0, .long 0, .int 0])), (m_tape, .inl (cmt, 65536, .inl (upd g (nI k).toNatClampNeg (vp_nar .byte (((z3 >>> ((24 - (8 * ((nI k) - (nI k) / 4 * 4))) &&& 31)) : Int32).toInt8.toInt32)))))] := hD
              refine lv_aload_n hx hb d_Mo_feed_104 rfl (lv_at hl 2 rfl) ?_
              refine lv_dup hx hb d_Mo_feed_105 rfl ?_
              refine va_get (D := (dC, dI)) (ci := 11) (v := .int (nI k)) (C := R_Mo) (T := F_Mo) (N := 53) hx hb htw i_Mo hown hK hP 0 rfl rfl 2 (by decide) (htw _ wd_10_53) (fun _ h9 => h9) rfl d_Mo_feed_106 ?_
              refine lv_iconst (v := 1) hx hb d_Mo_feed_109 (by decide) ?_
              refine lv_iadd hx hb d_Mo_feed_110 ?_
              refine lv_topi (fun z9 e9 => ?_)
              have e9 : z9 = nI (k + 1) := e9.trans (nI_1 k)
              subst e9
              refine va_put (D := (dC, dI)) (ci := 11) (v := .int (nI (k + 1))) (ty := .int) (C := R_Mo) (T := F_Mo) (N := 53) hx hb htw i_Mo t_Mo t_Mo_ok n_Mo hown hK hP hD hS 0 rfl rfl 2 (by decide) (htw _ wd_10_53) (fun _ h9 => h9) rfl (by decide +kernel) rfl rfl (Nat.le_of_ble_eq_true rfl) d_Mo_feed_111 (fun H locs hP hD hS => ?_)
              have hP : va_P (dC, dI) classes [(y0, .inr (11, [.int 0, .ref m_tape, .int (nI (k + 1)), .ref m_result, .int 0, .int ((-1)), .ref m_signs, .ref m_keptWords, .int 0, .int 0, .int 0, .long 0, .null, .int 0, .int 0, .int 0, .ref m_spelled, .ref m_pieced, .ref m_hexes, .ref m_words, .ref m_nextWords, .ref m_firstWords, .int 0, .ref m_pool, .int 0, .int 0, .null, .null, .ref m_chain, .ref m_waiting, .int 0, .int 0, .ref m_back, .ref m_spare, .int 0, .ref m_packed, .int 0, .int 0, .int 0, .int 0, .int 0, .long 0, .int 0, .int 0, .int 0, .long 0, .long 0, .ref m_theres, .int 0, .int 0, .int 0, .long 0, .int 0])), (m_tape, .inl (cmt, 65536, .inl (upd g (nI k).toNatClampNeg (vp_nar .byte (((z3 >>> ((24 - (8 * ((nI k) - (nI k) / 4 * 4))) &&& 31)) : Int32).toInt8.toInt32)))))] H := hP
              have hD : va_D A [(y0, .inr (11, [.int 0, .ref m_tape, .int (nI (k + 1)), .ref m_result, .int 0, .int ((-1)), .ref m_signs, .ref m_keptWords, .int 0, .int 0, .int 0, .long 0, .null, .int 0, .int 0, .int 0, .ref m_spelled, .ref m_pieced, .ref m_hexes, .ref m_words, .ref m_nextWords, .ref m_firstWords, .int 0, .ref m_pool, .int 0, .int 0, .null, .null, .ref m_chain, .ref m_waiting, .int 0, .int 0, .ref m_back, .ref m_spare, .int 0, .ref m_packed, .int 0, .int 0, .int 0, .int 0, .int 0, .long 0, .int 0, .int 0, .int 0, .long 0, .long 0, .ref m_theres, .int 0, .int 0, .int 0, .long 0, .int 0])), (m_tape, .inl (cmt, 65536, .inl (upd g (nI k).toNatClampNeg (vp_nar .byte (((z3 >>> ((24 - (8 * ((nI k) - (nI k) / 4 * 4))) &&& 31)) : Int32).toInt8.toInt32)))))] := hD
              refine lv_iinc (k := 1) (v := nI (k + 1)) hx hb d_Mo_feed_114 hl rfl (nI_1 k) (by decide) rfl (fun ls hl => ?_)
              have hl : lv_has ls 8 [(6, .int (nI (k + 1))), (7, .int z3), (0, .ref y0), (1, .int z1), (2, .int z2), (3, .int z3), (4, .int z4), (5, .int z5)] := hl
              refine lv_goto (tgt := 26) hx hb d_Mo_feed_117 rfl ?_
              exact ih (k + 1) (upd g (nI k).toNatClampNeg (vp_nar .byte (((z3 >>> ((24 - (8 * ((nI k) - (nI k) / 4 * 4))) &&& 31)) : Int32).toInt8.toInt32))) _ _ _ (by omega) (by omega) (lv_sub hl [0, 2, 3, 4, 5, 6, 7] rfl) (hP.sub [0, 1] rfl) (hD.sub [0, 1] (by decide) rfl) hS
          · refine lv_iload_n hx hb d_Mo_feed_50 rfl (lv_at hl 3 rfl) ?_
            refine lv_goto (tgt := 79) hx hb d_Mo_feed_51 rfl ?_
            refine lv_istore hx hb d_Mo_feed_79 hl (by decide) rfl (fun ls hl => ?_)
            have hl : lv_has ls 8 [(7, .int z2), (6, .int (nI k)), (0, .ref y0), (1, .int z1), (2, .int z2), (3, .int z3), (4, .int z4), (5, .int z5)] := hl
            refine lv_aload_n hx hb d_Mo_feed_81 rfl (lv_at hl 2 rfl) ?_
            refine va_get (D := (dC, dI)) (ci := 11) (v := .ref m_tape) (C := R_Mo) (T := F_Mo) (N := 53) hx hb htw i_Mo hown hK hP 0 rfl rfl 1 (by decide) (htw _ wd_10_52) (fun _ h9 => h9) rfl d_Mo_feed_82 ?_
            refine lv_aload_n hx hb d_Mo_feed_85 rfl (lv_at hl 2 rfl) ?_
            refine va_get (D := (dC, dI)) (ci := 11) (v := .int (nI k)) (C := R_Mo) (T := F_Mo) (N := 53) hx hb htw i_Mo hown hK hP 0 rfl rfl 2 (by decide) (htw _ wd_10_53) (fun _ h9 => h9) rfl d_Mo_feed_86 ?_
            refine lv_iload hx hb d_Mo_feed_89 (lv_at hl 0 rfl) ?_
            refine lv_bipush (v := 24) hx hb d_Mo_feed_91 (by decide) ?_
            refine lv_bipush (v := 8) hx hb d_Mo_feed_93 (by decide) ?_
            refine lv_iload hx hb d_Mo_feed_95 (lv_at hl 1 rfl) ?_
            refine lv_iconst (v := 4) hx hb d_Mo_feed_97 (by decide) ?_
            refine lv_irem hx hb d_Mo_feed_98 (by decide) ?_
            refine lv_imul hx hb d_Mo_feed_99 ?_
            refine lv_isub hx hb d_Mo_feed_100 ?_
            refine lv_ishr hx hb d_Mo_feed_101 ?_
            refine lv_i2b hx hb d_Mo_feed_102 rfl ?_
            refine va_bast hx hb hK hP hD hS 1 0 rfl rfl (vp_in_nI (by omega) (by decide)) d_Mo_feed_103 (fun H locs hP hD hS => ?_)
            have hP : va_P (dC, dI) classes [(y0, .inr (11, [.int 0, .ref m_tape, .int (nI k), .ref m_result, .int 0, .int ((-1)), .ref m_signs, .ref m_keptWords, .int 0, .int 0, .int 0, .long 0, .null, .int 0, .int 0, .int 0, .ref m_spelled, .ref m_pieced, .ref m_hexes, .ref m_words, .ref m_nextWords, .ref m_firstWords, .int 0, .ref m_pool, .int 0, .int 0, .null, .null, .ref m_chain, .ref m_waiting, .int 0, .int 0, .ref m_back, .ref m_spare, .int 0, .ref m_packed, .int 0, .int 0, .int 0, .int 0, .int 0, .long 0, .int 0, .int 0, .int 0, .long 0, .long 0, .ref m_theres, .int 0, .int 0, .int 0, .long 0, .int 0])), (m_tape, .inl (cmt, 65536, .inl (upd g (nI k).toNatClampNeg (vp_nar .byte (((z2 >>> ((24 - (8 * ((nI k) - (nI k) / 4 * 4))) &&& 31)) : Int32).toInt8.toInt32)))))] H := hP
            have hD : va_D A [(y0, .inr (11, [.int 0, .ref m_tape, .int (nI k), .ref m_result, .int 0, .int ((-1)), .ref m_signs, .ref m_keptWords, .int 0, .int 0, .int 0, .long 0, .null, .int 0, .int 0, .int 0, .ref m_spelled, .ref m_pieced, .ref m_hexes, .ref m_words, .ref m_nextWords, .ref m_firstWords, .int 0, .ref m_pool, .int 0, .int 0, .null, .null, .ref m_chain, .ref m_waiting, .int 0, .int 0, .ref m_back, .ref m_spare, .int 0, .ref m_packed, .int 0, .int 0, .int 0, .int 0, .int 0, .long 0, .int 0, .int 0, .int 0, .long 0, .long 0, .ref m_theres, .int 0, .int 0, .int 0, .long 0, .int 0])), (m_tape, .inl (cmt, 65536, .inl (upd g (nI k).toNatClampNeg (vp_nar .byte (((z2 >>> ((24 - (8 * ((nI k) - (nI k) / 4 * 4))) &&& 31)) : Int32).toInt8.toInt32)))))] := hD
            refine lv_aload_n hx hb d_Mo_feed_104 rfl (lv_at hl 2 rfl) ?_
            refine lv_dup hx hb d_Mo_feed_105 rfl ?_
            refine va_get (D := (dC, dI)) (ci := 11) (v := .int (nI k)) (C := R_Mo) (T := F_Mo) (N := 53) hx hb htw i_Mo hown hK hP 0 rfl rfl 2 (by decide) (htw _ wd_10_53) (fun _ h9 => h9) rfl d_Mo_feed_106 ?_
            refine lv_iconst (v := 1) hx hb d_Mo_feed_109 (by decide) ?_
            refine lv_iadd hx hb d_Mo_feed_110 ?_
            refine lv_topi (fun z9 e9 => ?_)
            have e9 : z9 = nI (k + 1) := e9.trans (nI_1 k)
            subst e9
            refine va_put (D := (dC, dI)) (ci := 11) (v := .int (nI (k + 1))) (ty := .int) (C := R_Mo) (T := F_Mo) (N := 53) hx hb htw i_Mo t_Mo t_Mo_ok n_Mo hown hK hP hD hS 0 rfl rfl 2 (by decide) (htw _ wd_10_53) (fun _ h9 => h9) rfl (by decide +kernel) rfl rfl (Nat.le_of_ble_eq_true rfl) d_Mo_feed_111 (fun H locs hP hD hS => ?_)
            have hP : va_P (dC, dI) classes [(y0, .inr (11, [.int 0, .ref m_tape, .int (nI (k + 1)), .ref m_result, .int 0, .int ((-1)), .ref m_signs, .ref m_keptWords, .int 0, .int 0, .int 0, .long 0, .null, .int 0, .int 0, .int 0, .ref m_spelled, .ref m_pieced, .ref m_hexes, .ref m_words, .ref m_nextWords, .ref m_firstWords, .int 0, .ref m_pool, .int 0, .int 0, .null, .null, .ref m_chain, .ref m_waiting, .int 0, .int 0, .ref m_back, .ref m_spare, .int 0, .ref m_packed, .int 0, .int 0, .int 0, .int 0, .int 0, .long 0, .int 0, .int 0, .int 0, .long 0, .long 0, .ref m_theres, .int 0, .int 0, .int 0, .long 0, .int 0])), (m_tape, .inl (cmt, 65536, .inl (upd g (nI k).toNatClampNeg (vp_nar .byte (((z2 >>> ((24 - (8 * ((nI k) - (nI k) / 4 * 4))) &&& 31)) : Int32).toInt8.toInt32)))))] H := hP
            have hD : va_D A [(y0, .inr (11, [.int 0, .ref m_tape, .int (nI (k + 1)), .ref m_result, .int 0, .int ((-1)), .ref m_signs, .ref m_keptWords, .int 0, .int 0, .int 0, .long 0, .null, .int 0, .int 0, .int 0, .ref m_spelled, .ref m_pieced, .ref m_hexes, .ref m_words, .ref m_nextWords, .ref m_firstWords, .int 0, .ref m_pool, .int 0, .int 0, .null, .null, .ref m_chain, .ref m_waiting, .int 0, .int 0, .ref m_back, .ref m_spare, .int 0, .ref m_packed, .int 0, .int 0, .int 0, .int 0, .int 0, .long 0, .int 0, .int 0, .int 0, .long 0, .long 0, .ref m_theres, .int 0, .int 0, .int 0, .long 0, .int 0])), (m_tape, .inl (cmt, 65536, .inl (upd g (nI k).toNatClampNeg (vp_nar .byte (((z2 >>> ((24 - (8 * ((nI k) - (nI k) / 4 * 4))) &&& 31)) : Int32).toInt8.toInt32)))))] := hD
            refine lv_iinc (k := 1) (v := nI (k + 1)) hx hb d_Mo_feed_114 hl rfl (nI_1 k) (by decide) rfl (fun ls hl => ?_)
            have hl : lv_has ls 8 [(6, .int (nI (k + 1))), (7, .int z2), (0, .ref y0), (1, .int z1), (2, .int z2), (3, .int z3), (4, .int z4), (5, .int z5)] := hl
            refine lv_goto (tgt := 26) hx hb d_Mo_feed_117 rfl ?_
            exact ih (k + 1) (upd g (nI k).toNatClampNeg (vp_nar .byte (((z2 >>> ((24 - (8 * ((nI k) - (nI k) / 4 * 4))) &&& 31)) : Int32).toInt8.toInt32))) _ _ _ (by omega) (by omega) (lv_sub hl [0, 2, 3, 4, 5, 6, 7] rfl) (hP.sub [0, 1] rfl) (hD.sub [0, 1] (by decide) rfl) hS
        · refine lv_iload_n hx hb d_Mo_feed_39 rfl (lv_at hl 2 rfl) ?_
          refine lv_goto (tgt := 79) hx hb d_Mo_feed_40 rfl ?_
          refine lv_istore hx hb d_Mo_feed_79 hl (by decide) rfl (fun ls hl => ?_)
          have hl : lv_has ls 8 [(7, .int z1), (6, .int (nI k)), (0, .ref y0), (1, .int z1), (2, .int z2), (3, .int z3), (4, .int z4), (5, .int z5)] := hl
          refine lv_aload_n hx hb d_Mo_feed_81 rfl (lv_at hl 2 rfl) ?_
          refine va_get (D := (dC, dI)) (ci := 11) (v := .ref m_tape) (C := R_Mo) (T := F_Mo) (N := 53) hx hb htw i_Mo hown hK hP 0 rfl rfl 1 (by decide) (htw _ wd_10_52) (fun _ h9 => h9) rfl d_Mo_feed_82 ?_
          refine lv_aload_n hx hb d_Mo_feed_85 rfl (lv_at hl 2 rfl) ?_
          refine va_get (D := (dC, dI)) (ci := 11) (v := .int (nI k)) (C := R_Mo) (T := F_Mo) (N := 53) hx hb htw i_Mo hown hK hP 0 rfl rfl 2 (by decide) (htw _ wd_10_53) (fun _ h9 => h9) rfl d_Mo_feed_86 ?_
          refine lv_iload hx hb d_Mo_feed_89 (lv_at hl 0 rfl) ?_
          refine lv_bipush (v := 24) hx hb d_Mo_feed_91 (by decide) ?_
          refine lv_bipush (v := 8) hx hb d_Mo_feed_93 (by decide) ?_
          refine lv_iload hx hb d_Mo_feed_95 (lv_at hl 1 rfl) ?_
          refine lv_iconst (v := 4) hx hb d_Mo_feed_97 (by decide) ?_
          refine lv_irem hx hb d_Mo_feed_98 (by decide) ?_
          refine lv_imul hx hb d_Mo_feed_99 ?_
          refine lv_isub hx hb d_Mo_feed_100 ?_
          refine lv_ishr hx hb d_Mo_feed_101 ?_
          refine lv_i2b hx hb d_Mo_feed_102 rfl ?_
          refine va_bast hx hb hK hP hD hS 1 0 rfl rfl (vp_in_nI (by omega) (by decide)) d_Mo_feed_103 (fun H locs hP hD hS => ?_)
          have hP : va_P (dC, dI) classes [(y0, .inr (11, [.int 0, .ref m_tape, .int (nI k), .ref m_result, .int 0, .int ((-1)), .ref m_signs, .ref m_keptWords, .int 0, .int 0, .int 0, .long 0, .null, .int 0, .int 0, .int 0, .ref m_spelled, .ref m_pieced, .ref m_hexes, .ref m_words, .ref m_nextWords, .ref m_firstWords, .int 0, .ref m_pool, .int 0, .int 0, .null, .null, .ref m_chain, .ref m_waiting, .int 0, .int 0, .ref m_back, .ref m_spare, .int 0, .ref m_packed, .int 0, .int 0, .int 0, .int 0, .int 0, .long 0, .int 0, .int 0, .int 0, .long 0, .long 0, .ref m_theres, .int 0, .int 0, .int 0, .long 0, .int 0])), (m_tape, .inl (cmt, 65536, .inl (upd g (nI k).toNatClampNeg (vp_nar .byte (((z1 >>> ((24 - (8 * ((nI k) - (nI k) / 4 * 4))) &&& 31)) : Int32).toInt8.toInt32)))))] H := hP
          have hD : va_D A [(y0, .inr (11, [.int 0, .ref m_tape, .int (nI k), .ref m_result, .int 0, .int ((-1)), .ref m_signs, .ref m_keptWords, .int 0, .int 0, .int 0, .long 0, .null, .int 0, .int 0, .int 0, .ref m_spelled, .ref m_pieced, .ref m_hexes, .ref m_words, .ref m_nextWords, .ref m_firstWords, .int 0, .ref m_pool, .int 0, .int 0, .null, .null, .ref m_chain, .ref m_waiting, .int 0, .int 0, .ref m_back, .ref m_spare, .int 0, .ref m_packed, .int 0, .int 0, .int 0, .int 0, .int 0, .long 0, .int 0, .int 0, .int 0, .long 0, .long 0, .ref m_theres, .int 0, .int 0, .int 0, .long 0, .int 0])), (m_tape, .inl (cmt, 65536, .inl (upd g (nI k).toNatClampNeg (vp_nar .byte (((z1 >>> ((24 - (8 * ((nI k) - (nI k) / 4 * 4))) &&& 31)) : Int32).toInt8.toInt32)))))] := hD
          refine lv_aload_n hx hb d_Mo_feed_104 rfl (lv_at hl 2 rfl) ?_
          refine lv_dup hx hb d_Mo_feed_105 rfl ?_
          refine va_get (D := (dC, dI)) (ci := 11) (v := .int (nI k)) (C := R_Mo) (T := F_Mo) (N := 53) hx hb htw i_Mo hown hK hP 0 rfl rfl 2 (by decide) (htw _ wd_10_53) (fun _ h9 => h9) rfl d_Mo_feed_106 ?_
          refine lv_iconst (v := 1) hx hb d_Mo_feed_109 (by decide) ?_
          refine lv_iadd hx hb d_Mo_feed_110 ?_
          refine lv_topi (fun z9 e9 => ?_)
          have e9 : z9 = nI (k + 1) := e9.trans (nI_1 k)
          subst e9
          refine va_put (D := (dC, dI)) (ci := 11) (v := .int (nI (k + 1))) (ty := .int) (C := R_Mo) (T := F_Mo) (N := 53) hx hb htw i_Mo t_Mo t_Mo_ok n_Mo hown hK hP hD hS 0 rfl rfl 2 (by decide) (htw _ wd_10_53) (fun _ h9 => h9) rfl (by decide +kernel) rfl rfl (Nat.le_of_ble_eq_true rfl) d_Mo_feed_111 (fun H locs hP hD hS => ?_)
          have hP : va_P (dC, dI) classes [(y0, .inr (11, [.int 0, .ref m_tape, .int (nI (k + 1)), .ref m_result, .int 0, .int ((-1)), .ref m_signs, .ref m_keptWords, .int 0, .int 0, .int 0, .long 0, .null, .int 0, .int 0, .int 0, .ref m_spelled, .ref m_pieced, .ref m_hexes, .ref m_words, .ref m_nextWords, .ref m_firstWords, .int 0, .ref m_pool, .int 0, .int 0, .null, .null, .ref m_chain, .ref m_waiting, .int 0, .int 0, .ref m_back, .ref m_spare, .int 0, .ref m_packed, .int 0, .int 0, .int 0, .int 0, .int 0, .long 0, .int 0, .int 0, .int 0, .long 0, .long 0, .ref m_theres, .int 0, .int 0, .int 0, .long 0, .int 0])), (m_tape, .inl (cmt, 65536, .inl (upd g (nI k).toNatClampNeg (vp_nar .byte (((z1 >>> ((24 - (8 * ((nI k) - (nI k) / 4 * 4))) &&& 31)) : Int32).toInt8.toInt32)))))] H := hP
          have hD : va_D A [(y0, .inr (11, [.int 0, .ref m_tape, .int (nI (k + 1)), .ref m_result, .int 0, .int ((-1)), .ref m_signs, .ref m_keptWords, .int 0, .int 0, .int 0, .long 0, .null, .int 0, .int 0, .int 0, .ref m_spelled, .ref m_pieced, .ref m_hexes, .ref m_words, .ref m_nextWords, .ref m_firstWords, .int 0, .ref m_pool, .int 0, .int 0, .null, .null, .ref m_chain, .ref m_waiting, .int 0, .int 0, .ref m_back, .ref m_spare, .int 0, .ref m_packed, .int 0, .int 0, .int 0, .int 0, .int 0, .long 0, .int 0, .int 0, .int 0, .long 0, .long 0, .ref m_theres, .int 0, .int 0, .int 0, .long 0, .int 0])), (m_tape, .inl (cmt, 65536, .inl (upd g (nI k).toNatClampNeg (vp_nar .byte (((z1 >>> ((24 - (8 * ((nI k) - (nI k) / 4 * 4))) &&& 31)) : Int32).toInt8.toInt32)))))] := hD
          refine lv_iinc (k := 1) (v := nI (k + 1)) hx hb d_Mo_feed_114 hl rfl (nI_1 k) (by decide) rfl (fun ls hl => ?_)
          have hl : lv_has ls 8 [(6, .int (nI (k + 1))), (7, .int z1), (0, .ref y0), (1, .int z1), (2, .int z2), (3, .int z3), (4, .int z4), (5, .int z5)] := hl
          refine lv_goto (tgt := 26) hx hb d_Mo_feed_117 rfl ?_
          exact ih (k + 1) (upd g (nI k).toNatClampNeg (vp_nar .byte (((z1 >>> ((24 - (8 * ((nI k) - (nI k) / 4 * 4))) &&& 31)) : Int32).toInt8.toInt32))) _ _ _ (by omega) (by omega) (lv_sub hl [0, 2, 3, 4, 5, 6, 7] rfl) (hP.sub [0, 1] rfl) (hD.sub [0, 1] (by decide) rfl) hS
  exact lp ((20 - 0) + 1) 0 f _ _ _ (by omega) (Nat.lt_succ_self _) (lv_sub hl [0, 1, 2, 3, 4, 5, 6] rfl) (hP.sub [0, 1] rfl) (hD.sub [0, 1] (by decide) rfl) hS
