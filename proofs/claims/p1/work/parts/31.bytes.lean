/-! by program (wip/p1) -/
theorem wd_1_105 : Cond.sameField "java/util/ArrayList" "java/util/AbstractList" "modCount" "I" ∈ tw_tbl := tw_t1 (List.mem_of_getElem? (i := 105) rfl) rfl
theorem wd_1_104 : Cond.fieldLink "java/util/ArrayList" 63 "java/util/ArrayList" "modCount" "I" ∈ tw_tbl := tw_t1 (List.mem_of_getElem? (i := 104) rfl) rfl
theorem wd_1_102 : Cond.fieldLink "java/util/ArrayList" 48 "java/util/ArrayList" "size" "I" ∈ tw_tbl := tw_t1 (List.mem_of_getElem? (i := 102) rfl) rfl
theorem wd_1_66 : Cond.fieldLink "SyntaxForge$Values" 31 "SyntaxForge$Bytes" "length" "I" ∈ tw_tbl := tw_t1 (List.mem_of_getElem? (i := 66) rfl) rfl
def y_Bytes_put : MethodName := ⟨"SyntaxForge$Bytes", "put", "(I)V"⟩
abbrev b_Bytes_put : ByteArray := prog_3_method_2_code
abbrev cd_Bytes_put : Cond := .code y_Bytes_put b_Bytes_put 2 none
abbrev ws_Bytes_put : List Cond := cd_Bytes_put :: tw_tbl
theorem k_Bytes_put : cd_Bytes_put ∈ tw_tbl := tw_t1 (List.mem_of_getElem? (i := 199) rfl) rfl
theorem d_Bytes_put_0 : decode b_Bytes_put 0 = .ok (.aload_n 0, 1) := by decide +kernel
theorem d_Bytes_put_1 : decode b_Bytes_put 1 = .ok (.getfield 15, 3) := by decide +kernel
theorem d_Bytes_put_4 : decode b_Bytes_put 4 = .ok (.aload_n 0, 1) := by decide +kernel
theorem d_Bytes_put_5 : decode b_Bytes_put 5 = .ok (.getfield 9, 3) := by decide +kernel
theorem d_Bytes_put_8 : decode b_Bytes_put 8 = .ok (.arraylength, 1) := by decide +kernel
theorem d_Bytes_put_9 : decode b_Bytes_put 9 = .ok (.if_icmp .lt 24, 3) := by decide +kernel
theorem d_Bytes_put_12 : decode b_Bytes_put 12 = .ok (.aload_n 0, 1) := by decide +kernel
theorem d_Bytes_put_13 : decode b_Bytes_put 13 = .ok (.aload_n 0, 1) := by decide +kernel
theorem d_Bytes_put_14 : decode b_Bytes_put 14 = .ok (.getfield 9, 3) := by decide +kernel
theorem d_Bytes_put_17 : decode b_Bytes_put 17 = .ok (.iconst 2, 1) := by decide +kernel
theorem d_Bytes_put_18 : decode b_Bytes_put 18 = .ok (.aload_n 0, 1) := by decide +kernel
theorem d_Bytes_put_19 : decode b_Bytes_put 19 = .ok (.getfield 9, 3) := by decide +kernel
theorem d_Bytes_put_22 : decode b_Bytes_put 22 = .ok (.arraylength, 1) := by decide +kernel
theorem d_Bytes_put_23 : decode b_Bytes_put 23 = .ok (.imul, 1) := by decide +kernel
theorem d_Bytes_put_24 : decode b_Bytes_put 24 = .ok (.bipush 16, 2) := by decide +kernel
theorem d_Bytes_put_26 : decode b_Bytes_put 26 = .ok (.iadd, 1) := by decide +kernel
theorem d_Bytes_put_27 : decode b_Bytes_put 27 = .ok (.invokestatic 19, 3) := by decide +kernel
theorem d_Bytes_put_30 : decode b_Bytes_put 30 = .ok (.putfield 9, 3) := by decide +kernel
theorem d_Bytes_put_33 : decode b_Bytes_put 33 = .ok (.aload_n 0, 1) := by decide +kernel
theorem d_Bytes_put_34 : decode b_Bytes_put 34 = .ok (.getfield 9, 3) := by decide +kernel
theorem d_Bytes_put_37 : decode b_Bytes_put 37 = .ok (.aload_n 0, 1) := by decide +kernel
theorem d_Bytes_put_38 : decode b_Bytes_put 38 = .ok (.getfield 15, 3) := by decide +kernel
theorem d_Bytes_put_41 : decode b_Bytes_put 41 = .ok (.iload_n 1, 1) := by decide +kernel
theorem d_Bytes_put_42 : decode b_Bytes_put 42 = .ok (.i2b, 1) := by decide +kernel
theorem d_Bytes_put_43 : decode b_Bytes_put 43 = .ok (.bastore, 1) := by decide +kernel
theorem d_Bytes_put_44 : decode b_Bytes_put 44 = .ok (.aload_n 0, 1) := by decide +kernel
theorem d_Bytes_put_45 : decode b_Bytes_put 45 = .ok (.dup, 1) := by decide +kernel
theorem d_Bytes_put_46 : decode b_Bytes_put 46 = .ok (.getfield 15, 3) := by decide +kernel
theorem d_Bytes_put_49 : decode b_Bytes_put 49 = .ok (.iconst 1, 1) := by decide +kernel
theorem d_Bytes_put_50 : decode b_Bytes_put 50 = .ok (.iadd, 1) := by decide +kernel
theorem d_Bytes_put_51 : decode b_Bytes_put 51 = .ok (.putfield 15, 3) := by decide +kernel
theorem d_Bytes_put_54 : decode b_Bytes_put 54 = .ok (.return_, 1) := by decide +kernel
def y_Bytes_get : MethodName := ⟨"SyntaxForge$Bytes", "get", "(I)I"⟩
abbrev b_Bytes_get : ByteArray := prog_3_method_6_code
abbrev cd_Bytes_get : Cond := .code y_Bytes_get b_Bytes_get 2 (some .int)
abbrev ws_Bytes_get : List Cond := cd_Bytes_get :: tw_tbl
theorem k_Bytes_get : cd_Bytes_get ∈ tw_tbl := tw_t1 (List.mem_of_getElem? (i := 238) rfl) rfl
theorem d_Bytes_get_0 : decode b_Bytes_get 0 = .ok (.iload_n 1, 1) := by decide +kernel
theorem d_Bytes_get_1 : decode b_Bytes_get 1 = .ok (.ifCond .lt 33, 3) := by decide +kernel
theorem d_Bytes_get_4 : decode b_Bytes_get 4 = .ok (.iload_n 1, 1) := by decide +kernel
theorem d_Bytes_get_5 : decode b_Bytes_get 5 = .ok (.aload_n 0, 1) := by decide +kernel
theorem d_Bytes_get_6 : decode b_Bytes_get 6 = .ok (.getfield 15, 3) := by decide +kernel
theorem d_Bytes_get_9 : decode b_Bytes_get 9 = .ok (.if_icmp .ge 25, 3) := by decide +kernel
theorem d_Bytes_get_12 : decode b_Bytes_get 12 = .ok (.iload_n 1, 1) := by decide +kernel
theorem d_Bytes_get_13 : decode b_Bytes_get 13 = .ok (.aload_n 0, 1) := by decide +kernel
theorem d_Bytes_get_14 : decode b_Bytes_get 14 = .ok (.getfield 9, 3) := by decide +kernel
theorem d_Bytes_get_17 : decode b_Bytes_get 17 = .ok (.arraylength, 1) := by decide +kernel
theorem d_Bytes_get_18 : decode b_Bytes_get 18 = .ok (.if_icmp .ge 16, 3) := by decide +kernel
theorem d_Bytes_get_21 : decode b_Bytes_get 21 = .ok (.aload_n 0, 1) := by decide +kernel
theorem d_Bytes_get_22 : decode b_Bytes_get 22 = .ok (.getfield 9, 3) := by decide +kernel
theorem d_Bytes_get_25 : decode b_Bytes_get 25 = .ok (.iload_n 1, 1) := by decide +kernel
theorem d_Bytes_get_26 : decode b_Bytes_get 26 = .ok (.baload, 1) := by decide +kernel
theorem d_Bytes_get_27 : decode b_Bytes_get 27 = .ok (.sipush 255, 3) := by decide +kernel
theorem d_Bytes_get_30 : decode b_Bytes_get 30 = .ok (.iand, 1) := by decide +kernel
theorem d_Bytes_get_31 : decode b_Bytes_get 31 = .ok (.goto 4, 3) := by decide +kernel
theorem d_Bytes_get_34 : decode b_Bytes_get 34 = .ok (.iconst (-1), 1) := by decide +kernel
theorem d_Bytes_get_35 : decode b_Bytes_get 35 = .ok (.ireturn, 1) := by decide +kernel
def y_AL_clear : MethodName := ⟨"java/util/ArrayList", "clear", "()V"⟩
abbrev b_AL_clear : ByteArray := prog_44_method_40_code
abbrev cd_AL_clear : Cond := .code y_AL_clear b_AL_clear 4 none
abbrev ws_AL_clear : List Cond := cd_AL_clear :: tw_tbl
theorem k_AL_clear : cd_AL_clear ∈ tw_tbl := tw_t1 (List.mem_of_getElem? (i := 223) rfl) rfl
theorem d_AL_clear_0 : decode b_AL_clear 0 = .ok (.aload_n 0, 1) := by decide +kernel
theorem d_AL_clear_1 : decode b_AL_clear 1 = .ok (.dup, 1) := by decide +kernel
theorem d_AL_clear_2 : decode b_AL_clear 2 = .ok (.getfield 63, 3) := by decide +kernel
theorem d_AL_clear_5 : decode b_AL_clear 5 = .ok (.iconst 1, 1) := by decide +kernel
theorem d_AL_clear_6 : decode b_AL_clear 6 = .ok (.iadd, 1) := by decide +kernel
theorem d_AL_clear_7 : decode b_AL_clear 7 = .ok (.putfield 63, 3) := by decide +kernel
theorem d_AL_clear_10 : decode b_AL_clear 10 = .ok (.aload_n 0, 1) := by decide +kernel
theorem d_AL_clear_11 : decode b_AL_clear 11 = .ok (.getfield 9, 3) := by decide +kernel
theorem d_AL_clear_14 : decode b_AL_clear 14 = .ok (.astore_n 1, 1) := by decide +kernel
theorem d_AL_clear_15 : decode b_AL_clear 15 = .ok (.aload_n 0, 1) := by decide +kernel
theorem d_AL_clear_16 : decode b_AL_clear 16 = .ok (.getfield 48, 3) := by decide +kernel
theorem d_AL_clear_19 : decode b_AL_clear 19 = .ok (.istore_n 2, 1) := by decide +kernel
theorem d_AL_clear_20 : decode b_AL_clear 20 = .ok (.aload_n 0, 1) := by decide +kernel
theorem d_AL_clear_21 : decode b_AL_clear 21 = .ok (.iconst 0, 1) := by decide +kernel
theorem d_AL_clear_22 : decode b_AL_clear 22 = .ok (.dup_x1, 1) := by decide +kernel
theorem d_AL_clear_23 : decode b_AL_clear 23 = .ok (.putfield 48, 3) := by decide +kernel
theorem d_AL_clear_26 : decode b_AL_clear 26 = .ok (.istore_n 3, 1) := by decide +kernel
theorem d_AL_clear_27 : decode b_AL_clear 27 = .ok (.iload_n 3, 1) := by decide +kernel
theorem d_AL_clear_28 : decode b_AL_clear 28 = .ok (.iload_n 2, 1) := by decide +kernel
theorem d_AL_clear_29 : decode b_AL_clear 29 = .ok (.if_icmp .ge 13, 3) := by decide +kernel
theorem d_AL_clear_32 : decode b_AL_clear 32 = .ok (.aload_n 1, 1) := by decide +kernel
theorem d_AL_clear_33 : decode b_AL_clear 33 = .ok (.iload_n 3, 1) := by decide +kernel
theorem d_AL_clear_34 : decode b_AL_clear 34 = .ok (.aconst_null, 1) := by decide +kernel
theorem d_AL_clear_35 : decode b_AL_clear 35 = .ok (.aastore, 1) := by decide +kernel
theorem d_AL_clear_36 : decode b_AL_clear 36 = .ok (.iinc 3 1, 3) := by decide +kernel
theorem d_AL_clear_39 : decode b_AL_clear 39 = .ok (.goto (-12), 3) := by decide +kernel
theorem d_AL_clear_42 : decode b_AL_clear 42 = .ok (.return_, 1) := by decide +kernel
def y_Values_clear : MethodName := ⟨"SyntaxForge$Values", "clear", "()V"⟩
abbrev b_Values_clear : ByteArray := prog_13_method_2_code
abbrev cd_Values_clear : Cond := .code y_Values_clear b_Values_clear 1 none
abbrev ws_Values_clear : List Cond := cd_Values_clear :: tw_tbl
theorem k_Values_clear : cd_Values_clear ∈ tw_tbl := tw_t1 (List.mem_of_getElem? (i := 227) rfl) rfl
theorem d_Values_clear_0 : decode b_Values_clear 0 = .ok (.aload_n 0, 1) := by decide +kernel
theorem d_Values_clear_1 : decode b_Values_clear 1 = .ok (.iconst 0, 1) := by decide +kernel
theorem d_Values_clear_2 : decode b_Values_clear 2 = .ok (.putfield 27, 3) := by decide +kernel
theorem d_Values_clear_5 : decode b_Values_clear 5 = .ok (.aload_n 0, 1) := by decide +kernel
theorem d_Values_clear_6 : decode b_Values_clear 6 = .ok (.getfield 23, 3) := by decide +kernel
theorem d_Values_clear_9 : decode b_Values_clear 9 = .ok (.iconst 0, 1) := by decide +kernel
theorem d_Values_clear_10 : decode b_Values_clear 10 = .ok (.putfield 31, 3) := by decide +kernel
theorem d_Values_clear_13 : decode b_Values_clear 13 = .ok (.return_, 1) := by decide +kernel
def y_Arrs_fill : MethodName := ⟨"java/util/Arrays", "fill", "([II)V"⟩
abbrev b_Arrs_fill : ByteArray := prog_45_method_103_code
abbrev cd_Arrs_fill : Cond := .code y_Arrs_fill b_Arrs_fill 4 none
abbrev ws_Arrs_fill : List Cond := cd_Arrs_fill :: tw_tbl
theorem k_Arrs_fill : cd_Arrs_fill ∈ tw_tbl := tw_t1 (List.mem_of_getElem? (i := 234) rfl) rfl
theorem d_Arrs_fill_0 : decode b_Arrs_fill 0 = .ok (.iconst 0, 1) := by decide +kernel
theorem d_Arrs_fill_1 : decode b_Arrs_fill 1 = .ok (.istore_n 2, 1) := by decide +kernel
theorem d_Arrs_fill_2 : decode b_Arrs_fill 2 = .ok (.aload_n 0, 1) := by decide +kernel
theorem d_Arrs_fill_3 : decode b_Arrs_fill 3 = .ok (.arraylength, 1) := by decide +kernel
theorem d_Arrs_fill_4 : decode b_Arrs_fill 4 = .ok (.istore_n 3, 1) := by decide +kernel
theorem d_Arrs_fill_5 : decode b_Arrs_fill 5 = .ok (.iload_n 2, 1) := by decide +kernel
theorem d_Arrs_fill_6 : decode b_Arrs_fill 6 = .ok (.iload_n 3, 1) := by decide +kernel
theorem d_Arrs_fill_7 : decode b_Arrs_fill 7 = .ok (.if_icmp .ge 13, 3) := by decide +kernel
theorem d_Arrs_fill_10 : decode b_Arrs_fill 10 = .ok (.aload_n 0, 1) := by decide +kernel
theorem d_Arrs_fill_11 : decode b_Arrs_fill 11 = .ok (.iload_n 2, 1) := by decide +kernel
theorem d_Arrs_fill_12 : decode b_Arrs_fill 12 = .ok (.iload_n 1, 1) := by decide +kernel
theorem d_Arrs_fill_13 : decode b_Arrs_fill 13 = .ok (.iastore, 1) := by decide +kernel
theorem d_Arrs_fill_14 : decode b_Arrs_fill 14 = .ok (.iinc 2 1, 3) := by decide +kernel
theorem d_Arrs_fill_17 : decode b_Arrs_fill 17 = .ok (.goto (-12), 3) := by decide +kernel
theorem d_Arrs_fill_20 : decode b_Arrs_fill 20 = .ok (.return_, 1) := by decide +kernel
set_option maxHeartbeats 4000000 in
set_option maxRecDepth 100000 in
theorem c_Bytes_put (l : Launch) (dC : Nat → ClassId) (dI : Nat → Nat → Nat) (sz : Nat) (h0 : Nat) (qa : Nat) (ca : ClassId) (n : Nat) (f : Nat → Int32) (k : Nat) (x : Int32) (hk : k < n) (hn : n ≤ 65536) : Met l y_Bytes_put ws_Bytes_put ({ frames := 0, cells := 0, slots := 0, locals := 0 }) (va_Pc [.ref h0, .int x] (fun U => U.heap.size = sz ∧ va_P (dC, dI) classes [(h0, .inr (0, [.ref qa, .int (nI k)])), (qa, .inl (ca, n, .inl f))] U.heap ∧ va_K (dC, dI) classes [(ca, .byte)] U ∧ va_D (fun _ => True) [(h0, .inr (0, [.ref qa, .int (nI k)])), (qa, .inl (ca, n, .inl f))])) (va_Qv (fun _ : Unit => True) (fun _ t => va_P (dC, dI) classes [(h0, .inr (0, [.ref qa, .int (nI (k + 1))])), (qa, .inl (ca, n, .inl (upd f (nI k).toNatClampNeg (vp_nar .byte ((x : Int32).toInt8.toInt32)))))] t.heap ∧ va_K (dC, dI) classes [(ca, .byte)] t ∧ va_D (va_A [(h0, .inr (0, [.ref qa, .int (nI k)])), (qa, .inl (ca, n, .inl f))] sz) [(h0, .inr (0, [.ref qa, .int (nI (k + 1))])), (qa, .inl (ca, n, .inl (upd f (nI k).toNatClampNeg (vp_nar .byte ((x : Int32).toInt8.toInt32)))))]) (va_A [(h0, .inr (0, [.ref qa, .int (nI k)])), (qa, .inl (ca, n, .inl f))] sz)) 0 0 (va_A [(h0, .inr (0, [.ref qa, .int (nI k)])), (qa, .inl (ca, n, .inl f))] sz) := by
  refine Met.ofW (cc := b_Bytes_put) (maxL := 2) (ret := none) (by decide) rfl ?_
  intro p e s m args below meth c s₁ B hml hv
  obtain ⟨rfl, hsz, hP, hK, hD0⟩ := hv
  have hx := B.exec
  have hb := B.bytes
  have hr := B.returns
  have hts := atoms_spec (ws := ws_Bytes_put) B.pre
  have htw : ∀ w ∈ tw_tbl, w.before [.ref h0, .int x].toArray s = true := fun w h => hts w (List.mem_cons_of_mem _ h)
  have hown : s.vm.findClass R_Bytes = some m.cls := findClass_of_methodNamed B.named
  have hlocks := B.notSynchronized
  have hin : meth.name = "put" := (name_of_methodNamed B.named B.method).1
  subst hsz
  have hD := hD0.self (sz := s.heap.size)
  generalize hAe : va_A [(h0, .inr (0, [.ref qa, .int (nI k)])), (qa, .inl (ca, n, .inl f))] s.heap.size = A at hD ⊢
  have hA : ∀ q : Nat, s.heap.size ≤ q → A q := fun q h => by rw [← hAe]; exact Or.inr h
  have hS : va_S A s.heap s.heap [] := va_S.rf
  have hP : va_P (dC, dI) classes [(h0, .inr (0, [.ref qa, .int (nI k)])), (qa, .inl (ca, n, .inl f))] s.heap := hP
  have hl := lv_entry ([.ref h0, .int x]) (n := 2) (Nat.le_of_ble_eq_true rfl)
  rw [lg_entry_eq]
  generalize (lg_sl ([.ref h0, .int x]) ++ List.replicate (2 - (lg_sl ([.ref h0, .int x])).length) Slot.unset).toArray = ls at hl ⊢
  have hl : lv_has ls 2 [(0, .ref h0), (1, .int x)] := hl
  refine lv_aload_n hx hb d_Bytes_put_0 rfl (lv_at hl 0 rfl) ?_
  refine va_get (D := (dC, dI)) (ci := 0) (v := .int (nI k)) (C := R_Bytes) (T := F_Bytes) (N := 2) hx hb htw i_Bytes hown hK hP 0 rfl rfl 1 (by decide) (htw _ wd_1_64) (fun _ h9 => h9) rfl d_Bytes_put_1 ?_
  refine lv_aload_n hx hb d_Bytes_put_4 rfl (lv_at hl 0 rfl) ?_
  refine va_get (D := (dC, dI)) (ci := 0) (v := .ref qa) (C := R_Bytes) (T := F_Bytes) (N := 2) hx hb htw i_Bytes hown hK hP 0 rfl rfl 0 (by decide) (htw _ wd_1_59) (fun _ h9 => h9) rfl d_Bytes_put_5 ?_
  refine va_alen (v := nI n) hx hb hK hP 1 0 rfl rfl rfl d_Bytes_put_8 ?_
  refine lv_icmp_lt (tgt := 33) hx hb d_Bytes_put_9 rfl (fun _ => ?_) (fun hn => absurd ((nI_ltI (by omega) (by omega)).mpr hk) hn)
  refine lv_aload_n hx hb d_Bytes_put_33 rfl (lv_at hl 0 rfl) ?_
  refine va_get (D := (dC, dI)) (ci := 0) (v := .ref qa) (C := R_Bytes) (T := F_Bytes) (N := 2) hx hb htw i_Bytes hown hK hP 0 rfl rfl 0 (by decide) (htw _ wd_1_59) (fun _ h9 => h9) rfl d_Bytes_put_34 ?_
  refine lv_aload_n hx hb d_Bytes_put_37 rfl (lv_at hl 0 rfl) ?_
  refine va_get (D := (dC, dI)) (ci := 0) (v := .int (nI k)) (C := R_Bytes) (T := F_Bytes) (N := 2) hx hb htw i_Bytes hown hK hP 0 rfl rfl 1 (by decide) (htw _ wd_1_64) (fun _ h9 => h9) rfl d_Bytes_put_38 ?_
  refine lv_iload_n hx hb d_Bytes_put_41 rfl (lv_at hl 1 rfl) ?_
  refine lv_i2b hx hb d_Bytes_put_42 rfl ?_
  refine va_bast hx hb hK hP hD hS 1 0 rfl rfl (vp_in_nI hk (by omega)) d_Bytes_put_43 (fun H locs hP hD hS => ?_)
  have hP : va_P (dC, dI) classes [(h0, .inr (0, [.ref qa, .int (nI k)])), (qa, .inl (ca, n, .inl (upd f (nI k).toNatClampNeg (vp_nar .byte ((x : Int32).toInt8.toInt32)))))] H := hP
  have hD : va_D A [(h0, .inr (0, [.ref qa, .int (nI k)])), (qa, .inl (ca, n, .inl (upd f (nI k).toNatClampNeg (vp_nar .byte ((x : Int32).toInt8.toInt32)))))] := hD
  refine lv_aload_n hx hb d_Bytes_put_44 rfl (lv_at hl 0 rfl) ?_
  refine lv_dup hx hb d_Bytes_put_45 rfl ?_
  refine va_get (D := (dC, dI)) (ci := 0) (v := .int (nI k)) (C := R_Bytes) (T := F_Bytes) (N := 2) hx hb htw i_Bytes hown hK hP 0 rfl rfl 1 (by decide) (htw _ wd_1_64) (fun _ h9 => h9) rfl d_Bytes_put_46 ?_
  refine lv_iconst (v := 1) hx hb d_Bytes_put_49 (by decide) ?_
  refine lv_iadd hx hb d_Bytes_put_50 ?_
  refine lv_topi (fun z9 e9 => ?_)
  have e9 : z9 = nI (k + 1) := e9.trans (nI_1 k)
  subst e9
  refine va_put (D := (dC, dI)) (ci := 0) (v := .int (nI (k + 1))) (ty := .int) (C := R_Bytes) (T := F_Bytes) (N := 2) hx hb htw i_Bytes t_Bytes t_Bytes_ok n_Bytes hown hK hP hD hS 0 rfl rfl 1 (by decide) (htw _ wd_1_64) (fun _ h9 => h9) rfl (by decide +kernel) rfl rfl (Nat.le_of_ble_eq_true rfl) d_Bytes_put_51 (fun H locs hP hD hS => ?_)
  have hP : va_P (dC, dI) classes [(h0, .inr (0, [.ref qa, .int (nI (k + 1))])), (qa, .inl (ca, n, .inl (upd f (nI k).toNatClampNeg (vp_nar .byte ((x : Int32).toInt8.toInt32)))))] H := hP
  have hD : va_D A [(h0, .inr (0, [.ref qa, .int (nI (k + 1))])), (qa, .inl (ca, n, .inl (upd f (nI k).toNatClampNeg (vp_nar .byte ((x : Int32).toInt8.toInt32)))))] := hD
  have hP9 := hP.sub (ws' := [(h0, .inr (0, [.ref qa, .int (nI (k + 1))])), (qa, .inl (ca, n, .inl (upd f (nI k).toNatClampNeg (vp_nar .byte ((x : Int32).toInt8.toInt32)))))]) [0, 1] rfl
  have hD9 := hD.sub (ws' := [(h0, .inr (0, [.ref qa, .int (nI (k + 1))])), (qa, .inl (ca, n, .inl (upd f (nI k).toNatClampNeg (vp_nar .byte ((x : Int32).toInt8.toInt32)))))]) [0, 1] (by decide) rfl
  have hK9 := hK.sub (tys' := [(ca, .byte)]) [0] rfl
  refine W.widen (k := 0) (n := 0) (by omega) (by omega) ?_
  exact W.vret hx hb hr (fun t ht hW => ⟨⟨(), rfl, trivial, by rw [ht]; exact hP9, va_K.moved hW.alike hK9, hD9⟩, hS.F ht⟩) hS.2.2 d_Bytes_put_54
set_option maxHeartbeats 4000000 in
set_option maxRecDepth 100000 in
theorem c_Bytes_get (l : Launch) (dC : Nat → ClassId) (dI : Nat → Nat → Nat) (sz : Nat) (h0 : Nat) (qa : Nat) (ca : ClassId) (n : Nat) (f : Nat → Int32) (k : Int32) (i : Int32) (hn : n ≤ 65536) : Met l y_Bytes_get ws_Bytes_get ({ frames := 0, cells := 0, slots := 0, locals := 0 }) (va_Pc [.ref h0, .int i] (fun U => U.heap.size = sz ∧ va_P (dC, dI) classes [(h0, .inr (0, [.ref qa, .int k])), (qa, .inl (ca, n, .inl f))] U.heap ∧ va_K (dC, dI) classes [(ca, .byte)] U ∧ va_D (fun _ => True) [(h0, .inr (0, [.ref qa, .int k])), (qa, .inl (ca, n, .inl f))])) (va_Qi (fun (r : Int32) (_ : Unit) => r = tz_gb n f k i) (fun _ t => va_P (dC, dI) classes [(h0, .inr (0, [.ref qa, .int k])), (qa, .inl (ca, n, .inl f))] t.heap ∧ va_K (dC, dI) classes [(ca, .byte)] t ∧ va_D (va_A [(h0, .inr (0, [.ref qa, .int k])), (qa, .inl (ca, n, .inl f))] sz) [(h0, .inr (0, [.ref qa, .int k])), (qa, .inl (ca, n, .inl f))]) (va_A [(h0, .inr (0, [.ref qa, .int k])), (qa, .inl (ca, n, .inl f))] sz)) 0 0 (va_A [(h0, .inr (0, [.ref qa, .int k])), (qa, .inl (ca, n, .inl f))] sz) := by
  refine Met.ofW (cc := b_Bytes_get) (maxL := 2) (ret := (some .int)) (by decide) rfl ?_
  intro p e s m args below meth c s₁ B hml hv
  obtain ⟨rfl, hsz, hP, hK, hD0⟩ := hv
  have hx := B.exec
  have hb := B.bytes
  have hr := B.returns
  have hts := atoms_spec (ws := ws_Bytes_get) B.pre
  have htw : ∀ w ∈ tw_tbl, w.before [.ref h0, .int i].toArray s = true := fun w h => hts w (List.mem_cons_of_mem _ h)
  have hown : s.vm.findClass R_Bytes = some m.cls := findClass_of_methodNamed B.named
  have hlocks := B.notSynchronized
  have hin : meth.name = "get" := (name_of_methodNamed B.named B.method).1
  subst hsz
  have hD := hD0.self (sz := s.heap.size)
  generalize hAe : va_A [(h0, .inr (0, [.ref qa, .int k])), (qa, .inl (ca, n, .inl f))] s.heap.size = A at hD ⊢
  have hA : ∀ q : Nat, s.heap.size ≤ q → A q := fun q h => by rw [← hAe]; exact Or.inr h
  have hS : va_S A s.heap s.heap [] := va_S.rf
  have hP : va_P (dC, dI) classes [(h0, .inr (0, [.ref qa, .int k])), (qa, .inl (ca, n, .inl f))] s.heap := hP
  have hl := lv_entry ([.ref h0, .int i]) (n := 2) (Nat.le_of_ble_eq_true rfl)
  rw [lg_entry_eq]
  generalize (lg_sl ([.ref h0, .int i]) ++ List.replicate (2 - (lg_sl ([.ref h0, .int i])).length) Slot.unset).toArray = ls at hl ⊢
  have hl : lv_has ls 2 [(0, .ref h0), (1, .int i)] := hl
  refine lv_iload_n hx hb d_Bytes_get_0 rfl (lv_at hl 1 rfl) ?_
  refine lv_if_lt (tgt := 34) hx hb d_Bytes_get_1 rfl (fun h1 => ?_) (fun h1 => ?_)
  · refine lv_iconst (v := (-1)) hx hb d_Bytes_get_34 (by decide) ?_
    have hP9 := hP.sub (ws' := [(h0, .inr (0, [.ref qa, .int k])), (qa, .inl (ca, n, .inl f))]) [0, 1] rfl
    have hD9 := hD.sub (ws' := [(h0, .inr (0, [.ref qa, .int k])), (qa, .inl (ca, n, .inl f))]) [0, 1] (by decide) rfl
    have hK9 := hK.sub (tys' := [(ca, .byte)]) [0] rfl
    refine W.widen (k := 0) (n := 0) (by omega) (by omega) ?_
    exact W.iret (v := (-1)) hx hb hr (fun t ht hW => ⟨⟨(-1), (), rfl, (if_neg (fun q => q.1 h1)).symm, by rw [ht]; exact hP9, va_K.moved hW.alike hK9, hD9⟩, hS.F ht⟩) hS.2.2 d_Bytes_get_35
  · refine lv_iload_n hx hb d_Bytes_get_4 rfl (lv_at hl 1 rfl) ?_
    refine lv_aload_n hx hb d_Bytes_get_5 rfl (lv_at hl 0 rfl) ?_
    refine va_get (D := (dC, dI)) (ci := 0) (v := .int k) (C := R_Bytes) (T := F_Bytes) (N := 2) hx hb htw i_Bytes hown hK hP 0 rfl rfl 1 (by decide) (htw _ wd_1_64) (fun _ h9 => h9) rfl d_Bytes_get_6 ?_
    refine lv_icmp_ge (tgt := 34) hx hb d_Bytes_get_9 rfl (fun h2 => ?_) (fun h2 => ?_)
    · refine lv_iconst (v := (-1)) hx hb d_Bytes_get_34 (by decide) ?_
      have hP9 := hP.sub (ws' := [(h0, .inr (0, [.ref qa, .int k])), (qa, .inl (ca, n, .inl f))]) [0, 1] rfl
      have hD9 := hD.sub (ws' := [(h0, .inr (0, [.ref qa, .int k])), (qa, .inl (ca, n, .inl f))]) [0, 1] (by decide) rfl
      have hK9 := hK.sub (tys' := [(ca, .byte)]) [0] rfl
      refine W.widen (k := 0) (n := 0) (by omega) (by omega) ?_
      exact W.iret (v := (-1)) hx hb hr (fun t ht hW => ⟨⟨(-1), (), rfl, (if_neg (fun q => q.2.1 h2)).symm, by rw [ht]; exact hP9, va_K.moved hW.alike hK9, hD9⟩, hS.F ht⟩) hS.2.2 d_Bytes_get_35
    · refine lv_iload_n hx hb d_Bytes_get_12 rfl (lv_at hl 1 rfl) ?_
      refine lv_aload_n hx hb d_Bytes_get_13 rfl (lv_at hl 0 rfl) ?_
      refine va_get (D := (dC, dI)) (ci := 0) (v := .ref qa) (C := R_Bytes) (T := F_Bytes) (N := 2) hx hb htw i_Bytes hown hK hP 0 rfl rfl 0 (by decide) (htw _ wd_1_59) (fun _ h9 => h9) rfl d_Bytes_get_14 ?_
      refine va_alen (v := nI n) hx hb hK hP 1 0 rfl rfl rfl d_Bytes_get_17 ?_
      refine lv_icmp_ge (tgt := 34) hx hb d_Bytes_get_18 rfl (fun h3 => ?_) (fun h3 => ?_)
      · refine lv_iconst (v := (-1)) hx hb d_Bytes_get_34 (by decide) ?_
        have hP9 := hP.sub (ws' := [(h0, .inr (0, [.ref qa, .int k])), (qa, .inl (ca, n, .inl f))]) [0, 1] rfl
        have hD9 := hD.sub (ws' := [(h0, .inr (0, [.ref qa, .int k])), (qa, .inl (ca, n, .inl f))]) [0, 1] (by decide) rfl
        have hK9 := hK.sub (tys' := [(ca, .byte)]) [0] rfl
        refine W.widen (k := 0) (n := 0) (by omega) (by omega) ?_
        exact W.iret (v := (-1)) hx hb hr (fun t ht hW => ⟨⟨(-1), (), rfl, (if_neg (fun q => q.2.2 h3)).symm, by rw [ht]; exact hP9, va_K.moved hW.alike hK9, hD9⟩, hS.F ht⟩) hS.2.2 d_Bytes_get_35
      · refine lv_aload_n hx hb d_Bytes_get_21 rfl (lv_at hl 0 rfl) ?_
        refine va_get (D := (dC, dI)) (ci := 0) (v := .ref qa) (C := R_Bytes) (T := F_Bytes) (N := 2) hx hb htw i_Bytes hown hK hP 0 rfl rfl 0 (by decide) (htw _ wd_1_59) (fun _ h9 => h9) rfl d_Bytes_get_22 ?_
        refine lv_iload_n hx hb d_Bytes_get_25 rfl (lv_at hl 1 rfl) ?_
        refine va_bald hx hb hK hP 1 0 rfl rfl (tz_in h1 h3 (by omega)) d_Bytes_get_26 ?_
        refine lv_sipush (v := 255) hx hb d_Bytes_get_27 (by decide) ?_
        refine lv_iand hx hb d_Bytes_get_30 ?_
        refine lv_goto (tgt := 35) hx hb d_Bytes_get_31 rfl ?_
        have hP9 := hP.sub (ws' := [(h0, .inr (0, [.ref qa, .int k])), (qa, .inl (ca, n, .inl f))]) [0, 1] rfl
        have hD9 := hD.sub (ws' := [(h0, .inr (0, [.ref qa, .int k])), (qa, .inl (ca, n, .inl f))]) [0, 1] (by decide) rfl
        have hK9 := hK.sub (tys' := [(ca, .byte)]) [0] rfl
        refine W.widen (k := 0) (n := 0) (by omega) (by omega) ?_
        exact W.iret (v := (f (i).toNatClampNeg) &&& 255) hx hb hr (fun t ht hW => ⟨⟨(f (i).toNatClampNeg) &&& 255, (), rfl, (if_pos ⟨h1, h2, h3⟩).symm, by rw [ht]; exact hP9, va_K.moved hW.alike hK9, hD9⟩, hS.F ht⟩) hS.2.2 d_Bytes_get_35
set_option maxHeartbeats 4000000 in
set_option maxRecDepth 100000 in
theorem c_AL_clear (l : Launch) (dC : Nat → ClassId) (dI : Nat → Nat → Nat) (sz : Nat) (h0 : Nat) (dE : Nat) (mo : Int32) : Met l y_AL_clear ws_AL_clear ({ frames := 0, cells := 0, slots := 0, locals := 0 }) (va_Pc [.ref h0] (fun U => U.heap.size = sz ∧ va_P (dC, dI) classes [(h0, .inr (1, [.ref dE, .int 0, .int mo]))] U.heap ∧ va_K (dC, dI) classes [] U ∧ va_D (fun _ => True) [(h0, .inr (1, [.ref dE, .int 0, .int mo]))])) (va_Qv (fun _ : Unit => True) (fun _ t => va_P (dC, dI) classes [(h0, .inr (1, [.ref dE, .int 0, .int (mo + 1)]))] t.heap ∧ va_K (dC, dI) classes [] t ∧ va_D (va_A [(h0, .inr (1, [.ref dE, .int 0, .int mo]))] sz) [(h0, .inr (1, [.ref dE, .int 0, .int (mo + 1)]))]) (va_A [(h0, .inr (1, [.ref dE, .int 0, .int mo]))] sz)) 0 0 (va_A [(h0, .inr (1, [.ref dE, .int 0, .int mo]))] sz) := by
  refine Met.ofW (cc := b_AL_clear) (maxL := 4) (ret := none) (by decide) rfl ?_
  intro p e s m args below meth c s₁ B hml hv
  obtain ⟨rfl, hsz, hP, hK, hD0⟩ := hv
  have hx := B.exec
  have hb := B.bytes
  have hr := B.returns
  have hts := atoms_spec (ws := ws_AL_clear) B.pre
  have htw : ∀ w ∈ tw_tbl, w.before [.ref h0].toArray s = true := fun w h => hts w (List.mem_cons_of_mem _ h)
  have hown : s.vm.findClass R_AL = some m.cls := findClass_of_methodNamed B.named
  have hlocks := B.notSynchronized
  have hin : meth.name = "clear" := (name_of_methodNamed B.named B.method).1
  subst hsz
  have hD := hD0.self (sz := s.heap.size)
  generalize hAe : va_A [(h0, .inr (1, [.ref dE, .int 0, .int mo]))] s.heap.size = A at hD ⊢
  have hA : ∀ q : Nat, s.heap.size ≤ q → A q := fun q h => by rw [← hAe]; exact Or.inr h
  have hS : va_S A s.heap s.heap [] := va_S.rf
  have hP : va_P (dC, dI) classes [(h0, .inr (1, [.ref dE, .int 0, .int mo]))] s.heap := hP
  have hl := lv_entry ([.ref h0]) (n := 4) (Nat.le_of_ble_eq_true rfl)
  rw [lg_entry_eq]
  generalize (lg_sl ([.ref h0]) ++ List.replicate (4 - (lg_sl ([.ref h0])).length) Slot.unset).toArray = ls at hl ⊢
  have hl : lv_has ls 4 [(0, .ref h0)] := hl
  refine lv_aload_n hx hb d_AL_clear_0 rfl (lv_at hl 0 rfl) ?_
  refine lv_dup hx hb d_AL_clear_1 rfl ?_
  refine va_get (D := (dC, dI)) (ci := 1) (v := .int mo) (C := R_AL) (T := F_AL) (N := 3) hx hb htw i_AL hown hK hP 0 rfl rfl 2 (by decide) (htw _ wd_1_104) (u_same (htw _ wd_1_105)) rfl d_AL_clear_2 ?_
  refine lv_iconst (v := 1) hx hb d_AL_clear_5 (by decide) ?_
  refine lv_iadd hx hb d_AL_clear_6 ?_
  refine va_put (D := (dC, dI)) (ci := 1) (v := .int (mo + 1)) (ty := .int) (C := R_AL) (T := F_AL) (N := 3) hx hb htw i_AL t_AL t_AL_ok n_AL hown hK hP hD hS 0 rfl rfl 2 (by decide) (htw _ wd_1_104) (u_same (htw _ wd_1_105)) rfl (by decide +kernel) rfl rfl (Nat.le_of_ble_eq_true rfl) d_AL_clear_7 (fun H locs hP hD hS => ?_)
  have hP : va_P (dC, dI) classes [(h0, .inr (1, [.ref dE, .int 0, .int (mo + 1)]))] H := hP
  have hD : va_D A [(h0, .inr (1, [.ref dE, .int 0, .int (mo + 1)]))] := hD
  refine lv_aload_n hx hb d_AL_clear_10 rfl (lv_at hl 0 rfl) ?_
  refine va_get (D := (dC, dI)) (ci := 1) (v := .ref dE) (C := R_AL) (T := F_AL) (N := 3) hx hb htw i_AL hown hK hP 0 rfl rfl 0 (by decide) (htw _ wd_1_101) (fun _ h9 => h9) rfl d_AL_clear_11 ?_
  refine lv_astore_n hx hb d_AL_clear_14 rfl hl (by decide) rfl (fun ls hl => ?_)
  have hl : lv_has ls 4 [(1, .ref dE), (0, .ref h0)] := hl
  refine lv_aload_n hx hb d_AL_clear_15 rfl (lv_at hl 1 rfl) ?_
  refine va_get (D := (dC, dI)) (ci := 1) (v := .int 0) (C := R_AL) (T := F_AL) (N := 3) hx hb htw i_AL hown hK hP 0 rfl rfl 1 (by decide) (htw _ wd_1_102) (fun _ h9 => h9) rfl d_AL_clear_16 ?_
  refine lv_istore_n hx hb d_AL_clear_19 rfl hl (by decide) rfl (fun ls hl => ?_)
  have hl : lv_has ls 4 [(2, .int 0), (1, .ref dE), (0, .ref h0)] := hl
  refine lv_aload_n hx hb d_AL_clear_20 rfl (lv_at hl 2 rfl) ?_
  refine lv_iconst (v := 0) hx hb d_AL_clear_21 (by decide) ?_
  refine lv_dup_x1 hx hb d_AL_clear_22 rfl rfl ?_
  refine va_put (D := (dC, dI)) (ci := 1) (v := .int 0) (ty := .int) (C := R_AL) (T := F_AL) (N := 3) hx hb htw i_AL t_AL t_AL_ok n_AL hown hK hP hD hS 0 rfl rfl 1 (by decide) (htw _ wd_1_102) (fun _ h9 => h9) rfl (by decide +kernel) rfl rfl (Nat.le_of_ble_eq_true rfl) d_AL_clear_23 (fun H locs hP hD hS => ?_)
  have hP : va_P (dC, dI) classes [(h0, .inr (1, [.ref dE, .int 0, .int (mo + 1)]))] H := hP
  have hD : va_D A [(h0, .inr (1, [.ref dE, .int 0, .int (mo + 1)]))] := hD
  refine lv_istore_n hx hb d_AL_clear_26 rfl hl (by decide) rfl (fun ls hl => ?_)
  have hl : lv_has ls 4 [(3, .int 0), (2, .int 0), (1, .ref dE), (0, .ref h0)] := hl
  refine lv_iload_n hx hb d_AL_clear_27 rfl (lv_at hl 0 rfl) ?_
  refine lv_iload_n hx hb d_AL_clear_28 rfl (lv_at hl 1 rfl) ?_
  refine lv_icmp_ge (tgt := 42) hx hb d_AL_clear_29 rfl (fun _ => ?_) (fun hn => absurd (by decide) hn)
  have hP9 := hP.sub (ws' := [(h0, .inr (1, [.ref dE, .int 0, .int (mo + 1)]))]) [0] rfl
  have hD9 := hD.sub (ws' := [(h0, .inr (1, [.ref dE, .int 0, .int (mo + 1)]))]) [0] (by decide) rfl
  have hK9 := hK.sub (tys' := []) [] rfl
  refine W.widen (k := 0) (n := 0) (by omega) (by omega) ?_
  exact W.vret hx hb hr (fun t ht hW => ⟨⟨(), rfl, trivial, by rw [ht]; exact hP9, va_K.moved hW.alike hK9, hD9⟩, hS.F ht⟩) hS.2.2 d_AL_clear_42
set_option maxHeartbeats 4000000 in
set_option maxRecDepth 100000 in
theorem c_Values_clear (l : Launch) (dC : Nat → ClassId) (dI : Nat → Nat → Nat) (sz : Nat) (h0 : Nat) (al : Nat) (vd : Nat) (va : Nat) (u : Int32) (k : Int32) : Met l y_Values_clear ws_Values_clear ({ frames := 0, cells := 0, slots := 0, locals := 0 }) (va_Pc [.ref h0] (fun U => U.heap.size = sz ∧ va_P (dC, dI) classes [(h0, .inr (2, [.ref al, .ref vd, .int u])), (vd, .inr (0, [.ref va, .int k]))] U.heap ∧ va_K (dC, dI) classes [] U ∧ va_D (fun _ => True) [(h0, .inr (2, [.ref al, .ref vd, .int u])), (vd, .inr (0, [.ref va, .int k]))])) (va_Qv (fun _ : Unit => True) (fun _ t => va_P (dC, dI) classes [(h0, .inr (2, [.ref al, .ref vd, .int 0])), (vd, .inr (0, [.ref va, .int 0]))] t.heap ∧ va_K (dC, dI) classes [] t ∧ va_D (va_A [(h0, .inr (2, [.ref al, .ref vd, .int u])), (vd, .inr (0, [.ref va, .int k]))] sz) [(h0, .inr (2, [.ref al, .ref vd, .int 0])), (vd, .inr (0, [.ref va, .int 0]))]) (va_A [(h0, .inr (2, [.ref al, .ref vd, .int u])), (vd, .inr (0, [.ref va, .int k]))] sz)) 0 0 (va_A [(h0, .inr (2, [.ref al, .ref vd, .int u])), (vd, .inr (0, [.ref va, .int k]))] sz) := by
  refine Met.ofW (cc := b_Values_clear) (maxL := 1) (ret := none) (by decide) rfl ?_
  intro p e s m args below meth c s₁ B hml hv
  obtain ⟨rfl, hsz, hP, hK, hD0⟩ := hv
  have hx := B.exec
  have hb := B.bytes
  have hr := B.returns
  have hts := atoms_spec (ws := ws_Values_clear) B.pre
  have htw : ∀ w ∈ tw_tbl, w.before [.ref h0].toArray s = true := fun w h => hts w (List.mem_cons_of_mem _ h)
  have hown : s.vm.findClass R_Values = some m.cls := findClass_of_methodNamed B.named
  have hlocks := B.notSynchronized
  have hin : meth.name = "clear" := (name_of_methodNamed B.named B.method).1
  subst hsz
  have hD := hD0.self (sz := s.heap.size)
  generalize hAe : va_A [(h0, .inr (2, [.ref al, .ref vd, .int u])), (vd, .inr (0, [.ref va, .int k]))] s.heap.size = A at hD ⊢
  have hA : ∀ q : Nat, s.heap.size ≤ q → A q := fun q h => by rw [← hAe]; exact Or.inr h
  have hS : va_S A s.heap s.heap [] := va_S.rf
  have hP : va_P (dC, dI) classes [(h0, .inr (2, [.ref al, .ref vd, .int u])), (vd, .inr (0, [.ref va, .int k]))] s.heap := hP
  have hl := lv_entry ([.ref h0]) (n := 1) (Nat.le_of_ble_eq_true rfl)
  rw [lg_entry_eq]
  generalize (lg_sl ([.ref h0]) ++ List.replicate (1 - (lg_sl ([.ref h0])).length) Slot.unset).toArray = ls at hl ⊢
  have hl : lv_has ls 1 [(0, .ref h0)] := hl
  refine lv_aload_n hx hb d_Values_clear_0 rfl (lv_at hl 0 rfl) ?_
  refine lv_iconst (v := 0) hx hb d_Values_clear_1 (by decide) ?_
  refine va_put (D := (dC, dI)) (ci := 2) (v := .int 0) (ty := .int) (C := R_Values) (T := F_Values) (N := 3) hx hb htw i_Values t_Values t_Values_ok n_Values hown hK hP hD hS 0 rfl rfl 2 (by decide) (htw _ wd_1_132) (fun _ h9 => h9) rfl (by decide +kernel) rfl rfl (Nat.le_of_ble_eq_true rfl) d_Values_clear_2 (fun H locs hP hD hS => ?_)
  have hP : va_P (dC, dI) classes [(h0, .inr (2, [.ref al, .ref vd, .int 0])), (vd, .inr (0, [.ref va, .int k]))] H := hP
  have hD : va_D A [(h0, .inr (2, [.ref al, .ref vd, .int 0])), (vd, .inr (0, [.ref va, .int k]))] := hD
  refine lv_aload_n hx hb d_Values_clear_5 rfl (lv_at hl 0 rfl) ?_
  refine va_get (D := (dC, dI)) (ci := 2) (v := .ref vd) (C := R_Values) (T := F_Values) (N := 3) hx hb htw i_Values hown hK hP 0 rfl rfl 1 (by decide) (htw _ wd_1_126) (fun _ h9 => h9) rfl d_Values_clear_6 ?_
  refine lv_iconst (v := 0) hx hb d_Values_clear_9 (by decide) ?_
  refine va_put (D := (dC, dI)) (ci := 0) (v := .int 0) (ty := .int) (C := R_Bytes) (T := F_Bytes) (N := 2) hx hb htw i_Bytes t_Bytes t_Bytes_ok n_Bytes hown hK hP hD hS 1 rfl rfl 1 (by decide) (htw _ wd_1_66) (fun _ h9 => h9) rfl (by decide +kernel) rfl rfl (Nat.le_of_ble_eq_true rfl) d_Values_clear_10 (fun H locs hP hD hS => ?_)
  have hP : va_P (dC, dI) classes [(h0, .inr (2, [.ref al, .ref vd, .int 0])), (vd, .inr (0, [.ref va, .int 0]))] H := hP
  have hD : va_D A [(h0, .inr (2, [.ref al, .ref vd, .int 0])), (vd, .inr (0, [.ref va, .int 0]))] := hD
  have hP9 := hP.sub (ws' := [(h0, .inr (2, [.ref al, .ref vd, .int 0])), (vd, .inr (0, [.ref va, .int 0]))]) [0, 1] rfl
  have hD9 := hD.sub (ws' := [(h0, .inr (2, [.ref al, .ref vd, .int 0])), (vd, .inr (0, [.ref va, .int 0]))]) [0, 1] (by decide) rfl
  have hK9 := hK.sub (tys' := []) [] rfl
  refine W.widen (k := 0) (n := 0) (by omega) (by omega) ?_
  exact W.vret hx hb hr (fun t ht hW => ⟨⟨(), rfl, trivial, by rw [ht]; exact hP9, va_K.moved hW.alike hK9, hD9⟩, hS.F ht⟩) hS.2.2 d_Values_clear_13
set_option maxHeartbeats 4000000 in
set_option maxRecDepth 100000 in
theorem c_Arrs_fill (l : Launch) (dC : Nat → ClassId) (dI : Nat → Nat → Nat) (sz : Nat) (qa : Nat) (ca : ClassId) (n : Nat) (f : Nat → Int32) (x : Int32) (hn : n ≤ 65536) : Met l y_Arrs_fill ws_Arrs_fill ({ frames := 0, cells := 0, slots := 0, locals := 0 }) (va_Pc [.ref qa, .int x] (fun U => U.heap.size = sz ∧ va_P (dC, dI) classes [(qa, .inl (ca, n, .inl f))] U.heap ∧ va_K (dC, dI) classes [(ca, .int)] U ∧ va_D (fun _ => True) [(qa, .inl (ca, n, .inl f))])) (va_Qv (fun _ : Unit => True) (fun _ t => ∃ (g2 : Nat → Int32), (∀ j, j < n → g2 j = x) ∧ va_P (dC, dI) classes [(qa, .inl (ca, n, .inl g2))] t.heap ∧ va_K (dC, dI) classes [(ca, .int)] t ∧ va_D (va_A [(qa, .inl (ca, n, .inl f))] sz) [(qa, .inl (ca, n, .inl g2))]) (va_A [(qa, .inl (ca, n, .inl f))] sz)) 0 0 (va_A [(qa, .inl (ca, n, .inl f))] sz) := by
  refine Met.ofW (cc := b_Arrs_fill) (maxL := 4) (ret := none) (by decide) rfl ?_
  intro p e s m args below meth c s₁ B hml hv
  obtain ⟨rfl, hsz, hP, hK, hD0⟩ := hv
  have hx := B.exec
  have hb := B.bytes
  have hr := B.returns
  have hts := atoms_spec (ws := ws_Arrs_fill) B.pre
  have htw : ∀ w ∈ tw_tbl, w.before [.ref qa, .int x].toArray s = true := fun w h => hts w (List.mem_cons_of_mem _ h)
  have hown : s.vm.findClass R_Arrs = some m.cls := findClass_of_methodNamed B.named
  have hlocks := B.notSynchronized
  have hin : meth.name = "fill" := (name_of_methodNamed B.named B.method).1
  subst hsz
  have hD := hD0.self (sz := s.heap.size)
  generalize hAe : va_A [(qa, .inl (ca, n, .inl f))] s.heap.size = A at hD ⊢
  have hA : ∀ q : Nat, s.heap.size ≤ q → A q := fun q h => by rw [← hAe]; exact Or.inr h
  have hS : va_S A s.heap s.heap [] := va_S.rf
  have hP : va_P (dC, dI) classes [(qa, .inl (ca, n, .inl f))] s.heap := hP
  have hl := lv_entry ([.ref qa, .int x]) (n := 4) (Nat.le_of_ble_eq_true rfl)
  rw [lg_entry_eq]
  generalize (lg_sl ([.ref qa, .int x]) ++ List.replicate (4 - (lg_sl ([.ref qa, .int x])).length) Slot.unset).toArray = ls at hl ⊢
  have hl : lv_has ls 4 [(0, .ref qa), (1, .int x)] := hl
  refine lv_iconst (v := 0) hx hb d_Arrs_fill_0 (by decide) ?_
  refine lv_istore_n hx hb d_Arrs_fill_1 rfl hl (by decide) rfl (fun ls hl => ?_)
  have hl : lv_has ls 4 [(2, .int 0), (0, .ref qa), (1, .int x)] := hl
  refine lv_aload_n hx hb d_Arrs_fill_2 rfl (lv_at hl 1 rfl) ?_
  refine va_alen (v := nI n) hx hb hK hP 0 0 rfl rfl rfl d_Arrs_fill_3 ?_
  refine lv_istore_n hx hb d_Arrs_fill_4 rfl hl (by decide) rfl (fun ls hl => ?_)
  have hl : lv_has ls 4 [(3, .int (nI n)), (2, .int 0), (0, .ref qa), (1, .int x)] := hl
  have lp : ∀ (fuel : Nat) (i : Nat) (g : Nat → Int32) (H : Heap) (locs : List Loc) (ls : Array Slot), i ≤ n → (∀ j, j < i → g j = x) → n - i < fuel → lv_has ls 4 [(2, .int (nI i)), (3, .int (nI n)), (0, .ref qa), (1, .int x)] → va_P (dC, dI) classes [(qa, .inl (ca, n, .inl g))] H → va_D A [(qa, .inl (ca, n, .inl g))] → va_S A s.heap H locs → W p l e (headSpec ws_Arrs_fill ({ frames := 0, cells := 0, slots := 0, locals := 0 })).room s m [.ref qa, .int x].toArray below meth c H locs 0 0 (MQ below (va_Qv (fun _ : Unit => True) (fun _ t => ∃ (g2 : Nat → Int32), (∀ j, j < n → g2 j = x) ∧ va_P (dC, dI) classes [(qa, .inl (ca, n, .inl g2))] t.heap ∧ va_K (dC, dI) classes [(ca, .int)] t ∧ va_D A [(qa, .inl (ca, n, .inl g2))]) A) [.ref qa, .int x].toArray s 0 0 A) (F0 m 5 ls []) := by
    intro fuel
    induction fuel with
    | zero => intro i g H locs ls hi hg hm; omega
    | succ fuel ih =>
      intro i g H locs ls hi hg hm hl hP hD hS
      refine lv_iload_n hx hb d_Arrs_fill_5 rfl (lv_at hl 0 rfl) ?_
      refine lv_iload_n hx hb d_Arrs_fill_6 rfl (lv_at hl 1 rfl) ?_
      refine lv_icmp_ge (tgt := 20) hx hb d_Arrs_fill_7 rfl (fun h1 => ?_) (fun h1 => ?_)
      · have hP9 := hP.sub (ws' := [(qa, .inl (ca, n, .inl g))]) [0] rfl
        have hD9 := hD.sub (ws' := [(qa, .inl (ca, n, .inl g))]) [0] (by decide) rfl
        have hK9 := hK.sub (tys' := [(ca, .int)]) [0] rfl
        refine W.widen (k := 0) (n := 0) (by omega) (by omega) ?_
        exact W.vret hx hb hr (fun t ht hW => ⟨⟨(), rfl, trivial, g, (fun j hj => hg j (by have := (nI_leI (by omega) (by omega)).mp h1; omega)), by rw [ht]; exact hP9, va_K.moved hW.alike hK9, hD9⟩, hS.F ht⟩) hS.2.2 d_Arrs_fill_20
      · refine lv_aload_n hx hb d_Arrs_fill_10 rfl (lv_at hl 2 rfl) ?_
        refine lv_iload_n hx hb d_Arrs_fill_11 rfl (lv_at hl 0 rfl) ?_
        refine lv_iload_n hx hb d_Arrs_fill_12 rfl (lv_at hl 3 rfl) ?_
        refine va_iast hx hb hK hP hD hS 0 0 rfl rfl (tz_in (nI_pos (by omega)) h1 (by omega)) d_Arrs_fill_13 (fun H locs hP hD hS => ?_)
        have hP : va_P (dC, dI) classes [(qa, .inl (ca, n, .inl (upd g (nI i).toNatClampNeg x)))] H := hP
        have hD : va_D A [(qa, .inl (ca, n, .inl (upd g (nI i).toNatClampNeg x)))] := hD
        refine lv_iinc (k := 0) (v := nI (i + 1)) hx hb d_Arrs_fill_14 hl rfl (nI_1 i) (by decide) rfl (fun ls hl => ?_)
        have hl : lv_has ls 4 [(2, .int (nI (i + 1))), (3, .int (nI n)), (0, .ref qa), (1, .int x)] := hl
        refine lv_goto (tgt := 5) hx hb d_Arrs_fill_17 rfl ?_
        have h2 : i < n := by have := (not_congr (nI_leI (by omega) (by omega))).mp h1; omega
        exact ih ((i + 1)) ((upd g (nI i).toNatClampNeg x)) _ _ _ (by omega) (tz_fill (by omega) hg) (by omega) (lv_sub hl [0, 1, 2, 3] rfl) (hP.sub [0] rfl) (hD.sub [0] (by decide) rfl) hS
  exact lp ((n - 0) + 1) 0 f _ _ _ (by omega) (fun j hj => absurd hj (Nat.not_lt_zero j)) (Nat.lt_succ_self _) (lv_sub hl [1, 0, 2, 3] rfl) (hP.sub [0] rfl) (hD.sub [0] (by decide) rfl) hS
