/-! by program (wip/p1): contracts -/
set_option maxHeartbeats 4000000 in
set_option maxRecDepth 100000 in
theorem c_Bytes_init (l : Launch) (dC : Nat → ClassId) (dI : Nat → Nat → Nat) (sz : Nat) (h0 : Nat) (n : Nat) (hn : n ≤ 65536) : Met l y_Bytes_init ws_Bytes_init ({ frames := 1, cells := 1, slots := n, locals := 12 }) (va_Pc [.ref h0, .int (nI n)] (fun U => U.heap.size = sz ∧ va_P (dC, dI) classes [(h0, .inr (0, [.null, .int 0]))] U.heap ∧ va_K (dC, dI) classes [] U ∧ va_D (fun _ => True) [(h0, .inr (0, [.null, .int 0]))])) (va_Qv (fun _ : Unit => True) (fun _ t => ∃ (qa : Nat) (ca : ClassId), va_P (dC, dI) classes [(h0, .inr (0, [.ref qa, .int 0])), (qa, .inl (ca, n, .inl ((fun _ => 0))))] t.heap ∧ va_K (dC, dI) classes [(ca, .byte)] t ∧ va_D (va_A [(h0, .inr (0, [.null, .int 0]))] sz) [(h0, .inr (0, [.ref qa, .int 0])), (qa, .inl (ca, n, .inl ((fun _ => 0))))]) (va_A [(h0, .inr (0, [.null, .int 0]))] sz)) 1 n (va_A [(h0, .inr (0, [.null, .int 0]))] sz) := by
  refine Met.ofW (cc := b_Bytes_init) (maxL := 2) (ret := none) (by decide) rfl ?_
  intro p e s m args below meth c s₁ B hml hv
  obtain ⟨rfl, hsz, hP, hK, hD0⟩ := hv
  have hx := B.exec
  have hb := B.bytes
  have hr := B.returns
  have hts := atoms_spec (ws := ws_Bytes_init) B.pre
  have htw : ∀ w ∈ tw_tbl, w.before [.ref h0, .int (nI n)].toArray s = true := fun w h => hts w (List.mem_cons_of_mem _ h)
  have hown : s.vm.findClass R_Bytes = some m.cls := findClass_of_methodNamed B.named
  have hlocks := B.notSynchronized
  have hin : meth.name = "<init>" := (name_of_methodNamed B.named B.method).1
  subst hsz
  have hD := hD0.self (sz := s.heap.size)
  generalize hAe : va_A [(h0, .inr (0, [.null, .int 0]))] s.heap.size = A at hD ⊢
  have hA : ∀ q : Nat, s.heap.size ≤ q → A q := fun q h => by rw [← hAe]; exact Or.inr h
  have hS : va_S A s.heap s.heap [] := va_S.rf
  have hP : va_P (dC, dI) classes [(h0, .inr (0, [.null, .int 0]))] s.heap := hP
  have hl := lv_entry ([.ref h0, .int (nI n)]) (n := 2) (Nat.le_of_ble_eq_true rfl)
  rw [lg_entry_eq]
  generalize (lg_sl ([.ref h0, .int (nI n)]) ++ List.replicate (2 - (lg_sl ([.ref h0, .int (nI n)])).length) Slot.unset).toArray = ls at hl ⊢
  have hl : lv_has ls 2 [(0, .ref h0), (1, .int (nI n))] := hl
  refine lv_aload_n hx hb d_Bytes_init_0 rfl (lv_at hl 0 rfl) ?_
  refine W.objInit hx hb hown (htw _ wd_1_58) (htw _ wd_1_51) (htw _ wd_1_52) rfl (by rw [hml]; exact hl.1) rfl d_Bytes_init_1 (Nat.le_of_ble_eq_true rfl) (Nat.le_of_ble_eq_true rfl) ?_
  refine W.eq (g2 := F0 m 4 ls []) rfl ?_
  refine lv_aload_n hx hb d_Bytes_init_4 rfl (lv_at hl 0 rfl) ?_
  refine lv_iload_n hx hb d_Bytes_init_5 rfl (lv_at hl 1 rfl) ?_
  have hc0 : 0 + 1 ≤ 1 := by omega
  have hs0 : 0 + n ≤ n := by omega
  refine va_newa (atype := .byte) (a0 := (n, .inl (fun _ => 0))) hx hb (htw _ wd_1_80) rfl hK hP hD hS hA (fun _ => rfl) (nI_pos (by omega)) (nI_clamp (by omega)) (by show _ * 1 ≤ _; omega) hc0 hs0 d_Bytes_init_6 (fun q1 cA2 H hK hP hD hS => ?_)
  have hP : va_P (dC, dI) classes [(h0, .inr (0, [.null, .int 0])), (q1, .inl (cA2, n, .inl ((fun _ => 0))))] H := hP
  have hD : va_D A [(h0, .inr (0, [.null, .int 0])), (q1, .inl (cA2, n, .inl ((fun _ => 0))))] := hD
  refine va_put (D := (dC, dI)) (ci := 0) (v := .ref q1) (ty := .array .byte) (C := R_Bytes) (T := F_Bytes) (N := 2) hx hb htw i_Bytes t_Bytes t_Bytes_ok n_Bytes hown hK hP hD hS 0 rfl rfl 0 (by decide) (htw _ wd_1_59) (fun _ h9 => h9) rfl (by decide +kernel) rfl rfl (Nat.le_of_ble_eq_true rfl) d_Bytes_init_8 (fun H locs hP hD hS => ?_)
  have hP : va_P (dC, dI) classes [(h0, .inr (0, [.ref q1, .int 0])), (q1, .inl (cA2, n, .inl ((fun _ => 0))))] H := hP
  have hD : va_D A [(h0, .inr (0, [.ref q1, .int 0])), (q1, .inl (cA2, n, .inl ((fun _ => 0))))] := hD
  refine lv_aload_n hx hb d_Bytes_init_11 rfl (lv_at hl 0 rfl) ?_
  refine lv_iconst (v := 0) hx hb d_Bytes_init_12 (by decide) ?_
  refine va_put (D := (dC, dI)) (ci := 0) (v := .int 0) (ty := .int) (C := R_Bytes) (T := F_Bytes) (N := 2) hx hb htw i_Bytes t_Bytes t_Bytes_ok n_Bytes hown hK hP hD hS 0 rfl rfl 1 (by decide) (htw _ wd_1_64) (fun _ h9 => h9) rfl (by decide +kernel) rfl rfl (Nat.le_of_ble_eq_true rfl) d_Bytes_init_13 (fun H locs hP hD hS => ?_)
  have hP : va_P (dC, dI) classes [(h0, .inr (0, [.ref q1, .int 0])), (q1, .inl (cA2, n, .inl ((fun _ => 0))))] H := hP
  have hD : va_D A [(h0, .inr (0, [.ref q1, .int 0])), (q1, .inl (cA2, n, .inl ((fun _ => 0))))] := hD
  have hP9 := hP.sub (ws' := [(h0, .inr (0, [.ref q1, .int 0])), (q1, .inl (cA2, n, .inl ((fun _ => 0))))]) [0, 1] rfl
  have hD9 := hD.sub (ws' := [(h0, .inr (0, [.ref q1, .int 0])), (q1, .inl (cA2, n, .inl ((fun _ => 0))))]) [0, 1] (by decide) rfl
  have hK9 := hK.sub (tys' := [(cA2, .byte)]) [0] rfl
  refine W.widen (k := 1) (n := n) (by omega) (by omega) ?_
  exact W.vret hx hb hr (fun t ht hW => ⟨⟨(), rfl, trivial, q1, cA2, by rw [ht]; exact hP9, va_K.moved hW.alike hK9, hD9⟩, hS.F ht⟩) hS.2.2 d_Bytes_init_16
set_option maxHeartbeats 4000000 in
set_option maxRecDepth 100000 in
theorem c_AbC_init (l : Launch) (dC : Nat → ClassId) (dI : Nat → Nat → Nat) (sz : Nat) (h0 : Nat) : Met l y_AbC_init ws_AbC_init ({ frames := 1, cells := 0, slots := 0, locals := 12 }) (va_Pc [.ref h0] (fun U => U.heap.size = sz ∧ va_P (dC, dI) classes [(h0, .inr (1, [.null, .int 0, .int 0]))] U.heap ∧ va_K (dC, dI) classes [] U ∧ va_D (fun _ => True) [(h0, .inr (1, [.null, .int 0, .int 0]))])) (va_Qv (fun _ : Unit => True) (fun _ t => va_P (dC, dI) classes [(h0, .inr (1, [.null, .int 0, .int 0]))] t.heap ∧ va_K (dC, dI) classes [] t ∧ va_D (va_A [(h0, .inr (1, [.null, .int 0, .int 0]))] sz) [(h0, .inr (1, [.null, .int 0, .int 0]))]) (va_A [(h0, .inr (1, [.null, .int 0, .int 0]))] sz)) 0 0 (va_A [(h0, .inr (1, [.null, .int 0, .int 0]))] sz) := by
  refine Met.ofW (cc := b_AbC_init) (maxL := 1) (ret := none) (by decide) rfl ?_
  intro p e s m args below meth c s₁ B hml hv
  obtain ⟨rfl, hsz, hP, hK, hD0⟩ := hv
  have hx := B.exec
  have hb := B.bytes
  have hr := B.returns
  have hts := atoms_spec (ws := ws_AbC_init) B.pre
  have htw : ∀ w ∈ tw_tbl, w.before [.ref h0].toArray s = true := fun w h => hts w (List.mem_cons_of_mem _ h)
  have hown : s.vm.findClass R_AbC = some m.cls := findClass_of_methodNamed B.named
  have hlocks := B.notSynchronized
  have hin : meth.name = "<init>" := (name_of_methodNamed B.named B.method).1
  subst hsz
  have hD := hD0.self (sz := s.heap.size)
  generalize hAe : va_A [(h0, .inr (1, [.null, .int 0, .int 0]))] s.heap.size = A at hD ⊢
  have hA : ∀ q : Nat, s.heap.size ≤ q → A q := fun q h => by rw [← hAe]; exact Or.inr h
  have hS : va_S A s.heap s.heap [] := va_S.rf
  have hP : va_P (dC, dI) classes [(h0, .inr (1, [.null, .int 0, .int 0]))] s.heap := hP
  have hl := lv_entry ([.ref h0]) (n := 1) (Nat.le_of_ble_eq_true rfl)
  rw [lg_entry_eq]
  generalize (lg_sl ([.ref h0]) ++ List.replicate (1 - (lg_sl ([.ref h0])).length) Slot.unset).toArray = ls at hl ⊢
  have hl : lv_has ls 1 [(0, .ref h0)] := hl
  refine lv_aload_n hx hb d_AbC_init_0 rfl (lv_at hl 0 rfl) ?_
  refine W.objInit hx hb hown (htw _ wd_1_98) (htw _ wd_1_51) (htw _ wd_1_52) rfl (by rw [hml]; exact hl.1) rfl d_AbC_init_1 (Nat.le_of_ble_eq_true rfl) (Nat.le_of_ble_eq_true rfl) ?_
  refine W.eq (g2 := F0 m 4 ls []) rfl ?_
  have hP9 := hP.sub (ws' := [(h0, .inr (1, [.null, .int 0, .int 0]))]) [0] rfl
  have hD9 := hD.sub (ws' := [(h0, .inr (1, [.null, .int 0, .int 0]))]) [0] (by decide) rfl
  have hK9 := hK.sub (tys' := []) [] rfl
  refine W.widen (k := 0) (n := 0) (by omega) (by omega) ?_
  exact W.vret hx hb hr (fun t ht hW => ⟨⟨(), rfl, trivial, by rw [ht]; exact hP9, va_K.moved hW.alike hK9, hD9⟩, hS.F ht⟩) hS.2.2 d_AbC_init_4
set_option maxHeartbeats 4000000 in
set_option maxRecDepth 100000 in
theorem c_AbL_init (l : Launch) (dC : Nat → ClassId) (dI : Nat → Nat → Nat) (sz : Nat) (h0 : Nat) : Met l y_AbL_init ws_AbL_init ({ frames := 2, cells := 0, slots := 0, locals := 32 }) (va_Pc [.ref h0] (fun U => U.heap.size = sz ∧ va_P (dC, dI) classes [(h0, .inr (1, [.null, .int 0, .int 0]))] U.heap ∧ va_K (dC, dI) classes [] U ∧ va_D (fun _ => True) [(h0, .inr (1, [.null, .int 0, .int 0]))])) (va_Qv (fun _ : Unit => True) (fun _ t => va_P (dC, dI) classes [(h0, .inr (1, [.null, .int 0, .int 0]))] t.heap ∧ va_K (dC, dI) classes [] t ∧ va_D (va_A [(h0, .inr (1, [.null, .int 0, .int 0]))] sz) [(h0, .inr (1, [.null, .int 0, .int 0]))]) (va_A [(h0, .inr (1, [.null, .int 0, .int 0]))] sz)) 0 0 (va_A [(h0, .inr (1, [.null, .int 0, .int 0]))] sz) := by
  refine Met.ofW (cc := b_AbL_init) (maxL := 1) (ret := none) (by decide) rfl ?_
  intro p e s m args below meth c s₁ B hml hv
  obtain ⟨rfl, hsz, hP, hK, hD0⟩ := hv
  have hx := B.exec
  have hb := B.bytes
  have hr := B.returns
  have hts := atoms_spec (ws := ws_AbL_init) B.pre
  have htw : ∀ w ∈ tw_tbl, w.before [.ref h0].toArray s = true := fun w h => hts w (List.mem_cons_of_mem _ h)
  have hown : s.vm.findClass R_AbL = some m.cls := findClass_of_methodNamed B.named
  have hlocks := B.notSynchronized
  have hin : meth.name = "<init>" := (name_of_methodNamed B.named B.method).1
  subst hsz
  have hD := hD0.self (sz := s.heap.size)
  generalize hAe : va_A [(h0, .inr (1, [.null, .int 0, .int 0]))] s.heap.size = A at hD ⊢
  have hA : ∀ q : Nat, s.heap.size ≤ q → A q := fun q h => by rw [← hAe]; exact Or.inr h
  have hS : va_S A s.heap s.heap [] := va_S.rf
  have hP : va_P (dC, dI) classes [(h0, .inr (1, [.null, .int 0, .int 0]))] s.heap := hP
  have hl := lv_entry ([.ref h0]) (n := 1) (Nat.le_of_ble_eq_true rfl)
  rw [lg_entry_eq]
  generalize (lg_sl ([.ref h0]) ++ List.replicate (1 - (lg_sl ([.ref h0])).length) Slot.unset).toArray = ls at hl ⊢
  have hl : lv_has ls 1 [(0, .ref h0)] := hl
  refine lv_aload_n hx hb d_AbL_init_0 rfl (lv_at hl 0 rfl) ?_
  have hc0 : 0 + 0 ≤ 0 := by omega
  have hs0 : 0 + 0 ≤ 0 := by omega
  have hPc := hP.sub (ws' := [(h0, .inr (1, [.null, .int 0, .int 0]))]) [0] rfl
  have hDc := hD.sub (ws' := [(h0, .inr (1, [.null, .int 0, .int 0]))]) [0] (by decide) rfl
  have hKc := hK.sub (tys' := []) [] rfl
  have hFc := va_free (wc := [(h0, .inr (1, [.null, .int 0, .int 0]))]) hD hS hA [0] rfl
  refine va_callv (va_runI (As := []) (rest := []) ⟨hx, hb, hml, hown, htw⟩ (c_AbC_init l dC dI s.heap.size h0) (cwI 0 htw (tw_inL k_AbC_init) rfl rfl rfl (htw _ wd_1_4) (htw _ wd_1_95) (htw _ wd_1_96) rfl (by decide +kernel) ⟨Nat.le_of_ble_eq_true rfl, Nat.le_of_ble_eq_true rfl⟩) ⟨fun a U g mk q => by obtain ⟨q0, q1, qP, qK, qD⟩ := q; exact ⟨q0, q1, qP, va_K.moved (u := U) (U := U.calling g mk a) (Vm.Alike.refl U.vm) qK, qD⟩, fun U hU hW => ⟨rfl, by rw [hU], by rw [hU]; exact hPc, va_K.moved hW.alike hKc, hDc.weaken (fun _ _ _ _ => trivial)⟩⟩ rfl rfl hl.1 rfl (lv_room (Nat.le_of_ble_eq_true rfl)) d_AbL_init_1 ⟨hc0, hs0⟩) hS (fun q _ h => hFc q h) hFc (fun u t H1 locs ht hvm hw hB hz1 hk1 hS => ?_)
  obtain ⟨hP1, hK1, hD1⟩ := hB
  rw [ht] at hP1
  have hK1 := va_K.moved hvm.symm hK1
  obtain ⟨hP, hD⟩ := va_join (wr := []) (w1 := [(h0, .inr (1, [.null, .int 0, .int 0]))]) hP hD [0] [] rfl rfl (by decide) (by decide) hk1 hFc hP1 hD1
  have hK := (hK.sub (tys' := []) [] rfl).app hK1
  generalize H1 = H at hP hS ⊢
  have hP : va_P (dC, dI) classes [(h0, .inr (1, [.null, .int 0, .int 0]))] H := hP
  have hD : va_D A [(h0, .inr (1, [.null, .int 0, .int 0]))] := hD
  have hK : va_K (dC, dI) classes [] s := hK
  refine lv_aload_n hx hb d_AbL_init_4 rfl (lv_at hl 0 rfl) ?_
  refine lv_iconst (v := 0) hx hb d_AbL_init_5 (by decide) ?_
  refine va_put (D := (dC, dI)) (ci := 1) (v := .int 0) (ty := .int) (C := R_AL) (T := F_AL) (N := 3) hx hb htw i_AL t_AL t_AL_ok n_AL hown hK hP hD hS 0 rfl rfl 2 (by decide) (htw _ wd_1_103) (fun _ h9 => h9) rfl (by decide +kernel) rfl rfl (Nat.le_of_ble_eq_true rfl) d_AbL_init_6 (fun H locs hP hD hS => ?_)
  have hP : va_P (dC, dI) classes [(h0, .inr (1, [.null, .int 0, .int 0]))] H := hP
  have hD : va_D A [(h0, .inr (1, [.null, .int 0, .int 0]))] := hD
  have hP9 := hP.sub (ws' := [(h0, .inr (1, [.null, .int 0, .int 0]))]) [0] rfl
  have hD9 := hD.sub (ws' := [(h0, .inr (1, [.null, .int 0, .int 0]))]) [0] (by decide) rfl
  have hK9 := hK.sub (tys' := []) [] rfl
  refine W.widen (k := 0) (n := 0) (by omega) (by omega) ?_
  exact W.vret hx hb hr (fun t ht hW => ⟨⟨(), rfl, trivial, by rw [ht]; exact hP9, va_K.moved hW.alike hK9, hD9⟩, hS.F ht⟩) hS.2.2 d_AbL_init_9
set_option maxHeartbeats 4000000 in
set_option maxRecDepth 100000 in
theorem c_AL_init (l : Launch) (dC : Nat → ClassId) (dI : Nat → Nat → Nat) (sz : Nat) (h0 : Nat) (dE : Nat) : Met l y_AL_init ws_AL_init ({ frames := 3, cells := 0, slots := 0, locals := 52 }) (va_Pc [.ref h0] (fun U => U.heap.size = sz ∧ va_P (dC, dI) classes [(h0, .inr (1, [.null, .int 0, .int 0]))] U.heap ∧ va_K (dC, dI) classes [] U ∧ va_D (fun _ => True) [(h0, .inr (1, [.null, .int 0, .int 0]))] ∧ va_Z "java/util/ArrayList" "DEFAULTCAPACITY_EMPTY_ELEMENTDATA" "[Ljava/lang/Object;" (.ref dE) (va_A [(h0, .inr (1, [.null, .int 0, .int 0]))] sz) U U.heap)) (va_Qv (fun _ : Unit => True) (fun _ t => va_P (dC, dI) classes [(h0, .inr (1, [.ref dE, .int 0, .int 0]))] t.heap ∧ va_K (dC, dI) classes [] t ∧ va_D (va_A [(h0, .inr (1, [.null, .int 0, .int 0]))] sz) [(h0, .inr (1, [.ref dE, .int 0, .int 0]))]) (va_A [(h0, .inr (1, [.null, .int 0, .int 0]))] sz)) 0 0 (va_A [(h0, .inr (1, [.null, .int 0, .int 0]))] sz) := by
  refine Met.ofW (cc := b_AL_init) (maxL := 1) (ret := none) (by decide) rfl ?_
  intro p e s m args below meth c s₁ B hml hv
  obtain ⟨rfl, hsz, hP, hK, hD0, hx0⟩ := hv
  have hx := B.exec
  have hb := B.bytes
  have hr := B.returns
  have hts := atoms_spec (ws := ws_AL_init) B.pre
  have htw : ∀ w ∈ tw_tbl, w.before [.ref h0].toArray s = true := fun w h => hts w (List.mem_cons_of_mem _ h)
  have hown : s.vm.findClass R_AL = some m.cls := findClass_of_methodNamed B.named
  have hlocks := B.notSynchronized
  have hin : meth.name = "<init>" := (name_of_methodNamed B.named B.method).1
  subst hsz
  have hD := hD0.self (sz := s.heap.size)
  generalize hAe : va_A [(h0, .inr (1, [.null, .int 0, .int 0]))] s.heap.size = A at hD hx0 ⊢
  have hA : ∀ q : Nat, s.heap.size ≤ q → A q := fun q h => by rw [← hAe]; exact Or.inr h
  have hS : va_S A s.heap s.heap [] := va_S.rf
  have hP : va_P (dC, dI) classes [(h0, .inr (1, [.null, .int 0, .int 0]))] s.heap := hP
  have hl := lv_entry ([.ref h0]) (n := 1) (Nat.le_of_ble_eq_true rfl)
  rw [lg_entry_eq]
  generalize (lg_sl ([.ref h0]) ++ List.replicate (1 - (lg_sl ([.ref h0])).length) Slot.unset).toArray = ls at hl ⊢
  have hl : lv_has ls 1 [(0, .ref h0)] := hl
  refine lv_aload_n hx hb d_AL_init_0 rfl (lv_at hl 0 rfl) ?_
  have hc0 : 0 + 0 ≤ 0 := by omega
  have hs0 : 0 + 0 ≤ 0 := by omega
  have hPc := hP.sub (ws' := [(h0, .inr (1, [.null, .int 0, .int 0]))]) [0] rfl
  have hDc := hD.sub (ws' := [(h0, .inr (1, [.null, .int 0, .int 0]))]) [0] (by decide) rfl
  have hKc := hK.sub (tys' := []) [] rfl
  have hFc := va_free (wc := [(h0, .inr (1, [.null, .int 0, .int 0]))]) hD hS hA [0] rfl
  refine va_callv (va_runI (As := []) (rest := []) ⟨hx, hb, hml, hown, htw⟩ (c_AbL_init l dC dI s.heap.size h0) (cwI 0 htw (tw_inL k_AbL_init) rfl rfl rfl (htw _ wd_1_5) (htw _ wd_1_92) (htw _ wd_1_93) rfl (by decide +kernel) ⟨Nat.le_of_ble_eq_true rfl, Nat.le_of_ble_eq_true rfl⟩) ⟨fun a U g mk q => by obtain ⟨q0, q1, qP, qK, qD⟩ := q; exact ⟨q0, q1, qP, va_K.moved (u := U) (U := U.calling g mk a) (Vm.Alike.refl U.vm) qK, qD⟩, fun U hU hW => ⟨rfl, by rw [hU], by rw [hU]; exact hPc, va_K.moved hW.alike hKc, hDc.weaken (fun _ _ _ _ => trivial)⟩⟩ rfl rfl hl.1 rfl (lv_room (Nat.le_of_ble_eq_true rfl)) d_AL_init_1 ⟨hc0, hs0⟩) hS (fun q _ h => hFc q h) hFc (fun u t H1 locs ht hvm hw hB hz1 hk1 hS => ?_)
  obtain ⟨hP1, hK1, hD1⟩ := hB
  rw [ht] at hP1
  have hK1 := va_K.moved hvm.symm hK1
  obtain ⟨hP, hD⟩ := va_join (wr := []) (w1 := [(h0, .inr (1, [.null, .int 0, .int 0]))]) hP hD [0] [] rfl rfl (by decide) (by decide) hk1 hFc hP1 hD1
  have hK := (hK.sub (tys' := []) [] rfl).app hK1
  generalize H1 = H at hP hS ⊢
  have hP : va_P (dC, dI) classes [(h0, .inr (1, [.null, .int 0, .int 0]))] H := hP
  have hD : va_D A [(h0, .inr (1, [.null, .int 0, .int 0]))] := hD
  have hK : va_K (dC, dI) classes [] s := hK
  refine lv_aload_n hx hb d_AL_init_4 rfl (lv_at hl 0 rfl) ?_
  refine va_gets hx hb hx0 hS hown (htw _ wd_1_99) (fun _ h9 => h9) d_AL_init_5 ?_
  refine va_put (D := (dC, dI)) (ci := 1) (v := .ref dE) (ty := .array (.object "java/lang/Object")) (C := R_AL) (T := F_AL) (N := 3) hx hb htw i_AL t_AL t_AL_ok n_AL hown hK hP hD hS 0 rfl rfl 0 (by decide) (htw _ wd_1_101) (fun _ h9 => h9) rfl (by decide +kernel) rfl rfl (Nat.le_of_ble_eq_true rfl) d_AL_init_8 (fun H locs hP hD hS => ?_)
  have hP : va_P (dC, dI) classes [(h0, .inr (1, [.ref dE, .int 0, .int 0]))] H := hP
  have hD : va_D A [(h0, .inr (1, [.ref dE, .int 0, .int 0]))] := hD
  have hP9 := hP.sub (ws' := [(h0, .inr (1, [.ref dE, .int 0, .int 0]))]) [0] rfl
  have hD9 := hD.sub (ws' := [(h0, .inr (1, [.ref dE, .int 0, .int 0]))]) [0] (by decide) rfl
  have hK9 := hK.sub (tys' := []) [] rfl
  refine W.widen (k := 0) (n := 0) (by omega) (by omega) ?_
  exact W.vret hx hb hr (fun t ht hW => ⟨⟨(), rfl, trivial, by rw [ht]; exact hP9, va_K.moved hW.alike hK9, hD9⟩, hS.F ht⟩) hS.2.2 d_AL_init_11
set_option maxHeartbeats 4000000 in
set_option maxRecDepth 100000 in
theorem c_Values_init (l : Launch) (dC : Nat → ClassId) (dI : Nat → Nat → Nat) (sz : Nat) (h0 : Nat) (dE : Nat) : Met l y_Values_init ws_Values_init ({ frames := 4, cells := 3, slots := 69, locals := 72 }) (va_Pc [.ref h0] (fun U => U.heap.size = sz ∧ va_P (dC, dI) classes [(h0, .inr (2, [.null, .null, .int 0]))] U.heap ∧ va_K (dC, dI) classes [] U ∧ va_D (fun _ => True) [(h0, .inr (2, [.null, .null, .int 0]))] ∧ va_Z "java/util/ArrayList" "DEFAULTCAPACITY_EMPTY_ELEMENTDATA" "[Ljava/lang/Object;" (.ref dE) (va_A [(h0, .inr (2, [.null, .null, .int 0]))] sz) U U.heap)) (va_Qv (fun _ : Unit => True) (fun _ t => ∃ (al : Nat) (vd : Nat) (va : Nat) (vc : ClassId), va_P (dC, dI) classes [(h0, .inr (2, [.ref al, .ref vd, .int 0])), (al, .inr (1, [.ref dE, .int 0, .int 0])), (vd, .inr (0, [.ref va, .int 0])), (va, .inl (vc, 64, .inl ((fun _ => 0))))] t.heap ∧ va_K (dC, dI) classes [(vc, .byte)] t ∧ va_D (va_A [(h0, .inr (2, [.null, .null, .int 0]))] sz) [(h0, .inr (2, [.ref al, .ref vd, .int 0])), (al, .inr (1, [.ref dE, .int 0, .int 0])), (vd, .inr (0, [.ref va, .int 0])), (va, .inl (vc, 64, .inl ((fun _ => 0))))]) (va_A [(h0, .inr (2, [.null, .null, .int 0]))] sz)) 3 69 (va_A [(h0, .inr (2, [.null, .null, .int 0]))] sz) := by
  refine Met.ofW (cc := b_Values_init) (maxL := 1) (ret := none) (by decide) rfl ?_
  intro p e s m args below meth c s₁ B hml hv
  obtain ⟨rfl, hsz, hP, hK, hD0, hx0⟩ := hv
  have hx := B.exec
  have hb := B.bytes
  have hr := B.returns
  have hts := atoms_spec (ws := ws_Values_init) B.pre
  have htw : ∀ w ∈ tw_tbl, w.before [.ref h0].toArray s = true := fun w h => hts w (List.mem_cons_of_mem _ h)
  have hown : s.vm.findClass R_Values = some m.cls := findClass_of_methodNamed B.named
  have hlocks := B.notSynchronized
  have hin : meth.name = "<init>" := (name_of_methodNamed B.named B.method).1
  subst hsz
  have hD := hD0.self (sz := s.heap.size)
  generalize hAe : va_A [(h0, .inr (2, [.null, .null, .int 0]))] s.heap.size = A at hD hx0 ⊢
  have hA : ∀ q : Nat, s.heap.size ≤ q → A q := fun q h => by rw [← hAe]; exact Or.inr h
  have hS : va_S A s.heap s.heap [] := va_S.rf
  have hP : va_P (dC, dI) classes [(h0, .inr (2, [.null, .null, .int 0]))] s.heap := hP
  have hl := lv_entry ([.ref h0]) (n := 1) (Nat.le_of_ble_eq_true rfl)
  rw [lg_entry_eq]
  generalize (lg_sl ([.ref h0]) ++ List.replicate (1 - (lg_sl ([.ref h0])).length) Slot.unset).toArray = ls at hl ⊢
  have hl : lv_has ls 1 [(0, .ref h0)] := hl
  refine lv_aload_n hx hb d_Values_init_0 rfl (lv_at hl 0 rfl) ?_
  refine W.objInit hx hb hown (htw _ wd_1_118) (htw _ wd_1_51) (htw _ wd_1_52) rfl (by rw [hml]; exact hl.1) rfl d_Values_init_1 (Nat.le_of_ble_eq_true rfl) (Nat.le_of_ble_eq_true rfl) ?_
  refine W.eq (g2 := F0 m 4 ls []) rfl ?_
  refine lv_aload_n hx hb d_Values_init_4 rfl (lv_at hl 0 rfl) ?_
  have hc0 : 0 + 1 ≤ 3 := by omega
  have hs0 : 0 + 3 ≤ 69 := by omega
  refine va_new (ci := 1) (fs := [.null, .int 0, .int 0]) (C := R_AL) (T := F_AL) (N := 3) hx hb htw i_AL t_AL t_AL_ok hown (htw _ wd_1_119) (htw _ wd_1_88) (htw _ wd_1_6) hK hP hD hS hA rfl (by decide) hc0 hs0 d_Values_init_5 (fun q1 H hP hD hS => ?_)
  have hP : va_P (dC, dI) classes [(h0, .inr (2, [.null, .null, .int 0])), (q1, .inr (1, [.null, .int 0, .int 0]))] H := hP
  have hD : va_D A [(h0, .inr (2, [.null, .null, .int 0])), (q1, .inr (1, [.null, .int 0, .int 0]))] := hD
  refine lv_dup hx hb d_Values_init_8 rfl ?_
  have hc0 : 1 + 0 ≤ 3 := by omega
  have hs0 : 3 + 0 ≤ 69 := by omega
  have hPc := hP.sub (ws' := [(q1, .inr (1, [.null, .int 0, .int 0]))]) [1] rfl
  have hDc := hD.sub (ws' := [(q1, .inr (1, [.null, .int 0, .int 0]))]) [1] (by decide) rfl
  have hKc := hK.sub (tys' := []) [] rfl
  have hFc := va_free (wc := [(q1, .inr (1, [.null, .int 0, .int 0]))]) hD hS hA [1] rfl
  refine va_callv (va_runI (As := []) (rest := [.ref q1, .ref h0]) ⟨hx, hb, hml, hown, htw⟩ (c_AL_init l dC dI H.size q1 dE) (cwI 0 htw (tw_inL k_AL_init) rfl rfl rfl (htw _ wd_1_6) (htw _ wd_1_120) (htw _ wd_1_90) rfl (by decide +kernel) ⟨Nat.le_of_ble_eq_true rfl, Nat.le_of_ble_eq_true rfl⟩) ⟨fun a U g mk q => by obtain ⟨q0, q1, qP, qK, qD, hq0⟩ := q; exact ⟨q0, q1, qP, va_K.moved (u := U) (U := U.calling g mk a) (Vm.Alike.refl U.vm) qK, qD, va_Z.moved (u := U) (U := U.calling g mk a) (Vm.Alike.refl U.vm) hq0⟩, fun U hU hW => ⟨rfl, by rw [hU], by rw [hU]; exact hPc, va_K.moved hW.alike hKc, hDc.weaken (fun _ _ _ _ => trivial), by rw [hU]; exact va_Z.moved hW.alike ((va_Z.kept hx0 hS.2.1).narrow hFc)⟩⟩ rfl rfl hl.1 rfl (lv_room (Nat.le_of_ble_eq_true rfl)) d_Values_init_9 ⟨hc0, hs0⟩) hS (fun q _ h => hFc q h) hFc (fun u t H1 locs ht hvm hw hB hz1 hk1 hS => ?_)
  obtain ⟨hP1, hK1, hD1⟩ := hB
  rw [ht] at hP1
  have hK1 := va_K.moved hvm.symm hK1
  obtain ⟨hP, hD⟩ := va_join (wr := [(h0, .inr (2, [.null, .null, .int 0]))]) (w1 := [(q1, .inr (1, [.ref dE, .int 0, .int 0]))]) hP hD [1] [0] rfl rfl (by decide) (by decide) hk1 hFc hP1 hD1
  have hK := (hK.sub (tys' := []) [] rfl).app hK1
  generalize H1 = H at hP hS ⊢
  have hP : va_P (dC, dI) classes [(h0, .inr (2, [.null, .null, .int 0])), (q1, .inr (1, [.ref dE, .int 0, .int 0]))] H := hP
  have hD : va_D A [(h0, .inr (2, [.null, .null, .int 0])), (q1, .inr (1, [.ref dE, .int 0, .int 0]))] := hD
  have hK : va_K (dC, dI) classes [] s := hK
  refine va_putF (D := (dC, dI)) (ci := 2) (v := .ref q1) (ty := .object "java/util/ArrayList") (C := R_Values) (T := F_Values) (N := 3) hx hb htw i_Values t_Values t_Values_ok n_Values hown hK hP hD hS 0 rfl rfl 0 (by decide) (htw _ wd_1_123) (fun _ h9 => h9) rfl hin rfl (by decide +kernel) rfl rfl (Nat.le_of_ble_eq_true rfl) d_Values_init_12 (fun H locs hP hD hS => ?_)
  have hP : va_P (dC, dI) classes [(h0, .inr (2, [.ref q1, .null, .int 0])), (q1, .inr (1, [.ref dE, .int 0, .int 0]))] H := hP
  have hD : va_D A [(h0, .inr (2, [.ref q1, .null, .int 0])), (q1, .inr (1, [.ref dE, .int 0, .int 0]))] := hD
  refine lv_aload_n hx hb d_Values_init_15 rfl (lv_at hl 0 rfl) ?_
  have hc0 : 1 + 1 ≤ 3 := by omega
  have hs0 : 3 + 2 ≤ 69 := by omega
  refine va_new (ci := 0) (fs := [.null, .int 0]) (C := R_Bytes) (T := F_Bytes) (N := 2) hx hb htw i_Bytes t_Bytes t_Bytes_ok hown (htw _ wd_1_121) (htw _ wd_1_54) (htw _ wd_1_2) hK hP hD hS hA rfl (by decide) hc0 hs0 d_Values_init_16 (fun q3 H hP hD hS => ?_)
  have hP : va_P (dC, dI) classes [(h0, .inr (2, [.ref q1, .null, .int 0])), (q1, .inr (1, [.ref dE, .int 0, .int 0])), (q3, .inr (0, [.null, .int 0]))] H := hP
  have hD : va_D A [(h0, .inr (2, [.ref q1, .null, .int 0])), (q1, .inr (1, [.ref dE, .int 0, .int 0])), (q3, .inr (0, [.null, .int 0]))] := hD
  refine lv_dup hx hb d_Values_init_19 rfl ?_
  refine lv_bipush (v := 64) hx hb d_Values_init_20 (by decide) ?_
  have hc0 : 2 + 1 ≤ 3 := by omega
  have hs0 : 5 + 64 ≤ 69 := by omega
  have hPc := hP.sub (ws' := [(q3, .inr (0, [.null, .int 0]))]) [2] rfl
  have hDc := hD.sub (ws' := [(q3, .inr (0, [.null, .int 0]))]) [2] (by decide) rfl
  have hKc := hK.sub (tys' := []) [] rfl
  have hFc := va_free (wc := [(q3, .inr (0, [.null, .int 0]))]) hD hS hA [2] rfl
  refine va_callv (va_runI (As := [.int 64]) (rest := [.ref q3, .ref h0]) ⟨hx, hb, hml, hown, htw⟩ (c_Bytes_init l dC dI H.size q3 64 (by omega)) (cwI 1 htw (tw_inL k_Bytes_init) rfl rfl rfl (htw _ wd_1_2) (htw _ wd_1_122) (htw _ wd_1_56) rfl (by decide +kernel) ⟨Nat.le_of_ble_eq_true rfl, Nat.le_of_ble_eq_true rfl⟩) ⟨fun a U g mk q => by obtain ⟨q0, q1, qP, qK, qD⟩ := q; exact ⟨q0, q1, qP, va_K.moved (u := U) (U := U.calling g mk a) (Vm.Alike.refl U.vm) qK, qD⟩, fun U hU hW => ⟨rfl, by rw [hU], by rw [hU]; exact hPc, va_K.moved hW.alike hKc, hDc.weaken (fun _ _ _ _ => trivial)⟩⟩ rfl rfl hl.1 rfl (lv_room (Nat.le_of_ble_eq_true rfl)) d_Values_init_22 ⟨hc0, hs0⟩) hS (fun q _ h => hFc q h) hFc (fun u t H1 locs ht hvm hw hB hz1 hk1 hS => ?_)
  obtain ⟨qa_5, ca_6, hP1, hK1, hD1⟩ := hB
  rw [ht] at hP1
  have hK1 := va_K.moved hvm.symm hK1
  obtain ⟨hP, hD⟩ := va_join (wr := [(h0, .inr (2, [.ref q1, .null, .int 0])), (q1, .inr (1, [.ref dE, .int 0, .int 0]))]) (w1 := [(q3, .inr (0, [.ref qa_5, .int 0])), (qa_5, .inl (ca_6, 64, .inl (fun _ => 0)))]) hP hD [2] [0, 1] rfl rfl (by decide) (by decide) hk1 hFc hP1 hD1
  have hK := (hK.sub (tys' := []) [] rfl).app hK1
  generalize H1 = H at hP hS ⊢
  have hP : va_P (dC, dI) classes [(h0, .inr (2, [.ref q1, .null, .int 0])), (q1, .inr (1, [.ref dE, .int 0, .int 0])), (q3, .inr (0, [.ref qa_5, .int 0])), (qa_5, .inl (ca_6, 64, .inl (fun _ => 0)))] H := hP
  have hD : va_D A [(h0, .inr (2, [.ref q1, .null, .int 0])), (q1, .inr (1, [.ref dE, .int 0, .int 0])), (q3, .inr (0, [.ref qa_5, .int 0])), (qa_5, .inl (ca_6, 64, .inl (fun _ => 0)))] := hD
  have hK : va_K (dC, dI) classes [(ca_6, .byte)] s := hK
  refine va_putF (D := (dC, dI)) (ci := 2) (v := .ref q3) (ty := .object "SyntaxForge$Bytes") (C := R_Values) (T := F_Values) (N := 3) hx hb htw i_Values t_Values t_Values_ok n_Values hown hK hP hD hS 0 rfl rfl 1 (by decide) (htw _ wd_1_126) (fun _ h9 => h9) rfl hin rfl (by decide +kernel) rfl rfl (Nat.le_of_ble_eq_true rfl) d_Values_init_25 (fun H locs hP hD hS => ?_)
  have hP : va_P (dC, dI) classes [(h0, .inr (2, [.ref q1, .ref q3, .int 0])), (q1, .inr (1, [.ref dE, .int 0, .int 0])), (q3, .inr (0, [.ref qa_5, .int 0])), (qa_5, .inl (ca_6, 64, .inl (fun _ => 0)))] H := hP
  have hD : va_D A [(h0, .inr (2, [.ref q1, .ref q3, .int 0])), (q1, .inr (1, [.ref dE, .int 0, .int 0])), (q3, .inr (0, [.ref qa_5, .int 0])), (qa_5, .inl (ca_6, 64, .inl (fun _ => 0)))] := hD
  refine lv_aload_n hx hb d_Values_init_28 rfl (lv_at hl 0 rfl) ?_
  refine lv_iconst (v := 0) hx hb d_Values_init_29 (by decide) ?_
  refine va_put (D := (dC, dI)) (ci := 2) (v := .int 0) (ty := .int) (C := R_Values) (T := F_Values) (N := 3) hx hb htw i_Values t_Values t_Values_ok n_Values hown hK hP hD hS 0 rfl rfl 2 (by decide) (htw _ wd_1_132) (fun _ h9 => h9) rfl (by decide +kernel) rfl rfl (Nat.le_of_ble_eq_true rfl) d_Values_init_30 (fun H locs hP hD hS => ?_)
  have hP : va_P (dC, dI) classes [(h0, .inr (2, [.ref q1, .ref q3, .int 0])), (q1, .inr (1, [.ref dE, .int 0, .int 0])), (q3, .inr (0, [.ref qa_5, .int 0])), (qa_5, .inl (ca_6, 64, .inl (fun _ => 0)))] H := hP
  have hD : va_D A [(h0, .inr (2, [.ref q1, .ref q3, .int 0])), (q1, .inr (1, [.ref dE, .int 0, .int 0])), (q3, .inr (0, [.ref qa_5, .int 0])), (qa_5, .inl (ca_6, 64, .inl (fun _ => 0)))] := hD
  have hP9 := hP.sub (ws' := [(h0, .inr (2, [.ref q1, .ref q3, .int 0])), (q1, .inr (1, [.ref dE, .int 0, .int 0])), (q3, .inr (0, [.ref qa_5, .int 0])), (qa_5, .inl (ca_6, 64, .inl (fun _ => 0)))]) [0, 1, 2, 3] rfl
  have hD9 := hD.sub (ws' := [(h0, .inr (2, [.ref q1, .ref q3, .int 0])), (q1, .inr (1, [.ref dE, .int 0, .int 0])), (q3, .inr (0, [.ref qa_5, .int 0])), (qa_5, .inl (ca_6, 64, .inl (fun _ => 0)))]) [0, 1, 2, 3] (by decide) rfl
  have hK9 := hK.sub (tys' := [(ca_6, .byte)]) [0] rfl
  refine W.widen (k := 3) (n := 69) (by omega) (by omega) ?_
  exact W.vret hx hb hr (fun t ht hW => ⟨⟨(), rfl, trivial, q1, q3, qa_5, ca_6, by rw [ht]; exact hP9, va_K.moved hW.alike hK9, hD9⟩, hS.F ht⟩) hS.2.2 d_Values_init_33
set_option maxHeartbeats 4000000 in
set_option maxRecDepth 100000 in
theorem c_Der_init (l : Launch) (dC : Nat → ClassId) (dI : Nat → Nat → Nat) (sz : Nat) (h0 : Nat) : Met l y_Der_init ws_Der_init ({ frames := 1, cells := 3, slots := 48, locals := 12 }) (va_Pc [.ref h0] (fun U => U.heap.size = sz ∧ va_P (dC, dI) classes [(h0, .inr (6, [.null, .null, .null]))] U.heap ∧ va_K (dC, dI) classes [] U ∧ va_D (fun _ => True) [(h0, .inr (6, [.null, .null, .null]))] ∧ va_AO "SyntaxForge$Value" U)) (va_Qv (fun _ : Unit => True) (fun _ t => ∃ (d1 : Nat) (d2 : Nat) (d3 : Nat), va_P (dC, dI) classes [(h0, .inr (6, [.ref d1, .ref d2, .ref d3]))] t.heap ∧ va_K (dC, dI) classes [] t ∧ va_D (va_A [(h0, .inr (6, [.null, .null, .null]))] sz) [(h0, .inr (6, [.ref d1, .ref d2, .ref d3]))]) (va_A [(h0, .inr (6, [.null, .null, .null]))] sz)) 3 48 (va_A [(h0, .inr (6, [.null, .null, .null]))] sz) := by
  refine Met.ofW (cc := b_Der_init) (maxL := 1) (ret := none) (by decide) rfl ?_
  intro p e s m args below meth c s₁ B hml hv
  obtain ⟨rfl, hsz, hP, hK, hD0, hx0⟩ := hv
  have hx := B.exec
  have hb := B.bytes
  have hr := B.returns
  have hts := atoms_spec (ws := ws_Der_init) B.pre
  have htw : ∀ w ∈ tw_tbl, w.before [.ref h0].toArray s = true := fun w h => hts w (List.mem_cons_of_mem _ h)
  have hown : s.vm.findClass R_Der = some m.cls := findClass_of_methodNamed B.named
  have hlocks := B.notSynchronized
  have hin : meth.name = "<init>" := (name_of_methodNamed B.named B.method).1
  subst hsz
  have hD := hD0.self (sz := s.heap.size)
  generalize hAe : va_A [(h0, .inr (6, [.null, .null, .null]))] s.heap.size = A at hD hx0 ⊢
  have hA : ∀ q : Nat, s.heap.size ≤ q → A q := fun q h => by rw [← hAe]; exact Or.inr h
  have hS : va_S A s.heap s.heap [] := va_S.rf
  have hP : va_P (dC, dI) classes [(h0, .inr (6, [.null, .null, .null]))] s.heap := hP
  have hl := lv_entry ([.ref h0]) (n := 1) (Nat.le_of_ble_eq_true rfl)
  rw [lg_entry_eq]
  generalize (lg_sl ([.ref h0]) ++ List.replicate (1 - (lg_sl ([.ref h0])).length) Slot.unset).toArray = ls at hl ⊢
  have hl : lv_has ls 1 [(0, .ref h0)] := hl
  refine lv_aload_n hx hb d_Der_init_0 rfl (lv_at hl 0 rfl) ?_
  refine W.objInit hx hb hown (htw _ wd_2_156) (htw _ wd_1_51) (htw _ wd_1_52) rfl (by rw [hml]; exact hl.1) rfl d_Der_init_1 (Nat.le_of_ble_eq_true rfl) (Nat.le_of_ble_eq_true rfl) ?_
  refine W.eq (g2 := F0 m 4 ls []) rfl ?_
  refine lv_aload_n hx hb d_Der_init_4 rfl (lv_at hl 0 rfl) ?_
  refine lv_bipush (v := 16) hx hb d_Der_init_5 (by decide) ?_
  have hc0 : 0 + 1 ≤ 3 := by omega
  have hs0 : 0 + 16 ≤ 48 := by omega
  refine va_newq (C := "SyntaxForge$Value") hx hb hown (htw _ wd_2_157) hx0 hK hP hD hS hA (by decide) (by decide) (by decide) hc0 hs0 d_Der_init_7 (fun q1 cA2 H hK hP hD hS => ?_)
  have hP : va_P (dC, dI) classes [(h0, .inr (6, [.null, .null, .null])), (q1, .inl (cA2, 16, .inr (.inr (.inr (.inr ((fun _ => none)))))))] H := hP
  have hD : va_D A [(h0, .inr (6, [.null, .null, .null])), (q1, .inl (cA2, 16, .inr (.inr (.inr (.inr ((fun _ => none)))))))] := hD
  refine va_put (D := (dC, dI)) (ci := 6) (v := .ref q1) (ty := .array (.object "SyntaxForge$Value")) (C := R_Der) (T := F_Der) (N := 3) hx hb htw i_Der t_Der t_Der_ok n_Der hown hK hP hD hS 0 rfl rfl 0 (by decide) (htw _ wd_2_158) (fun _ h9 => h9) rfl (by decide +kernel) rfl rfl (Nat.le_of_ble_eq_true rfl) d_Der_init_10 (fun H locs hP hD hS => ?_)
  have hP : va_P (dC, dI) classes [(h0, .inr (6, [.ref q1, .null, .null])), (q1, .inl (cA2, 16, .inr (.inr (.inr (.inr ((fun _ => none)))))))] H := hP
  have hD : va_D A [(h0, .inr (6, [.ref q1, .null, .null])), (q1, .inl (cA2, 16, .inr (.inr (.inr (.inr ((fun _ => none)))))))] := hD
  refine lv_aload_n hx hb d_Der_init_13 rfl (lv_at hl 0 rfl) ?_
  refine lv_bipush (v := 16) hx hb d_Der_init_14 (by decide) ?_
  have hc0 : 1 + 1 ≤ 3 := by omega
  have hs0 : 16 + 16 ≤ 48 := by omega
  refine va_newq (C := "SyntaxForge$Value") hx hb hown (htw _ wd_2_157) hx0 hK hP hD hS hA (by decide) (by decide) (by decide) hc0 hs0 d_Der_init_16 (fun q3 cA4 H hK hP hD hS => ?_)
  have hP : va_P (dC, dI) classes [(h0, .inr (6, [.ref q1, .null, .null])), (q1, .inl (cA2, 16, .inr (.inr (.inr (.inr ((fun _ => none))))))), (q3, .inl (cA4, 16, .inr (.inr (.inr (.inr ((fun _ => none)))))))] H := hP
  have hD : va_D A [(h0, .inr (6, [.ref q1, .null, .null])), (q1, .inl (cA2, 16, .inr (.inr (.inr (.inr ((fun _ => none))))))), (q3, .inl (cA4, 16, .inr (.inr (.inr (.inr ((fun _ => none)))))))] := hD
  refine va_put (D := (dC, dI)) (ci := 6) (v := .ref q3) (ty := .array (.object "SyntaxForge$Value")) (C := R_Der) (T := F_Der) (N := 3) hx hb htw i_Der t_Der t_Der_ok n_Der hown hK hP hD hS 0 rfl rfl 1 (by decide) (htw _ wd_2_159) (fun _ h9 => h9) rfl (by decide +kernel) rfl rfl (Nat.le_of_ble_eq_true rfl) d_Der_init_19 (fun H locs hP hD hS => ?_)
  have hP : va_P (dC, dI) classes [(h0, .inr (6, [.ref q1, .ref q3, .null])), (q1, .inl (cA2, 16, .inr (.inr (.inr (.inr ((fun _ => none))))))), (q3, .inl (cA4, 16, .inr (.inr (.inr (.inr ((fun _ => none)))))))] H := hP
  have hD : va_D A [(h0, .inr (6, [.ref q1, .ref q3, .null])), (q1, .inl (cA2, 16, .inr (.inr (.inr (.inr ((fun _ => none))))))), (q3, .inl (cA4, 16, .inr (.inr (.inr (.inr ((fun _ => none)))))))] := hD
  refine lv_aload_n hx hb d_Der_init_22 rfl (lv_at hl 0 rfl) ?_
  refine lv_bipush (v := 16) hx hb d_Der_init_23 (by decide) ?_
  have hc0 : 2 + 1 ≤ 3 := by omega
  have hs0 : 32 + 16 ≤ 48 := by omega
  refine va_newa (atype := .int) (a0 := (16, .inl (fun _ => 0))) hx hb (htw _ wd_2_80) rfl hK hP hD hS hA (fun _ => rfl) (by decide) (by decide) (by decide) hc0 hs0 d_Der_init_25 (fun q5 cA6 H hK hP hD hS => ?_)
  have hP : va_P (dC, dI) classes [(h0, .inr (6, [.ref q1, .ref q3, .null])), (q1, .inl (cA2, 16, .inr (.inr (.inr (.inr ((fun _ => none))))))), (q3, .inl (cA4, 16, .inr (.inr (.inr (.inr ((fun _ => none))))))), (q5, .inl (cA6, 16, .inl ((fun _ => 0))))] H := hP
  have hD : va_D A [(h0, .inr (6, [.ref q1, .ref q3, .null])), (q1, .inl (cA2, 16, .inr (.inr (.inr (.inr ((fun _ => none))))))), (q3, .inl (cA4, 16, .inr (.inr (.inr (.inr ((fun _ => none))))))), (q5, .inl (cA6, 16, .inl ((fun _ => 0))))] := hD
  refine va_put (D := (dC, dI)) (ci := 6) (v := .ref q5) (ty := .array .int) (C := R_Der) (T := F_Der) (N := 3) hx hb htw i_Der t_Der t_Der_ok n_Der hown hK hP hD hS 0 rfl rfl 2 (by decide) (htw _ wd_2_160) (fun _ h9 => h9) rfl (by decide +kernel) rfl rfl (Nat.le_of_ble_eq_true rfl) d_Der_init_27 (fun H locs hP hD hS => ?_)
  have hP : va_P (dC, dI) classes [(h0, .inr (6, [.ref q1, .ref q3, .ref q5])), (q1, .inl (cA2, 16, .inr (.inr (.inr (.inr ((fun _ => none))))))), (q3, .inl (cA4, 16, .inr (.inr (.inr (.inr ((fun _ => none))))))), (q5, .inl (cA6, 16, .inl ((fun _ => 0))))] H := hP
  have hD : va_D A [(h0, .inr (6, [.ref q1, .ref q3, .ref q5])), (q1, .inl (cA2, 16, .inr (.inr (.inr (.inr ((fun _ => none))))))), (q3, .inl (cA4, 16, .inr (.inr (.inr (.inr ((fun _ => none))))))), (q5, .inl (cA6, 16, .inl ((fun _ => 0))))] := hD
  have hP9 := hP.sub (ws' := [(h0, .inr (6, [.ref q1, .ref q3, .ref q5]))]) [0] rfl
  have hD9 := hD.sub (ws' := [(h0, .inr (6, [.ref q1, .ref q3, .ref q5]))]) [0] (by decide) rfl
  have hK9 := hK.sub (tys' := []) [] rfl
  refine W.widen (k := 3) (n := 48) (by omega) (by omega) ?_
  exact W.vret hx hb hr (fun t ht hW => ⟨⟨(), rfl, trivial, q1, q3, q5, by rw [ht]; exact hP9, va_K.moved hW.alike hK9, hD9⟩, hS.F ht⟩) hS.2.2 d_Der_init_30
set_option maxHeartbeats 4000000 in
set_option maxRecDepth 100000 in
theorem c_Ber_init (l : Launch) (dC : Nat → ClassId) (dI : Nat → Nat → Nat) (sz : Nat) (h0 : Nat) (v1 : Nat) (v2 : Nat) : Met l y_Ber_init ws_Ber_init ({ frames := 1, cells := 2, slots := 122, locals := 12 }) (va_Pc [.ref h0, .ref v1, .ref v2] (fun U => U.heap.size = sz ∧ va_P (dC, dI) classes [(h0, .inr (7, [.null, .null, .null, .null, .null, .null, .int 0, .int 0, .long 0, .int 0, .int 0]))] U.heap ∧ va_K (dC, dI) classes [] U ∧ va_D (fun _ => True) [(h0, .inr (7, [.null, .null, .null, .null, .null, .null, .int 0, .int 0, .long 0, .int 0, .int 0]))])) (va_Qv (fun _ : Unit => True) (fun _ t => ∃ (d1 : Nat) (d2 : Nat), va_P (dC, dI) classes [(h0, .inr (7, [.ref v1, .ref v2, .ref d1, .ref d2, .null, .null, .int 0, .int 0, .long 0, .int 0, .int 0]))] t.heap ∧ va_K (dC, dI) classes [] t ∧ va_D (va_A [(h0, .inr (7, [.null, .null, .null, .null, .null, .null, .int 0, .int 0, .long 0, .int 0, .int 0]))] sz) [(h0, .inr (7, [.ref v1, .ref v2, .ref d1, .ref d2, .null, .null, .int 0, .int 0, .long 0, .int 0, .int 0]))]) (va_A [(h0, .inr (7, [.null, .null, .null, .null, .null, .null, .int 0, .int 0, .long 0, .int 0, .int 0]))] sz)) 2 122 (va_A [(h0, .inr (7, [.null, .null, .null, .null, .null, .null, .int 0, .int 0, .long 0, .int 0, .int 0]))] sz) := by
  refine Met.ofW (cc := b_Ber_init) (maxL := 3) (ret := none) (by decide) rfl ?_
  intro p e s m args below meth c s₁ B hml hv
  obtain ⟨rfl, hsz, hP, hK, hD0⟩ := hv
  have hx := B.exec
  have hb := B.bytes
  have hr := B.returns
  have hts := atoms_spec (ws := ws_Ber_init) B.pre
  have htw : ∀ w ∈ tw_tbl, w.before [.ref h0, .ref v1, .ref v2].toArray s = true := fun w h => hts w (List.mem_cons_of_mem _ h)
  have hown : s.vm.findClass R_Ber = some m.cls := findClass_of_methodNamed B.named
  have hlocks := B.notSynchronized
  have hin : meth.name = "<init>" := (name_of_methodNamed B.named B.method).1
  subst hsz
  have hD := hD0.self (sz := s.heap.size)
  generalize hAe : va_A [(h0, .inr (7, [.null, .null, .null, .null, .null, .null, .int 0, .int 0, .long 0, .int 0, .int 0]))] s.heap.size = A at hD ⊢
  have hA : ∀ q : Nat, s.heap.size ≤ q → A q := fun q h => by rw [← hAe]; exact Or.inr h
  have hS : va_S A s.heap s.heap [] := va_S.rf
  have hP : va_P (dC, dI) classes [(h0, .inr (7, [.null, .null, .null, .null, .null, .null, .int 0, .int 0, .long 0, .int 0, .int 0]))] s.heap := hP
  have hl := lv_entry ([.ref h0, .ref v1, .ref v2]) (n := 3) (Nat.le_of_ble_eq_true rfl)
  rw [lg_entry_eq]
  generalize (lg_sl ([.ref h0, .ref v1, .ref v2]) ++ List.replicate (3 - (lg_sl ([.ref h0, .ref v1, .ref v2])).length) Slot.unset).toArray = ls at hl ⊢
  have hl : lv_has ls 3 [(0, .ref h0), (1, .ref v1), (2, .ref v2)] := hl
  refine lv_aload_n hx hb d_Ber_init_0 rfl (lv_at hl 0 rfl) ?_
  refine W.objInit hx hb hown (htw _ wd_2_173) (htw _ wd_1_51) (htw _ wd_1_52) rfl (by rw [hml]; exact hl.1) rfl d_Ber_init_1 (Nat.le_of_ble_eq_true rfl) (Nat.le_of_ble_eq_true rfl) ?_
  refine W.eq (g2 := F0 m 4 ls []) rfl ?_
  refine lv_aload_n hx hb d_Ber_init_4 rfl (lv_at hl 0 rfl) ?_
  refine lv_aload_n hx hb d_Ber_init_5 rfl (lv_at hl 1 rfl) ?_
  refine va_putF (D := (dC, dI)) (ci := 7) (v := .ref v1) (ty := .object "SyntaxForge$Values") (C := R_Ber) (T := F_Ber) (N := 11) hx hb htw i_Ber t_Ber t_Ber_ok n_Ber hown hK hP hD hS 0 rfl rfl 0 (by decide) (htw _ wd_2_174) (fun _ h9 => h9) rfl hin rfl (by decide +kernel) rfl rfl (Nat.le_of_ble_eq_true rfl) d_Ber_init_6 (fun H locs hP hD hS => ?_)
  have hP : va_P (dC, dI) classes [(h0, .inr (7, [.ref v1, .null, .null, .null, .null, .null, .int 0, .int 0, .long 0, .int 0, .int 0]))] H := hP
  have hD : va_D A [(h0, .inr (7, [.ref v1, .null, .null, .null, .null, .null, .int 0, .int 0, .long 0, .int 0, .int 0]))] := hD
  refine lv_aload_n hx hb d_Ber_init_9 rfl (lv_at hl 0 rfl) ?_
  refine lv_aload_n hx hb d_Ber_init_10 rfl (lv_at hl 2 rfl) ?_
  refine va_putF (D := (dC, dI)) (ci := 7) (v := .ref v2) (ty := .object "SyntaxForge$Der") (C := R_Ber) (T := F_Ber) (N := 11) hx hb htw i_Ber t_Ber t_Ber_ok n_Ber hown hK hP hD hS 0 rfl rfl 1 (by decide) (htw _ wd_2_175) (fun _ h9 => h9) rfl hin rfl (by decide +kernel) rfl rfl (Nat.le_of_ble_eq_true rfl) d_Ber_init_11 (fun H locs hP hD hS => ?_)
  have hP : va_P (dC, dI) classes [(h0, .inr (7, [.ref v1, .ref v2, .null, .null, .null, .null, .int 0, .int 0, .long 0, .int 0, .int 0]))] H := hP
  have hD : va_D A [(h0, .inr (7, [.ref v1, .ref v2, .null, .null, .null, .null, .int 0, .int 0, .long 0, .int 0, .int 0]))] := hD
  refine lv_aload_n hx hb d_Ber_init_14 rfl (lv_at hl 0 rfl) ?_
  refine lv_bipush (v := 61) hx hb d_Ber_init_15 (by decide) ?_
  have hc0 : 0 + 1 ≤ 2 := by omega
  have hs0 : 0 + 61 ≤ 122 := by omega
  refine va_newa (atype := .int) (a0 := (61, .inl (fun _ => 0))) hx hb (htw _ wd_2_80) rfl hK hP hD hS hA (fun _ => rfl) (by decide) (by decide) (by decide) hc0 hs0 d_Ber_init_17 (fun q1 cA2 H hK hP hD hS => ?_)
  have hP : va_P (dC, dI) classes [(h0, .inr (7, [.ref v1, .ref v2, .null, .null, .null, .null, .int 0, .int 0, .long 0, .int 0, .int 0])), (q1, .inl (cA2, 61, .inl ((fun _ => 0))))] H := hP
  have hD : va_D A [(h0, .inr (7, [.ref v1, .ref v2, .null, .null, .null, .null, .int 0, .int 0, .long 0, .int 0, .int 0])), (q1, .inl (cA2, 61, .inl ((fun _ => 0))))] := hD
  refine va_putF (D := (dC, dI)) (ci := 7) (v := .ref q1) (ty := .array .int) (C := R_Ber) (T := F_Ber) (N := 11) hx hb htw i_Ber t_Ber t_Ber_ok n_Ber hown hK hP hD hS 0 rfl rfl 2 (by decide) (htw _ wd_2_176) (fun _ h9 => h9) rfl hin rfl (by decide +kernel) rfl rfl (Nat.le_of_ble_eq_true rfl) d_Ber_init_19 (fun H locs hP hD hS => ?_)
  have hP : va_P (dC, dI) classes [(h0, .inr (7, [.ref v1, .ref v2, .ref q1, .null, .null, .null, .int 0, .int 0, .long 0, .int 0, .int 0])), (q1, .inl (cA2, 61, .inl ((fun _ => 0))))] H := hP
  have hD : va_D A [(h0, .inr (7, [.ref v1, .ref v2, .ref q1, .null, .null, .null, .int 0, .int 0, .long 0, .int 0, .int 0])), (q1, .inl (cA2, 61, .inl ((fun _ => 0))))] := hD
  refine lv_aload_n hx hb d_Ber_init_22 rfl (lv_at hl 0 rfl) ?_
  refine lv_bipush (v := 61) hx hb d_Ber_init_23 (by decide) ?_
  have hc0 : 1 + 1 ≤ 2 := by omega
  have hs0 : 61 + 61 ≤ 122 := by omega
  refine va_newa (atype := .int) (a0 := (61, .inl (fun _ => 0))) hx hb (htw _ wd_2_80) rfl hK hP hD hS hA (fun _ => rfl) (by decide) (by decide) (by decide) hc0 hs0 d_Ber_init_25 (fun q3 cA4 H hK hP hD hS => ?_)
  have hP : va_P (dC, dI) classes [(h0, .inr (7, [.ref v1, .ref v2, .ref q1, .null, .null, .null, .int 0, .int 0, .long 0, .int 0, .int 0])), (q1, .inl (cA2, 61, .inl ((fun _ => 0)))), (q3, .inl (cA4, 61, .inl ((fun _ => 0))))] H := hP
  have hD : va_D A [(h0, .inr (7, [.ref v1, .ref v2, .ref q1, .null, .null, .null, .int 0, .int 0, .long 0, .int 0, .int 0])), (q1, .inl (cA2, 61, .inl ((fun _ => 0)))), (q3, .inl (cA4, 61, .inl ((fun _ => 0))))] := hD
  refine va_putF (D := (dC, dI)) (ci := 7) (v := .ref q3) (ty := .array .int) (C := R_Ber) (T := F_Ber) (N := 11) hx hb htw i_Ber t_Ber t_Ber_ok n_Ber hown hK hP hD hS 0 rfl rfl 3 (by decide) (htw _ wd_2_177) (fun _ h9 => h9) rfl hin rfl (by decide +kernel) rfl rfl (Nat.le_of_ble_eq_true rfl) d_Ber_init_27 (fun H locs hP hD hS => ?_)
  have hP : va_P (dC, dI) classes [(h0, .inr (7, [.ref v1, .ref v2, .ref q1, .ref q3, .null, .null, .int 0, .int 0, .long 0, .int 0, .int 0])), (q1, .inl (cA2, 61, .inl ((fun _ => 0)))), (q3, .inl (cA4, 61, .inl ((fun _ => 0))))] H := hP
  have hD : va_D A [(h0, .inr (7, [.ref v1, .ref v2, .ref q1, .ref q3, .null, .null, .int 0, .int 0, .long 0, .int 0, .int 0])), (q1, .inl (cA2, 61, .inl ((fun _ => 0)))), (q3, .inl (cA4, 61, .inl ((fun _ => 0))))] := hD
  have hP9 := hP.sub (ws' := [(h0, .inr (7, [.ref v1, .ref v2, .ref q1, .ref q3, .null, .null, .int 0, .int 0, .long 0, .int 0, .int 0]))]) [0] rfl
  have hD9 := hD.sub (ws' := [(h0, .inr (7, [.ref v1, .ref v2, .ref q1, .ref q3, .null, .null, .int 0, .int 0, .long 0, .int 0, .int 0]))]) [0] (by decide) rfl
  have hK9 := hK.sub (tys' := []) [] rfl
  refine W.widen (k := 2) (n := 122) (by omega) (by omega) ?_
  exact W.vret hx hb hr (fun t ht hW => ⟨⟨(), rfl, trivial, q1, q3, by rw [ht]; exact hP9, va_K.moved hW.alike hK9, hD9⟩, hS.F ht⟩) hS.2.2 d_Ber_init_30
set_option maxHeartbeats 4000000 in
set_option maxRecDepth 100000 in
theorem c_PerW_init (l : Launch) (dC : Nat → ClassId) (dI : Nat → Nat → Nat) (sz : Nat) (h0 : Nat) : Met l y_PerW_init ws_PerW_init ({ frames := 1, cells := 0, slots := 0, locals := 12 }) (va_Pc [.ref h0] (fun U => U.heap.size = sz ∧ va_P (dC, dI) classes [(h0, .inr (8, [.null, .int 0]))] U.heap ∧ va_K (dC, dI) classes [] U ∧ va_D (fun _ => True) [(h0, .inr (8, [.null, .int 0]))])) (va_Qv (fun _ : Unit => True) (fun _ t => va_P (dC, dI) classes [(h0, .inr (8, [.null, .int 0]))] t.heap ∧ va_K (dC, dI) classes [] t ∧ va_D (va_A [(h0, .inr (8, [.null, .int 0]))] sz) [(h0, .inr (8, [.null, .int 0]))]) (va_A [(h0, .inr (8, [.null, .int 0]))] sz)) 0 0 (va_A [(h0, .inr (8, [.null, .int 0]))] sz) := by
  refine Met.ofW (cc := b_PerW_init) (maxL := 1) (ret := none) (by decide) rfl ?_
  intro p e s m args below meth c s₁ B hml hv
  obtain ⟨rfl, hsz, hP, hK, hD0⟩ := hv
  have hx := B.exec
  have hb := B.bytes
  have hr := B.returns
  have hts := atoms_spec (ws := ws_PerW_init) B.pre
  have htw : ∀ w ∈ tw_tbl, w.before [.ref h0].toArray s = true := fun w h => hts w (List.mem_cons_of_mem _ h)
  have hown : s.vm.findClass R_PerW = some m.cls := findClass_of_methodNamed B.named
  have hlocks := B.notSynchronized
  have hin : meth.name = "<init>" := (name_of_methodNamed B.named B.method).1
  subst hsz
  have hD := hD0.self (sz := s.heap.size)
  generalize hAe : va_A [(h0, .inr (8, [.null, .int 0]))] s.heap.size = A at hD ⊢
  have hA : ∀ q : Nat, s.heap.size ≤ q → A q := fun q h => by rw [← hAe]; exact Or.inr h
  have hS : va_S A s.heap s.heap [] := va_S.rf
  have hP : va_P (dC, dI) classes [(h0, .inr (8, [.null, .int 0]))] s.heap := hP
  have hl := lv_entry ([.ref h0]) (n := 1) (Nat.le_of_ble_eq_true rfl)
  rw [lg_entry_eq]
  generalize (lg_sl ([.ref h0]) ++ List.replicate (1 - (lg_sl ([.ref h0])).length) Slot.unset).toArray = ls at hl ⊢
  have hl : lv_has ls 1 [(0, .ref h0)] := hl
  refine lv_aload_n hx hb d_PerW_init_0 rfl (lv_at hl 0 rfl) ?_
  refine W.objInit hx hb hown (htw _ wd_2_213) (htw _ wd_1_51) (htw _ wd_1_52) rfl (by rw [hml]; exact hl.1) rfl d_PerW_init_1 (Nat.le_of_ble_eq_true rfl) (Nat.le_of_ble_eq_true rfl) ?_
  refine W.eq (g2 := F0 m 4 ls []) rfl ?_
  have hP9 := hP.sub (ws' := [(h0, .inr (8, [.null, .int 0]))]) [0] rfl
  have hD9 := hD.sub (ws' := [(h0, .inr (8, [.null, .int 0]))]) [0] (by decide) rfl
  have hK9 := hK.sub (tys' := []) [] rfl
  refine W.widen (k := 0) (n := 0) (by omega) (by omega) ?_
  exact W.vret hx hb hr (fun t ht hW => ⟨⟨(), rfl, trivial, by rw [ht]; exact hP9, va_K.moved hW.alike hK9, hD9⟩, hS.F ht⟩) hS.2.2 d_PerW_init_4
set_option maxHeartbeats 4000000 in
set_option maxRecDepth 100000 in
theorem c_PerR_init (l : Launch) (dC : Nat → ClassId) (dI : Nat → Nat → Nat) (sz : Nat) (h0 : Nat) (v1 : Nat) : Met l y_PerR_init ws_PerR_init ({ frames := 1, cells := 0, slots := 0, locals := 12 }) (va_Pc [.ref h0, .ref v1] (fun U => U.heap.size = sz ∧ va_P (dC, dI) classes [(h0, .inr (9, [.null, .null, .int 0, .int 0, .int 0, .int 0]))] U.heap ∧ va_K (dC, dI) classes [] U ∧ va_D (fun _ => True) [(h0, .inr (9, [.null, .null, .int 0, .int 0, .int 0, .int 0]))])) (va_Qv (fun _ : Unit => True) (fun _ t => va_P (dC, dI) classes [(h0, .inr (9, [.ref v1, .null, .int 0, .int 0, .int 0, .int 0]))] t.heap ∧ va_K (dC, dI) classes [] t ∧ va_D (va_A [(h0, .inr (9, [.null, .null, .int 0, .int 0, .int 0, .int 0]))] sz) [(h0, .inr (9, [.ref v1, .null, .int 0, .int 0, .int 0, .int 0]))]) (va_A [(h0, .inr (9, [.null, .null, .int 0, .int 0, .int 0, .int 0]))] sz)) 0 0 (va_A [(h0, .inr (9, [.null, .null, .int 0, .int 0, .int 0, .int 0]))] sz) := by
  refine Met.ofW (cc := b_PerR_init) (maxL := 2) (ret := none) (by decide) rfl ?_
  intro p e s m args below meth c s₁ B hml hv
  obtain ⟨rfl, hsz, hP, hK, hD0⟩ := hv
  have hx := B.exec
  have hb := B.bytes
  have hr := B.returns
  have hts := atoms_spec (ws := ws_PerR_init) B.pre
  have htw : ∀ w ∈ tw_tbl, w.before [.ref h0, .ref v1].toArray s = true := fun w h => hts w (List.mem_cons_of_mem _ h)
  have hown : s.vm.findClass R_PerR = some m.cls := findClass_of_methodNamed B.named
  have hlocks := B.notSynchronized
  have hin : meth.name = "<init>" := (name_of_methodNamed B.named B.method).1
  subst hsz
  have hD := hD0.self (sz := s.heap.size)
  generalize hAe : va_A [(h0, .inr (9, [.null, .null, .int 0, .int 0, .int 0, .int 0]))] s.heap.size = A at hD ⊢
  have hA : ∀ q : Nat, s.heap.size ≤ q → A q := fun q h => by rw [← hAe]; exact Or.inr h
  have hS : va_S A s.heap s.heap [] := va_S.rf
  have hP : va_P (dC, dI) classes [(h0, .inr (9, [.null, .null, .int 0, .int 0, .int 0, .int 0]))] s.heap := hP
  have hl := lv_entry ([.ref h0, .ref v1]) (n := 2) (Nat.le_of_ble_eq_true rfl)
  rw [lg_entry_eq]
  generalize (lg_sl ([.ref h0, .ref v1]) ++ List.replicate (2 - (lg_sl ([.ref h0, .ref v1])).length) Slot.unset).toArray = ls at hl ⊢
  have hl : lv_has ls 2 [(0, .ref h0), (1, .ref v1)] := hl
  refine lv_aload_n hx hb d_PerR_init_0 rfl (lv_at hl 0 rfl) ?_
  refine W.objInit hx hb hown (htw _ wd_2_226) (htw _ wd_1_51) (htw _ wd_1_52) rfl (by rw [hml]; exact hl.1) rfl d_PerR_init_1 (Nat.le_of_ble_eq_true rfl) (Nat.le_of_ble_eq_true rfl) ?_
  refine W.eq (g2 := F0 m 4 ls []) rfl ?_
  refine lv_aload_n hx hb d_PerR_init_4 rfl (lv_at hl 0 rfl) ?_
  refine lv_aload_n hx hb d_PerR_init_5 rfl (lv_at hl 1 rfl) ?_
  refine va_putF (D := (dC, dI)) (ci := 9) (v := .ref v1) (ty := .object "SyntaxForge$Values") (C := R_PerR) (T := F_PerR) (N := 6) hx hb htw i_PerR t_PerR t_PerR_ok n_PerR hown hK hP hD hS 0 rfl rfl 0 (by decide) (htw _ wd_2_227) (fun _ h9 => h9) rfl hin rfl (by decide +kernel) rfl rfl (Nat.le_of_ble_eq_true rfl) d_PerR_init_6 (fun H locs hP hD hS => ?_)
  have hP : va_P (dC, dI) classes [(h0, .inr (9, [.ref v1, .null, .int 0, .int 0, .int 0, .int 0]))] H := hP
  have hD : va_D A [(h0, .inr (9, [.ref v1, .null, .int 0, .int 0, .int 0, .int 0]))] := hD
  have hP9 := hP.sub (ws' := [(h0, .inr (9, [.ref v1, .null, .int 0, .int 0, .int 0, .int 0]))]) [0] rfl
  have hD9 := hD.sub (ws' := [(h0, .inr (9, [.ref v1, .null, .int 0, .int 0, .int 0, .int 0]))]) [0] (by decide) rfl
  have hK9 := hK.sub (tys' := []) [] rfl
  refine W.widen (k := 0) (n := 0) (by omega) (by omega) ?_
  exact W.vret hx hb hr (fun t ht hW => ⟨⟨(), rfl, trivial, by rw [ht]; exact hP9, va_K.moved hW.alike hK9, hD9⟩, hS.F ht⟩) hS.2.2 d_PerR_init_9
set_option maxHeartbeats 4000000 in
set_option maxRecDepth 100000 in
theorem c_Scanner_init (l : Launch) (dC : Nat → ClassId) (dI : Nat → Nat → Nat) (sz : Nat) (h0 : Nat) : Met l y_Scanner_init ws_Scanner_init ({ frames := 1, cells := 3, slots := 192, locals := 12 }) (va_Pc [.ref h0] (fun U => U.heap.size = sz ∧ va_P (dC, dI) classes [(h0, .inr (4, [.null, .null, .null, .int 0, .int 0, .null, .null, .int 0]))] U.heap ∧ va_K (dC, dI) classes [] U ∧ va_D (fun _ => True) [(h0, .inr (4, [.null, .null, .null, .int 0, .int 0, .null, .null, .int 0]))])) (va_Qv (fun _ : Unit => True) (fun _ t => ∃ (k1 : Nat) (k2 : Nat) (k3 : Nat) (c1 : ClassId) (c2 : ClassId) (c3 : ClassId), va_P (dC, dI) classes [(h0, .inr (4, [.ref k1, .ref k2, .ref k3, .int 0, .int ((-1)), .null, .null, .int 0])), (k1, .inl (c1, 64, .inl ((fun _ => 0)))), (k2, .inl (c2, 64, .inl ((fun _ => 0)))), (k3, .inl (c3, 64, .inr (.inl ((fun _ => 0)))))] t.heap ∧ va_K (dC, dI) classes [(c1, .int), (c2, .int), (c3, .long)] t ∧ va_D (va_A [(h0, .inr (4, [.null, .null, .null, .int 0, .int 0, .null, .null, .int 0]))] sz) [(h0, .inr (4, [.ref k1, .ref k2, .ref k3, .int 0, .int ((-1)), .null, .null, .int 0])), (k1, .inl (c1, 64, .inl ((fun _ => 0)))), (k2, .inl (c2, 64, .inl ((fun _ => 0)))), (k3, .inl (c3, 64, .inr (.inl ((fun _ => 0)))))]) (va_A [(h0, .inr (4, [.null, .null, .null, .int 0, .int 0, .null, .null, .int 0]))] sz)) 3 192 (va_A [(h0, .inr (4, [.null, .null, .null, .int 0, .int 0, .null, .null, .int 0]))] sz) := by
  refine Met.ofW (cc := b_Scanner_init) (maxL := 1) (ret := none) (by decide) rfl ?_
  intro p e s m args below meth c s₁ B hml hv
  obtain ⟨rfl, hsz, hP, hK, hD0⟩ := hv
  have hx := B.exec
  have hb := B.bytes
  have hr := B.returns
  have hts := atoms_spec (ws := ws_Scanner_init) B.pre
  have htw : ∀ w ∈ tw_tbl, w.before [.ref h0].toArray s = true := fun w h => hts w (List.mem_cons_of_mem _ h)
  have hown : s.vm.findClass R_Scanner = some m.cls := findClass_of_methodNamed B.named
  have hlocks := B.notSynchronized
  have hin : meth.name = "<init>" := (name_of_methodNamed B.named B.method).1
  subst hsz
  have hD := hD0.self (sz := s.heap.size)
  generalize hAe : va_A [(h0, .inr (4, [.null, .null, .null, .int 0, .int 0, .null, .null, .int 0]))] s.heap.size = A at hD ⊢
  have hA : ∀ q : Nat, s.heap.size ≤ q → A q := fun q h => by rw [← hAe]; exact Or.inr h
  have hS : va_S A s.heap s.heap [] := va_S.rf
  have hP : va_P (dC, dI) classes [(h0, .inr (4, [.null, .null, .null, .int 0, .int 0, .null, .null, .int 0]))] s.heap := hP
  have hl := lv_entry ([.ref h0]) (n := 1) (Nat.le_of_ble_eq_true rfl)
  rw [lg_entry_eq]
  generalize (lg_sl ([.ref h0]) ++ List.replicate (1 - (lg_sl ([.ref h0])).length) Slot.unset).toArray = ls at hl ⊢
  have hl : lv_has ls 1 [(0, .ref h0)] := hl
  refine lv_aload_n hx hb d_Scanner_init_0 rfl (lv_at hl 0 rfl) ?_
  refine W.objInit hx hb hown (htw _ wd_2_87) (htw _ wd_1_51) (htw _ wd_1_52) rfl (by rw [hml]; exact hl.1) rfl d_Scanner_init_1 (Nat.le_of_ble_eq_true rfl) (Nat.le_of_ble_eq_true rfl) ?_
  refine W.eq (g2 := F0 m 4 ls []) rfl ?_
  refine lv_aload_n hx hb d_Scanner_init_4 rfl (lv_at hl 0 rfl) ?_
  refine lv_bipush (v := 64) hx hb d_Scanner_init_5 (by decide) ?_
  have hc0 : 0 + 1 ≤ 3 := by omega
  have hs0 : 0 + 64 ≤ 192 := by omega
  refine va_newa (atype := .int) (a0 := (64, .inl (fun _ => 0))) hx hb (htw _ wd_2_80) rfl hK hP hD hS hA (fun _ => rfl) (by decide) (by decide) (by decide) hc0 hs0 d_Scanner_init_7 (fun q1 cA2 H hK hP hD hS => ?_)
  have hP : va_P (dC, dI) classes [(h0, .inr (4, [.null, .null, .null, .int 0, .int 0, .null, .null, .int 0])), (q1, .inl (cA2, 64, .inl ((fun _ => 0))))] H := hP
  have hD : va_D A [(h0, .inr (4, [.null, .null, .null, .int 0, .int 0, .null, .null, .int 0])), (q1, .inl (cA2, 64, .inl ((fun _ => 0))))] := hD
  refine va_put (D := (dC, dI)) (ci := 4) (v := .ref q1) (ty := .array .int) (C := R_Scanner) (T := F_Scanner) (N := 8) hx hb htw i_Scanner t_Scanner t_Scanner_ok n_Scanner hown hK hP hD hS 0 rfl rfl 0 (by decide) (htw _ wd_2_88) (fun _ h9 => h9) rfl (by decide +kernel) rfl rfl (Nat.le_of_ble_eq_true rfl) d_Scanner_init_9 (fun H locs hP hD hS => ?_)
  have hP : va_P (dC, dI) classes [(h0, .inr (4, [.ref q1, .null, .null, .int 0, .int 0, .null, .null, .int 0])), (q1, .inl (cA2, 64, .inl ((fun _ => 0))))] H := hP
  have hD : va_D A [(h0, .inr (4, [.ref q1, .null, .null, .int 0, .int 0, .null, .null, .int 0])), (q1, .inl (cA2, 64, .inl ((fun _ => 0))))] := hD
  refine lv_aload_n hx hb d_Scanner_init_12 rfl (lv_at hl 0 rfl) ?_
  refine lv_bipush (v := 64) hx hb d_Scanner_init_13 (by decide) ?_
  have hc0 : 1 + 1 ≤ 3 := by omega
  have hs0 : 64 + 64 ≤ 192 := by omega
  refine va_newa (atype := .int) (a0 := (64, .inl (fun _ => 0))) hx hb (htw _ wd_2_80) rfl hK hP hD hS hA (fun _ => rfl) (by decide) (by decide) (by decide) hc0 hs0 d_Scanner_init_15 (fun q3 cA4 H hK hP hD hS => ?_)
  have hP : va_P (dC, dI) classes [(h0, .inr (4, [.ref q1, .null, .null, .int 0, .int 0, .null, .null, .int 0])), (q1, .inl (cA2, 64, .inl ((fun _ => 0)))), (q3, .inl (cA4, 64, .inl ((fun _ => 0))))] H := hP
  have hD : va_D A [(h0, .inr (4, [.ref q1, .null, .null, .int 0, .int 0, .null, .null, .int 0])), (q1, .inl (cA2, 64, .inl ((fun _ => 0)))), (q3, .inl (cA4, 64, .inl ((fun _ => 0))))] := hD
  refine va_put (D := (dC, dI)) (ci := 4) (v := .ref q3) (ty := .array .int) (C := R_Scanner) (T := F_Scanner) (N := 8) hx hb htw i_Scanner t_Scanner t_Scanner_ok n_Scanner hown hK hP hD hS 0 rfl rfl 1 (by decide) (htw _ wd_2_90) (fun _ h9 => h9) rfl (by decide +kernel) rfl rfl (Nat.le_of_ble_eq_true rfl) d_Scanner_init_17 (fun H locs hP hD hS => ?_)
  have hP : va_P (dC, dI) classes [(h0, .inr (4, [.ref q1, .ref q3, .null, .int 0, .int 0, .null, .null, .int 0])), (q1, .inl (cA2, 64, .inl ((fun _ => 0)))), (q3, .inl (cA4, 64, .inl ((fun _ => 0))))] H := hP
  have hD : va_D A [(h0, .inr (4, [.ref q1, .ref q3, .null, .int 0, .int 0, .null, .null, .int 0])), (q1, .inl (cA2, 64, .inl ((fun _ => 0)))), (q3, .inl (cA4, 64, .inl ((fun _ => 0))))] := hD
  refine lv_aload_n hx hb d_Scanner_init_20 rfl (lv_at hl 0 rfl) ?_
  refine lv_bipush (v := 64) hx hb d_Scanner_init_21 (by decide) ?_
  have hc0 : 2 + 1 ≤ 3 := by omega
  have hs0 : 128 + 64 ≤ 192 := by omega
  refine va_newa (atype := .long) (a0 := (64, .inr (.inl (fun _ => 0)))) hx hb (htw _ wd_2_81) rfl hK hP hD hS hA (fun _ => rfl) (by decide) (by decide) (by decide) hc0 hs0 d_Scanner_init_23 (fun q5 cA6 H hK hP hD hS => ?_)
  have hP : va_P (dC, dI) classes [(h0, .inr (4, [.ref q1, .ref q3, .null, .int 0, .int 0, .null, .null, .int 0])), (q1, .inl (cA2, 64, .inl ((fun _ => 0)))), (q3, .inl (cA4, 64, .inl ((fun _ => 0)))), (q5, .inl (cA6, 64, .inr (.inl ((fun _ => 0)))))] H := hP
  have hD : va_D A [(h0, .inr (4, [.ref q1, .ref q3, .null, .int 0, .int 0, .null, .null, .int 0])), (q1, .inl (cA2, 64, .inl ((fun _ => 0)))), (q3, .inl (cA4, 64, .inl ((fun _ => 0)))), (q5, .inl (cA6, 64, .inr (.inl ((fun _ => 0)))))] := hD
  refine va_put (D := (dC, dI)) (ci := 4) (v := .ref q5) (ty := .array .long) (C := R_Scanner) (T := F_Scanner) (N := 8) hx hb htw i_Scanner t_Scanner t_Scanner_ok n_Scanner hown hK hP hD hS 0 rfl rfl 2 (by decide) (htw _ wd_2_92) (fun _ h9 => h9) rfl (by decide +kernel) rfl rfl (Nat.le_of_ble_eq_true rfl) d_Scanner_init_25 (fun H locs hP hD hS => ?_)
  have hP : va_P (dC, dI) classes [(h0, .inr (4, [.ref q1, .ref q3, .ref q5, .int 0, .int 0, .null, .null, .int 0])), (q1, .inl (cA2, 64, .inl ((fun _ => 0)))), (q3, .inl (cA4, 64, .inl ((fun _ => 0)))), (q5, .inl (cA6, 64, .inr (.inl ((fun _ => 0)))))] H := hP
  have hD : va_D A [(h0, .inr (4, [.ref q1, .ref q3, .ref q5, .int 0, .int 0, .null, .null, .int 0])), (q1, .inl (cA2, 64, .inl ((fun _ => 0)))), (q3, .inl (cA4, 64, .inl ((fun _ => 0)))), (q5, .inl (cA6, 64, .inr (.inl ((fun _ => 0)))))] := hD
  refine lv_aload_n hx hb d_Scanner_init_28 rfl (lv_at hl 0 rfl) ?_
  refine lv_iconst (v := (-1)) hx hb d_Scanner_init_29 (by decide) ?_
  refine va_put (D := (dC, dI)) (ci := 4) (v := .int ((-1))) (ty := .int) (C := R_Scanner) (T := F_Scanner) (N := 8) hx hb htw i_Scanner t_Scanner t_Scanner_ok n_Scanner hown hK hP hD hS 0 rfl rfl 4 (by decide) (htw _ wd_2_96) (fun _ h9 => h9) rfl (by decide +kernel) rfl rfl (Nat.le_of_ble_eq_true rfl) d_Scanner_init_30 (fun H locs hP hD hS => ?_)
  have hP : va_P (dC, dI) classes [(h0, .inr (4, [.ref q1, .ref q3, .ref q5, .int 0, .int ((-1)), .null, .null, .int 0])), (q1, .inl (cA2, 64, .inl ((fun _ => 0)))), (q3, .inl (cA4, 64, .inl ((fun _ => 0)))), (q5, .inl (cA6, 64, .inr (.inl ((fun _ => 0)))))] H := hP
  have hD : va_D A [(h0, .inr (4, [.ref q1, .ref q3, .ref q5, .int 0, .int ((-1)), .null, .null, .int 0])), (q1, .inl (cA2, 64, .inl ((fun _ => 0)))), (q3, .inl (cA4, 64, .inl ((fun _ => 0)))), (q5, .inl (cA6, 64, .inr (.inl ((fun _ => 0)))))] := hD
  have hP9 := hP.sub (ws' := [(h0, .inr (4, [.ref q1, .ref q3, .ref q5, .int 0, .int ((-1)), .null, .null, .int 0])), (q1, .inl (cA2, 64, .inl ((fun _ => 0)))), (q3, .inl (cA4, 64, .inl ((fun _ => 0)))), (q5, .inl (cA6, 64, .inr (.inl ((fun _ => 0)))))]) [0, 1, 2, 3] rfl
  have hD9 := hD.sub (ws' := [(h0, .inr (4, [.ref q1, .ref q3, .ref q5, .int 0, .int ((-1)), .null, .null, .int 0])), (q1, .inl (cA2, 64, .inl ((fun _ => 0)))), (q3, .inl (cA4, 64, .inl ((fun _ => 0)))), (q5, .inl (cA6, 64, .inr (.inl ((fun _ => 0)))))]) [0, 1, 2, 3] (by decide) rfl
  have hK9 := hK.sub (tys' := [(cA2, .int), (cA4, .int), (cA6, .long)]) [0, 1, 2] rfl
  refine W.widen (k := 3) (n := 192) (by omega) (by omega) ?_
  exact W.vret hx hb hr (fun t ht hW => ⟨⟨(), rfl, trivial, q1, q3, q5, cA2, cA4, cA6, by rw [ht]; exact hP9, va_K.moved hW.alike hK9, hD9⟩, hS.F ht⟩) hS.2.2 d_Scanner_init_33
set_option maxHeartbeats 4000000 in
set_option maxRecDepth 100000 in
theorem c_Parser_init (l : Launch) (dC : Nat → ClassId) (dI : Nat → Nat → Nat) (sz : Nat) (h0 : Nat) (v1 : Nat) : Met l y_Parser_init ws_Parser_init ({ frames := 1, cells := 1, slots := 60, locals := 12 }) (va_Pc [.ref h0, .ref v1] (fun U => U.heap.size = sz ∧ va_P (dC, dI) classes [(h0, .inr (5, [.null, .null, .null, .null, .null, .int 0, .int 0]))] U.heap ∧ va_K (dC, dI) classes [] U ∧ va_D (fun _ => True) [(h0, .inr (5, [.null, .null, .null, .null, .null, .int 0, .int 0]))] ∧ va_AO "SyntaxForge$Value" U)) (va_Qv (fun _ : Unit => True) (fun _ t => ∃ (d1 : Nat), va_P (dC, dI) classes [(h0, .inr (5, [.ref v1, .ref d1, .null, .null, .null, .int 0, .int 0]))] t.heap ∧ va_K (dC, dI) classes [] t ∧ va_D (va_A [(h0, .inr (5, [.null, .null, .null, .null, .null, .int 0, .int 0]))] sz) [(h0, .inr (5, [.ref v1, .ref d1, .null, .null, .null, .int 0, .int 0]))]) (va_A [(h0, .inr (5, [.null, .null, .null, .null, .null, .int 0, .int 0]))] sz)) 1 60 (va_A [(h0, .inr (5, [.null, .null, .null, .null, .null, .int 0, .int 0]))] sz) := by
  refine Met.ofW (cc := b_Parser_init) (maxL := 2) (ret := none) (by decide) rfl ?_
  intro p e s m args below meth c s₁ B hml hv
  obtain ⟨rfl, hsz, hP, hK, hD0, hx0⟩ := hv
  have hx := B.exec
  have hb := B.bytes
  have hr := B.returns
  have hts := atoms_spec (ws := ws_Parser_init) B.pre
  have htw : ∀ w ∈ tw_tbl, w.before [.ref h0, .ref v1].toArray s = true := fun w h => hts w (List.mem_cons_of_mem _ h)
  have hown : s.vm.findClass R_Parser = some m.cls := findClass_of_methodNamed B.named
  have hlocks := B.notSynchronized
  have hin : meth.name = "<init>" := (name_of_methodNamed B.named B.method).1
  subst hsz
  have hD := hD0.self (sz := s.heap.size)
  generalize hAe : va_A [(h0, .inr (5, [.null, .null, .null, .null, .null, .int 0, .int 0]))] s.heap.size = A at hD hx0 ⊢
  have hA : ∀ q : Nat, s.heap.size ≤ q → A q := fun q h => by rw [← hAe]; exact Or.inr h
  have hS : va_S A s.heap s.heap [] := va_S.rf
  have hP : va_P (dC, dI) classes [(h0, .inr (5, [.null, .null, .null, .null, .null, .int 0, .int 0]))] s.heap := hP
  have hl := lv_entry ([.ref h0, .ref v1]) (n := 2) (Nat.le_of_ble_eq_true rfl)
  rw [lg_entry_eq]
  generalize (lg_sl ([.ref h0, .ref v1]) ++ List.replicate (2 - (lg_sl ([.ref h0, .ref v1])).length) Slot.unset).toArray = ls at hl ⊢
  have hl : lv_has ls 2 [(0, .ref h0), (1, .ref v1)] := hl
  refine lv_aload_n hx hb d_Parser_init_0 rfl (lv_at hl 0 rfl) ?_
  refine W.objInit hx hb hown (htw _ wd_2_124) (htw _ wd_1_51) (htw _ wd_1_52) rfl (by rw [hml]; exact hl.1) rfl d_Parser_init_1 (Nat.le_of_ble_eq_true rfl) (Nat.le_of_ble_eq_true rfl) ?_
  refine W.eq (g2 := F0 m 4 ls []) rfl ?_
  refine lv_aload_n hx hb d_Parser_init_4 rfl (lv_at hl 0 rfl) ?_
  refine lv_aload_n hx hb d_Parser_init_5 rfl (lv_at hl 1 rfl) ?_
  refine va_putF (D := (dC, dI)) (ci := 5) (v := .ref v1) (ty := .object "SyntaxForge$Scanner") (C := R_Parser) (T := F_Parser) (N := 7) hx hb htw i_Parser t_Parser t_Parser_ok n_Parser hown hK hP hD hS 0 rfl rfl 0 (by decide) (htw _ wd_2_127) (fun _ h9 => h9) rfl hin rfl (by decide +kernel) rfl rfl (Nat.le_of_ble_eq_true rfl) d_Parser_init_6 (fun H locs hP hD hS => ?_)
  have hP : va_P (dC, dI) classes [(h0, .inr (5, [.ref v1, .null, .null, .null, .null, .int 0, .int 0]))] H := hP
  have hD : va_D A [(h0, .inr (5, [.ref v1, .null, .null, .null, .null, .int 0, .int 0]))] := hD
  refine lv_aload_n hx hb d_Parser_init_9 rfl (lv_at hl 0 rfl) ?_
  refine lv_bipush (v := 60) hx hb d_Parser_init_10 (by decide) ?_
  have hc0 : 0 + 1 ≤ 1 := by omega
  have hs0 : 0 + 60 ≤ 60 := by omega
  refine va_newq (C := "SyntaxForge$Value") hx hb hown (htw _ wd_2_125) hx0 hK hP hD hS hA (by decide) (by decide) (by decide) hc0 hs0 d_Parser_init_12 (fun q1 cA2 H hK hP hD hS => ?_)
  have hP : va_P (dC, dI) classes [(h0, .inr (5, [.ref v1, .null, .null, .null, .null, .int 0, .int 0])), (q1, .inl (cA2, 60, .inr (.inr (.inr (.inr ((fun _ => none)))))))] H := hP
  have hD : va_D A [(h0, .inr (5, [.ref v1, .null, .null, .null, .null, .int 0, .int 0])), (q1, .inl (cA2, 60, .inr (.inr (.inr (.inr ((fun _ => none)))))))] := hD
  refine va_putF (D := (dC, dI)) (ci := 5) (v := .ref q1) (ty := .array (.object "SyntaxForge$Value")) (C := R_Parser) (T := F_Parser) (N := 7) hx hb htw i_Parser t_Parser t_Parser_ok n_Parser hown hK hP hD hS 0 rfl rfl 1 (by decide) (htw _ wd_2_128) (fun _ h9 => h9) rfl hin rfl (by decide +kernel) rfl rfl (Nat.le_of_ble_eq_true rfl) d_Parser_init_15 (fun H locs hP hD hS => ?_)
  have hP : va_P (dC, dI) classes [(h0, .inr (5, [.ref v1, .ref q1, .null, .null, .null, .int 0, .int 0])), (q1, .inl (cA2, 60, .inr (.inr (.inr (.inr ((fun _ => none)))))))] H := hP
  have hD : va_D A [(h0, .inr (5, [.ref v1, .ref q1, .null, .null, .null, .int 0, .int 0])), (q1, .inl (cA2, 60, .inr (.inr (.inr (.inr ((fun _ => none)))))))] := hD
  have hP9 := hP.sub (ws' := [(h0, .inr (5, [.ref v1, .ref q1, .null, .null, .null, .int 0, .int 0]))]) [0] rfl
  have hD9 := hD.sub (ws' := [(h0, .inr (5, [.ref v1, .ref q1, .null, .null, .null, .int 0, .int 0]))]) [0] (by decide) rfl
  have hK9 := hK.sub (tys' := []) [] rfl
  refine W.widen (k := 1) (n := 60) (by omega) (by omega) ?_
  exact W.vret hx hb hr (fun t ht hW => ⟨⟨(), rfl, trivial, q1, by rw [ht]; exact hP9, va_K.moved hW.alike hK9, hD9⟩, hS.F ht⟩) hS.2.2 d_Parser_init_18
set_option maxHeartbeats 4000000 in
set_option maxRecDepth 100000 in
theorem c_Bytes_put (l : Launch) (dC : Nat → ClassId) (dI : Nat → Nat → Nat) (sz : Nat) (h0 : Nat) (qa : Nat) (ca : ClassId) (n : Nat) (f : Nat → Int32) (k : Nat) (x : Int32) (hk : k < n) (hn : n ≤ 65536) : Met l y_Bytes_put ws_Bytes_put ({ frames := 0, cells := 0, slots := 0, locals := 0 }) (va_Pc [.ref h0, .int x] (fun U => U.heap.size = sz ∧ va_P (dC, dI) classes [(h0, .inr (0, [.ref qa, .int (nI k)])), (qa, .inl (ca, n, .inl f))] U.heap ∧ va_K (dC, dI) classes [(ca, .byte)] U ∧ va_D (fun _ => True) [(h0, .inr (0, [.ref qa, .int (nI k)])), (qa, .inl (ca, n, .inl f))])) (va_Qv (fun _ : Unit => True) (fun _ t => va_P (dC, dI) classes [(h0, .inr (0, [.ref qa, .int (nI (k + 1))])), (qa, .inl (ca, n, .inl (upd f (nI k).toNatClampNeg (vp_nar .byte ((x : Int32).toInt8.toInt32)))))] t.heap ∧ va_K (dC, dI) classes [(ca, .byte)] t ∧ va_D (va_A [(h0, .inr (0, [.ref qa, .int (nI k)])), (qa, .inl (ca, n, .inl f))] sz) [(h0, .inr (0, [.ref qa, .int (nI (k + 1))])), (qa, .inl (ca, n, .inl (upd f (nI k).toNatClampNeg (vp_nar .byte ((x : Int32).toInt8.toInt32)))))]) (va_A [(h0, .inr (0, [.ref qa, .int (nI k)])), (qa, .inl (ca, n, .inl f))] sz)) 0 0 (va_A [(h0, .inr (0, [.ref qa, .int (nI k)])), (qa, .inl (ca, n, .inl f))] sz) := by
  refine Met.ofW (cc := b_Bytes_put) (maxL := 2) (ret := none) (by decide) rfl ?_
  intro p e s m args below meth c s₁ B hml hv
  obtain ⟨rfl, hsz, hP, hK, hD0⟩ := hv
  have hx := B.exec
  have hb := B.bytes
  have hr := B.returns
  have hts := atoms_spec (ws := ws_Bytes_put) B.pre
  have htw : ∀ w ∈ tw_tbl, w.before [.ref h0, .int x].toArray s = true := fun w h => hts w (List.mem_cons_of_mem _ h)
  have hown : s.vm.findClass R_Bytes = some m.cls := findClass_of_methodNamed B.named
  have hlocks := B.notSynchronized
  have hin : meth.name = "put" := (name_of_methodNamed B.named B.method).1
  subst hsz
  have hD := hD0.self (sz := s.heap.size)
  generalize hAe : va_A [(h0, .inr (0, [.ref qa, .int (nI k)])), (qa, .inl (ca, n, .inl f))] s.heap.size = A at hD ⊢
  have hA : ∀ q : Nat, s.heap.size ≤ q → A q := fun q h => by rw [← hAe]; exact Or.inr h
  have hS : va_S A s.heap s.heap [] := va_S.rf
  have hP : va_P (dC, dI) classes [(h0, .inr (0, [.ref qa, .int (nI k)])), (qa, .inl (ca, n, .inl f))] s.heap := hP
  have hl := lv_entry ([.ref h0, .int x]) (n := 2) (Nat.le_of_ble_eq_true rfl)
  rw [lg_entry_eq]
  generalize (lg_sl ([.ref h0, .int x]) ++ List.replicate (2 - (lg_sl ([.ref h0, .int x])).length) Slot.unset).toArray = ls at hl ⊢
  have hl : lv_has ls 2 [(0, .ref h0), (1, .int x)] := hl
  refine lv_aload_n hx hb d_Bytes_put_0 rfl (lv_at hl 0 rfl) ?_
  refine va_get (D := (dC, dI)) (ci := 0) (v := .int (nI k)) (C := R_Bytes) (T := F_Bytes) (N := 2) hx hb htw i_Bytes hown hK hP 0 rfl rfl 1 (by decide) (htw _ wd_1_64) (fun _ h9 => h9) rfl d_Bytes_put_1 ?_
  refine lv_aload_n hx hb d_Bytes_put_4 rfl (lv_at hl 0 rfl) ?_
  refine va_get (D := (dC, dI)) (ci := 0) (v := .ref qa) (C := R_Bytes) (T := F_Bytes) (N := 2) hx hb htw i_Bytes hown hK hP 0 rfl rfl 0 (by decide) (htw _ wd_1_59) (fun _ h9 => h9) rfl d_Bytes_put_5 ?_
  refine va_alen (v := nI n) hx hb hK hP 1 0 rfl rfl rfl d_Bytes_put_8 ?_
  refine lv_icmp_lt (tgt := 33) hx hb d_Bytes_put_9 rfl (fun _ => ?_) (fun hn => absurd ((nI_ltI (by omega) (by omega)).mpr hk) hn)
  refine lv_aload_n hx hb d_Bytes_put_33 rfl (lv_at hl 0 rfl) ?_
  refine va_get (D := (dC, dI)) (ci := 0) (v := .ref qa) (C := R_Bytes) (T := F_Bytes) (N := 2) hx hb htw i_Bytes hown hK hP 0 rfl rfl 0 (by decide) (htw _ wd_1_59) (fun _ h9 => h9) rfl d_Bytes_put_34 ?_
  refine lv_aload_n hx hb d_Bytes_put_37 rfl (lv_at hl 0 rfl) ?_
  refine va_get (D := (dC, dI)) (ci := 0) (v := .int (nI k)) (C := R_Bytes) (T := F_Bytes) (N := 2) hx hb htw i_Bytes hown hK hP 0 rfl rfl 1 (by decide) (htw _ wd_1_64) (fun _ h9 => h9) rfl d_Bytes_put_38 ?_
  refine lv_iload_n hx hb d_Bytes_put_41 rfl (lv_at hl 1 rfl) ?_
  refine lv_i2b hx hb d_Bytes_put_42 rfl ?_
  refine va_bast hx hb hK hP hD hS 1 0 rfl rfl (vp_in_nI hk (by omega)) d_Bytes_put_43 (fun H locs hP hD hS => ?_)
  have hP : va_P (dC, dI) classes [(h0, .inr (0, [.ref qa, .int (nI k)])), (qa, .inl (ca, n, .inl (upd f (nI k).toNatClampNeg (vp_nar .byte ((x : Int32).toInt8.toInt32)))))] H := hP
  have hD : va_D A [(h0, .inr (0, [.ref qa, .int (nI k)])), (qa, .inl (ca, n, .inl (upd f (nI k).toNatClampNeg (vp_nar .byte ((x : Int32).toInt8.toInt32)))))] := hD
  refine lv_aload_n hx hb d_Bytes_put_44 rfl (lv_at hl 0 rfl) ?_
  refine lv_dup hx hb d_Bytes_put_45 rfl ?_
  refine va_get (D := (dC, dI)) (ci := 0) (v := .int (nI k)) (C := R_Bytes) (T := F_Bytes) (N := 2) hx hb htw i_Bytes hown hK hP 0 rfl rfl 1 (by decide) (htw _ wd_1_64) (fun _ h9 => h9) rfl d_Bytes_put_46 ?_
  refine lv_iconst (v := 1) hx hb d_Bytes_put_49 (by decide) ?_
  refine lv_iadd hx hb d_Bytes_put_50 ?_
  refine lv_topi (fun z9 e9 => ?_)
  have e9 : z9 = nI (k + 1) := e9.trans (nI_1 k)
  subst e9
  refine va_put (D := (dC, dI)) (ci := 0) (v := .int (nI (k + 1))) (ty := .int) (C := R_Bytes) (T := F_Bytes) (N := 2) hx hb htw i_Bytes t_Bytes t_Bytes_ok n_Bytes hown hK hP hD hS 0 rfl rfl 1 (by decide) (htw _ wd_1_64) (fun _ h9 => h9) rfl (by decide +kernel) rfl rfl (Nat.le_of_ble_eq_true rfl) d_Bytes_put_51 (fun H locs hP hD hS => ?_)
  have hP : va_P (dC, dI) classes [(h0, .inr (0, [.ref qa, .int (nI (k + 1))])), (qa, .inl (ca, n, .inl (upd f (nI k).toNatClampNeg (vp_nar .byte ((x : Int32).toInt8.toInt32)))))] H := hP
  have hD : va_D A [(h0, .inr (0, [.ref qa, .int (nI (k + 1))])), (qa, .inl (ca, n, .inl (upd f (nI k).toNatClampNeg (vp_nar .byte ((x : Int32).toInt8.toInt32)))))] := hD
  have hP9 := hP.sub (ws' := [(h0, .inr (0, [.ref qa, .int (nI (k + 1))])), (qa, .inl (ca, n, .inl (upd f (nI k).toNatClampNeg (vp_nar .byte ((x : Int32).toInt8.toInt32)))))]) [0, 1] rfl
  have hD9 := hD.sub (ws' := [(h0, .inr (0, [.ref qa, .int (nI (k + 1))])), (qa, .inl (ca, n, .inl (upd f (nI k).toNatClampNeg (vp_nar .byte ((x : Int32).toInt8.toInt32)))))]) [0, 1] (by decide) rfl
  have hK9 := hK.sub (tys' := [(ca, .byte)]) [0] rfl
  refine W.widen (k := 0) (n := 0) (by omega) (by omega) ?_
  exact W.vret hx hb hr (fun t ht hW => ⟨⟨(), rfl, trivial, by rw [ht]; exact hP9, va_K.moved hW.alike hK9, hD9⟩, hS.F ht⟩) hS.2.2 d_Bytes_put_54
set_option maxHeartbeats 4000000 in
set_option maxRecDepth 100000 in
theorem c_Bytes_get (l : Launch) (dC : Nat → ClassId) (dI : Nat → Nat → Nat) (sz : Nat) (h0 : Nat) (qa : Nat) (ca : ClassId) (n : Nat) (f : Nat → Int32) (k : Int32) (i : Int32) (hn : n ≤ 65536) : Met l y_Bytes_get ws_Bytes_get ({ frames := 0, cells := 0, slots := 0, locals := 0 }) (va_Pc [.ref h0, .int i] (fun U => U.heap.size = sz ∧ va_P (dC, dI) classes [(h0, .inr (0, [.ref qa, .int k])), (qa, .inl (ca, n, .inl f))] U.heap ∧ va_K (dC, dI) classes [(ca, .byte)] U ∧ va_D (fun _ => True) [(h0, .inr (0, [.ref qa, .int k])), (qa, .inl (ca, n, .inl f))])) (va_Qi (fun (r : Int32) (_ : Unit) => r = tz_gb n f k i) (fun _ t => va_P (dC, dI) classes [(h0, .inr (0, [.ref qa, .int k])), (qa, .inl (ca, n, .inl f))] t.heap ∧ va_K (dC, dI) classes [(ca, .byte)] t ∧ va_D (va_A [(h0, .inr (0, [.ref qa, .int k])), (qa, .inl (ca, n, .inl f))] sz) [(h0, .inr (0, [.ref qa, .int k])), (qa, .inl (ca, n, .inl f))]) (va_A [(h0, .inr (0, [.ref qa, .int k])), (qa, .inl (ca, n, .inl f))] sz)) 0 0 (va_A [(h0, .inr (0, [.ref qa, .int k])), (qa, .inl (ca, n, .inl f))] sz) := by
  refine Met.ofW (cc := b_Bytes_get) (maxL := 2) (ret := (some .int)) (by decide) rfl ?_
  intro p e s m args below meth c s₁ B hml hv
  obtain ⟨rfl, hsz, hP, hK, hD0⟩ := hv
  have hx := B.exec
  have hb := B.bytes
  have hr := B.returns
  have hts := atoms_spec (ws := ws_Bytes_get) B.pre
  have htw : ∀ w ∈ tw_tbl, w.before [.ref h0, .int i].toArray s = true := fun w h => hts w (List.mem_cons_of_mem _ h)
  have hown : s.vm.findClass R_Bytes = some m.cls := findClass_of_methodNamed B.named
  have hlocks := B.notSynchronized
  have hin : meth.name = "get" := (name_of_methodNamed B.named B.method).1
  subst hsz
  have hD := hD0.self (sz := s.heap.size)
  generalize hAe : va_A [(h0, .inr (0, [.ref qa, .int k])), (qa, .inl (ca, n, .inl f))] s.heap.size = A at hD ⊢
  have hA : ∀ q : Nat, s.heap.size ≤ q → A q := fun q h => by rw [← hAe]; exact Or.inr h
  have hS : va_S A s.heap s.heap [] := va_S.rf
  have hP : va_P (dC, dI) classes [(h0, .inr (0, [.ref qa, .int k])), (qa, .inl (ca, n, .inl f))] s.heap := hP
  have hl := lv_entry ([.ref h0, .int i]) (n := 2) (Nat.le_of_ble_eq_true rfl)
  rw [lg_entry_eq]
  generalize (lg_sl ([.ref h0, .int i]) ++ List.replicate (2 - (lg_sl ([.ref h0, .int i])).length) Slot.unset).toArray = ls at hl ⊢
  have hl : lv_has ls 2 [(0, .ref h0), (1, .int i)] := hl
  refine lv_iload_n hx hb d_Bytes_get_0 rfl (lv_at hl 1 rfl) ?_
  refine lv_if_lt (tgt := 34) hx hb d_Bytes_get_1 rfl (fun h1 => ?_) (fun h1 => ?_)
  · refine lv_iconst (v := (-1)) hx hb d_Bytes_get_34 (by decide) ?_
    have hP9 := hP.sub (ws' := [(h0, .inr (0, [.ref qa, .int k])), (qa, .inl (ca, n, .inl f))]) [0, 1] rfl
    have hD9 := hD.sub (ws' := [(h0, .inr (0, [.ref qa, .int k])), (qa, .inl (ca, n, .inl f))]) [0, 1] (by decide) rfl
    have hK9 := hK.sub (tys' := [(ca, .byte)]) [0] rfl
    refine W.widen (k := 0) (n := 0) (by omega) (by omega) ?_
    exact W.iret (v := (-1)) hx hb hr (fun t ht hW => ⟨⟨(-1), (), rfl, (if_neg (fun q => q.1 h1)).symm, by rw [ht]; exact hP9, va_K.moved hW.alike hK9, hD9⟩, hS.F ht⟩) hS.2.2 d_Bytes_get_35
  · refine lv_iload_n hx hb d_Bytes_get_4 rfl (lv_at hl 1 rfl) ?_
    refine lv_aload_n hx hb d_Bytes_get_5 rfl (lv_at hl 0 rfl) ?_
    refine va_get (D := (dC, dI)) (ci := 0) (v := .int k) (C := R_Bytes) (T := F_Bytes) (N := 2) hx hb htw i_Bytes hown hK hP 0 rfl rfl 1 (by decide) (htw _ wd_1_64) (fun _ h9 => h9) rfl d_Bytes_get_6 ?_
    refine lv_icmp_ge (tgt := 34) hx hb d_Bytes_get_9 rfl (fun h2 => ?_) (fun h2 => ?_)
    · refine lv_iconst (v := (-1)) hx hb d_Bytes_get_34 (by decide) ?_
      have hP9 := hP.sub (ws' := [(h0, .inr (0, [.ref qa, .int k])), (qa, .inl (ca, n, .inl f))]) [0, 1] rfl
      have hD9 := hD.sub (ws' := [(h0, .inr (0, [.ref qa, .int k])), (qa, .inl (ca, n, .inl f))]) [0, 1] (by decide) rfl
      have hK9 := hK.sub (tys' := [(ca, .byte)]) [0] rfl
      refine W.widen (k := 0) (n := 0) (by omega) (by omega) ?_
      exact W.iret (v := (-1)) hx hb hr (fun t ht hW => ⟨⟨(-1), (), rfl, (if_neg (fun q => q.2.1 h2)).symm, by rw [ht]; exact hP9, va_K.moved hW.alike hK9, hD9⟩, hS.F ht⟩) hS.2.2 d_Bytes_get_35
    · refine lv_iload_n hx hb d_Bytes_get_12 rfl (lv_at hl 1 rfl) ?_
      refine lv_aload_n hx hb d_Bytes_get_13 rfl (lv_at hl 0 rfl) ?_
      refine va_get (D := (dC, dI)) (ci := 0) (v := .ref qa) (C := R_Bytes) (T := F_Bytes) (N := 2) hx hb htw i_Bytes hown hK hP 0 rfl rfl 0 (by decide) (htw _ wd_1_59) (fun _ h9 => h9) rfl d_Bytes_get_14 ?_
      refine va_alen (v := nI n) hx hb hK hP 1 0 rfl rfl rfl d_Bytes_get_17 ?_
      refine lv_icmp_ge (tgt := 34) hx hb d_Bytes_get_18 rfl (fun h3 => ?_) (fun h3 => ?_)
      · refine lv_iconst (v := (-1)) hx hb d_Bytes_get_34 (by decide) ?_
        have hP9 := hP.sub (ws' := [(h0, .inr (0, [.ref qa, .int k])), (qa, .inl (ca, n, .inl f))]) [0, 1] rfl
        have hD9 := hD.sub (ws' := [(h0, .inr (0, [.ref qa, .int k])), (qa, .inl (ca, n, .inl f))]) [0, 1] (by decide) rfl
        have hK9 := hK.sub (tys' := [(ca, .byte)]) [0] rfl
        refine W.widen (k := 0) (n := 0) (by omega) (by omega) ?_
        exact W.iret (v := (-1)) hx hb hr (fun t ht hW => ⟨⟨(-1), (), rfl, (if_neg (fun q => q.2.2 h3)).symm, by rw [ht]; exact hP9, va_K.moved hW.alike hK9, hD9⟩, hS.F ht⟩) hS.2.2 d_Bytes_get_35
      · refine lv_aload_n hx hb d_Bytes_get_21 rfl (lv_at hl 0 rfl) ?_
        refine va_get (D := (dC, dI)) (ci := 0) (v := .ref qa) (C := R_Bytes) (T := F_Bytes) (N := 2) hx hb htw i_Bytes hown hK hP 0 rfl rfl 0 (by decide) (htw _ wd_1_59) (fun _ h9 => h9) rfl d_Bytes_get_22 ?_
        refine lv_iload_n hx hb d_Bytes_get_25 rfl (lv_at hl 1 rfl) ?_
        refine va_bald hx hb hK hP 1 0 rfl rfl (tz_in h1 h3 (by omega)) d_Bytes_get_26 ?_
        refine lv_sipush (v := 255) hx hb d_Bytes_get_27 (by decide) ?_
        refine lv_iand hx hb d_Bytes_get_30 ?_
        refine lv_goto (tgt := 35) hx hb d_Bytes_get_31 rfl ?_
        have hP9 := hP.sub (ws' := [(h0, .inr (0, [.ref qa, .int k])), (qa, .inl (ca, n, .inl f))]) [0, 1] rfl
        have hD9 := hD.sub (ws' := [(h0, .inr (0, [.ref qa, .int k])), (qa, .inl (ca, n, .inl f))]) [0, 1] (by decide) rfl
        have hK9 := hK.sub (tys' := [(ca, .byte)]) [0] rfl
        refine W.widen (k := 0) (n := 0) (by omega) (by omega) ?_
        exact W.iret (v := (f (i).toNatClampNeg) &&& 255) hx hb hr (fun t ht hW => ⟨⟨(f (i).toNatClampNeg) &&& 255, (), rfl, (if_pos ⟨h1, h2, h3⟩).symm, by rw [ht]; exact hP9, va_K.moved hW.alike hK9, hD9⟩, hS.F ht⟩) hS.2.2 d_Bytes_get_35
set_option maxHeartbeats 4000000 in
set_option maxRecDepth 100000 in
theorem c_AL_clear (l : Launch) (dC : Nat → ClassId) (dI : Nat → Nat → Nat) (sz : Nat) (h0 : Nat) (dE : Nat) (mo : Int32) : Met l y_AL_clear ws_AL_clear ({ frames := 0, cells := 0, slots := 0, locals := 0 }) (va_Pc [.ref h0] (fun U => U.heap.size = sz ∧ va_P (dC, dI) classes [(h0, .inr (1, [.ref dE, .int 0, .int mo]))] U.heap ∧ va_K (dC, dI) classes [] U ∧ va_D (fun _ => True) [(h0, .inr (1, [.ref dE, .int 0, .int mo]))])) (va_Qv (fun _ : Unit => True) (fun _ t => va_P (dC, dI) classes [(h0, .inr (1, [.ref dE, .int 0, .int (mo + 1)]))] t.heap ∧ va_K (dC, dI) classes [] t ∧ va_D (va_A [(h0, .inr (1, [.ref dE, .int 0, .int mo]))] sz) [(h0, .inr (1, [.ref dE, .int 0, .int (mo + 1)]))]) (va_A [(h0, .inr (1, [.ref dE, .int 0, .int mo]))] sz)) 0 0 (va_A [(h0, .inr (1, [.ref dE, .int 0, .int mo]))] sz) := by
  refine Met.ofW (cc := b_AL_clear) (maxL := 4) (ret := none) (by decide) rfl ?_
  intro p e s m args below meth c s₁ B hml hv
  obtain ⟨rfl, hsz, hP, hK, hD0⟩ := hv
  have hx := B.exec
  have hb := B.bytes
  have hr := B.returns
  have hts := atoms_spec (ws := ws_AL_clear) B.pre
  have htw : ∀ w ∈ tw_tbl, w.before [.ref h0].toArray s = true := fun w h => hts w (List.mem_cons_of_mem _ h)
  have hown : s.vm.findClass R_AL = some m.cls := findClass_of_methodNamed B.named
  have hlocks := B.notSynchronized
  have hin : meth.name = "clear" := (name_of_methodNamed B.named B.method).1
  subst hsz
  have hD := hD0.self (sz := s.heap.size)
  generalize hAe : va_A [(h0, .inr (1, [.ref dE, .int 0, .int mo]))] s.heap.size = A at hD ⊢
  have hA : ∀ q : Nat, s.heap.size ≤ q → A q := fun q h => by rw [← hAe]; exact Or.inr h
  have hS : va_S A s.heap s.heap [] := va_S.rf
  have hP : va_P (dC, dI) classes [(h0, .inr (1, [.ref dE, .int 0, .int mo]))] s.heap := hP
  have hl := lv_entry ([.ref h0]) (n := 4) (Nat.le_of_ble_eq_true rfl)
  rw [lg_entry_eq]
  generalize (lg_sl ([.ref h0]) ++ List.replicate (4 - (lg_sl ([.ref h0])).length) Slot.unset).toArray = ls at hl ⊢
  have hl : lv_has ls 4 [(0, .ref h0)] := hl
  refine lv_aload_n hx hb d_AL_clear_0 rfl (lv_at hl 0 rfl) ?_
  refine lv_dup hx hb d_AL_clear_1 rfl ?_
  refine va_get (D := (dC, dI)) (ci := 1) (v := .int mo) (C := R_AL) (T := F_AL) (N := 3) hx hb htw i_AL hown hK hP 0 rfl rfl 2 (by decide) (htw _ wd_1_104) (u_same (htw _ wd_1_105)) rfl d_AL_clear_2 ?_
  refine lv_iconst (v := 1) hx hb d_AL_clear_5 (by decide) ?_
  refine lv_iadd hx hb d_AL_clear_6 ?_
  refine va_put (D := (dC, dI)) (ci := 1) (v := .int (mo + 1)) (ty := .int) (C := R_AL) (T := F_AL) (N := 3) hx hb htw i_AL t_AL t_AL_ok n_AL hown hK hP hD hS 0 rfl rfl 2 (by decide) (htw _ wd_1_104) (u_same (htw _ wd_1_105)) rfl (by decide +kernel) rfl rfl (Nat.le_of_ble_eq_true rfl) d_AL_clear_7 (fun H locs hP hD hS => ?_)
  have hP : va_P (dC, dI) classes [(h0, .inr (1, [.ref dE, .int 0, .int (mo + 1)]))] H := hP
  have hD : va_D A [(h0, .inr (1, [.ref dE, .int 0, .int (mo + 1)]))] := hD
  refine lv_aload_n hx hb d_AL_clear_10 rfl (lv_at hl 0 rfl) ?_
  refine va_get (D := (dC, dI)) (ci := 1) (v := .ref dE) (C := R_AL) (T := F_AL) (N := 3) hx hb htw i_AL hown hK hP 0 rfl rfl 0 (by decide) (htw _ wd_1_101) (fun _ h9 => h9) rfl d_AL_clear_11 ?_
  refine lv_astore_n hx hb d_AL_clear_14 rfl hl (by decide) rfl (fun ls hl => ?_)
  have hl : lv_has ls 4 [(1, .ref dE), (0, .ref h0)] := hl
  refine lv_aload_n hx hb d_AL_clear_15 rfl (lv_at hl 1 rfl) ?_
  refine va_get (D := (dC, dI)) (ci := 1) (v := .int 0) (C := R_AL) (T := F_AL) (N := 3) hx hb htw i_AL hown hK hP 0 rfl rfl 1 (by decide) (htw _ wd_1_102) (fun _ h9 => h9) rfl d_AL_clear_16 ?_
  refine lv_istore_n hx hb d_AL_clear_19 rfl hl (by decide) rfl (fun ls hl => ?_)
  have hl : lv_has ls 4 [(2, .int 0), (1, .ref dE), (0, .ref h0)] := hl
  refine lv_aload_n hx hb d_AL_clear_20 rfl (lv_at hl 2 rfl) ?_
  refine lv_iconst (v := 0) hx hb d_AL_clear_21 (by decide) ?_
  refine lv_dup_x1 hx hb d_AL_clear_22 rfl rfl ?_
  refine va_put (D := (dC, dI)) (ci := 1) (v := .int 0) (ty := .int) (C := R_AL) (T := F_AL) (N := 3) hx hb htw i_AL t_AL t_AL_ok n_AL hown hK hP hD hS 0 rfl rfl 1 (by decide) (htw _ wd_1_102) (fun _ h9 => h9) rfl (by decide +kernel) rfl rfl (Nat.le_of_ble_eq_true rfl) d_AL_clear_23 (fun H locs hP hD hS => ?_)
  have hP : va_P (dC, dI) classes [(h0, .inr (1, [.ref dE, .int 0, .int (mo + 1)]))] H := hP
  have hD : va_D A [(h0, .inr (1, [.ref dE, .int 0, .int (mo + 1)]))] := hD
  refine lv_istore_n hx hb d_AL_clear_26 rfl hl (by decide) rfl (fun ls hl => ?_)
  have hl : lv_has ls 4 [(3, .int 0), (2, .int 0), (1, .ref dE), (0, .ref h0)] := hl
  refine lv_iload_n hx hb d_AL_clear_27 rfl (lv_at hl 0 rfl) ?_
  refine lv_iload_n hx hb d_AL_clear_28 rfl (lv_at hl 1 rfl) ?_
  refine lv_icmp_ge (tgt := 42) hx hb d_AL_clear_29 rfl (fun _ => ?_) (fun hn => absurd (by decide) hn)
  have hP9 := hP.sub (ws' := [(h0, .inr (1, [.ref dE, .int 0, .int (mo + 1)]))]) [0] rfl
  have hD9 := hD.sub (ws' := [(h0, .inr (1, [.ref dE, .int 0, .int (mo + 1)]))]) [0] (by decide) rfl
  have hK9 := hK.sub (tys' := []) [] rfl
  refine W.widen (k := 0) (n := 0) (by omega) (by omega) ?_
  exact W.vret hx hb hr (fun t ht hW => ⟨⟨(), rfl, trivial, by rw [ht]; exact hP9, va_K.moved hW.alike hK9, hD9⟩, hS.F ht⟩) hS.2.2 d_AL_clear_42
set_option maxHeartbeats 4000000 in
set_option maxRecDepth 100000 in
theorem c_Values_clear (l : Launch) (dC : Nat → ClassId) (dI : Nat → Nat → Nat) (sz : Nat) (h0 : Nat) (al : Nat) (vd : Nat) (va : Nat) (u : Int32) (k : Int32) : Met l y_Values_clear ws_Values_clear ({ frames := 0, cells := 0, slots := 0, locals := 0 }) (va_Pc [.ref h0] (fun U => U.heap.size = sz ∧ va_P (dC, dI) classes [(h0, .inr (2, [.ref al, .ref vd, .int u])), (vd, .inr (0, [.ref va, .int k]))] U.heap ∧ va_K (dC, dI) classes [] U ∧ va_D (fun _ => True) [(h0, .inr (2, [.ref al, .ref vd, .int u])), (vd, .inr (0, [.ref va, .int k]))])) (va_Qv (fun _ : Unit => True) (fun _ t => va_P (dC, dI) classes [(h0, .inr (2, [.ref al, .ref vd, .int 0])), (vd, .inr (0, [.ref va, .int 0]))] t.heap ∧ va_K (dC, dI) classes [] t ∧ va_D (va_A [(h0, .inr (2, [.ref al, .ref vd, .int u])), (vd, .inr (0, [.ref va, .int k]))] sz) [(h0, .inr (2, [.ref al, .ref vd, .int 0])), (vd, .inr (0, [.ref va, .int 0]))]) (va_A [(h0, .inr (2, [.ref al, .ref vd, .int u])), (vd, .inr (0, [.ref va, .int k]))] sz)) 0 0 (va_A [(h0, .inr (2, [.ref al, .ref vd, .int u])), (vd, .inr (0, [.ref va, .int k]))] sz) := by
  refine Met.ofW (cc := b_Values_clear) (maxL := 1) (ret := none) (by decide) rfl ?_
  intro p e s m args below meth c s₁ B hml hv
  obtain ⟨rfl, hsz, hP, hK, hD0⟩ := hv
  have hx := B.exec
  have hb := B.bytes
  have hr := B.returns
  have hts := atoms_spec (ws := ws_Values_clear) B.pre
  have htw : ∀ w ∈ tw_tbl, w.before [.ref h0].toArray s = true := fun w h => hts w (List.mem_cons_of_mem _ h)
  have hown : s.vm.findClass R_Values = some m.cls := findClass_of_methodNamed B.named
  have hlocks := B.notSynchronized
  have hin : meth.name = "clear" := (name_of_methodNamed B.named B.method).1
  subst hsz
  have hD := hD0.self (sz := s.heap.size)
  generalize hAe : va_A [(h0, .inr (2, [.ref al, .ref vd, .int u])), (vd, .inr (0, [.ref va, .int k]))] s.heap.size = A at hD ⊢
  have hA : ∀ q : Nat, s.heap.size ≤ q → A q := fun q h => by rw [← hAe]; exact Or.inr h
  have hS : va_S A s.heap s.heap [] := va_S.rf
  have hP : va_P (dC, dI) classes [(h0, .inr (2, [.ref al, .ref vd, .int u])), (vd, .inr (0, [.ref va, .int k]))] s.heap := hP
  have hl := lv_entry ([.ref h0]) (n := 1) (Nat.le_of_ble_eq_true rfl)
  rw [lg_entry_eq]
  generalize (lg_sl ([.ref h0]) ++ List.replicate (1 - (lg_sl ([.ref h0])).length) Slot.unset).toArray = ls at hl ⊢
  have hl : lv_has ls 1 [(0, .ref h0)] := hl
  refine lv_aload_n hx hb d_Values_clear_0 rfl (lv_at hl 0 rfl) ?_
  refine lv_iconst (v := 0) hx hb d_Values_clear_1 (by decide) ?_
  refine va_put (D := (dC, dI)) (ci := 2) (v := .int 0) (ty := .int) (C := R_Values) (T := F_Values) (N := 3) hx hb htw i_Values t_Values t_Values_ok n_Values hown hK hP hD hS 0 rfl rfl 2 (by decide) (htw _ wd_1_132) (fun _ h9 => h9) rfl (by decide +kernel) rfl rfl (Nat.le_of_ble_eq_true rfl) d_Values_clear_2 (fun H locs hP hD hS => ?_)
  have hP : va_P (dC, dI) classes [(h0, .inr (2, [.ref al, .ref vd, .int 0])), (vd, .inr (0, [.ref va, .int k]))] H := hP
  have hD : va_D A [(h0, .inr (2, [.ref al, .ref vd, .int 0])), (vd, .inr (0, [.ref va, .int k]))] := hD
  refine lv_aload_n hx hb d_Values_clear_5 rfl (lv_at hl 0 rfl) ?_
  refine va_get (D := (dC, dI)) (ci := 2) (v := .ref vd) (C := R_Values) (T := F_Values) (N := 3) hx hb htw i_Values hown hK hP 0 rfl rfl 1 (by decide) (htw _ wd_1_126) (fun _ h9 => h9) rfl d_Values_clear_6 ?_
  refine lv_iconst (v := 0) hx hb d_Values_clear_9 (by decide) ?_
  refine va_put (D := (dC, dI)) (ci := 0) (v := .int 0) (ty := .int) (C := R_Bytes) (T := F_Bytes) (N := 2) hx hb htw i_Bytes t_Bytes t_Bytes_ok n_Bytes hown hK hP hD hS 1 rfl rfl 1 (by decide) (htw _ wd_1_66) (fun _ h9 => h9) rfl (by decide +kernel) rfl rfl (Nat.le_of_ble_eq_true rfl) d_Values_clear_10 (fun H locs hP hD hS => ?_)
  have hP : va_P (dC, dI) classes [(h0, .inr (2, [.ref al, .ref vd, .int 0])), (vd, .inr (0, [.ref va, .int 0]))] H := hP
  have hD : va_D A [(h0, .inr (2, [.ref al, .ref vd, .int 0])), (vd, .inr (0, [.ref va, .int 0]))] := hD
  have hP9 := hP.sub (ws' := [(h0, .inr (2, [.ref al, .ref vd, .int 0])), (vd, .inr (0, [.ref va, .int 0]))]) [0, 1] rfl
  have hD9 := hD.sub (ws' := [(h0, .inr (2, [.ref al, .ref vd, .int 0])), (vd, .inr (0, [.ref va, .int 0]))]) [0, 1] (by decide) rfl
  have hK9 := hK.sub (tys' := []) [] rfl
  refine W.widen (k := 0) (n := 0) (by omega) (by omega) ?_
  exact W.vret hx hb hr (fun t ht hW => ⟨⟨(), rfl, trivial, by rw [ht]; exact hP9, va_K.moved hW.alike hK9, hD9⟩, hS.F ht⟩) hS.2.2 d_Values_clear_13
set_option maxHeartbeats 4000000 in
set_option maxRecDepth 100000 in
theorem c_Arrs_fill (l : Launch) (dC : Nat → ClassId) (dI : Nat → Nat → Nat) (sz : Nat) (qa : Nat) (ca : ClassId) (n : Nat) (f : Nat → Int32) (x : Int32) (hn : n ≤ 65536) : Met l y_Arrs_fill ws_Arrs_fill ({ frames := 0, cells := 0, slots := 0, locals := 0 }) (va_Pc [.ref qa, .int x] (fun U => U.heap.size = sz ∧ va_P (dC, dI) classes [(qa, .inl (ca, n, .inl f))] U.heap ∧ va_K (dC, dI) classes [(ca, .int)] U ∧ va_D (fun _ => True) [(qa, .inl (ca, n, .inl f))])) (va_Qv (fun _ : Unit => True) (fun _ t => ∃ (g2 : Nat → Int32), (∀ j, j < n → g2 j = x) ∧ va_P (dC, dI) classes [(qa, .inl (ca, n, .inl g2))] t.heap ∧ va_K (dC, dI) classes [(ca, .int)] t ∧ va_D (va_A [(qa, .inl (ca, n, .inl f))] sz) [(qa, .inl (ca, n, .inl g2))]) (va_A [(qa, .inl (ca, n, .inl f))] sz)) 0 0 (va_A [(qa, .inl (ca, n, .inl f))] sz) := by
  refine Met.ofW (cc := b_Arrs_fill) (maxL := 4) (ret := none) (by decide) rfl ?_
  intro p e s m args below meth c s₁ B hml hv
  obtain ⟨rfl, hsz, hP, hK, hD0⟩ := hv
  have hx := B.exec
  have hb := B.bytes
  have hr := B.returns
  have hts := atoms_spec (ws := ws_Arrs_fill) B.pre
  have htw : ∀ w ∈ tw_tbl, w.before [.ref qa, .int x].toArray s = true := fun w h => hts w (List.mem_cons_of_mem _ h)
  have hown : s.vm.findClass R_Arrs = some m.cls := findClass_of_methodNamed B.named
  have hlocks := B.notSynchronized
  have hin : meth.name = "fill" := (name_of_methodNamed B.named B.method).1
  subst hsz
  have hD := hD0.self (sz := s.heap.size)
  generalize hAe : va_A [(qa, .inl (ca, n, .inl f))] s.heap.size = A at hD ⊢
  have hA : ∀ q : Nat, s.heap.size ≤ q → A q := fun q h => by rw [← hAe]; exact Or.inr h
  have hS : va_S A s.heap s.heap [] := va_S.rf
  have hP : va_P (dC, dI) classes [(qa, .inl (ca, n, .inl f))] s.heap := hP
  have hl := lv_entry ([.ref qa, .int x]) (n := 4) (Nat.le_of_ble_eq_true rfl)
  rw [lg_entry_eq]
  generalize (lg_sl ([.ref qa, .int x]) ++ List.replicate (4 - (lg_sl ([.ref qa, .int x])).length) Slot.unset).toArray = ls at hl ⊢
  have hl : lv_has ls 4 [(0, .ref qa), (1, .int x)] := hl
  refine lv_iconst (v := 0) hx hb d_Arrs_fill_0 (by decide) ?_
  refine lv_istore_n hx hb d_Arrs_fill_1 rfl hl (by decide) rfl (fun ls hl => ?_)
  have hl : lv_has ls 4 [(2, .int 0), (0, .ref qa), (1, .int x)] := hl
  refine lv_aload_n hx hb d_Arrs_fill_2 rfl (lv_at hl 1 rfl) ?_
  refine va_alen (v := nI n) hx hb hK hP 0 0 rfl rfl rfl d_Arrs_fill_3 ?_
  refine lv_istore_n hx hb d_Arrs_fill_4 rfl hl (by decide) rfl (fun ls hl => ?_)
  have hl : lv_has ls 4 [(3, .int (nI n)), (2, .int 0), (0, .ref qa), (1, .int x)] := hl
  have lp : ∀ (fuel : Nat) (i : Nat) (g : Nat → Int32) (H : Heap) (locs : List Loc) (ls : Array Slot), i ≤ n → (∀ j, j < i → g j = x) → n - i < fuel → lv_has ls 4 [(2, .int (nI i)), (3, .int (nI n)), (0, .ref qa), (1, .int x)] → va_P (dC, dI) classes [(qa, .inl (ca, n, .inl g))] H → va_D A [(qa, .inl (ca, n, .inl g))] → va_S A s.heap H locs → W p l e (headSpec ws_Arrs_fill ({ frames := 0, cells := 0, slots := 0, locals := 0 })).room s m [.ref qa, .int x].toArray below meth c H locs 0 0 (MQ below (va_Qv (fun _ : Unit => True) (fun _ t => ∃ (g2 : Nat → Int32), (∀ j, j < n → g2 j = x) ∧ va_P (dC, dI) classes [(qa, .inl (ca, n, .inl g2))] t.heap ∧ va_K (dC, dI) classes [(ca, .int)] t ∧ va_D A [(qa, .inl (ca, n, .inl g2))]) A) [.ref qa, .int x].toArray s 0 0 A) (F0 m 5 ls []) := by
    intro fuel
    induction fuel with
    | zero => intro i g H locs ls hi hg hm; omega
    | succ fuel ih =>
      intro i g H locs ls hi hg hm hl hP hD hS
      refine lv_iload_n hx hb d_Arrs_fill_5 rfl (lv_at hl 0 rfl) ?_
      refine lv_iload_n hx hb d_Arrs_fill_6 rfl (lv_at hl 1 rfl) ?_
      refine lv_icmp_ge (tgt := 20) hx hb d_Arrs_fill_7 rfl (fun h1 => ?_) (fun h1 => ?_)
      · have hP9 := hP.sub (ws' := [(qa, .inl (ca, n, .inl g))]) [0] rfl
        have hD9 := hD.sub (ws' := [(qa, .inl (ca, n, .inl g))]) [0] (by decide) rfl
        have hK9 := hK.sub (tys' := [(ca, .int)]) [0] rfl
        refine W.widen (k := 0) (n := 0) (by omega) (by omega) ?_
        exact W.vret hx hb hr (fun t ht hW => ⟨⟨(), rfl, trivial, g, (fun j hj => hg j (by have := (nI_leI (by omega) (by omega)).mp h1; omega)), by rw [ht]; exact hP9, va_K.moved hW.alike hK9, hD9⟩, hS.F ht⟩) hS.2.2 d_Arrs_fill_20
      · refine lv_aload_n hx hb d_Arrs_fill_10 rfl (lv_at hl 2 rfl) ?_
        refine lv_iload_n hx hb d_Arrs_fill_11 rfl (lv_at hl 0 rfl) ?_
        refine lv_iload_n hx hb d_Arrs_fill_12 rfl (lv_at hl 3 rfl) ?_
        refine va_iast hx hb hK hP hD hS 0 0 rfl rfl (tz_in (nI_pos (by omega)) h1 (by omega)) d_Arrs_fill_13 (fun H locs hP hD hS => ?_)
        have hP : va_P (dC, dI) classes [(qa, .inl (ca, n, .inl (upd g (nI i).toNatClampNeg x)))] H := hP
        have hD : va_D A [(qa, .inl (ca, n, .inl (upd g (nI i).toNatClampNeg x)))] := hD
        refine lv_iinc (k := 0) (v := nI (i + 1)) hx hb d_Arrs_fill_14 hl rfl (nI_1 i) (by decide) rfl (fun ls hl => ?_)
        have hl : lv_has ls 4 [(2, .int (nI (i + 1))), (3, .int (nI n)), (0, .ref qa), (1, .int x)] := hl
        refine lv_goto (tgt := 5) hx hb d_Arrs_fill_17 rfl ?_
        have h2 : i < n := by have := (not_congr (nI_leI (by omega) (by omega))).mp h1; omega
        exact ih ((i + 1)) ((upd g (nI i).toNatClampNeg x)) _ _ _ (by omega) (tz_fill (by omega) hg) (by omega) (lv_sub hl [0, 1, 2, 3] rfl) (hP.sub [0] rfl) (hD.sub [0] (by decide) rfl) hS
  exact lp ((n - 0) + 1) 0 f _ _ _ (by omega) (fun j hj => absurd hj (Nat.not_lt_zero j)) (Nat.lt_succ_self _) (lv_sub hl [1, 0, 2, 3] rfl) (hP.sub [0] rfl) (hD.sub [0] (by decide) rfl) hS
set_option maxHeartbeats 4000000 in
set_option maxRecDepth 100000 in
theorem c_Schema_isName (l : Launch) (dC : Nat → ClassId) (dI : Nat → Nat → Nat) (sz : Nat) (h0 : Nat) (a1 : Nat) (dv : Nat) (md : Int32) (bk : Int32) (a2 : Nat) (a3 : Nat) (a4 : Nat) (wd : Nat) (lt : Nat) (bu : Nat) (st : Nat) (le : Nat) (nx : Nat) (ow : Nat) (sy : Int32) (sp : Nat) (ky : Nat) (sm : Nat) (sk : Int32) (cle : ClassId) (lef : Nat → Int32) (cst : ClassId) (stf : Nat → Int32) (lta : Nat) (clt : ClassId) (ltf : Nat → Int32) (ltk : Int32) (tx : Nat) (txa : Nat) (ctx : ClassId) (txn : Nat) (txf : Nat → Int32) (txk : Int32) (j : Nat) (fr : Int32) (hj : j < 64) (hn : txn ≤ 65536) : Met l y_Schema_isName ws_Schema_isName ({ frames := 1, cells := 0, slots := 0, locals := 21 }) (va_Pc [.ref h0, .int (nI j), .ref tx, .int fr] (fun U => U.heap.size = sz ∧ va_P (dC, dI) classes [(h0, .inr (3, [.ref a1, .ref dv, .int md, .int bk, .ref a2, .ref a3, .ref a4, .ref wd, .ref lt, .ref bu, .ref st, .ref le, .ref nx, .ref ow, .int sy, .ref sp, .ref ky, .ref sm, .int sk])), (le, .inl (cle, 64, .inl lef)), (st, .inl (cst, 64, .inl stf)), (lt, .inr (0, [.ref lta, .int ltk])), (lta, .inl (clt, 512, .inl ltf)), (tx, .inr (0, [.ref txa, .int txk])), (txa, .inl (ctx, txn, .inl txf))] U.heap ∧ va_K (dC, dI) classes [(cle, .int), (cst, .int), (clt, .byte), (ctx, .byte)] U ∧ va_D (fun _ => True) [(h0, .inr (3, [.ref a1, .ref dv, .int md, .int bk, .ref a2, .ref a3, .ref a4, .ref wd, .ref lt, .ref bu, .ref st, .ref le, .ref nx, .ref ow, .int sy, .ref sp, .ref ky, .ref sm, .int sk])), (le, .inl (cle, 64, .inl lef)), (st, .inl (cst, 64, .inl stf)), (lt, .inr (0, [.ref lta, .int ltk])), (lta, .inl (clt, 512, .inl ltf)), (tx, .inr (0, [.ref txa, .int txk])), (txa, .inl (ctx, txn, .inl txf))])) (va_Qi (fun (r : Int32) (_ : Unit) => True) (fun _ t => va_P (dC, dI) classes [(h0, .inr (3, [.ref a1, .ref dv, .int md, .int bk, .ref a2, .ref a3, .ref a4, .ref wd, .ref lt, .ref bu, .ref st, .ref le, .ref nx, .ref ow, .int sy, .ref sp, .ref ky, .ref sm, .int sk])), (le, .inl (cle, 64, .inl lef)), (st, .inl (cst, 64, .inl stf)), (lt, .inr (0, [.ref lta, .int ltk])), (lta, .inl (clt, 512, .inl ltf)), (tx, .inr (0, [.ref txa, .int txk])), (txa, .inl (ctx, txn, .inl txf))] t.heap ∧ va_K (dC, dI) classes [(cle, .int), (cst, .int), (clt, .byte), (ctx, .byte)] t ∧ va_D (va_A [(h0, .inr (3, [.ref a1, .ref dv, .int md, .int bk, .ref a2, .ref a3, .ref a4, .ref wd, .ref lt, .ref bu, .ref st, .ref le, .ref nx, .ref ow, .int sy, .ref sp, .ref ky, .ref sm, .int sk])), (le, .inl (cle, 64, .inl lef)), (st, .inl (cst, 64, .inl stf)), (lt, .inr (0, [.ref lta, .int ltk])), (lta, .inl (clt, 512, .inl ltf)), (tx, .inr (0, [.ref txa, .int txk])), (txa, .inl (ctx, txn, .inl txf))] sz) [(h0, .inr (3, [.ref a1, .ref dv, .int md, .int bk, .ref a2, .ref a3, .ref a4, .ref wd, .ref lt, .ref bu, .ref st, .ref le, .ref nx, .ref ow, .int sy, .ref sp, .ref ky, .ref sm, .int sk])), (le, .inl (cle, 64, .inl lef)), (st, .inl (cst, 64, .inl stf)), (lt, .inr (0, [.ref lta, .int ltk])), (lta, .inl (clt, 512, .inl ltf)), (tx, .inr (0, [.ref txa, .int txk])), (txa, .inl (ctx, txn, .inl txf))]) (va_A [(h0, .inr (3, [.ref a1, .ref dv, .int md, .int bk, .ref a2, .ref a3, .ref a4, .ref wd, .ref lt, .ref bu, .ref st, .ref le, .ref nx, .ref ow, .int sy, .ref sp, .ref ky, .ref sm, .int sk])), (le, .inl (cle, 64, .inl lef)), (st, .inl (cst, 64, .inl stf)), (lt, .inr (0, [.ref lta, .int ltk])), (lta, .inl (clt, 512, .inl ltf)), (tx, .inr (0, [.ref txa, .int txk])), (txa, .inl (ctx, txn, .inl txf))] sz)) 0 0 (va_A [(h0, .inr (3, [.ref a1, .ref dv, .int md, .int bk, .ref a2, .ref a3, .ref a4, .ref wd, .ref lt, .ref bu, .ref st, .ref le, .ref nx, .ref ow, .int sy, .ref sp, .ref ky, .ref sm, .int sk])), (le, .inl (cle, 64, .inl lef)), (st, .inl (cst, 64, .inl stf)), (lt, .inr (0, [.ref lta, .int ltk])), (lta, .inl (clt, 512, .inl ltf)), (tx, .inr (0, [.ref txa, .int txk])), (txa, .inl (ctx, txn, .inl txf))] sz) := by
  refine Met.ofW (cc := b_Schema_isName) (maxL := 5) (ret := (some .boolean)) (by decide) rfl ?_
  intro p e s m args below meth c s₁ B hml hv
  obtain ⟨rfl, hsz, hP, hK, hD0⟩ := hv
  have hx := B.exec
  have hb := B.bytes
  have hr := B.returns
  have hts := atoms_spec (ws := ws_Schema_isName) B.pre
  have htw : ∀ w ∈ tw_tbl, w.before [.ref h0, .int (nI j), .ref tx, .int fr].toArray s = true := fun w h => hts w (List.mem_cons_of_mem _ h)
  have hown : s.vm.findClass R_Schema = some m.cls := findClass_of_methodNamed B.named
  have hlocks := B.notSynchronized
  have hin : meth.name = "isName" := (name_of_methodNamed B.named B.method).1
  subst hsz
  have hD := hD0.self (sz := s.heap.size)
  generalize hAe : va_A [(h0, .inr (3, [.ref a1, .ref dv, .int md, .int bk, .ref a2, .ref a3, .ref a4, .ref wd, .ref lt, .ref bu, .ref st, .ref le, .ref nx, .ref ow, .int sy, .ref sp, .ref ky, .ref sm, .int sk])), (le, .inl (cle, 64, .inl lef)), (st, .inl (cst, 64, .inl stf)), (lt, .inr (0, [.ref lta, .int ltk])), (lta, .inl (clt, 512, .inl ltf)), (tx, .inr (0, [.ref txa, .int txk])), (txa, .inl (ctx, txn, .inl txf))] s.heap.size = A at hD ⊢
  have hA : ∀ q : Nat, s.heap.size ≤ q → A q := fun q h => by rw [← hAe]; exact Or.inr h
  have hS : va_S A s.heap s.heap [] := va_S.rf
  have hP : va_P (dC, dI) classes [(h0, .inr (3, [.ref a1, .ref dv, .int md, .int bk, .ref a2, .ref a3, .ref a4, .ref wd, .ref lt, .ref bu, .ref st, .ref le, .ref nx, .ref ow, .int sy, .ref sp, .ref ky, .ref sm, .int sk])), (le, .inl (cle, 64, .inl lef)), (st, .inl (cst, 64, .inl stf)), (lt, .inr (0, [.ref lta, .int ltk])), (lta, .inl (clt, 512, .inl ltf)), (tx, .inr (0, [.ref txa, .int txk])), (txa, .inl (ctx, txn, .inl txf))] s.heap := hP
  have hl := lv_entry ([.ref h0, .int (nI j), .ref tx, .int fr]) (n := 5) (Nat.le_of_ble_eq_true rfl)
  rw [lg_entry_eq]
  generalize (lg_sl ([.ref h0, .int (nI j), .ref tx, .int fr]) ++ List.replicate (5 - (lg_sl ([.ref h0, .int (nI j), .ref tx, .int fr])).length) Slot.unset).toArray = ls at hl ⊢
  have hl : lv_has ls 5 [(0, .ref h0), (1, .int (nI j)), (2, .ref tx), (3, .int fr)] := hl
  refine lv_iconst (v := 0) hx hb d_Schema_isName_0 (by decide) ?_
  refine lv_istore hx hb d_Schema_isName_1 hl (by decide) rfl (fun ls hl => ?_)
  have hl : lv_has ls 5 [(4, .int 0), (0, .ref h0), (1, .int (nI j)), (2, .ref tx), (3, .int fr)] := hl
  have lp : ∀ (fuel : Nat) (i : Nat) (H : Heap) (locs : List Loc) (ls : Array Slot), i < 2 ^ 31 → 2 ^ 31 - i < fuel → lv_has ls 5 [(4, .int (nI i)), (0, .ref h0), (1, .int (nI j)), (2, .ref tx), (3, .int fr)] → va_P (dC, dI) classes [(h0, .inr (3, [.ref a1, .ref dv, .int md, .int bk, .ref a2, .ref a3, .ref a4, .ref wd, .ref lt, .ref bu, .ref st, .ref le, .ref nx, .ref ow, .int sy, .ref sp, .ref ky, .ref sm, .int sk])), (le, .inl (cle, 64, .inl lef)), (st, .inl (cst, 64, .inl stf)), (lt, .inr (0, [.ref lta, .int ltk])), (lta, .inl (clt, 512, .inl ltf)), (tx, .inr (0, [.ref txa, .int txk])), (txa, .inl (ctx, txn, .inl txf))] H → va_D A [(h0, .inr (3, [.ref a1, .ref dv, .int md, .int bk, .ref a2, .ref a3, .ref a4, .ref wd, .ref lt, .ref bu, .ref st, .ref le, .ref nx, .ref ow, .int sy, .ref sp, .ref ky, .ref sm, .int sk])), (le, .inl (cle, 64, .inl lef)), (st, .inl (cst, 64, .inl stf)), (lt, .inr (0, [.ref lta, .int ltk])), (lta, .inl (clt, 512, .inl ltf)), (tx, .inr (0, [.ref txa, .int txk])), (txa, .inl (ctx, txn, .inl txf))] → va_S A s.heap H locs → W p l e (headSpec ws_Schema_isName ({ frames := 1, cells := 0, slots := 0, locals := 21 })).room s m [.ref h0, .int (nI j), .ref tx, .int fr].toArray below meth c H locs 0 0 (MQ below (va_Qi (fun (r : Int32) (_ : Unit) => True) (fun _ t => va_P (dC, dI) classes [(h0, .inr (3, [.ref a1, .ref dv, .int md, .int bk, .ref a2, .ref a3, .ref a4, .ref wd, .ref lt, .ref bu, .ref st, .ref le, .ref nx, .ref ow, .int sy, .ref sp, .ref ky, .ref sm, .int sk])), (le, .inl (cle, 64, .inl lef)), (st, .inl (cst, 64, .inl stf)), (lt, .inr (0, [.ref lta, .int ltk])), (lta, .inl (clt, 512, .inl ltf)), (tx, .inr (0, [.ref txa, .int txk])), (txa, .inl (ctx, txn, .inl txf))] t.heap ∧ va_K (dC, dI) classes [(cle, .int), (cst, .int), (clt, .byte), (ctx, .byte)] t ∧ va_D A [(h0, .inr (3, [.ref a1, .ref dv, .int md, .int bk, .ref a2, .ref a3, .ref a4, .ref wd, .ref lt, .ref bu, .ref st, .ref le, .ref nx, .ref ow, .int sy, .ref sp, .ref ky, .ref sm, .int sk])), (le, .inl (cle, 64, .inl lef)), (st, .inl (cst, 64, .inl stf)), (lt, .inr (0, [.ref lta, .int ltk])), (lta, .inl (clt, 512, .inl ltf)), (tx, .inr (0, [.ref txa, .int txk])), (txa, .inl (ctx, txn, .inl txf))]) A) [.ref h0, .int (nI j), .ref tx, .int fr].toArray s 0 0 A) (F0 m 3 ls []) := by
    intro fuel
    induction fuel with
    | zero => intro i H locs ls hi hm; omega
    | succ fuel ih =>
      intro i H locs ls hi hm hl hP hD hS
      refine lv_iload hx hb d_Schema_isName_3 (lv_at hl 0 rfl) ?_
      refine lv_aload_n hx hb d_Schema_isName_5 rfl (lv_at hl 1 rfl) ?_
      refine va_get (D := (dC, dI)) (ci := 3) (v := .ref le) (C := R_Schema) (T := F_Schema) (N := 19) hx hb htw i_Schema hown hK hP 0 rfl rfl 11 (by decide) (htw _ wd_2_33) (fun _ h9 => h9) rfl d_Schema_isName_6 ?_
      refine lv_iload_n hx hb d_Schema_isName_9 rfl (lv_at hl 2 rfl) ?_
      refine va_iald hx hb hK hP 1 0 rfl rfl (vp_in_nI hj (by decide)) d_Schema_isName_10 ?_
      refine lv_icmp_ge (tgt := 49) hx hb d_Schema_isName_11 rfl (fun h1 => ?_) (fun h1 => ?_)
      · refine lv_iconst (v := 1) hx hb d_Schema_isName_49 (by decide) ?_
        have hP9 := hP.sub (ws' := [(h0, .inr (3, [.ref a1, .ref dv, .int md, .int bk, .ref a2, .ref a3, .ref a4, .ref wd, .ref lt, .ref bu, .ref st, .ref le, .ref nx, .ref ow, .int sy, .ref sp, .ref ky, .ref sm, .int sk])), (le, .inl (cle, 64, .inl lef)), (st, .inl (cst, 64, .inl stf)), (lt, .inr (0, [.ref lta, .int ltk])), (lta, .inl (clt, 512, .inl ltf)), (tx, .inr (0, [.ref txa, .int txk])), (txa, .inl (ctx, txn, .inl txf))]) [0, 1, 2, 3, 4, 5, 6] rfl
        have hD9 := hD.sub (ws' := [(h0, .inr (3, [.ref a1, .ref dv, .int md, .int bk, .ref a2, .ref a3, .ref a4, .ref wd, .ref lt, .ref bu, .ref st, .ref le, .ref nx, .ref ow, .int sy, .ref sp, .ref ky, .ref sm, .int sk])), (le, .inl (cle, 64, .inl lef)), (st, .inl (cst, 64, .inl stf)), (lt, .inr (0, [.ref lta, .int ltk])), (lta, .inl (clt, 512, .inl ltf)), (tx, .inr (0, [.ref txa, .int txk])), (txa, .inl (ctx, txn, .inl txf))]) [0, 1, 2, 3, 4, 5, 6] (by decide) rfl
        have hK9 := hK.sub (tys' := [(cle, .int), (cst, .int), (clt, .byte), (ctx, .byte)]) [0, 1, 2, 3] rfl
        refine W.widen (k := 0) (n := 0) (by omega) (by omega) ?_
        exact W.zret (v := 1) hx hb hr (rfl) (fun t ht hW => ⟨⟨1, (), rfl, trivial, by rw [ht]; exact hP9, va_K.moved hW.alike hK9, hD9⟩, hS.F ht⟩) hS.2.2 d_Schema_isName_50
      · refine lv_aload_n hx hb d_Schema_isName_14 rfl (lv_at hl 1 rfl) ?_
        refine va_get (D := (dC, dI)) (ci := 3) (v := .ref lt) (C := R_Schema) (T := F_Schema) (N := 19) hx hb htw i_Schema hown hK hP 0 rfl rfl 8 (by decide) (htw _ wd_2_30) (fun _ h9 => h9) rfl d_Schema_isName_15 ?_
        refine lv_aload_n hx hb d_Schema_isName_18 rfl (lv_at hl 1 rfl) ?_
        refine va_get (D := (dC, dI)) (ci := 3) (v := .ref st) (C := R_Schema) (T := F_Schema) (N := 19) hx hb htw i_Schema hown hK hP 0 rfl rfl 10 (by decide) (htw _ wd_2_32) (fun _ h9 => h9) rfl d_Schema_isName_19 ?_
        refine lv_iload_n hx hb d_Schema_isName_22 rfl (lv_at hl 2 rfl) ?_
        refine va_iald hx hb hK hP 2 1 rfl rfl (vp_in_nI hj (by decide)) d_Schema_isName_23 ?_
        refine lv_iload hx hb d_Schema_isName_24 (lv_at hl 0 rfl) ?_
        refine lv_iadd hx hb d_Schema_isName_26 ?_
        have hc0 : 0 + 0 ≤ 0 := by omega
        have hs0 : 0 + 0 ≤ 0 := by omega
        have hPc := hP.sub (ws' := [(lt, .inr (0, [.ref lta, .int ltk])), (lta, .inl (clt, 512, .inl ltf))]) [3, 4] rfl
        have hDc := hD.sub (ws' := [(lt, .inr (0, [.ref lta, .int ltk])), (lta, .inl (clt, 512, .inl ltf))]) [3, 4] (by decide) rfl
        have hKc := hK.sub (tys' := [(clt, .byte)]) [2] rfl
        have hFc := va_free (wc := [(lt, .inr (0, [.ref lta, .int ltk])), (lta, .inl (clt, 512, .inl ltf))]) hD hS hA [3, 4] rfl
        refine va_calli (va_runV (As := [.int ((stf (nI j).toNatClampNeg) + (nI i))]) (rest := []) ⟨hx, hb, hml, hown, htw⟩ (c_Bytes_get l dC dI H.size lt lta clt 512 ltf ltk ((stf (nI j).toNatClampNeg) + (nI i)) (by omega)) (cwV 1 htw (tw_V wd_1_235 wd_1_236 wd_1_237 wd_1_2 k_Bytes_get) rfl rfl rfl (by decide +kernel) ⟨Nat.le_of_ble_eq_true rfl, Nat.le_of_ble_eq_true rfl⟩) ⟨fun a U g mk q => by obtain ⟨q0, q1, qP, qK, qD⟩ := q; exact ⟨q0, q1, qP, va_K.moved (u := U) (U := U.calling g mk a) (Vm.Alike.refl U.vm) qK, qD⟩, va_recv hK hP (q := (R_Bytes, F_Bytes, 2)) (ci := 0) (q0 := 3) rfl rfl, fun U hU hW => ⟨rfl, by rw [hU], by rw [hU]; exact hPc, va_K.moved hW.alike hKc, hDc.weaken (fun _ _ _ _ => trivial)⟩⟩ rfl rfl hl.1 rfl (lv_room (Nat.le_of_ble_eq_true rfl)) d_Schema_isName_27 ⟨hc0, hs0⟩) hS (fun q _ h => hFc q h) hFc (fun r1 u t H1 locs ht hvm hw hB hz1 hk1 hS => ?_)
        obtain ⟨hP1, hK1, hD1⟩ := hB
        rw [ht] at hP1
        have hK1 := va_K.moved hvm.symm hK1
        obtain ⟨hP, hD⟩ := va_join (wr := [(h0, .inr (3, [.ref a1, .ref dv, .int md, .int bk, .ref a2, .ref a3, .ref a4, .ref wd, .ref lt, .ref bu, .ref st, .ref le, .ref nx, .ref ow, .int sy, .ref sp, .ref ky, .ref sm, .int sk])), (le, .inl (cle, 64, .inl lef)), (st, .inl (cst, 64, .inl stf)), (tx, .inr (0, [.ref txa, .int txk])), (txa, .inl (ctx, txn, .inl txf))]) (w1 := [(lt, .inr (0, [.ref lta, .int ltk])), (lta, .inl (clt, 512, .inl ltf))]) hP hD [3, 4] [0, 1, 2, 5, 6] rfl rfl (by decide) (by decide) hk1 hFc hP1 hD1
        have hK := (hK.sub (tys' := [(cle, .int), (cst, .int), (ctx, .byte)]) [0, 1, 3] rfl).app hK1
        generalize H1 = H at hP hS ⊢
        have hP : va_P (dC, dI) classes [(h0, .inr (3, [.ref a1, .ref dv, .int md, .int bk, .ref a2, .ref a3, .ref a4, .ref wd, .ref lt, .ref bu, .ref st, .ref le, .ref nx, .ref ow, .int sy, .ref sp, .ref ky, .ref sm, .int sk])), (le, .inl (cle, 64, .inl lef)), (st, .inl (cst, 64, .inl stf)), (tx, .inr (0, [.ref txa, .int txk])), (txa, .inl (ctx, txn, .inl txf)), (lt, .inr (0, [.ref lta, .int ltk])), (lta, .inl (clt, 512, .inl ltf))] H := hP
        have hD : va_D A [(h0, .inr (3, [.ref a1, .ref dv, .int md, .int bk, .ref a2, .ref a3, .ref a4, .ref wd, .ref lt, .ref bu, .ref st, .ref le, .ref nx, .ref ow, .int sy, .ref sp, .ref ky, .ref sm, .int sk])), (le, .inl (cle, 64, .inl lef)), (st, .inl (cst, 64, .inl stf)), (tx, .inr (0, [.ref txa, .int txk])), (txa, .inl (ctx, txn, .inl txf)), (lt, .inr (0, [.ref lta, .int ltk])), (lta, .inl (clt, 512, .inl ltf))] := hD
        have hK : va_K (dC, dI) classes [(cle, .int), (cst, .int), (ctx, .byte), (clt, .byte)] s := hK
        subst hw
        refine lv_aload_n hx hb d_Schema_isName_30 rfl (lv_at hl 3 rfl) ?_
        refine lv_iload_n hx hb d_Schema_isName_31 rfl (lv_at hl 4 rfl) ?_
        refine lv_iload hx hb d_Schema_isName_32 (lv_at hl 0 rfl) ?_
        refine lv_iadd hx hb d_Schema_isName_34 ?_
        have hc0 : 0 + 0 ≤ 0 := by omega
        have hs0 : 0 + 0 ≤ 0 := by omega
        have hPc := hP.sub (ws' := [(tx, .inr (0, [.ref txa, .int txk])), (txa, .inl (ctx, txn, .inl txf))]) [3, 4] rfl
        have hDc := hD.sub (ws' := [(tx, .inr (0, [.ref txa, .int txk])), (txa, .inl (ctx, txn, .inl txf))]) [3, 4] (by decide) rfl
        have hKc := hK.sub (tys' := [(ctx, .byte)]) [2] rfl
        have hFc := va_free (wc := [(tx, .inr (0, [.ref txa, .int txk])), (txa, .inl (ctx, txn, .inl txf))]) hD hS hA [3, 4] rfl
        refine va_calli (va_runV (As := [.int (fr + (nI i))]) (rest := [.int (tz_gb 512 ltf ltk ((stf (nI j).toNatClampNeg) + (nI i)))]) ⟨hx, hb, hml, hown, htw⟩ (c_Bytes_get l dC dI H.size tx txa ctx txn txf txk (fr + (nI i)) (by omega)) (cwV 1 htw (tw_V wd_1_235 wd_1_236 wd_1_237 wd_1_2 k_Bytes_get) rfl rfl rfl (by decide +kernel) ⟨Nat.le_of_ble_eq_true rfl, Nat.le_of_ble_eq_true rfl⟩) ⟨fun a U g mk q => by obtain ⟨q0, q1, qP, qK, qD⟩ := q; exact ⟨q0, q1, qP, va_K.moved (u := U) (U := U.calling g mk a) (Vm.Alike.refl U.vm) qK, qD⟩, va_recv hK hP (q := (R_Bytes, F_Bytes, 2)) (ci := 0) (q0 := 3) rfl rfl, fun U hU hW => ⟨rfl, by rw [hU], by rw [hU]; exact hPc, va_K.moved hW.alike hKc, hDc.weaken (fun _ _ _ _ => trivial)⟩⟩ rfl rfl hl.1 rfl (lv_room (Nat.le_of_ble_eq_true rfl)) d_Schema_isName_35 ⟨hc0, hs0⟩) hS (fun q _ h => hFc q h) hFc (fun r2 u t H1 locs ht hvm hw hB hz1 hk1 hS => ?_)
        obtain ⟨hP1, hK1, hD1⟩ := hB
        rw [ht] at hP1
        have hK1 := va_K.moved hvm.symm hK1
        obtain ⟨hP, hD⟩ := va_join (wr := [(h0, .inr (3, [.ref a1, .ref dv, .int md, .int bk, .ref a2, .ref a3, .ref a4, .ref wd, .ref lt, .ref bu, .ref st, .ref le, .ref nx, .ref ow, .int sy, .ref sp, .ref ky, .ref sm, .int sk])), (le, .inl (cle, 64, .inl lef)), (st, .inl (cst, 64, .inl stf)), (lt, .inr (0, [.ref lta, .int ltk])), (lta, .inl (clt, 512, .inl ltf))]) (w1 := [(tx, .inr (0, [.ref txa, .int txk])), (txa, .inl (ctx, txn, .inl txf))]) hP hD [3, 4] [0, 1, 2, 5, 6] rfl rfl (by decide) (by decide) hk1 hFc hP1 hD1
        have hK := (hK.sub (tys' := [(cle, .int), (cst, .int), (clt, .byte)]) [0, 1, 3] rfl).app hK1
        generalize H1 = H at hP hS ⊢
        have hP : va_P (dC, dI) classes [(h0, .inr (3, [.ref a1, .ref dv, .int md, .int bk, .ref a2, .ref a3, .ref a4, .ref wd, .ref lt, .ref bu, .ref st, .ref le, .ref nx, .ref ow, .int sy, .ref sp, .ref ky, .ref sm, .int sk])), (le, .inl (cle, 64, .inl lef)), (st, .inl (cst, 64, .inl stf)), (lt, .inr (0, [.ref lta, .int ltk])), (lta, .inl (clt, 512, .inl ltf)), (tx, .inr (0, [.ref txa, .int txk])), (txa, .inl (ctx, txn, .inl txf))] H := hP
        have hD : va_D A [(h0, .inr (3, [.ref a1, .ref dv, .int md, .int bk, .ref a2, .ref a3, .ref a4, .ref wd, .ref lt, .ref bu, .ref st, .ref le, .ref nx, .ref ow, .int sy, .ref sp, .ref ky, .ref sm, .int sk])), (le, .inl (cle, 64, .inl lef)), (st, .inl (cst, 64, .inl stf)), (lt, .inr (0, [.ref lta, .int ltk])), (lta, .inl (clt, 512, .inl ltf)), (tx, .inr (0, [.ref txa, .int txk])), (txa, .inl (ctx, txn, .inl txf))] := hD
        have hK : va_K (dC, dI) classes [(cle, .int), (cst, .int), (clt, .byte), (ctx, .byte)] s := hK
        subst hw
        refine lv_icmp_eq (tgt := 43) hx hb d_Schema_isName_38 rfl (fun h2 => ?_) (fun h2 => ?_)
        · refine lv_iinc (k := 0) (v := nI (i + 1)) hx hb d_Schema_isName_43 hl rfl (nI_1 i) (by decide) rfl (fun ls hl => ?_)
          have hl : lv_has ls 5 [(4, .int (nI (i + 1))), (0, .ref h0), (1, .int (nI j)), (2, .ref tx), (3, .int fr)] := hl
          refine lv_goto (tgt := 3) hx hb d_Schema_isName_46 rfl ?_
          exact ih ((i + 1)) _ _ _ (tz_inc hi h1) (by omega) (lv_sub hl [0, 1, 2, 3, 4] rfl) (hP.sub [0, 1, 2, 3, 4, 5, 6] rfl) (hD.sub [0, 1, 2, 3, 4, 5, 6] (by decide) rfl) hS
        · refine lv_iconst (v := 0) hx hb d_Schema_isName_41 (by decide) ?_
          have hP9 := hP.sub (ws' := [(h0, .inr (3, [.ref a1, .ref dv, .int md, .int bk, .ref a2, .ref a3, .ref a4, .ref wd, .ref lt, .ref bu, .ref st, .ref le, .ref nx, .ref ow, .int sy, .ref sp, .ref ky, .ref sm, .int sk])), (le, .inl (cle, 64, .inl lef)), (st, .inl (cst, 64, .inl stf)), (lt, .inr (0, [.ref lta, .int ltk])), (lta, .inl (clt, 512, .inl ltf)), (tx, .inr (0, [.ref txa, .int txk])), (txa, .inl (ctx, txn, .inl txf))]) [0, 1, 2, 3, 4, 5, 6] rfl
          have hD9 := hD.sub (ws' := [(h0, .inr (3, [.ref a1, .ref dv, .int md, .int bk, .ref a2, .ref a3, .ref a4, .ref wd, .ref lt, .ref bu, .ref st, .ref le, .ref nx, .ref ow, .int sy, .ref sp, .ref ky, .ref sm, .int sk])), (le, .inl (cle, 64, .inl lef)), (st, .inl (cst, 64, .inl stf)), (lt, .inr (0, [.ref lta, .int ltk])), (lta, .inl (clt, 512, .inl ltf)), (tx, .inr (0, [.ref txa, .int txk])), (txa, .inl (ctx, txn, .inl txf))]) [0, 1, 2, 3, 4, 5, 6] (by decide) rfl
          have hK9 := hK.sub (tys' := [(cle, .int), (cst, .int), (clt, .byte), (ctx, .byte)]) [0, 1, 2, 3] rfl
          refine W.widen (k := 0) (n := 0) (by omega) (by omega) ?_
          exact W.zret (v := 0) hx hb hr (rfl) (fun t ht hW => ⟨⟨0, (), rfl, trivial, by rw [ht]; exact hP9, va_K.moved hW.alike hK9, hD9⟩, hS.F ht⟩) hS.2.2 d_Schema_isName_42
  exact lp ((2 ^ 31 - 0) + 1) 0 _ _ _ (by decide) (Nat.lt_succ_self _) (lv_sub hl [0, 1, 2, 3, 4] rfl) (hP.sub [0, 1, 2, 3, 4, 5, 6] rfl) (hD.sub [0, 1, 2, 3, 4, 5, 6] (by decide) rfl) hS
set_option maxHeartbeats 4000000 in
set_option maxRecDepth 100000 in
theorem c_Schema_added (l : Launch) (dC : Nat → ClassId) (dI : Nat → Nat → Nat) (sz : Nat) (h0 : Nat) (a1 : Nat) (dv : Nat) (md : Int32) (bk : Int32) (a2 : Nat) (a3 : Nat) (a4 : Nat) (wd : Nat) (lt : Nat) (bu : Nat) (st : Nat) (le : Nat) (nx : Nat) (ow : Nat) (sp : Nat) (ky : Nat) (sm : Nat) (sk : Int32) (cst : ClassId) (stf : Nat → Int32) (cle : ClassId) (lef : Nat → Int32) (cnx : ClassId) (nxf : Nat → Int32) (cow : ClassId) (owf : Nat → Int32) (cbu : ClassId) (buf : Nat → Int32) (lta : Nat) (clt : ClassId) (ltf : Nat → Int32) (tx : Nat) (txa : Nat) (ctx : ClassId) (txn : Nat) (txf : Nat → Int32) (txk : Int32) (sn : Nat) (lk : Nat) (ln : Nat) (b : Nat) (fr : Int32) (hs : sn < 64) (hb8 : b < 256) (hlk : lk + ln ≤ 512) (hn : txn ≤ 65536) : Met l y_Schema_added ws_Schema_added ({ frames := 1, cells := 0, slots := 0, locals := 21 }) (va_Pc [.ref h0, .ref tx, .int fr, .int (nI ln), .int (nI b)] (fun U => U.heap.size = sz ∧ va_P (dC, dI) classes [(h0, .inr (3, [.ref a1, .ref dv, .int md, .int bk, .ref a2, .ref a3, .ref a4, .ref wd, .ref lt, .ref bu, .ref st, .ref le, .ref nx, .ref ow, .int (nI sn), .ref sp, .ref ky, .ref sm, .int sk])), (st, .inl (cst, 64, .inl stf)), (le, .inl (cle, 64, .inl lef)), (nx, .inl (cnx, 64, .inl nxf)), (ow, .inl (cow, 64, .inl owf)), (bu, .inl (cbu, 256, .inl buf)), (lt, .inr (0, [.ref lta, .int (nI lk)])), (lta, .inl (clt, 512, .inl ltf)), (tx, .inr (0, [.ref txa, .int txk])), (txa, .inl (ctx, txn, .inl txf))] U.heap ∧ va_K (dC, dI) classes [(cst, .int), (cle, .int), (cnx, .int), (cow, .int), (cbu, .int), (clt, .byte), (ctx, .byte)] U ∧ va_D (fun _ => True) [(h0, .inr (3, [.ref a1, .ref dv, .int md, .int bk, .ref a2, .ref a3, .ref a4, .ref wd, .ref lt, .ref bu, .ref st, .ref le, .ref nx, .ref ow, .int (nI sn), .ref sp, .ref ky, .ref sm, .int sk])), (st, .inl (cst, 64, .inl stf)), (le, .inl (cle, 64, .inl lef)), (nx, .inl (cnx, 64, .inl nxf)), (ow, .inl (cow, 64, .inl owf)), (bu, .inl (cbu, 256, .inl buf)), (lt, .inr (0, [.ref lta, .int (nI lk)])), (lta, .inl (clt, 512, .inl ltf)), (tx, .inr (0, [.ref txa, .int txk])), (txa, .inl (ctx, txn, .inl txf))])) (va_Qi (fun (r : Int32) (_ : Unit) => r = nI sn) (fun _ t => ∃ (g2 : Nat → Int32), va_P (dC, dI) classes [(h0, .inr (3, [.ref a1, .ref dv, .int md, .int bk, .ref a2, .ref a3, .ref a4, .ref wd, .ref lt, .ref bu, .ref st, .ref le, .ref nx, .ref ow, .int (nI (sn + 1)), .ref sp, .ref ky, .ref sm, .int sk])), (st, .inl (cst, 64, .inl (upd stf (nI sn).toNatClampNeg (nI lk)))), (le, .inl (cle, 64, .inl (upd lef (nI sn).toNatClampNeg (nI ln)))), (nx, .inl (cnx, 64, .inl (upd nxf (nI sn).toNatClampNeg (buf (nI b).toNatClampNeg)))), (ow, .inl (cow, 64, .inl (upd owf (nI sn).toNatClampNeg (-1)))), (bu, .inl (cbu, 256, .inl (upd buf (nI b).toNatClampNeg (nI sn)))), (lt, .inr (0, [.ref lta, .int (nI (lk + ln))])), (lta, .inl (clt, 512, .inl g2)), (tx, .inr (0, [.ref txa, .int txk])), (txa, .inl (ctx, txn, .inl txf))] t.heap ∧ va_K (dC, dI) classes [(cst, .int), (cle, .int), (cnx, .int), (cow, .int), (cbu, .int), (clt, .byte), (ctx, .byte)] t ∧ va_D (va_A [(h0, .inr (3, [.ref a1, .ref dv, .int md, .int bk, .ref a2, .ref a3, .ref a4, .ref wd, .ref lt, .ref bu, .ref st, .ref le, .ref nx, .ref ow, .int (nI sn), .ref sp, .ref ky, .ref sm, .int sk])), (st, .inl (cst, 64, .inl stf)), (le, .inl (cle, 64, .inl lef)), (nx, .inl (cnx, 64, .inl nxf)), (ow, .inl (cow, 64, .inl owf)), (bu, .inl (cbu, 256, .inl buf)), (lt, .inr (0, [.ref lta, .int (nI lk)])), (lta, .inl (clt, 512, .inl ltf)), (tx, .inr (0, [.ref txa, .int txk])), (txa, .inl (ctx, txn, .inl txf))] sz) [(h0, .inr (3, [.ref a1, .ref dv, .int md, .int bk, .ref a2, .ref a3, .ref a4, .ref wd, .ref lt, .ref bu, .ref st, .ref le, .ref nx, .ref ow, .int (nI (sn + 1)), .ref sp, .ref ky, .ref sm, .int sk])), (st, .inl (cst, 64, .inl (upd stf (nI sn).toNatClampNeg (nI lk)))), (le, .inl (cle, 64, .inl (upd lef (nI sn).toNatClampNeg (nI ln)))), (nx, .inl (cnx, 64, .inl (upd nxf (nI sn).toNatClampNeg (buf (nI b).toNatClampNeg)))), (ow, .inl (cow, 64, .inl (upd owf (nI sn).toNatClampNeg (-1)))), (bu, .inl (cbu, 256, .inl (upd buf (nI b).toNatClampNeg (nI sn)))), (lt, .inr (0, [.ref lta, .int (nI (lk + ln))])), (lta, .inl (clt, 512, .inl g2)), (tx, .inr (0, [.ref txa, .int txk])), (txa, .inl (ctx, txn, .inl txf))]) (va_A [(h0, .inr (3, [.ref a1, .ref dv, .int md, .int bk, .ref a2, .ref a3, .ref a4, .ref wd, .ref lt, .ref bu, .ref st, .ref le, .ref nx, .ref ow, .int (nI sn), .ref sp, .ref ky, .ref sm, .int sk])), (st, .inl (cst, 64, .inl stf)), (le, .inl (cle, 64, .inl lef)), (nx, .inl (cnx, 64, .inl nxf)), (ow, .inl (cow, 64, .inl owf)), (bu, .inl (cbu, 256, .inl buf)), (lt, .inr (0, [.ref lta, .int (nI lk)])), (lta, .inl (clt, 512, .inl ltf)), (tx, .inr (0, [.ref txa, .int txk])), (txa, .inl (ctx, txn, .inl txf))] sz)) 0 0 (va_A [(h0, .inr (3, [.ref a1, .ref dv, .int md, .int bk, .ref a2, .ref a3, .ref a4, .ref wd, .ref lt, .ref bu, .ref st, .ref le, .ref nx, .ref ow, .int (nI sn), .ref sp, .ref ky, .ref sm, .int sk])), (st, .inl (cst, 64, .inl stf)), (le, .inl (cle, 64, .inl lef)), (nx, .inl (cnx, 64, .inl nxf)), (ow, .inl (cow, 64, .inl owf)), (bu, .inl (cbu, 256, .inl buf)), (lt, .inr (0, [.ref lta, .int (nI lk)])), (lta, .inl (clt, 512, .inl ltf)), (tx, .inr (0, [.ref txa, .int txk])), (txa, .inl (ctx, txn, .inl txf))] sz) := by
  refine Met.ofW (cc := b_Schema_added) (maxL := 6) (ret := (some .int)) (by decide) rfl ?_
  intro p e s m args below meth c s₁ B hml hv
  obtain ⟨rfl, hsz, hP, hK, hD0⟩ := hv
  have hx := B.exec
  have hb := B.bytes
  have hr := B.returns
  have hts := atoms_spec (ws := ws_Schema_added) B.pre
  have htw : ∀ w ∈ tw_tbl, w.before [.ref h0, .ref tx, .int fr, .int (nI ln), .int (nI b)].toArray s = true := fun w h => hts w (List.mem_cons_of_mem _ h)
  have hown : s.vm.findClass R_Schema = some m.cls := findClass_of_methodNamed B.named
  have hlocks := B.notSynchronized
  have hin : meth.name = "added" := (name_of_methodNamed B.named B.method).1
  subst hsz
  have hD := hD0.self (sz := s.heap.size)
  generalize hAe : va_A [(h0, .inr (3, [.ref a1, .ref dv, .int md, .int bk, .ref a2, .ref a3, .ref a4, .ref wd, .ref lt, .ref bu, .ref st, .ref le, .ref nx, .ref ow, .int (nI sn), .ref sp, .ref ky, .ref sm, .int sk])), (st, .inl (cst, 64, .inl stf)), (le, .inl (cle, 64, .inl lef)), (nx, .inl (cnx, 64, .inl nxf)), (ow, .inl (cow, 64, .inl owf)), (bu, .inl (cbu, 256, .inl buf)), (lt, .inr (0, [.ref lta, .int (nI lk)])), (lta, .inl (clt, 512, .inl ltf)), (tx, .inr (0, [.ref txa, .int txk])), (txa, .inl (ctx, txn, .inl txf))] s.heap.size = A at hD ⊢
  have hA : ∀ q : Nat, s.heap.size ≤ q → A q := fun q h => by rw [← hAe]; exact Or.inr h
  have hS : va_S A s.heap s.heap [] := va_S.rf
  have hP : va_P (dC, dI) classes [(h0, .inr (3, [.ref a1, .ref dv, .int md, .int bk, .ref a2, .ref a3, .ref a4, .ref wd, .ref lt, .ref bu, .ref st, .ref le, .ref nx, .ref ow, .int (nI sn), .ref sp, .ref ky, .ref sm, .int sk])), (st, .inl (cst, 64, .inl stf)), (le, .inl (cle, 64, .inl lef)), (nx, .inl (cnx, 64, .inl nxf)), (ow, .inl (cow, 64, .inl owf)), (bu, .inl (cbu, 256, .inl buf)), (lt, .inr (0, [.ref lta, .int (nI lk)])), (lta, .inl (clt, 512, .inl ltf)), (tx, .inr (0, [.ref txa, .int txk])), (txa, .inl (ctx, txn, .inl txf))] s.heap := hP
  have hl := lv_entry ([.ref h0, .ref tx, .int fr, .int (nI ln), .int (nI b)]) (n := 6) (Nat.le_of_ble_eq_true rfl)
  rw [lg_entry_eq]
  generalize (lg_sl ([.ref h0, .ref tx, .int fr, .int (nI ln), .int (nI b)]) ++ List.replicate (6 - (lg_sl ([.ref h0, .ref tx, .int fr, .int (nI ln), .int (nI b)])).length) Slot.unset).toArray = ls at hl ⊢
  have hl : lv_has ls 6 [(0, .ref h0), (1, .ref tx), (2, .int fr), (3, .int (nI ln)), (4, .int (nI b))] := hl
  refine lv_aload_n hx hb d_Schema_added_0 rfl (lv_at hl 0 rfl) ?_
  refine va_get (D := (dC, dI)) (ci := 3) (v := .int (nI sn)) (C := R_Schema) (T := F_Schema) (N := 19) hx hb htw i_Schema hown hK hP 0 rfl rfl 14 (by decide) (htw _ wd_2_36) (fun _ h9 => h9) rfl d_Schema_added_1 ?_
  refine lv_aload_n hx hb d_Schema_added_4 rfl (lv_at hl 0 rfl) ?_
  refine va_get (D := (dC, dI)) (ci := 3) (v := .ref st) (C := R_Schema) (T := F_Schema) (N := 19) hx hb htw i_Schema hown hK hP 0 rfl rfl 10 (by decide) (htw _ wd_2_32) (fun _ h9 => h9) rfl d_Schema_added_5 ?_
  refine va_alen (v := 64) hx hb hK hP 1 0 rfl rfl rfl d_Schema_added_8 ?_
  refine lv_icmp_lt (tgt := 80) hx hb d_Schema_added_9 rfl (fun _ => ?_) (fun hn => absurd ((nI_ltI (a := sn) (b := 64) (by omega) (by omega)).mpr hs) hn)
  refine lv_aload_n hx hb d_Schema_added_80 rfl (lv_at hl 0 rfl) ?_
  refine va_get (D := (dC, dI)) (ci := 3) (v := .ref st) (C := R_Schema) (T := F_Schema) (N := 19) hx hb htw i_Schema hown hK hP 0 rfl rfl 10 (by decide) (htw _ wd_2_32) (fun _ h9 => h9) rfl d_Schema_added_81 ?_
  refine lv_aload_n hx hb d_Schema_added_84 rfl (lv_at hl 0 rfl) ?_
  refine va_get (D := (dC, dI)) (ci := 3) (v := .int (nI sn)) (C := R_Schema) (T := F_Schema) (N := 19) hx hb htw i_Schema hown hK hP 0 rfl rfl 14 (by decide) (htw _ wd_2_36) (fun _ h9 => h9) rfl d_Schema_added_85 ?_
  refine lv_aload_n hx hb d_Schema_added_88 rfl (lv_at hl 0 rfl) ?_
  refine va_get (D := (dC, dI)) (ci := 3) (v := .ref lt) (C := R_Schema) (T := F_Schema) (N := 19) hx hb htw i_Schema hown hK hP 0 rfl rfl 8 (by decide) (htw _ wd_2_30) (fun _ h9 => h9) rfl d_Schema_added_89 ?_
  refine va_get (D := (dC, dI)) (ci := 0) (v := .int (nI lk)) (C := R_Bytes) (T := F_Bytes) (N := 2) hx hb htw i_Bytes hown hK hP 6 rfl rfl 1 (by decide) (htw _ wd_1_70) (fun _ h9 => h9) rfl d_Schema_added_92 ?_
  refine va_iast hx hb hK hP hD hS 1 0 rfl rfl (vp_in_nI hs (by decide)) d_Schema_added_95 (fun H locs hP hD hS => ?_)
  have hP : va_P (dC, dI) classes [(h0, .inr (3, [.ref a1, .ref dv, .int md, .int bk, .ref a2, .ref a3, .ref a4, .ref wd, .ref lt, .ref bu, .ref st, .ref le, .ref nx, .ref ow, .int (nI sn), .ref sp, .ref ky, .ref sm, .int sk])), (st, .inl (cst, 64, .inl (upd stf (nI sn).toNatClampNeg (nI lk)))), (le, .inl (cle, 64, .inl lef)), (nx, .inl (cnx, 64, .inl nxf)), (ow, .inl (cow, 64, .inl owf)), (bu, .inl (cbu, 256, .inl buf)), (lt, .inr (0, [.ref lta, .int (nI lk)])), (lta, .inl (clt, 512, .inl ltf)), (tx, .inr (0, [.ref txa, .int txk])), (txa, .inl (ctx, txn, .inl txf))] H := hP
  have hD : va_D A [(h0, .inr (3, [.ref a1, .ref dv, .int md, .int bk, .ref a2, .ref a3, .ref a4, .ref wd, .ref lt, .ref bu, .ref st, .ref le, .ref nx, .ref ow, .int (nI sn), .ref sp, .ref ky, .ref sm, .int sk])), (st, .inl (cst, 64, .inl (upd stf (nI sn).toNatClampNeg (nI lk)))), (le, .inl (cle, 64, .inl lef)), (nx, .inl (cnx, 64, .inl nxf)), (ow, .inl (cow, 64, .inl owf)), (bu, .inl (cbu, 256, .inl buf)), (lt, .inr (0, [.ref lta, .int (nI lk)])), (lta, .inl (clt, 512, .inl ltf)), (tx, .inr (0, [.ref txa, .int txk])), (txa, .inl (ctx, txn, .inl txf))] := hD
  refine lv_aload_n hx hb d_Schema_added_96 rfl (lv_at hl 0 rfl) ?_
  refine va_get (D := (dC, dI)) (ci := 3) (v := .ref le) (C := R_Schema) (T := F_Schema) (N := 19) hx hb htw i_Schema hown hK hP 0 rfl rfl 11 (by decide) (htw _ wd_2_33) (fun _ h9 => h9) rfl d_Schema_added_97 ?_
  refine lv_aload_n hx hb d_Schema_added_100 rfl (lv_at hl 0 rfl) ?_
  refine va_get (D := (dC, dI)) (ci := 3) (v := .int (nI sn)) (C := R_Schema) (T := F_Schema) (N := 19) hx hb htw i_Schema hown hK hP 0 rfl rfl 14 (by decide) (htw _ wd_2_36) (fun _ h9 => h9) rfl d_Schema_added_101 ?_
  refine lv_iload_n hx hb d_Schema_added_104 rfl (lv_at hl 3 rfl) ?_
  refine va_iast hx hb hK hP hD hS 2 1 rfl rfl (vp_in_nI hs (by decide)) d_Schema_added_105 (fun H locs hP hD hS => ?_)
  have hP : va_P (dC, dI) classes [(h0, .inr (3, [.ref a1, .ref dv, .int md, .int bk, .ref a2, .ref a3, .ref a4, .ref wd, .ref lt, .ref bu, .ref st, .ref le, .ref nx, .ref ow, .int (nI sn), .ref sp, .ref ky, .ref sm, .int sk])), (st, .inl (cst, 64, .inl (upd stf (nI sn).toNatClampNeg (nI lk)))), (le, .inl (cle, 64, .inl (upd lef (nI sn).toNatClampNeg (nI ln)))), (nx, .inl (cnx, 64, .inl nxf)), (ow, .inl (cow, 64, .inl owf)), (bu, .inl (cbu, 256, .inl buf)), (lt, .inr (0, [.ref lta, .int (nI lk)])), (lta, .inl (clt, 512, .inl ltf)), (tx, .inr (0, [.ref txa, .int txk])), (txa, .inl (ctx, txn, .inl txf))] H := hP
  have hD : va_D A [(h0, .inr (3, [.ref a1, .ref dv, .int md, .int bk, .ref a2, .ref a3, .ref a4, .ref wd, .ref lt, .ref bu, .ref st, .ref le, .ref nx, .ref ow, .int (nI sn), .ref sp, .ref ky, .ref sm, .int sk])), (st, .inl (cst, 64, .inl (upd stf (nI sn).toNatClampNeg (nI lk)))), (le, .inl (cle, 64, .inl (upd lef (nI sn).toNatClampNeg (nI ln)))), (nx, .inl (cnx, 64, .inl nxf)), (ow, .inl (cow, 64, .inl owf)), (bu, .inl (cbu, 256, .inl buf)), (lt, .inr (0, [.ref lta, .int (nI lk)])), (lta, .inl (clt, 512, .inl ltf)), (tx, .inr (0, [.ref txa, .int txk])), (txa, .inl (ctx, txn, .inl txf))] := hD
  refine lv_aload_n hx hb d_Schema_added_106 rfl (lv_at hl 0 rfl) ?_
  refine va_get (D := (dC, dI)) (ci := 3) (v := .ref nx) (C := R_Schema) (T := F_Schema) (N := 19) hx hb htw i_Schema hown hK hP 0 rfl rfl 12 (by decide) (htw _ wd_2_34) (fun _ h9 => h9) rfl d_Schema_added_107 ?_
  refine lv_aload_n hx hb d_Schema_added_110 rfl (lv_at hl 0 rfl) ?_
  refine va_get (D := (dC, dI)) (ci := 3) (v := .int (nI sn)) (C := R_Schema) (T := F_Schema) (N := 19) hx hb htw i_Schema hown hK hP 0 rfl rfl 14 (by decide) (htw _ wd_2_36) (fun _ h9 => h9) rfl d_Schema_added_111 ?_
  refine lv_aload_n hx hb d_Schema_added_114 rfl (lv_at hl 0 rfl) ?_
  refine va_get (D := (dC, dI)) (ci := 3) (v := .ref bu) (C := R_Schema) (T := F_Schema) (N := 19) hx hb htw i_Schema hown hK hP 0 rfl rfl 9 (by decide) (htw _ wd_2_31) (fun _ h9 => h9) rfl d_Schema_added_115 ?_
  refine lv_iload hx hb d_Schema_added_118 (lv_at hl 4 rfl) ?_
  refine va_iald hx hb hK hP 5 4 rfl rfl (vp_in_nI hb8 (by decide)) d_Schema_added_120 ?_
  refine va_iast hx hb hK hP hD hS 3 2 rfl rfl (vp_in_nI hs (by decide)) d_Schema_added_121 (fun H locs hP hD hS => ?_)
  have hP : va_P (dC, dI) classes [(h0, .inr (3, [.ref a1, .ref dv, .int md, .int bk, .ref a2, .ref a3, .ref a4, .ref wd, .ref lt, .ref bu, .ref st, .ref le, .ref nx, .ref ow, .int (nI sn), .ref sp, .ref ky, .ref sm, .int sk])), (st, .inl (cst, 64, .inl (upd stf (nI sn).toNatClampNeg (nI lk)))), (le, .inl (cle, 64, .inl (upd lef (nI sn).toNatClampNeg (nI ln)))), (nx, .inl (cnx, 64, .inl (upd nxf (nI sn).toNatClampNeg (buf (nI b).toNatClampNeg)))), (ow, .inl (cow, 64, .inl owf)), (bu, .inl (cbu, 256, .inl buf)), (lt, .inr (0, [.ref lta, .int (nI lk)])), (lta, .inl (clt, 512, .inl ltf)), (tx, .inr (0, [.ref txa, .int txk])), (txa, .inl (ctx, txn, .inl txf))] H := hP
  have hD : va_D A [(h0, .inr (3, [.ref a1, .ref dv, .int md, .int bk, .ref a2, .ref a3, .ref a4, .ref wd, .ref lt, .ref bu, .ref st, .ref le, .ref nx, .ref ow, .int (nI sn), .ref sp, .ref ky, .ref sm, .int sk])), (st, .inl (cst, 64, .inl (upd stf (nI sn).toNatClampNeg (nI lk)))), (le, .inl (cle, 64, .inl (upd lef (nI sn).toNatClampNeg (nI ln)))), (nx, .inl (cnx, 64, .inl (upd nxf (nI sn).toNatClampNeg (buf (nI b).toNatClampNeg)))), (ow, .inl (cow, 64, .inl owf)), (bu, .inl (cbu, 256, .inl buf)), (lt, .inr (0, [.ref lta, .int (nI lk)])), (lta, .inl (clt, 512, .inl ltf)), (tx, .inr (0, [.ref txa, .int txk])), (txa, .inl (ctx, txn, .inl txf))] := hD
  refine lv_aload_n hx hb d_Schema_added_122 rfl (lv_at hl 0 rfl) ?_
  refine va_get (D := (dC, dI)) (ci := 3) (v := .ref ow) (C := R_Schema) (T := F_Schema) (N := 19) hx hb htw i_Schema hown hK hP 0 rfl rfl 13 (by decide) (htw _ wd_2_35) (fun _ h9 => h9) rfl d_Schema_added_123 ?_
  refine lv_aload_n hx hb d_Schema_added_126 rfl (lv_at hl 0 rfl) ?_
  refine va_get (D := (dC, dI)) (ci := 3) (v := .int (nI sn)) (C := R_Schema) (T := F_Schema) (N := 19) hx hb htw i_Schema hown hK hP 0 rfl rfl 14 (by decide) (htw _ wd_2_36) (fun _ h9 => h9) rfl d_Schema_added_127 ?_
  refine lv_iconst (v := (-1)) hx hb d_Schema_added_130 (by decide) ?_
  refine va_iast hx hb hK hP hD hS 4 3 rfl rfl (vp_in_nI hs (by decide)) d_Schema_added_131 (fun H locs hP hD hS => ?_)
  have hP : va_P (dC, dI) classes [(h0, .inr (3, [.ref a1, .ref dv, .int md, .int bk, .ref a2, .ref a3, .ref a4, .ref wd, .ref lt, .ref bu, .ref st, .ref le, .ref nx, .ref ow, .int (nI sn), .ref sp, .ref ky, .ref sm, .int sk])), (st, .inl (cst, 64, .inl (upd stf (nI sn).toNatClampNeg (nI lk)))), (le, .inl (cle, 64, .inl (upd lef (nI sn).toNatClampNeg (nI ln)))), (nx, .inl (cnx, 64, .inl (upd nxf (nI sn).toNatClampNeg (buf (nI b).toNatClampNeg)))), (ow, .inl (cow, 64, .inl (upd owf (nI sn).toNatClampNeg ((-1))))), (bu, .inl (cbu, 256, .inl buf)), (lt, .inr (0, [.ref lta, .int (nI lk)])), (lta, .inl (clt, 512, .inl ltf)), (tx, .inr (0, [.ref txa, .int txk])), (txa, .inl (ctx, txn, .inl txf))] H := hP
  have hD : va_D A [(h0, .inr (3, [.ref a1, .ref dv, .int md, .int bk, .ref a2, .ref a3, .ref a4, .ref wd, .ref lt, .ref bu, .ref st, .ref le, .ref nx, .ref ow, .int (nI sn), .ref sp, .ref ky, .ref sm, .int sk])), (st, .inl (cst, 64, .inl (upd stf (nI sn).toNatClampNeg (nI lk)))), (le, .inl (cle, 64, .inl (upd lef (nI sn).toNatClampNeg (nI ln)))), (nx, .inl (cnx, 64, .inl (upd nxf (nI sn).toNatClampNeg (buf (nI b).toNatClampNeg)))), (ow, .inl (cow, 64, .inl (upd owf (nI sn).toNatClampNeg ((-1))))), (bu, .inl (cbu, 256, .inl buf)), (lt, .inr (0, [.ref lta, .int (nI lk)])), (lta, .inl (clt, 512, .inl ltf)), (tx, .inr (0, [.ref txa, .int txk])), (txa, .inl (ctx, txn, .inl txf))] := hD
  refine lv_aload_n hx hb d_Schema_added_132 rfl (lv_at hl 0 rfl) ?_
  refine va_get (D := (dC, dI)) (ci := 3) (v := .ref bu) (C := R_Schema) (T := F_Schema) (N := 19) hx hb htw i_Schema hown hK hP 0 rfl rfl 9 (by decide) (htw _ wd_2_31) (fun _ h9 => h9) rfl d_Schema_added_133 ?_
  refine lv_iload hx hb d_Schema_added_136 (lv_at hl 4 rfl) ?_
  refine lv_aload_n hx hb d_Schema_added_138 rfl (lv_at hl 0 rfl) ?_
  refine va_get (D := (dC, dI)) (ci := 3) (v := .int (nI sn)) (C := R_Schema) (T := F_Schema) (N := 19) hx hb htw i_Schema hown hK hP 0 rfl rfl 14 (by decide) (htw _ wd_2_36) (fun _ h9 => h9) rfl d_Schema_added_139 ?_
  refine va_iast hx hb hK hP hD hS 5 4 rfl rfl (vp_in_nI hb8 (by decide)) d_Schema_added_142 (fun H locs hP hD hS => ?_)
  have hP : va_P (dC, dI) classes [(h0, .inr (3, [.ref a1, .ref dv, .int md, .int bk, .ref a2, .ref a3, .ref a4, .ref wd, .ref lt, .ref bu, .ref st, .ref le, .ref nx, .ref ow, .int (nI sn), .ref sp, .ref ky, .ref sm, .int sk])), (st, .inl (cst, 64, .inl (upd stf (nI sn).toNatClampNeg (nI lk)))), (le, .inl (cle, 64, .inl (upd lef (nI sn).toNatClampNeg (nI ln)))), (nx, .inl (cnx, 64, .inl (upd nxf (nI sn).toNatClampNeg (buf (nI b).toNatClampNeg)))), (ow, .inl (cow, 64, .inl (upd owf (nI sn).toNatClampNeg ((-1))))), (bu, .inl (cbu, 256, .inl (upd buf (nI b).toNatClampNeg (nI sn)))), (lt, .inr (0, [.ref lta, .int (nI lk)])), (lta, .inl (clt, 512, .inl ltf)), (tx, .inr (0, [.ref txa, .int txk])), (txa, .inl (ctx, txn, .inl txf))] H := hP
  have hD : va_D A [(h0, .inr (3, [.ref a1, .ref dv, .int md, .int bk, .ref a2, .ref a3, .ref a4, .ref wd, .ref lt, .ref bu, .ref st, .ref le, .ref nx, .ref ow, .int (nI sn), .ref sp, .ref ky, .ref sm, .int sk])), (st, .inl (cst, 64, .inl (upd stf (nI sn).toNatClampNeg (nI lk)))), (le, .inl (cle, 64, .inl (upd lef (nI sn).toNatClampNeg (nI ln)))), (nx, .inl (cnx, 64, .inl (upd nxf (nI sn).toNatClampNeg (buf (nI b).toNatClampNeg)))), (ow, .inl (cow, 64, .inl (upd owf (nI sn).toNatClampNeg ((-1))))), (bu, .inl (cbu, 256, .inl (upd buf (nI b).toNatClampNeg (nI sn)))), (lt, .inr (0, [.ref lta, .int (nI lk)])), (lta, .inl (clt, 512, .inl ltf)), (tx, .inr (0, [.ref txa, .int txk])), (txa, .inl (ctx, txn, .inl txf))] := hD
  refine lv_iconst (v := 0) hx hb d_Schema_added_143 (by decide) ?_
  refine lv_istore hx hb d_Schema_added_144 hl (by decide) rfl (fun ls hl => ?_)
  have hl : lv_has ls 6 [(5, .int 0), (0, .ref h0), (1, .ref tx), (2, .int fr), (3, .int (nI ln)), (4, .int (nI b))] := hl
  have lp : ∀ (fuel : Nat) (i : Nat) (g : Nat → Int32) (H : Heap) (locs : List Loc) (ls : Array Slot), i ≤ ln → ln - i < fuel → lv_has ls 6 [(5, .int (nI i)), (0, .ref h0), (1, .ref tx), (2, .int fr), (3, .int (nI ln)), (4, .int (nI b))] → va_P (dC, dI) classes [(h0, .inr (3, [.ref a1, .ref dv, .int md, .int bk, .ref a2, .ref a3, .ref a4, .ref wd, .ref lt, .ref bu, .ref st, .ref le, .ref nx, .ref ow, .int (nI sn), .ref sp, .ref ky, .ref sm, .int sk])), (st, .inl (cst, 64, .inl (upd stf (nI sn).toNatClampNeg (nI lk)))), (le, .inl (cle, 64, .inl (upd lef (nI sn).toNatClampNeg (nI ln)))), (nx, .inl (cnx, 64, .inl (upd nxf (nI sn).toNatClampNeg (buf (nI b).toNatClampNeg)))), (ow, .inl (cow, 64, .inl (upd owf (nI sn).toNatClampNeg ((-1))))), (bu, .inl (cbu, 256, .inl (upd buf (nI b).toNatClampNeg (nI sn)))), (lt, .inr (0, [.ref lta, .int (nI (lk + i))])), (lta, .inl (clt, 512, .inl g)), (tx, .inr (0, [.ref txa, .int txk])), (txa, .inl (ctx, txn, .inl txf))] H → va_D A [(h0, .inr (3, [.ref a1, .ref dv, .int md, .int bk, .ref a2, .ref a3, .ref a4, .ref wd, .ref lt, .ref bu, .ref st, .ref le, .ref nx, .ref ow, .int (nI sn), .ref sp, .ref ky, .ref sm, .int sk])), (st, .inl (cst, 64, .inl (upd stf (nI sn).toNatClampNeg (nI lk)))), (le, .inl (cle, 64, .inl (upd lef (nI sn).toNatClampNeg (nI ln)))), (nx, .inl (cnx, 64, .inl (upd nxf (nI sn).toNatClampNeg (buf (nI b).toNatClampNeg)))), (ow, .inl (cow, 64, .inl (upd owf (nI sn).toNatClampNeg ((-1))))), (bu, .inl (cbu, 256, .inl (upd buf (nI b).toNatClampNeg (nI sn)))), (lt, .inr (0, [.ref lta, .int (nI (lk + i))])), (lta, .inl (clt, 512, .inl g)), (tx, .inr (0, [.ref txa, .int txk])), (txa, .inl (ctx, txn, .inl txf))] → va_S A s.heap H locs → W p l e (headSpec ws_Schema_added ({ frames := 1, cells := 0, slots := 0, locals := 21 })).room s m [.ref h0, .ref tx, .int fr, .int (nI ln), .int (nI b)].toArray below meth c H locs 0 0 (MQ below (va_Qi (fun (r : Int32) (_ : Unit) => r = nI sn) (fun _ t => ∃ (g2 : Nat → Int32), va_P (dC, dI) classes [(h0, .inr (3, [.ref a1, .ref dv, .int md, .int bk, .ref a2, .ref a3, .ref a4, .ref wd, .ref lt, .ref bu, .ref st, .ref le, .ref nx, .ref ow, .int (nI (sn + 1)), .ref sp, .ref ky, .ref sm, .int sk])), (st, .inl (cst, 64, .inl (upd stf (nI sn).toNatClampNeg (nI lk)))), (le, .inl (cle, 64, .inl (upd lef (nI sn).toNatClampNeg (nI ln)))), (nx, .inl (cnx, 64, .inl (upd nxf (nI sn).toNatClampNeg (buf (nI b).toNatClampNeg)))), (ow, .inl (cow, 64, .inl (upd owf (nI sn).toNatClampNeg (-1)))), (bu, .inl (cbu, 256, .inl (upd buf (nI b).toNatClampNeg (nI sn)))), (lt, .inr (0, [.ref lta, .int (nI (lk + ln))])), (lta, .inl (clt, 512, .inl g2)), (tx, .inr (0, [.ref txa, .int txk])), (txa, .inl (ctx, txn, .inl txf))] t.heap ∧ va_K (dC, dI) classes [(cst, .int), (cle, .int), (cnx, .int), (cow, .int), (cbu, .int), (clt, .byte), (ctx, .byte)] t ∧ va_D A [(h0, .inr (3, [.ref a1, .ref dv, .int md, .int bk, .ref a2, .ref a3, .ref a4, .ref wd, .ref lt, .ref bu, .ref st, .ref le, .ref nx, .ref ow, .int (nI (sn + 1)), .ref sp, .ref ky, .ref sm, .int sk])), (st, .inl (cst, 64, .inl (upd stf (nI sn).toNatClampNeg (nI lk)))), (le, .inl (cle, 64, .inl (upd lef (nI sn).toNatClampNeg (nI ln)))), (nx, .inl (cnx, 64, .inl (upd nxf (nI sn).toNatClampNeg (buf (nI b).toNatClampNeg)))), (ow, .inl (cow, 64, .inl (upd owf (nI sn).toNatClampNeg (-1)))), (bu, .inl (cbu, 256, .inl (upd buf (nI b).toNatClampNeg (nI sn)))), (lt, .inr (0, [.ref lta, .int (nI (lk + ln))])), (lta, .inl (clt, 512, .inl g2)), (tx, .inr (0, [.ref txa, .int txk])), (txa, .inl (ctx, txn, .inl txf))]) A) [.ref h0, .ref tx, .int fr, .int (nI ln), .int (nI b)].toArray s 0 0 A) (F0 m 146 ls []) := by
    intro fuel
    induction fuel with
    | zero => intro i g H locs ls hi hm; omega
    | succ fuel ih =>
      intro i g H locs ls hi hm hl hP hD hS
      refine lv_iload hx hb d_Schema_added_146 (lv_at hl 0 rfl) ?_
      refine lv_iload_n hx hb d_Schema_added_148 rfl (lv_at hl 4 rfl) ?_
      refine lv_icmp_ge (tgt := 173) hx hb d_Schema_added_149 rfl (fun h1 => ?_) (fun h1 => ?_)
      · have h2 : ln = i := by have := (nI_leI (by omega) (by omega)).mp h1; omega
        subst h2
        refine lv_aload_n hx hb d_Schema_added_173 rfl (lv_at hl 1 rfl) ?_
        refine lv_dup hx hb d_Schema_added_174 rfl ?_
        refine va_get (D := (dC, dI)) (ci := 3) (v := .int (nI sn)) (C := R_Schema) (T := F_Schema) (N := 19) hx hb htw i_Schema hown hK hP 0 rfl rfl 14 (by decide) (htw _ wd_2_36) (fun _ h9 => h9) rfl d_Schema_added_175 ?_
        refine lv_iconst (v := 1) hx hb d_Schema_added_178 (by decide) ?_
        refine lv_iadd hx hb d_Schema_added_179 ?_
        refine lv_topi (fun z9 e9 => ?_)
        have e9 : z9 = nI (sn + 1) := e9.trans (nI_1 sn)
        subst e9
        refine va_put (D := (dC, dI)) (ci := 3) (v := .int (nI (sn + 1))) (ty := .int) (C := R_Schema) (T := F_Schema) (N := 19) hx hb htw i_Schema t_Schema t_Schema_ok n_Schema hown hK hP hD hS 0 rfl rfl 14 (by decide) (htw _ wd_2_36) (fun _ h9 => h9) rfl (by decide +kernel) rfl rfl (Nat.le_of_ble_eq_true rfl) d_Schema_added_180 (fun H locs hP hD hS => ?_)
        have hP : va_P (dC, dI) classes [(h0, .inr (3, [.ref a1, .ref dv, .int md, .int bk, .ref a2, .ref a3, .ref a4, .ref wd, .ref lt, .ref bu, .ref st, .ref le, .ref nx, .ref ow, .int (nI (sn + 1)), .ref sp, .ref ky, .ref sm, .int sk])), (st, .inl (cst, 64, .inl (upd stf (nI sn).toNatClampNeg (nI lk)))), (le, .inl (cle, 64, .inl (upd lef (nI sn).toNatClampNeg (nI ln)))), (nx, .inl (cnx, 64, .inl (upd nxf (nI sn).toNatClampNeg (buf (nI b).toNatClampNeg)))), (ow, .inl (cow, 64, .inl (upd owf (nI sn).toNatClampNeg ((-1))))), (bu, .inl (cbu, 256, .inl (upd buf (nI b).toNatClampNeg (nI sn)))), (lt, .inr (0, [.ref lta, .int (nI (lk + ln))])), (lta, .inl (clt, 512, .inl g)), (tx, .inr (0, [.ref txa, .int txk])), (txa, .inl (ctx, txn, .inl txf))] H := hP
        have hD : va_D A [(h0, .inr (3, [.ref a1, .ref dv, .int md, .int bk, .ref a2, .ref a3, .ref a4, .ref wd, .ref lt, .ref bu, .ref st, .ref le, .ref nx, .ref ow, .int (nI (sn + 1)), .ref sp, .ref ky, .ref sm, .int sk])), (st, .inl (cst, 64, .inl (upd stf (nI sn).toNatClampNeg (nI lk)))), (le, .inl (cle, 64, .inl (upd lef (nI sn).toNatClampNeg (nI ln)))), (nx, .inl (cnx, 64, .inl (upd nxf (nI sn).toNatClampNeg (buf (nI b).toNatClampNeg)))), (ow, .inl (cow, 64, .inl (upd owf (nI sn).toNatClampNeg ((-1))))), (bu, .inl (cbu, 256, .inl (upd buf (nI b).toNatClampNeg (nI sn)))), (lt, .inr (0, [.ref lta, .int (nI (lk + ln))])), (lta, .inl (clt, 512, .inl g)), (tx, .inr (0, [.ref txa, .int txk])), (txa, .inl (ctx, txn, .inl txf))] := hD
        refine lv_aload_n hx hb d_Schema_added_183 rfl (lv_at hl 1 rfl) ?_
        refine va_get (D := (dC, dI)) (ci := 3) (v := .int (nI (sn + 1))) (C := R_Schema) (T := F_Schema) (N := 19) hx hb htw i_Schema hown hK hP 0 rfl rfl 14 (by decide) (htw _ wd_2_36) (fun _ h9 => h9) rfl d_Schema_added_184 ?_
        refine lv_iconst (v := 1) hx hb d_Schema_added_187 (by decide) ?_
        refine lv_isub hx hb d_Schema_added_188 ?_
        refine lv_topi (fun z9 e9 => ?_)
        have e9 : z9 = nI sn := e9.trans (nI_pred sn)
        subst e9
        have hP9 := hP.sub (ws' := [(h0, .inr (3, [.ref a1, .ref dv, .int md, .int bk, .ref a2, .ref a3, .ref a4, .ref wd, .ref lt, .ref bu, .ref st, .ref le, .ref nx, .ref ow, .int (nI (sn + 1)), .ref sp, .ref ky, .ref sm, .int sk])), (st, .inl (cst, 64, .inl (upd stf (nI sn).toNatClampNeg (nI lk)))), (le, .inl (cle, 64, .inl (upd lef (nI sn).toNatClampNeg (nI ln)))), (nx, .inl (cnx, 64, .inl (upd nxf (nI sn).toNatClampNeg (buf (nI b).toNatClampNeg)))), (ow, .inl (cow, 64, .inl (upd owf (nI sn).toNatClampNeg ((-1))))), (bu, .inl (cbu, 256, .inl (upd buf (nI b).toNatClampNeg (nI sn)))), (lt, .inr (0, [.ref lta, .int (nI (lk + ln))])), (lta, .inl (clt, 512, .inl g)), (tx, .inr (0, [.ref txa, .int txk])), (txa, .inl (ctx, txn, .inl txf))]) [0, 1, 2, 3, 4, 5, 6, 7, 8, 9] rfl
        have hD9 := hD.sub (ws' := [(h0, .inr (3, [.ref a1, .ref dv, .int md, .int bk, .ref a2, .ref a3, .ref a4, .ref wd, .ref lt, .ref bu, .ref st, .ref le, .ref nx, .ref ow, .int (nI (sn + 1)), .ref sp, .ref ky, .ref sm, .int sk])), (st, .inl (cst, 64, .inl (upd stf (nI sn).toNatClampNeg (nI lk)))), (le, .inl (cle, 64, .inl (upd lef (nI sn).toNatClampNeg (nI ln)))), (nx, .inl (cnx, 64, .inl (upd nxf (nI sn).toNatClampNeg (buf (nI b).toNatClampNeg)))), (ow, .inl (cow, 64, .inl (upd owf (nI sn).toNatClampNeg ((-1))))), (bu, .inl (cbu, 256, .inl (upd buf (nI b).toNatClampNeg (nI sn)))), (lt, .inr (0, [.ref lta, .int (nI (lk + ln))])), (lta, .inl (clt, 512, .inl g)), (tx, .inr (0, [.ref txa, .int txk])), (txa, .inl (ctx, txn, .inl txf))]) [0, 1, 2, 3, 4, 5, 6, 7, 8, 9] (by decide) rfl
        have hK9 := hK.sub (tys' := [(cst, .int), (cle, .int), (cnx, .int), (cow, .int), (cbu, .int), (clt, .byte), (ctx, .byte)]) [0, 1, 2, 3, 4, 5, 6] rfl
        refine W.widen (k := 0) (n := 0) (by omega) (by omega) ?_
        exact W.iret (v := nI sn) hx hb hr (fun t ht hW => ⟨⟨nI sn, (), rfl, rfl, g, by rw [ht]; exact hP9, va_K.moved hW.alike hK9, hD9⟩, hS.F ht⟩) hS.2.2 d_Schema_added_189
      · have h2 : i < ln := by have := (not_congr (nI_leI (by omega) (by omega))).mp h1; omega
        refine lv_aload_n hx hb d_Schema_added_152 rfl (lv_at hl 1 rfl) ?_
        refine va_get (D := (dC, dI)) (ci := 3) (v := .ref lt) (C := R_Schema) (T := F_Schema) (N := 19) hx hb htw i_Schema hown hK hP 0 rfl rfl 8 (by decide) (htw _ wd_2_30) (fun _ h9 => h9) rfl d_Schema_added_153 ?_
        refine lv_aload_n hx hb d_Schema_added_156 rfl (lv_at hl 2 rfl) ?_
        refine lv_iload_n hx hb d_Schema_added_157 rfl (lv_at hl 3 rfl) ?_
        refine lv_iload hx hb d_Schema_added_158 (lv_at hl 0 rfl) ?_
        refine lv_iadd hx hb d_Schema_added_160 ?_
        have hc0 : 0 + 0 ≤ 0 := by omega
        have hs0 : 0 + 0 ≤ 0 := by omega
        have hPc := hP.sub (ws' := [(tx, .inr (0, [.ref txa, .int txk])), (txa, .inl (ctx, txn, .inl txf))]) [8, 9] rfl
        have hDc := hD.sub (ws' := [(tx, .inr (0, [.ref txa, .int txk])), (txa, .inl (ctx, txn, .inl txf))]) [8, 9] (by decide) rfl
        have hKc := hK.sub (tys' := [(ctx, .byte)]) [6] rfl
        have hFc := va_free (wc := [(tx, .inr (0, [.ref txa, .int txk])), (txa, .inl (ctx, txn, .inl txf))]) hD hS hA [8, 9] rfl
        refine va_calli (va_runV (As := [.int (fr + (nI i))]) (rest := [.ref lt]) ⟨hx, hb, hml, hown, htw⟩ (c_Bytes_get l dC dI H.size tx txa ctx txn txf txk (fr + (nI i)) (by omega)) (cwV 1 htw (tw_V wd_1_235 wd_1_236 wd_1_237 wd_1_2 k_Bytes_get) rfl rfl rfl (by decide +kernel) ⟨Nat.le_of_ble_eq_true rfl, Nat.le_of_ble_eq_true rfl⟩) ⟨fun a U g mk q => by obtain ⟨q0, q1, qP, qK, qD⟩ := q; exact ⟨q0, q1, qP, va_K.moved (u := U) (U := U.calling g mk a) (Vm.Alike.refl U.vm) qK, qD⟩, va_recv hK hP (q := (R_Bytes, F_Bytes, 2)) (ci := 0) (q0 := 8) rfl rfl, fun U hU hW => ⟨rfl, by rw [hU], by rw [hU]; exact hPc, va_K.moved hW.alike hKc, hDc.weaken (fun _ _ _ _ => trivial)⟩⟩ rfl rfl hl.1 rfl (lv_room (Nat.le_of_ble_eq_true rfl)) d_Schema_added_161 ⟨hc0, hs0⟩) hS (fun q _ h => hFc q h) hFc (fun r1 u t H1 locs ht hvm hw hB hz1 hk1 hS => ?_)
        obtain ⟨hP1, hK1, hD1⟩ := hB
        rw [ht] at hP1
        have hK1 := va_K.moved hvm.symm hK1
        obtain ⟨hP, hD⟩ := va_join (wr := [(h0, .inr (3, [.ref a1, .ref dv, .int md, .int bk, .ref a2, .ref a3, .ref a4, .ref wd, .ref lt, .ref bu, .ref st, .ref le, .ref nx, .ref ow, .int (nI sn), .ref sp, .ref ky, .ref sm, .int sk])), (st, .inl (cst, 64, .inl (upd stf (nI sn).toNatClampNeg (nI lk)))), (le, .inl (cle, 64, .inl (upd lef (nI sn).toNatClampNeg (nI ln)))), (nx, .inl (cnx, 64, .inl (upd nxf (nI sn).toNatClampNeg (buf (nI b).toNatClampNeg)))), (ow, .inl (cow, 64, .inl (upd owf (nI sn).toNatClampNeg ((-1))))), (bu, .inl (cbu, 256, .inl (upd buf (nI b).toNatClampNeg (nI sn)))), (lt, .inr (0, [.ref lta, .int (nI (lk + i))])), (lta, .inl (clt, 512, .inl g))]) (w1 := [(tx, .inr (0, [.ref txa, .int txk])), (txa, .inl (ctx, txn, .inl txf))]) hP hD [8, 9] [0, 1, 2, 3, 4, 5, 6, 7] rfl rfl (by decide) (by decide) hk1 hFc hP1 hD1
        have hK := (hK.sub (tys' := [(cst, .int), (cle, .int), (cnx, .int), (cow, .int), (cbu, .int), (clt, .byte)]) [0, 1, 2, 3, 4, 5] rfl).app hK1
        generalize H1 = H at hP hS ⊢
        have hP : va_P (dC, dI) classes [(h0, .inr (3, [.ref a1, .ref dv, .int md, .int bk, .ref a2, .ref a3, .ref a4, .ref wd, .ref lt, .ref bu, .ref st, .ref le, .ref nx, .ref ow, .int (nI sn), .ref sp, .ref ky, .ref sm, .int sk])), (st, .inl (cst, 64, .inl (upd stf (nI sn).toNatClampNeg (nI lk)))), (le, .inl (cle, 64, .inl (upd lef (nI sn).toNatClampNeg (nI ln)))), (nx, .inl (cnx, 64, .inl (upd nxf (nI sn).toNatClampNeg (buf (nI b).toNatClampNeg)))), (ow, .inl (cow, 64, .inl (upd owf (nI sn).toNatClampNeg ((-1))))), (bu, .inl (cbu, 256, .inl (upd buf (nI b).toNatClampNeg (nI sn)))), (lt, .inr (0, [.ref lta, .int (nI (lk + i))])), (lta, .inl (clt, 512, .inl g)), (tx, .inr (0, [.ref txa, .int txk])), (txa, .inl (ctx, txn, .inl txf))] H := hP
        have hD : va_D A [(h0, .inr (3, [.ref a1, .ref dv, .int md, .int bk, .ref a2, .ref a3, .ref a4, .ref wd, .ref lt, .ref bu, .ref st, .ref le, .ref nx, .ref ow, .int (nI sn), .ref sp, .ref ky, .ref sm, .int sk])), (st, .inl (cst, 64, .inl (upd stf (nI sn).toNatClampNeg (nI lk)))), (le, .inl (cle, 64, .inl (upd lef (nI sn).toNatClampNeg (nI ln)))), (nx, .inl (cnx, 64, .inl (upd nxf (nI sn).toNatClampNeg (buf (nI b).toNatClampNeg)))), (ow, .inl (cow, 64, .inl (upd owf (nI sn).toNatClampNeg ((-1))))), (bu, .inl (cbu, 256, .inl (upd buf (nI b).toNatClampNeg (nI sn)))), (lt, .inr (0, [.ref lta, .int (nI (lk + i))])), (lta, .inl (clt, 512, .inl g)), (tx, .inr (0, [.ref txa, .int txk])), (txa, .inl (ctx, txn, .inl txf))] := hD
        have hK : va_K (dC, dI) classes [(cst, .int), (cle, .int), (cnx, .int), (cow, .int), (cbu, .int), (clt, .byte), (ctx, .byte)] s := hK
        subst hw
        have hc0 : 0 + 0 ≤ 0 := by omega
        have hs0 : 0 + 0 ≤ 0 := by omega
        have hPc := hP.sub (ws' := [(lt, .inr (0, [.ref lta, .int (nI (lk + i))])), (lta, .inl (clt, 512, .inl g))]) [6, 7] rfl
        have hDc := hD.sub (ws' := [(lt, .inr (0, [.ref lta, .int (nI (lk + i))])), (lta, .inl (clt, 512, .inl g))]) [6, 7] (by decide) rfl
        have hKc := hK.sub (tys' := [(clt, .byte)]) [5] rfl
        have hFc := va_free (wc := [(lt, .inr (0, [.ref lta, .int (nI (lk + i))])), (lta, .inl (clt, 512, .inl g))]) hD hS hA [6, 7] rfl
        refine va_callv (va_runV (As := [.int (tz_gb txn txf txk (fr + (nI i)))]) (rest := []) ⟨hx, hb, hml, hown, htw⟩ (c_Bytes_put l dC dI H.size lt lta clt 512 g ((lk + i)) (tz_gb txn txf txk (fr + (nI i))) (by omega) (by omega)) (cwV 1 htw (tw_V wd_1_196 wd_1_197 wd_1_198 wd_1_2 k_Bytes_put) rfl rfl rfl (by decide +kernel) ⟨Nat.le_of_ble_eq_true rfl, Nat.le_of_ble_eq_true rfl⟩) ⟨fun a U g mk q => by obtain ⟨q0, q1, qP, qK, qD⟩ := q; exact ⟨q0, q1, qP, va_K.moved (u := U) (U := U.calling g mk a) (Vm.Alike.refl U.vm) qK, qD⟩, va_recv hK hP (q := (R_Bytes, F_Bytes, 2)) (ci := 0) (q0 := 6) rfl rfl, fun U hU hW => ⟨rfl, by rw [hU], by rw [hU]; exact hPc, va_K.moved hW.alike hKc, hDc.weaken (fun _ _ _ _ => trivial)⟩⟩ rfl rfl hl.1 rfl (lv_room (Nat.le_of_ble_eq_true rfl)) d_Schema_added_164 ⟨hc0, hs0⟩) hS (fun q _ h => hFc q h) hFc (fun u t H1 locs ht hvm hw hB hz1 hk1 hS => ?_)
        obtain ⟨hP1, hK1, hD1⟩ := hB
        rw [ht] at hP1
        have hK1 := va_K.moved hvm.symm hK1
        obtain ⟨hP, hD⟩ := va_join (wr := [(h0, .inr (3, [.ref a1, .ref dv, .int md, .int bk, .ref a2, .ref a3, .ref a4, .ref wd, .ref lt, .ref bu, .ref st, .ref le, .ref nx, .ref ow, .int (nI sn), .ref sp, .ref ky, .ref sm, .int sk])), (st, .inl (cst, 64, .inl (upd stf (nI sn).toNatClampNeg (nI lk)))), (le, .inl (cle, 64, .inl (upd lef (nI sn).toNatClampNeg (nI ln)))), (nx, .inl (cnx, 64, .inl (upd nxf (nI sn).toNatClampNeg (buf (nI b).toNatClampNeg)))), (ow, .inl (cow, 64, .inl (upd owf (nI sn).toNatClampNeg ((-1))))), (bu, .inl (cbu, 256, .inl (upd buf (nI b).toNatClampNeg (nI sn)))), (tx, .inr (0, [.ref txa, .int txk])), (txa, .inl (ctx, txn, .inl txf))]) (w1 := [(lt, .inr (0, [.ref lta, .int (nI (((lk + i)) + 1))])), (lta, .inl (clt, 512, .inl (upd g (nI ((lk + i))).toNatClampNeg (vp_nar .byte (((tz_gb txn txf txk (fr + (nI i))) : Int32).toInt8.toInt32)))))]) hP hD [6, 7] [0, 1, 2, 3, 4, 5, 8, 9] rfl rfl (by decide) (by decide) hk1 hFc hP1 hD1
        have hK := (hK.sub (tys' := [(cst, .int), (cle, .int), (cnx, .int), (cow, .int), (cbu, .int), (ctx, .byte)]) [0, 1, 2, 3, 4, 6] rfl).app hK1
        generalize H1 = H at hP hS ⊢
        have hP : va_P (dC, dI) classes [(h0, .inr (3, [.ref a1, .ref dv, .int md, .int bk, .ref a2, .ref a3, .ref a4, .ref wd, .ref lt, .ref bu, .ref st, .ref le, .ref nx, .ref ow, .int (nI sn), .ref sp, .ref ky, .ref sm, .int sk])), (st, .inl (cst, 64, .inl (upd stf (nI sn).toNatClampNeg (nI lk)))), (le, .inl (cle, 64, .inl (upd lef (nI sn).toNatClampNeg (nI ln)))), (nx, .inl (cnx, 64, .inl (upd nxf (nI sn).toNatClampNeg (buf (nI b).toNatClampNeg)))), (ow, .inl (cow, 64, .inl (upd owf (nI sn).toNatClampNeg ((-1))))), (bu, .inl (cbu, 256, .inl (upd buf (nI b).toNatClampNeg (nI sn)))), (tx, .inr (0, [.ref txa, .int txk])), (txa, .inl (ctx, txn, .inl txf)), (lt, .inr (0, [.ref lta, .int (nI (((lk + i)) + 1))])), (lta, .inl (clt, 512, .inl (upd g (nI ((lk + i))).toNatClampNeg (vp_nar .byte (((tz_gb txn txf txk (fr + (nI i))) : Int32).toInt8.toInt32)))))] H := hP
        have hD : va_D A [(h0, .inr (3, [.ref a1, .ref dv, .int md, .int bk, .ref a2, .ref a3, .ref a4, .ref wd, .ref lt, .ref bu, .ref st, .ref le, .ref nx, .ref ow, .int (nI sn), .ref sp, .ref ky, .ref sm, .int sk])), (st, .inl (cst, 64, .inl (upd stf (nI sn).toNatClampNeg (nI lk)))), (le, .inl (cle, 64, .inl (upd lef (nI sn).toNatClampNeg (nI ln)))), (nx, .inl (cnx, 64, .inl (upd nxf (nI sn).toNatClampNeg (buf (nI b).toNatClampNeg)))), (ow, .inl (cow, 64, .inl (upd owf (nI sn).toNatClampNeg ((-1))))), (bu, .inl (cbu, 256, .inl (upd buf (nI b).toNatClampNeg (nI sn)))), (tx, .inr (0, [.ref txa, .int txk])), (txa, .inl (ctx, txn, .inl txf)), (lt, .inr (0, [.ref lta, .int (nI (((lk + i)) + 1))])), (lta, .inl (clt, 512, .inl (upd g (nI ((lk + i))).toNatClampNeg (vp_nar .byte (((tz_gb txn txf txk (fr + (nI i))) : Int32).toInt8.toInt32)))))] := hD
        have hK : va_K (dC, dI) classes [(cst, .int), (cle, .int), (cnx, .int), (cow, .int), (cbu, .int), (ctx, .byte), (clt, .byte)] s := hK
        refine lv_iinc (k := 0) (v := nI (i + 1)) hx hb d_Schema_added_167 hl rfl (nI_1 i) (by decide) rfl (fun ls hl => ?_)
        have hl : lv_has ls 6 [(5, .int (nI (i + 1))), (0, .ref h0), (1, .ref tx), (2, .int fr), (3, .int (nI ln)), (4, .int (nI b))] := hl
        refine lv_goto (tgt := 146) hx hb d_Schema_added_170 rfl ?_
        exact ih ((i + 1)) (upd g (nI ((lk + i))).toNatClampNeg (vp_nar .byte (((tz_gb txn txf txk (fr + (nI i))) : Int32).toInt8.toInt32))) _ _ _ (by omega) (by omega) (lv_sub hl [0, 1, 2, 3, 4, 5] rfl) (hP.sub [0, 1, 2, 3, 4, 5, 8, 9, 6, 7] rfl) (hD.sub [0, 1, 2, 3, 4, 5, 8, 9, 6, 7] (by decide) rfl) hS
  exact lp ((ln - 0) + 1) 0 ltf _ _ _ (by omega) (Nat.lt_succ_self _) (lv_sub hl [0, 1, 2, 3, 4, 5] rfl) (hP.sub [0, 1, 2, 3, 4, 5, 6, 7, 8, 9] rfl) (hD.sub [0, 1, 2, 3, 4, 5, 6, 7, 8, 9] (by decide) rfl) hS
set_option maxHeartbeats 4000000 in
set_option maxRecDepth 100000 in
theorem c_Schema_symbol (l : Launch) (dC : Nat → ClassId) (dI : Nat → Nat → Nat) (sz : Nat) (h0 : Nat) (a1 : Nat) (dv : Nat) (md : Int32) (bk : Int32) (a2 : Nat) (a3 : Nat) (a4 : Nat) (wd : Nat) (lt : Nat) (bu : Nat) (st : Nat) (le : Nat) (nx : Nat) (ow : Nat) (sp : Nat) (ky : Nat) (sm : Nat) (sk : Int32) (cst : ClassId) (stf : Nat → Int32) (cle : ClassId) (lef : Nat → Int32) (cnx : ClassId) (nxf : Nat → Int32) (cow : ClassId) (owf : Nat → Int32) (cbu : ClassId) (buf : Nat → Int32) (lta : Nat) (clt : ClassId) (ltf : Nat → Int32) (tx : Nat) (txa : Nat) (ctx : ClassId) (txn : Nat) (txf : Nat → Int32) (txk : Int32) (sn : Nat) (lk : Nat) (ln : Nat) (fr : Int32) (hsn : sn < 64) (hlk : lk + ln ≤ 512) (hn : txn ≤ 65536) (hinv : tz_inv sn nxf buf) : Met l y_Schema_symbol ws_Schema_symbol ({ frames := 2, cells := 0, slots := 0, locals := 46 }) (va_Pc [.ref h0, .ref tx, .int fr, .int (nI ln), .int 1] (fun U => U.heap.size = sz ∧ va_P (dC, dI) classes [(h0, .inr (3, [.ref a1, .ref dv, .int md, .int bk, .ref a2, .ref a3, .ref a4, .ref wd, .ref lt, .ref bu, .ref st, .ref le, .ref nx, .ref ow, .int (nI sn), .ref sp, .ref ky, .ref sm, .int sk])), (st, .inl (cst, 64, .inl stf)), (le, .inl (cle, 64, .inl lef)), (nx, .inl (cnx, 64, .inl nxf)), (ow, .inl (cow, 64, .inl owf)), (bu, .inl (cbu, 256, .inl buf)), (lt, .inr (0, [.ref lta, .int (nI lk)])), (lta, .inl (clt, 512, .inl ltf)), (tx, .inr (0, [.ref txa, .int txk])), (txa, .inl (ctx, txn, .inl txf))] U.heap ∧ va_K (dC, dI) classes [(cst, .int), (cle, .int), (cnx, .int), (cow, .int), (cbu, .int), (clt, .byte), (ctx, .byte)] U ∧ va_D (fun _ => True) [(h0, .inr (3, [.ref a1, .ref dv, .int md, .int bk, .ref a2, .ref a3, .ref a4, .ref wd, .ref lt, .ref bu, .ref st, .ref le, .ref nx, .ref ow, .int (nI sn), .ref sp, .ref ky, .ref sm, .int sk])), (st, .inl (cst, 64, .inl stf)), (le, .inl (cle, 64, .inl lef)), (nx, .inl (cnx, 64, .inl nxf)), (ow, .inl (cow, 64, .inl owf)), (bu, .inl (cbu, 256, .inl buf)), (lt, .inr (0, [.ref lta, .int (nI lk)])), (lta, .inl (clt, 512, .inl ltf)), (tx, .inr (0, [.ref txa, .int txk])), (txa, .inl (ctx, txn, .inl txf))])) (va_Qi (fun (r : Int32) (_ : Unit) => True) (fun _ t => ∃ (s2 : Nat) (k2 : Nat) (g1 : Nat → Int32) (g2 : Nat → Int32) (g3 : Nat → Int32) (g4 : Nat → Int32) (g5 : Nat → Int32) (g6 : Nat → Int32), s2 ≤ sn + 1 ∧ k2 ≤ lk + ln ∧ tz_inv s2 g3 g5 ∧ va_P (dC, dI) classes [(h0, .inr (3, [.ref a1, .ref dv, .int md, .int bk, .ref a2, .ref a3, .ref a4, .ref wd, .ref lt, .ref bu, .ref st, .ref le, .ref nx, .ref ow, .int (nI s2), .ref sp, .ref ky, .ref sm, .int sk])), (st, .inl (cst, 64, .inl g1)), (le, .inl (cle, 64, .inl g2)), (nx, .inl (cnx, 64, .inl g3)), (ow, .inl (cow, 64, .inl g4)), (bu, .inl (cbu, 256, .inl g5)), (lt, .inr (0, [.ref lta, .int (nI k2)])), (lta, .inl (clt, 512, .inl g6)), (tx, .inr (0, [.ref txa, .int txk])), (txa, .inl (ctx, txn, .inl txf))] t.heap ∧ va_K (dC, dI) classes [(cst, .int), (cle, .int), (cnx, .int), (cow, .int), (cbu, .int), (clt, .byte), (ctx, .byte)] t ∧ va_D (va_A [(h0, .inr (3, [.ref a1, .ref dv, .int md, .int bk, .ref a2, .ref a3, .ref a4, .ref wd, .ref lt, .ref bu, .ref st, .ref le, .ref nx, .ref ow, .int (nI sn), .ref sp, .ref ky, .ref sm, .int sk])), (st, .inl (cst, 64, .inl stf)), (le, .inl (cle, 64, .inl lef)), (nx, .inl (cnx, 64, .inl nxf)), (ow, .inl (cow, 64, .inl owf)), (bu, .inl (cbu, 256, .inl buf)), (lt, .inr (0, [.ref lta, .int (nI lk)])), (lta, .inl (clt, 512, .inl ltf)), (tx, .inr (0, [.ref txa, .int txk])), (txa, .inl (ctx, txn, .inl txf))] sz) [(h0, .inr (3, [.ref a1, .ref dv, .int md, .int bk, .ref a2, .ref a3, .ref a4, .ref wd, .ref lt, .ref bu, .ref st, .ref le, .ref nx, .ref ow, .int (nI s2), .ref sp, .ref ky, .ref sm, .int sk])), (st, .inl (cst, 64, .inl g1)), (le, .inl (cle, 64, .inl g2)), (nx, .inl (cnx, 64, .inl g3)), (ow, .inl (cow, 64, .inl g4)), (bu, .inl (cbu, 256, .inl g5)), (lt, .inr (0, [.ref lta, .int (nI k2)])), (lta, .inl (clt, 512, .inl g6)), (tx, .inr (0, [.ref txa, .int txk])), (txa, .inl (ctx, txn, .inl txf))]) (va_A [(h0, .inr (3, [.ref a1, .ref dv, .int md, .int bk, .ref a2, .ref a3, .ref a4, .ref wd, .ref lt, .ref bu, .ref st, .ref le, .ref nx, .ref ow, .int (nI sn), .ref sp, .ref ky, .ref sm, .int sk])), (st, .inl (cst, 64, .inl stf)), (le, .inl (cle, 64, .inl lef)), (nx, .inl (cnx, 64, .inl nxf)), (ow, .inl (cow, 64, .inl owf)), (bu, .inl (cbu, 256, .inl buf)), (lt, .inr (0, [.ref lta, .int (nI lk)])), (lta, .inl (clt, 512, .inl ltf)), (tx, .inr (0, [.ref txa, .int txk])), (txa, .inl (ctx, txn, .inl txf))] sz)) 0 0 (va_A [(h0, .inr (3, [.ref a1, .ref dv, .int md, .int bk, .ref a2, .ref a3, .ref a4, .ref wd, .ref lt, .ref bu, .ref st, .ref le, .ref nx, .ref ow, .int (nI sn), .ref sp, .ref ky, .ref sm, .int sk])), (st, .inl (cst, 64, .inl stf)), (le, .inl (cle, 64, .inl lef)), (nx, .inl (cnx, 64, .inl nxf)), (ow, .inl (cow, 64, .inl owf)), (bu, .inl (cbu, 256, .inl buf)), (lt, .inr (0, [.ref lta, .int (nI lk)])), (lta, .inl (clt, 512, .inl ltf)), (tx, .inr (0, [.ref txa, .int txk])), (txa, .inl (ctx, txn, .inl txf))] sz) := by
  refine Met.ofW (cc := b_Schema_symbol) (maxL := 8) (ret := (some .int)) (by decide) rfl ?_
  intro p e s m args below meth c s₁ B hml hv
  obtain ⟨rfl, hsz, hP, hK, hD0⟩ := hv
  have hx := B.exec
  have hb := B.bytes
  have hr := B.returns
  have hts := atoms_spec (ws := ws_Schema_symbol) B.pre
  have htw : ∀ w ∈ tw_tbl, w.before [.ref h0, .ref tx, .int fr, .int (nI ln), .int 1].toArray s = true := fun w h => hts w (List.mem_cons_of_mem _ h)
  have hown : s.vm.findClass R_Schema = some m.cls := findClass_of_methodNamed B.named
  have hlocks := B.notSynchronized
  have hin : meth.name = "symbol" := (name_of_methodNamed B.named B.method).1
  subst hsz
  have hD := hD0.self (sz := s.heap.size)
  generalize hAe : va_A [(h0, .inr (3, [.ref a1, .ref dv, .int md, .int bk, .ref a2, .ref a3, .ref a4, .ref wd, .ref lt, .ref bu, .ref st, .ref le, .ref nx, .ref ow, .int (nI sn), .ref sp, .ref ky, .ref sm, .int sk])), (st, .inl (cst, 64, .inl stf)), (le, .inl (cle, 64, .inl lef)), (nx, .inl (cnx, 64, .inl nxf)), (ow, .inl (cow, 64, .inl owf)), (bu, .inl (cbu, 256, .inl buf)), (lt, .inr (0, [.ref lta, .int (nI lk)])), (lta, .inl (clt, 512, .inl ltf)), (tx, .inr (0, [.ref txa, .int txk])), (txa, .inl (ctx, txn, .inl txf))] s.heap.size = A at hD ⊢
  have hA : ∀ q : Nat, s.heap.size ≤ q → A q := fun q h => by rw [← hAe]; exact Or.inr h
  have hS : va_S A s.heap s.heap [] := va_S.rf
  have hP : va_P (dC, dI) classes [(h0, .inr (3, [.ref a1, .ref dv, .int md, .int bk, .ref a2, .ref a3, .ref a4, .ref wd, .ref lt, .ref bu, .ref st, .ref le, .ref nx, .ref ow, .int (nI sn), .ref sp, .ref ky, .ref sm, .int sk])), (st, .inl (cst, 64, .inl stf)), (le, .inl (cle, 64, .inl lef)), (nx, .inl (cnx, 64, .inl nxf)), (ow, .inl (cow, 64, .inl owf)), (bu, .inl (cbu, 256, .inl buf)), (lt, .inr (0, [.ref lta, .int (nI lk)])), (lta, .inl (clt, 512, .inl ltf)), (tx, .inr (0, [.ref txa, .int txk])), (txa, .inl (ctx, txn, .inl txf))] s.heap := hP
  have hl := lv_entry ([.ref h0, .ref tx, .int fr, .int (nI ln), .int 1]) (n := 8) (Nat.le_of_ble_eq_true rfl)
  rw [lg_entry_eq]
  generalize (lg_sl ([.ref h0, .ref tx, .int fr, .int (nI ln), .int 1]) ++ List.replicate (8 - (lg_sl ([.ref h0, .ref tx, .int fr, .int (nI ln), .int 1])).length) Slot.unset).toArray = ls at hl ⊢
  have hl : lv_has ls 8 [(0, .ref h0), (1, .ref tx), (2, .int fr), (3, .int (nI ln)), (4, .int 1)] := hl
  refine lv_iload_n hx hb d_Schema_symbol_0 rfl (lv_at hl 3 rfl) ?_
  refine lv_istore hx hb d_Schema_symbol_1 hl (by decide) rfl (fun ls hl => ?_)
  have hl : lv_has ls 8 [(5, .int (nI ln)), (0, .ref h0), (1, .ref tx), (2, .int fr), (3, .int (nI ln)), (4, .int 1)] := hl
  refine lv_iconst (v := 0) hx hb d_Schema_symbol_3 (by decide) ?_
  refine lv_istore hx hb d_Schema_symbol_4 hl (by decide) rfl (fun ls hl => ?_)
  have hl : lv_has ls 8 [(6, .int 0), (5, .int (nI ln)), (0, .ref h0), (1, .ref tx), (2, .int fr), (3, .int (nI ln)), (4, .int 1)] := hl
  have lp : ∀ (fuel : Nat) (i : Nat) (hs : Int32) (H : Heap) (locs : List Loc) (ls : Array Slot), i ≤ ln → ln - i < fuel → lv_has ls 8 [(6, .int (nI i)), (5, .int hs), (0, .ref h0), (1, .ref tx), (2, .int fr), (3, .int (nI ln)), (4, .int 1)] → va_P (dC, dI) classes [(h0, .inr (3, [.ref a1, .ref dv, .int md, .int bk, .ref a2, .ref a3, .ref a4, .ref wd, .ref lt, .ref bu, .ref st, .ref le, .ref nx, .ref ow, .int (nI sn), .ref sp, .ref ky, .ref sm, .int sk])), (st, .inl (cst, 64, .inl stf)), (le, .inl (cle, 64, .inl lef)), (nx, .inl (cnx, 64, .inl nxf)), (ow, .inl (cow, 64, .inl owf)), (bu, .inl (cbu, 256, .inl buf)), (lt, .inr (0, [.ref lta, .int (nI lk)])), (lta, .inl (clt, 512, .inl ltf)), (tx, .inr (0, [.ref txa, .int txk])), (txa, .inl (ctx, txn, .inl txf))] H → va_D A [(h0, .inr (3, [.ref a1, .ref dv, .int md, .int bk, .ref a2, .ref a3, .ref a4, .ref wd, .ref lt, .ref bu, .ref st, .ref le, .ref nx, .ref ow, .int (nI sn), .ref sp, .ref ky, .ref sm, .int sk])), (st, .inl (cst, 64, .inl stf)), (le, .inl (cle, 64, .inl lef)), (nx, .inl (cnx, 64, .inl nxf)), (ow, .inl (cow, 64, .inl owf)), (bu, .inl (cbu, 256, .inl buf)), (lt, .inr (0, [.ref lta, .int (nI lk)])), (lta, .inl (clt, 512, .inl ltf)), (tx, .inr (0, [.ref txa, .int txk])), (txa, .inl (ctx, txn, .inl txf))] → va_S A s.heap H locs → W p l e (headSpec ws_Schema_symbol ({ frames := 2, cells := 0, slots := 0, locals := 46 })).room s m [.ref h0, .ref tx, .int fr, .int (nI ln), .int 1].toArray below meth c H locs 0 0 (MQ below (va_Qi (fun (r : Int32) (_ : Unit) => True) (fun _ t => ∃ (s2 : Nat) (k2 : Nat) (g1 : Nat → Int32) (g2 : Nat → Int32) (g3 : Nat → Int32) (g4 : Nat → Int32) (g5 : Nat → Int32) (g6 : Nat → Int32), s2 ≤ sn + 1 ∧ k2 ≤ lk + ln ∧ tz_inv s2 g3 g5 ∧ va_P (dC, dI) classes [(h0, .inr (3, [.ref a1, .ref dv, .int md, .int bk, .ref a2, .ref a3, .ref a4, .ref wd, .ref lt, .ref bu, .ref st, .ref le, .ref nx, .ref ow, .int (nI s2), .ref sp, .ref ky, .ref sm, .int sk])), (st, .inl (cst, 64, .inl g1)), (le, .inl (cle, 64, .inl g2)), (nx, .inl (cnx, 64, .inl g3)), (ow, .inl (cow, 64, .inl g4)), (bu, .inl (cbu, 256, .inl g5)), (lt, .inr (0, [.ref lta, .int (nI k2)])), (lta, .inl (clt, 512, .inl g6)), (tx, .inr (0, [.ref txa, .int txk])), (txa, .inl (ctx, txn, .inl txf))] t.heap ∧ va_K (dC, dI) classes [(cst, .int), (cle, .int), (cnx, .int), (cow, .int), (cbu, .int), (clt, .byte), (ctx, .byte)] t ∧ va_D A [(h0, .inr (3, [.ref a1, .ref dv, .int md, .int bk, .ref a2, .ref a3, .ref a4, .ref wd, .ref lt, .ref bu, .ref st, .ref le, .ref nx, .ref ow, .int (nI s2), .ref sp, .ref ky, .ref sm, .int sk])), (st, .inl (cst, 64, .inl g1)), (le, .inl (cle, 64, .inl g2)), (nx, .inl (cnx, 64, .inl g3)), (ow, .inl (cow, 64, .inl g4)), (bu, .inl (cbu, 256, .inl g5)), (lt, .inr (0, [.ref lta, .int (nI k2)])), (lta, .inl (clt, 512, .inl g6)), (tx, .inr (0, [.ref txa, .int txk])), (txa, .inl (ctx, txn, .inl txf))]) A) [.ref h0, .ref tx, .int fr, .int (nI ln), .int 1].toArray s 0 0 A) (F0 m 6 ls []) := by
    intro fuel
    induction fuel with
    | zero => intro i hs H locs ls hi hm; omega
    | succ fuel ih =>
      intro i hs H locs ls hi hm hl hP hD hS
      refine lv_iload hx hb d_Schema_symbol_6 (lv_at hl 0 rfl) ?_
      refine lv_iload_n hx hb d_Schema_symbol_8 rfl (lv_at hl 5 rfl) ?_
      refine lv_icmp_ge (tgt := 34) hx hb d_Schema_symbol_9 rfl (fun h1 => ?_) (fun h1 => ?_)
      · refine lv_iload hx hb d_Schema_symbol_34 (lv_at hl 1 rfl) ?_
        refine lv_iload hx hb d_Schema_symbol_36 (lv_at hl 1 rfl) ?_
        refine lv_bipush (v := 8) hx hb d_Schema_symbol_38 (by decide) ?_
        refine lv_iushr hx hb d_Schema_symbol_40 rfl ?_
        refine lv_ixor hx hb d_Schema_symbol_41 ?_
        refine lv_sipush (v := 255) hx hb d_Schema_symbol_42 (by decide) ?_
        refine lv_iand hx hb d_Schema_symbol_45 ?_
        obtain ⟨b, hb8, eb⟩ : ∃ b : Nat, b < 2 ^ 8 ∧ (hs ^^^ (((hs : Int32).toUInt32 >>> ((8 : Int32).toUInt32 &&& Int32.toUInt32 31)).toInt32)) &&& 255 = nI b := pk_andE _ 8 (by decide)
        refine lv_topi (fun z9 e9 => ?_)
        have e9 : z9 = nI b := e9.trans (eb)
        subst e9
        refine lv_istore hx hb d_Schema_symbol_46 hl (by decide) rfl (fun ls hl => ?_)
        have hl : lv_has ls 8 [(6, .int (nI b)), (5, .int hs), (0, .ref h0), (1, .ref tx), (2, .int fr), (3, .int (nI ln)), (4, .int 1)] := hl
        refine lv_aload_n hx hb d_Schema_symbol_48 rfl (lv_at hl 2 rfl) ?_
        refine va_get (D := (dC, dI)) (ci := 3) (v := .ref bu) (C := R_Schema) (T := F_Schema) (N := 19) hx hb htw i_Schema hown hK hP 0 rfl rfl 9 (by decide) (htw _ wd_2_31) (fun _ h9 => h9) rfl d_Schema_symbol_49 ?_
        refine lv_iload hx hb d_Schema_symbol_52 (lv_at hl 0 rfl) ?_
        refine va_iald hx hb hK hP 5 4 rfl rfl (vp_in_nI hb8 (by decide)) d_Schema_symbol_54 ?_
        obtain ⟨q, hq, eq1⟩ := hinv.2 b hb8
        refine lv_topi (fun z9 e9 => ?_)
        have e9 : z9 = nI q - 1 := e9.trans (by rw [nI_clamp (by omega)]; exact eq1)
        subst e9
        refine lv_istore hx hb d_Schema_symbol_55 hl (by decide) rfl (fun ls hl => ?_)
        have hl : lv_has ls 8 [(7, .int (nI q - 1)), (6, .int (nI b)), (5, .int hs), (0, .ref h0), (1, .ref tx), (2, .int fr), (3, .int (nI ln)), (4, .int 1)] := hl
        have lp2 : ∀ (fuel : Nat) (q : Nat) (H : Heap) (locs : List Loc) (ls : Array Slot), q ≤ sn → q < fuel → lv_has ls 8 [(7, .int (nI q - 1)), (6, .int (nI b)), (0, .ref h0), (1, .ref tx), (2, .int fr), (3, .int (nI ln)), (4, .int 1)] → va_P (dC, dI) classes [(h0, .inr (3, [.ref a1, .ref dv, .int md, .int bk, .ref a2, .ref a3, .ref a4, .ref wd, .ref lt, .ref bu, .ref st, .ref le, .ref nx, .ref ow, .int (nI sn), .ref sp, .ref ky, .ref sm, .int sk])), (st, .inl (cst, 64, .inl stf)), (le, .inl (cle, 64, .inl lef)), (nx, .inl (cnx, 64, .inl nxf)), (ow, .inl (cow, 64, .inl owf)), (bu, .inl (cbu, 256, .inl buf)), (lt, .inr (0, [.ref lta, .int (nI lk)])), (lta, .inl (clt, 512, .inl ltf)), (tx, .inr (0, [.ref txa, .int txk])), (txa, .inl (ctx, txn, .inl txf))] H → va_D A [(h0, .inr (3, [.ref a1, .ref dv, .int md, .int bk, .ref a2, .ref a3, .ref a4, .ref wd, .ref lt, .ref bu, .ref st, .ref le, .ref nx, .ref ow, .int (nI sn), .ref sp, .ref ky, .ref sm, .int sk])), (st, .inl (cst, 64, .inl stf)), (le, .inl (cle, 64, .inl lef)), (nx, .inl (cnx, 64, .inl nxf)), (ow, .inl (cow, 64, .inl owf)), (bu, .inl (cbu, 256, .inl buf)), (lt, .inr (0, [.ref lta, .int (nI lk)])), (lta, .inl (clt, 512, .inl ltf)), (tx, .inr (0, [.ref txa, .int txk])), (txa, .inl (ctx, txn, .inl txf))] → va_S A s.heap H locs → W p l e (headSpec ws_Schema_symbol ({ frames := 2, cells := 0, slots := 0, locals := 46 })).room s m [.ref h0, .ref tx, .int fr, .int (nI ln), .int 1].toArray below meth c H locs 0 0 (MQ below (va_Qi (fun (r : Int32) (_ : Unit) => True) (fun _ t => ∃ (s2 : Nat) (k2 : Nat) (g1 : Nat → Int32) (g2 : Nat → Int32) (g3 : Nat → Int32) (g4 : Nat → Int32) (g5 : Nat → Int32) (g6 : Nat → Int32), s2 ≤ sn + 1 ∧ k2 ≤ lk + ln ∧ tz_inv s2 g3 g5 ∧ va_P (dC, dI) classes [(h0, .inr (3, [.ref a1, .ref dv, .int md, .int bk, .ref a2, .ref a3, .ref a4, .ref wd, .ref lt, .ref bu, .ref st, .ref le, .ref nx, .ref ow, .int (nI s2), .ref sp, .ref ky, .ref sm, .int sk])), (st, .inl (cst, 64, .inl g1)), (le, .inl (cle, 64, .inl g2)), (nx, .inl (cnx, 64, .inl g3)), (ow, .inl (cow, 64, .inl g4)), (bu, .inl (cbu, 256, .inl g5)), (lt, .inr (0, [.ref lta, .int (nI k2)])), (lta, .inl (clt, 512, .inl g6)), (tx, .inr (0, [.ref txa, .int txk])), (txa, .inl (ctx, txn, .inl txf))] t.heap ∧ va_K (dC, dI) classes [(cst, .int), (cle, .int), (cnx, .int), (cow, .int), (cbu, .int), (clt, .byte), (ctx, .byte)] t ∧ va_D A [(h0, .inr (3, [.ref a1, .ref dv, .int md, .int bk, .ref a2, .ref a3, .ref a4, .ref wd, .ref lt, .ref bu, .ref st, .ref le, .ref nx, .ref ow, .int (nI s2), .ref sp, .ref ky, .ref sm, .int sk])), (st, .inl (cst, 64, .inl g1)), (le, .inl (cle, 64, .inl g2)), (nx, .inl (cnx, 64, .inl g3)), (ow, .inl (cow, 64, .inl g4)), (bu, .inl (cbu, 256, .inl g5)), (lt, .inr (0, [.ref lta, .int (nI k2)])), (lta, .inl (clt, 512, .inl g6)), (tx, .inr (0, [.ref txa, .int txk])), (txa, .inl (ctx, txn, .inl txf))]) A) [.ref h0, .ref tx, .int fr, .int (nI ln), .int 1].toArray s 0 0 A) (F0 m 57 ls []) := by
          intro fuel
          induction fuel with
          | zero => intro q H locs ls hq hm; omega
          | succ fuel ih =>
            intro q H locs ls hq hm hl hP hD hS
            refine lv_iload hx hb d_Schema_symbol_57 (lv_at hl 0 rfl) ?_
            refine lv_if_lt (tgt := 99) hx hb d_Schema_symbol_59 rfl (fun h3 => ?_) (fun h3 => ?_)
            · refine lv_iload hx hb d_Schema_symbol_99 (lv_at hl 6 rfl) ?_
              refine lv_if_eq (tgt := 116) hx hb d_Schema_symbol_101 rfl (fun ht => absurd ht (by decide)) (fun _ => ?_)
              refine lv_aload_n hx hb d_Schema_symbol_104 rfl (lv_at hl 2 rfl) ?_
              refine lv_aload_n hx hb d_Schema_symbol_105 rfl (lv_at hl 3 rfl) ?_
              refine lv_iload_n hx hb d_Schema_symbol_106 rfl (lv_at hl 4 rfl) ?_
              refine lv_iload_n hx hb d_Schema_symbol_107 rfl (lv_at hl 5 rfl) ?_
              refine lv_iload hx hb d_Schema_symbol_108 (lv_at hl 1 rfl) ?_
              have hc0 : 0 + 0 ≤ 0 := by omega
              have hs0 : 0 + 0 ≤ 0 := by omega
              have hPc := hP.sub (ws' := [(h0, .inr (3, [.ref a1, .ref dv, .int md, .int bk, .ref a2, .ref a3, .ref a4, .ref wd, .ref lt, .ref bu, .ref st, .ref le, .ref nx, .ref ow, .int (nI sn), .ref sp, .ref ky, .ref sm, .int sk])), (st, .inl (cst, 64, .inl stf)), (le, .inl (cle, 64, .inl lef)), (nx, .inl (cnx, 64, .inl nxf)), (ow, .inl (cow, 64, .inl owf)), (bu, .inl (cbu, 256, .inl buf)), (lt, .inr (0, [.ref lta, .int (nI lk)])), (lta, .inl (clt, 512, .inl ltf)), (tx, .inr (0, [.ref txa, .int txk])), (txa, .inl (ctx, txn, .inl txf))]) [0, 1, 2, 3, 4, 5, 6, 7, 8, 9] rfl
              have hDc := hD.sub (ws' := [(h0, .inr (3, [.ref a1, .ref dv, .int md, .int bk, .ref a2, .ref a3, .ref a4, .ref wd, .ref lt, .ref bu, .ref st, .ref le, .ref nx, .ref ow, .int (nI sn), .ref sp, .ref ky, .ref sm, .int sk])), (st, .inl (cst, 64, .inl stf)), (le, .inl (cle, 64, .inl lef)), (nx, .inl (cnx, 64, .inl nxf)), (ow, .inl (cow, 64, .inl owf)), (bu, .inl (cbu, 256, .inl buf)), (lt, .inr (0, [.ref lta, .int (nI lk)])), (lta, .inl (clt, 512, .inl ltf)), (tx, .inr (0, [.ref txa, .int txk])), (txa, .inl (ctx, txn, .inl txf))]) [0, 1, 2, 3, 4, 5, 6, 7, 8, 9] (by decide) rfl
              have hKc := hK.sub (tys' := [(cst, .int), (cle, .int), (cnx, .int), (cow, .int), (cbu, .int), (clt, .byte), (ctx, .byte)]) [0, 1, 2, 3, 4, 5, 6] rfl
              have hFc := va_free (wc := [(h0, .inr (3, [.ref a1, .ref dv, .int md, .int bk, .ref a2, .ref a3, .ref a4, .ref wd, .ref lt, .ref bu, .ref st, .ref le, .ref nx, .ref ow, .int (nI sn), .ref sp, .ref ky, .ref sm, .int sk])), (st, .inl (cst, 64, .inl stf)), (le, .inl (cle, 64, .inl lef)), (nx, .inl (cnx, 64, .inl nxf)), (ow, .inl (cow, 64, .inl owf)), (bu, .inl (cbu, 256, .inl buf)), (lt, .inr (0, [.ref lta, .int (nI lk)])), (lta, .inl (clt, 512, .inl ltf)), (tx, .inr (0, [.ref txa, .int txk])), (txa, .inl (ctx, txn, .inl txf))]) hD hS hA [0, 1, 2, 3, 4, 5, 6, 7, 8, 9] rfl
              refine va_calli (va_runV (As := [.ref tx, .int fr, .int (nI ln), .int (nI b)]) (rest := []) ⟨hx, hb, hml, hown, htw⟩ (c_Schema_added l dC dI H.size h0 a1 dv md bk a2 a3 a4 wd lt bu st le nx ow sp ky sm sk cst stf cle lef cnx nxf cow owf cbu buf lta clt ltf tx txa ctx txn txf txk sn lk ln b fr (by omega) (by omega) (by omega) (by omega)) (cwV 4 htw (tw_V wd_2_7 wd_2_9 wp_1_2 wd_1_3 k_Schema_added) rfl rfl rfl (by decide +kernel) ⟨Nat.le_of_ble_eq_true rfl, Nat.le_of_ble_eq_true rfl⟩) ⟨fun a U g mk q => by obtain ⟨q0, q1, qP, qK, qD⟩ := q; exact ⟨q0, q1, qP, va_K.moved (u := U) (U := U.calling g mk a) (Vm.Alike.refl U.vm) qK, qD⟩, va_recv hK hP (q := (R_Schema, F_Schema, 19)) (ci := 3) (q0 := 0) rfl rfl, fun U hU hW => ⟨rfl, by rw [hU], by rw [hU]; exact hPc, va_K.moved hW.alike hKc, hDc.weaken (fun _ _ _ _ => trivial)⟩⟩ rfl rfl hl.1 rfl (lv_room (Nat.le_of_ble_eq_true rfl)) d_Schema_symbol_110 ⟨hc0, hs0⟩) hS (fun q _ h => hFc q h) hFc (fun r1 u t H1 locs ht hvm hw hB hz1 hk1 hS => ?_)
              obtain ⟨g2_2, hP1, hK1, hD1⟩ := hB
              rw [ht] at hP1
              have hK1 := va_K.moved hvm.symm hK1
              obtain ⟨hP, hD⟩ := va_join (wr := []) (w1 := [(h0, .inr (3, [.ref a1, .ref dv, .int md, .int bk, .ref a2, .ref a3, .ref a4, .ref wd, .ref lt, .ref bu, .ref st, .ref le, .ref nx, .ref ow, .int (nI (sn + 1)), .ref sp, .ref ky, .ref sm, .int sk])), (st, .inl (cst, 64, .inl (upd stf (nI sn).toNatClampNeg (nI lk)))), (le, .inl (cle, 64, .inl (upd lef (nI sn).toNatClampNeg (nI ln)))), (nx, .inl (cnx, 64, .inl (upd nxf (nI sn).toNatClampNeg (buf (nI b).toNatClampNeg)))), (ow, .inl (cow, 64, .inl (upd owf (nI sn).toNatClampNeg (-1)))), (bu, .inl (cbu, 256, .inl (upd buf (nI b).toNatClampNeg (nI sn)))), (lt, .inr (0, [.ref lta, .int (nI (lk + ln))])), (lta, .inl (clt, 512, .inl g2_2)), (tx, .inr (0, [.ref txa, .int txk])), (txa, .inl (ctx, txn, .inl txf))]) hP hD [0, 1, 2, 3, 4, 5, 6, 7, 8, 9] [] rfl rfl (by decide) (by decide) hk1 hFc hP1 hD1
              have hK := (hK.sub (tys' := []) [] rfl).app hK1
              generalize H1 = H at hP hS ⊢
              have hP : va_P (dC, dI) classes [(h0, .inr (3, [.ref a1, .ref dv, .int md, .int bk, .ref a2, .ref a3, .ref a4, .ref wd, .ref lt, .ref bu, .ref st, .ref le, .ref nx, .ref ow, .int (nI (sn + 1)), .ref sp, .ref ky, .ref sm, .int sk])), (st, .inl (cst, 64, .inl (upd stf (nI sn).toNatClampNeg (nI lk)))), (le, .inl (cle, 64, .inl (upd lef (nI sn).toNatClampNeg (nI ln)))), (nx, .inl (cnx, 64, .inl (upd nxf (nI sn).toNatClampNeg (buf (nI b).toNatClampNeg)))), (ow, .inl (cow, 64, .inl (upd owf (nI sn).toNatClampNeg (-1)))), (bu, .inl (cbu, 256, .inl (upd buf (nI b).toNatClampNeg (nI sn)))), (lt, .inr (0, [.ref lta, .int (nI (lk + ln))])), (lta, .inl (clt, 512, .inl g2_2)), (tx, .inr (0, [.ref txa, .int txk])), (txa, .inl (ctx, txn, .inl txf))] H := hP
              have hD : va_D A [(h0, .inr (3, [.ref a1, .ref dv, .int md, .int bk, .ref a2, .ref a3, .ref a4, .ref wd, .ref lt, .ref bu, .ref st, .ref le, .ref nx, .ref ow, .int (nI (sn + 1)), .ref sp, .ref ky, .ref sm, .int sk])), (st, .inl (cst, 64, .inl (upd stf (nI sn).toNatClampNeg (nI lk)))), (le, .inl (cle, 64, .inl (upd lef (nI sn).toNatClampNeg (nI ln)))), (nx, .inl (cnx, 64, .inl (upd nxf (nI sn).toNatClampNeg (buf (nI b).toNatClampNeg)))), (ow, .inl (cow, 64, .inl (upd owf (nI sn).toNatClampNeg (-1)))), (bu, .inl (cbu, 256, .inl (upd buf (nI b).toNatClampNeg (nI sn)))), (lt, .inr (0, [.ref lta, .int (nI (lk + ln))])), (lta, .inl (clt, 512, .inl g2_2)), (tx, .inr (0, [.ref txa, .int txk])), (txa, .inl (ctx, txn, .inl txf))] := hD
              have hK : va_K (dC, dI) classes [(cst, .int), (cle, .int), (cnx, .int), (cow, .int), (cbu, .int), (clt, .byte), (ctx, .byte)] s := hK
              subst hw
              refine lv_goto (tgt := 117) hx hb d_Schema_symbol_113 rfl ?_
              have hP9 := hP.sub (ws' := [(h0, .inr (3, [.ref a1, .ref dv, .int md, .int bk, .ref a2, .ref a3, .ref a4, .ref wd, .ref lt, .ref bu, .ref st, .ref le, .ref nx, .ref ow, .int (nI (sn + 1)), .ref sp, .ref ky, .ref sm, .int sk])), (st, .inl (cst, 64, .inl (upd stf (nI sn).toNatClampNeg (nI lk)))), (le, .inl (cle, 64, .inl (upd lef (nI sn).toNatClampNeg (nI ln)))), (nx, .inl (cnx, 64, .inl (upd nxf (nI sn).toNatClampNeg (buf (nI b).toNatClampNeg)))), (ow, .inl (cow, 64, .inl (upd owf (nI sn).toNatClampNeg (-1)))), (bu, .inl (cbu, 256, .inl (upd buf (nI b).toNatClampNeg (nI sn)))), (lt, .inr (0, [.ref lta, .int (nI (lk + ln))])), (lta, .inl (clt, 512, .inl g2_2)), (tx, .inr (0, [.ref txa, .int txk])), (txa, .inl (ctx, txn, .inl txf))]) [0, 1, 2, 3, 4, 5, 6, 7, 8, 9] rfl
              have hD9 := hD.sub (ws' := [(h0, .inr (3, [.ref a1, .ref dv, .int md, .int bk, .ref a2, .ref a3, .ref a4, .ref wd, .ref lt, .ref bu, .ref st, .ref le, .ref nx, .ref ow, .int (nI (sn + 1)), .ref sp, .ref ky, .ref sm, .int sk])), (st, .inl (cst, 64, .inl (upd stf (nI sn).toNatClampNeg (nI lk)))), (le, .inl (cle, 64, .inl (upd lef (nI sn).toNatClampNeg (nI ln)))), (nx, .inl (cnx, 64, .inl (upd nxf (nI sn).toNatClampNeg (buf (nI b).toNatClampNeg)))), (ow, .inl (cow, 64, .inl (upd owf (nI sn).toNatClampNeg (-1)))), (bu, .inl (cbu, 256, .inl (upd buf (nI b).toNatClampNeg (nI sn)))), (lt, .inr (0, [.ref lta, .int (nI (lk + ln))])), (lta, .inl (clt, 512, .inl g2_2)), (tx, .inr (0, [.ref txa, .int txk])), (txa, .inl (ctx, txn, .inl txf))]) [0, 1, 2, 3, 4, 5, 6, 7, 8, 9] (by decide) rfl
              have hK9 := hK.sub (tys' := [(cst, .int), (cle, .int), (cnx, .int), (cow, .int), (cbu, .int), (clt, .byte), (ctx, .byte)]) [0, 1, 2, 3, 4, 5, 6] rfl
              refine W.widen (k := 0) (n := 0) (by omega) (by omega) ?_
              exact W.iret (v := nI sn) hx hb hr (fun t ht hW => ⟨⟨nI sn, (), rfl, trivial, ((sn + 1)), ((lk + ln)), (upd stf (nI sn).toNatClampNeg (nI lk)), (upd lef (nI sn).toNatClampNeg (nI ln)), (upd nxf (nI sn).toNatClampNeg (buf (nI b).toNatClampNeg)), (upd owf (nI sn).toNatClampNeg (-1)), (upd buf (nI b).toNatClampNeg (nI sn)), g2_2, by omega, by omega, tz_inv_add hsn hb8 hinv, by rw [ht]; exact hP9, va_K.moved hW.alike hK9, hD9⟩, hS.F ht⟩) hS.2.2 d_Schema_symbol_117
            · obtain ⟨j, rfl⟩ : ∃ j, q = j + 1 := tz_q h3
              rw [nI_pred j] at hl
              have hl : lv_has ls 8 [(7, .int (nI j)), (6, .int (nI b)), (0, .ref h0), (1, .ref tx), (2, .int fr), (3, .int (nI ln)), (4, .int 1)] := hl
              refine lv_aload_n hx hb d_Schema_symbol_62 rfl (lv_at hl 2 rfl) ?_
              refine va_get (D := (dC, dI)) (ci := 3) (v := .ref le) (C := R_Schema) (T := F_Schema) (N := 19) hx hb htw i_Schema hown hK hP 0 rfl rfl 11 (by decide) (htw _ wd_2_33) (fun _ h9 => h9) rfl d_Schema_symbol_63 ?_
              refine lv_iload hx hb d_Schema_symbol_66 (lv_at hl 0 rfl) ?_
              refine va_iald hx hb hK hP 2 1 rfl rfl (vp_in_nI (by omega) (by decide)) d_Schema_symbol_68 ?_
              refine lv_iload_n hx hb d_Schema_symbol_69 rfl (lv_at hl 5 rfl) ?_
              refine lv_icmp_ne (tgt := 87) hx hb d_Schema_symbol_70 rfl (fun h4 => ?_) (fun h4 => ?_)
              · refine lv_aload_n hx hb d_Schema_symbol_87 rfl (lv_at hl 2 rfl) ?_
                refine va_get (D := (dC, dI)) (ci := 3) (v := .ref nx) (C := R_Schema) (T := F_Schema) (N := 19) hx hb htw i_Schema hown hK hP 0 rfl rfl 12 (by decide) (htw _ wd_2_34) (fun _ h9 => h9) rfl d_Schema_symbol_88 ?_
                refine lv_iload hx hb d_Schema_symbol_91 (lv_at hl 0 rfl) ?_
                refine va_iald hx hb hK hP 3 2 rfl rfl (vp_in_nI (by omega) (by decide)) d_Schema_symbol_93 ?_
                obtain ⟨q2, hq2, eq2⟩ := hinv.1 j (by omega)
                refine lv_topi (fun z9 e9 => ?_)
                have e9 : z9 = nI q2 - 1 := e9.trans (by rw [nI_clamp (by omega)]; exact eq2)
                subst e9
                refine lv_istore hx hb d_Schema_symbol_94 hl (by decide) rfl (fun ls hl => ?_)
                have hl : lv_has ls 8 [(7, .int (nI q2 - 1)), (6, .int (nI b)), (0, .ref h0), (1, .ref tx), (2, .int fr), (3, .int (nI ln)), (4, .int 1)] := hl
                refine lv_goto (tgt := 57) hx hb d_Schema_symbol_96 rfl ?_
                exact ih q2 _ _ _ (by omega) (by omega) (lv_sub hl [0, 1, 2, 3, 4, 5, 6] rfl) (hP.sub [0, 1, 2, 3, 4, 5, 6, 7, 8, 9] rfl) (hD.sub [0, 1, 2, 3, 4, 5, 6, 7, 8, 9] (by decide) rfl) hS
              · refine lv_aload_n hx hb d_Schema_symbol_73 rfl (lv_at hl 2 rfl) ?_
                refine lv_iload hx hb d_Schema_symbol_74 (lv_at hl 0 rfl) ?_
                refine lv_aload_n hx hb d_Schema_symbol_76 rfl (lv_at hl 3 rfl) ?_
                refine lv_iload_n hx hb d_Schema_symbol_77 rfl (lv_at hl 4 rfl) ?_
                have hc0 : 0 + 0 ≤ 0 := by omega
                have hs0 : 0 + 0 ≤ 0 := by omega
                have hPc := hP.sub (ws' := [(h0, .inr (3, [.ref a1, .ref dv, .int md, .int bk, .ref a2, .ref a3, .ref a4, .ref wd, .ref lt, .ref bu, .ref st, .ref le, .ref nx, .ref ow, .int (nI sn), .ref sp, .ref ky, .ref sm, .int sk])), (le, .inl (cle, 64, .inl lef)), (st, .inl (cst, 64, .inl stf)), (lt, .inr (0, [.ref lta, .int (nI lk)])), (lta, .inl (clt, 512, .inl ltf)), (tx, .inr (0, [.ref txa, .int txk])), (txa, .inl (ctx, txn, .inl txf))]) [0, 2, 1, 6, 7, 8, 9] rfl
                have hDc := hD.sub (ws' := [(h0, .inr (3, [.ref a1, .ref dv, .int md, .int bk, .ref a2, .ref a3, .ref a4, .ref wd, .ref lt, .ref bu, .ref st, .ref le, .ref nx, .ref ow, .int (nI sn), .ref sp, .ref ky, .ref sm, .int sk])), (le, .inl (cle, 64, .inl lef)), (st, .inl (cst, 64, .inl stf)), (lt, .inr (0, [.ref lta, .int (nI lk)])), (lta, .inl (clt, 512, .inl ltf)), (tx, .inr (0, [.ref txa, .int txk])), (txa, .inl (ctx, txn, .inl txf))]) [0, 2, 1, 6, 7, 8, 9] (by decide) rfl
                have hKc := hK.sub (tys' := [(cle, .int), (cst, .int), (clt, .byte), (ctx, .byte)]) [1, 0, 5, 6] rfl
                have hFc := va_free (wc := [(h0, .inr (3, [.ref a1, .ref dv, .int md, .int bk, .ref a2, .ref a3, .ref a4, .ref wd, .ref lt, .ref bu, .ref st, .ref le, .ref nx, .ref ow, .int (nI sn), .ref sp, .ref ky, .ref sm, .int sk])), (le, .inl (cle, 64, .inl lef)), (st, .inl (cst, 64, .inl stf)), (lt, .inr (0, [.ref lta, .int (nI lk)])), (lta, .inl (clt, 512, .inl ltf)), (tx, .inr (0, [.ref txa, .int txk])), (txa, .inl (ctx, txn, .inl txf))]) hD hS hA [0, 2, 1, 6, 7, 8, 9] rfl
                refine va_calli (va_runV (As := [.int (nI j), .ref tx, .int fr]) (rest := []) ⟨hx, hb, hml, hown, htw⟩ (c_Schema_isName l dC dI H.size h0 a1 dv md bk a2 a3 a4 wd lt bu st le nx ow (nI sn) sp ky sm sk cle lef cst stf lta clt ltf (nI lk) tx txa ctx txn txf txk j fr (by omega) (by omega)) (cwV 3 htw (tw_V wd_2_3 wd_2_5 wp_1_1 wd_1_3 k_Schema_isName) rfl rfl rfl (by decide +kernel) ⟨Nat.le_of_ble_eq_true rfl, Nat.le_of_ble_eq_true rfl⟩) ⟨fun a U g mk q => by obtain ⟨q0, q1, qP, qK, qD⟩ := q; exact ⟨q0, q1, qP, va_K.moved (u := U) (U := U.calling g mk a) (Vm.Alike.refl U.vm) qK, qD⟩, va_recv hK hP (q := (R_Schema, F_Schema, 19)) (ci := 3) (q0 := 0) rfl rfl, fun U hU hW => ⟨rfl, by rw [hU], by rw [hU]; exact hPc, va_K.moved hW.alike hKc, hDc.weaken (fun _ _ _ _ => trivial)⟩⟩ rfl rfl hl.1 rfl (lv_room (Nat.le_of_ble_eq_true rfl)) d_Schema_symbol_78 ⟨hc0, hs0⟩) hS (fun q _ h => hFc q h) hFc (fun r3 u t H1 locs ht hvm hw hB hz1 hk1 hS => ?_)
                obtain ⟨hP1, hK1, hD1⟩ := hB
                rw [ht] at hP1
                have hK1 := va_K.moved hvm.symm hK1
                obtain ⟨hP, hD⟩ := va_join (wr := [(nx, .inl (cnx, 64, .inl nxf)), (ow, .inl (cow, 64, .inl owf)), (bu, .inl (cbu, 256, .inl buf))]) (w1 := [(h0, .inr (3, [.ref a1, .ref dv, .int md, .int bk, .ref a2, .ref a3, .ref a4, .ref wd, .ref lt, .ref bu, .ref st, .ref le, .ref nx, .ref ow, .int (nI sn), .ref sp, .ref ky, .ref sm, .int sk])), (le, .inl (cle, 64, .inl lef)), (st, .inl (cst, 64, .inl stf)), (lt, .inr (0, [.ref lta, .int (nI lk)])), (lta, .inl (clt, 512, .inl ltf)), (tx, .inr (0, [.ref txa, .int txk])), (txa, .inl (ctx, txn, .inl txf))]) hP hD [0, 2, 1, 6, 7, 8, 9] [3, 4, 5] rfl rfl (by decide) (by decide) hk1 hFc hP1 hD1
                have hK := (hK.sub (tys' := [(cnx, .int), (cow, .int), (cbu, .int)]) [2, 3, 4] rfl).app hK1
                generalize H1 = H at hP hS ⊢
                have hP : va_P (dC, dI) classes [(nx, .inl (cnx, 64, .inl nxf)), (ow, .inl (cow, 64, .inl owf)), (bu, .inl (cbu, 256, .inl buf)), (h0, .inr (3, [.ref a1, .ref dv, .int md, .int bk, .ref a2, .ref a3, .ref a4, .ref wd, .ref lt, .ref bu, .ref st, .ref le, .ref nx, .ref ow, .int (nI sn), .ref sp, .ref ky, .ref sm, .int sk])), (le, .inl (cle, 64, .inl lef)), (st, .inl (cst, 64, .inl stf)), (lt, .inr (0, [.ref lta, .int (nI lk)])), (lta, .inl (clt, 512, .inl ltf)), (tx, .inr (0, [.ref txa, .int txk])), (txa, .inl (ctx, txn, .inl txf))] H := hP
                have hD : va_D A [(nx, .inl (cnx, 64, .inl nxf)), (ow, .inl (cow, 64, .inl owf)), (bu, .inl (cbu, 256, .inl buf)), (h0, .inr (3, [.ref a1, .ref dv, .int md, .int bk, .ref a2, .ref a3, .ref a4, .ref wd, .ref lt, .ref bu, .ref st, .ref le, .ref nx, .ref ow, .int (nI sn), .ref sp, .ref ky, .ref sm, .int sk])), (le, .inl (cle, 64, .inl lef)), (st, .inl (cst, 64, .inl stf)), (lt, .inr (0, [.ref lta, .int (nI lk)])), (lta, .inl (clt, 512, .inl ltf)), (tx, .inr (0, [.ref txa, .int txk])), (txa, .inl (ctx, txn, .inl txf))] := hD
                have hK : va_K (dC, dI) classes [(cnx, .int), (cow, .int), (cbu, .int), (cle, .int), (cst, .int), (clt, .byte), (ctx, .byte)] s := hK
                have hw_r3 := hw
                refine lv_if_eq (tgt := 87) hx hb d_Schema_symbol_81 rfl (fun h5 => ?_) (fun h5 => ?_)
                · refine lv_aload_n hx hb d_Schema_symbol_87 rfl (lv_at hl 2 rfl) ?_
                  refine va_get (D := (dC, dI)) (ci := 3) (v := .ref nx) (C := R_Schema) (T := F_Schema) (N := 19) hx hb htw i_Schema hown hK hP 3 rfl rfl 12 (by decide) (htw _ wd_2_34) (fun _ h9 => h9) rfl d_Schema_symbol_88 ?_
                  refine lv_iload hx hb d_Schema_symbol_91 (lv_at hl 0 rfl) ?_
                  refine va_iald hx hb hK hP 0 0 rfl rfl (vp_in_nI (by omega) (by decide)) d_Schema_symbol_93 ?_
                  obtain ⟨q2, hq2, eq2⟩ := hinv.1 j (by omega)
                  refine lv_topi (fun z9 e9 => ?_)
                  have e9 : z9 = nI q2 - 1 := e9.trans (by rw [nI_clamp (by omega)]; exact eq2)
                  subst e9
                  refine lv_istore hx hb d_Schema_symbol_94 hl (by decide) rfl (fun ls hl => ?_)
                  have hl : lv_has ls 8 [(7, .int (nI q2 - 1)), (6, .int (nI b)), (0, .ref h0), (1, .ref tx), (2, .int fr), (3, .int (nI ln)), (4, .int 1)] := hl
                  refine lv_goto (tgt := 57) hx hb d_Schema_symbol_96 rfl ?_
                  exact ih q2 _ _ _ (by omega) (by omega) (lv_sub hl [0, 1, 2, 3, 4, 5, 6] rfl) (hP.sub [3, 5, 4, 0, 1, 2, 6, 7, 8, 9] rfl) (hD.sub [3, 5, 4, 0, 1, 2, 6, 7, 8, 9] (by decide) rfl) hS
                · refine lv_iload hx hb d_Schema_symbol_84 (lv_at hl 0 rfl) ?_
                  have hP9 := hP.sub (ws' := [(h0, .inr (3, [.ref a1, .ref dv, .int md, .int bk, .ref a2, .ref a3, .ref a4, .ref wd, .ref lt, .ref bu, .ref st, .ref le, .ref nx, .ref ow, .int (nI sn), .ref sp, .ref ky, .ref sm, .int sk])), (st, .inl (cst, 64, .inl stf)), (le, .inl (cle, 64, .inl lef)), (nx, .inl (cnx, 64, .inl nxf)), (ow, .inl (cow, 64, .inl owf)), (bu, .inl (cbu, 256, .inl buf)), (lt, .inr (0, [.ref lta, .int (nI lk)])), (lta, .inl (clt, 512, .inl ltf)), (tx, .inr (0, [.ref txa, .int txk])), (txa, .inl (ctx, txn, .inl txf))]) [3, 5, 4, 0, 1, 2, 6, 7, 8, 9] rfl
                  have hD9 := hD.sub (ws' := [(h0, .inr (3, [.ref a1, .ref dv, .int md, .int bk, .ref a2, .ref a3, .ref a4, .ref wd, .ref lt, .ref bu, .ref st, .ref le, .ref nx, .ref ow, .int (nI sn), .ref sp, .ref ky, .ref sm, .int sk])), (st, .inl (cst, 64, .inl stf)), (le, .inl (cle, 64, .inl lef)), (nx, .inl (cnx, 64, .inl nxf)), (ow, .inl (cow, 64, .inl owf)), (bu, .inl (cbu, 256, .inl buf)), (lt, .inr (0, [.ref lta, .int (nI lk)])), (lta, .inl (clt, 512, .inl ltf)), (tx, .inr (0, [.ref txa, .int txk])), (txa, .inl (ctx, txn, .inl txf))]) [3, 5, 4, 0, 1, 2, 6, 7, 8, 9] (by decide) rfl
                  have hK9 := hK.sub (tys' := [(cst, .int), (cle, .int), (cnx, .int), (cow, .int), (cbu, .int), (clt, .byte), (ctx, .byte)]) [4, 3, 0, 1, 2, 5, 6] rfl
                  refine W.widen (k := 0) (n := 0) (by omega) (by omega) ?_
                  exact W.iret (v := nI j) hx hb hr (fun t ht hW => ⟨⟨nI j, (), rfl, trivial, sn, lk, stf, lef, nxf, owf, buf, ltf, by omega, by omega, hinv, by rw [ht]; exact hP9, va_K.moved hW.alike hK9, hD9⟩, hS.F ht⟩) hS.2.2 d_Schema_symbol_86
        exact lp2 (q + 1) q _ _ _ hq (Nat.lt_succ_self _) (lv_sub hl [0, 1, 3, 4, 5, 6, 7] rfl) (hP.sub [0, 1, 2, 3, 4, 5, 6, 7, 8, 9] rfl) (hD.sub [0, 1, 2, 3, 4, 5, 6, 7, 8, 9] (by decide) rfl) hS
      · have h2 : i < ln := by have := (not_congr (nI_leI (by omega) (by omega))).mp h1; omega
        refine lv_bipush (v := 31) hx hb d_Schema_symbol_12 (by decide) ?_
        refine lv_iload hx hb d_Schema_symbol_14 (lv_at hl 1 rfl) ?_
        refine lv_imul hx hb d_Schema_symbol_16 ?_
        refine lv_aload_n hx hb d_Schema_symbol_17 rfl (lv_at hl 3 rfl) ?_
        refine lv_iload_n hx hb d_Schema_symbol_18 rfl (lv_at hl 4 rfl) ?_
        refine lv_iload hx hb d_Schema_symbol_19 (lv_at hl 0 rfl) ?_
        refine lv_iadd hx hb d_Schema_symbol_21 ?_
        have hc0 : 0 + 0 ≤ 0 := by omega
        have hs0 : 0 + 0 ≤ 0 := by omega
        have hPc := hP.sub (ws' := [(tx, .inr (0, [.ref txa, .int txk])), (txa, .inl (ctx, txn, .inl txf))]) [8, 9] rfl
        have hDc := hD.sub (ws' := [(tx, .inr (0, [.ref txa, .int txk])), (txa, .inl (ctx, txn, .inl txf))]) [8, 9] (by decide) rfl
        have hKc := hK.sub (tys' := [(ctx, .byte)]) [6] rfl
        have hFc := va_free (wc := [(tx, .inr (0, [.ref txa, .int txk])), (txa, .inl (ctx, txn, .inl txf))]) hD hS hA [8, 9] rfl
        refine va_calli (va_runV (As := [.int (fr + (nI i))]) (rest := [.int (31 * hs)]) ⟨hx, hb, hml, hown, htw⟩ (c_Bytes_get l dC dI H.size tx txa ctx txn txf txk (fr + (nI i)) (by omega)) (cwV 1 htw (tw_V wd_1_235 wd_1_236 wd_1_237 wd_1_2 k_Bytes_get) rfl rfl rfl (by decide +kernel) ⟨Nat.le_of_ble_eq_true rfl, Nat.le_of_ble_eq_true rfl⟩) ⟨fun a U g mk q => by obtain ⟨q0, q1, qP, qK, qD⟩ := q; exact ⟨q0, q1, qP, va_K.moved (u := U) (U := U.calling g mk a) (Vm.Alike.refl U.vm) qK, qD⟩, va_recv hK hP (q := (R_Bytes, F_Bytes, 2)) (ci := 0) (q0 := 8) rfl rfl, fun U hU hW => ⟨rfl, by rw [hU], by rw [hU]; exact hPc, va_K.moved hW.alike hKc, hDc.weaken (fun _ _ _ _ => trivial)⟩⟩ rfl rfl hl.1 rfl (lv_room (Nat.le_of_ble_eq_true rfl)) d_Schema_symbol_22 ⟨hc0, hs0⟩) hS (fun q _ h => hFc q h) hFc (fun r4 u t H1 locs ht hvm hw hB hz1 hk1 hS => ?_)
        obtain ⟨hP1, hK1, hD1⟩ := hB
        rw [ht] at hP1
        have hK1 := va_K.moved hvm.symm hK1
        obtain ⟨hP, hD⟩ := va_join (wr := [(h0, .inr (3, [.ref a1, .ref dv, .int md, .int bk, .ref a2, .ref a3, .ref a4, .ref wd, .ref lt, .ref bu, .ref st, .ref le, .ref nx, .ref ow, .int (nI sn), .ref sp, .ref ky, .ref sm, .int sk])), (st, .inl (cst, 64, .inl stf)), (le, .inl (cle, 64, .inl lef)), (nx, .inl (cnx, 64, .inl nxf)), (ow, .inl (cow, 64, .inl owf)), (bu, .inl (cbu, 256, .inl buf)), (lt, .inr (0, [.ref lta, .int (nI lk)])), (lta, .inl (clt, 512, .inl ltf))]) (w1 := [(tx, .inr (0, [.ref txa, .int txk])), (txa, .inl (ctx, txn, .inl txf))]) hP hD [8, 9] [0, 1, 2, 3, 4, 5, 6, 7] rfl rfl (by decide) (by decide) hk1 hFc hP1 hD1
        have hK := (hK.sub (tys' := [(cst, .int), (cle, .int), (cnx, .int), (cow, .int), (cbu, .int), (clt, .byte)]) [0, 1, 2, 3, 4, 5] rfl).app hK1
        generalize H1 = H at hP hS ⊢
        have hP : va_P (dC, dI) classes [(h0, .inr (3, [.ref a1, .ref dv, .int md, .int bk, .ref a2, .ref a3, .ref a4, .ref wd, .ref lt, .ref bu, .ref st, .ref le, .ref nx, .ref ow, .int (nI sn), .ref sp, .ref ky, .ref sm, .int sk])), (st, .inl (cst, 64, .inl stf)), (le, .inl (cle, 64, .inl lef)), (nx, .inl (cnx, 64, .inl nxf)), (ow, .inl (cow, 64, .inl owf)), (bu, .inl (cbu, 256, .inl buf)), (lt, .inr (0, [.ref lta, .int (nI lk)])), (lta, .inl (clt, 512, .inl ltf)), (tx, .inr (0, [.ref txa, .int txk])), (txa, .inl (ctx, txn, .inl txf))] H := hP
        have hD : va_D A [(h0, .inr (3, [.ref a1, .ref dv, .int md, .int bk, .ref a2, .ref a3, .ref a4, .ref wd, .ref lt, .ref bu, .ref st, .ref le, .ref nx, .ref ow, .int (nI sn), .ref sp, .ref ky, .ref sm, .int sk])), (st, .inl (cst, 64, .inl stf)), (le, .inl (cle, 64, .inl lef)), (nx, .inl (cnx, 64, .inl nxf)), (ow, .inl (cow, 64, .inl owf)), (bu, .inl (cbu, 256, .inl buf)), (lt, .inr (0, [.ref lta, .int (nI lk)])), (lta, .inl (clt, 512, .inl ltf)), (tx, .inr (0, [.ref txa, .int txk])), (txa, .inl (ctx, txn, .inl txf))] := hD
        have hK : va_K (dC, dI) classes [(cst, .int), (cle, .int), (cnx, .int), (cow, .int), (cbu, .int), (clt, .byte), (ctx, .byte)] s := hK
        subst hw
        refine lv_iadd hx hb d_Schema_symbol_25 ?_
        refine lv_istore hx hb d_Schema_symbol_26 hl (by decide) rfl (fun ls hl => ?_)
        have hl : lv_has ls 8 [(5, .int ((31 * hs) + (tz_gb txn txf txk (fr + (nI i))))), (6, .int (nI i)), (0, .ref h0), (1, .ref tx), (2, .int fr), (3, .int (nI ln)), (4, .int 1)] := hl
        refine lv_iinc (k := 1) (v := nI (i + 1)) hx hb d_Schema_symbol_28 hl rfl (nI_1 i) (by decide) rfl (fun ls hl => ?_)
        have hl : lv_has ls 8 [(6, .int (nI (i + 1))), (5, .int ((31 * hs) + (tz_gb txn txf txk (fr + (nI i))))), (0, .ref h0), (1, .ref tx), (2, .int fr), (3, .int (nI ln)), (4, .int 1)] := hl
        refine lv_goto (tgt := 6) hx hb d_Schema_symbol_31 rfl ?_
        exact ih ((i + 1)) ((31 * hs) + (tz_gb txn txf txk (fr + (nI i)))) _ _ _ (by omega) (by omega) (lv_sub hl [0, 1, 2, 3, 4, 5, 6] rfl) (hP.sub [0, 1, 2, 3, 4, 5, 6, 7, 8, 9] rfl) (hD.sub [0, 1, 2, 3, 4, 5, 6, 7, 8, 9] (by decide) rfl) hS
  exact lp ((ln - 0) + 1) 0 ((nI ln)) _ _ _ (by omega) (Nat.lt_succ_self _) (lv_sub hl [0, 1, 2, 3, 4, 5, 6] rfl) (hP.sub [0, 1, 2, 3, 4, 5, 6, 7, 8, 9] rfl) (hD.sub [0, 1, 2, 3, 4, 5, 6, 7, 8, 9] (by decide) rfl) hS
