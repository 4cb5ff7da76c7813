/-! multianewarray, two dimensions, what it makes left unread (own rows; tm_) -/
section TMA
variable {p : Program} {l : Launch} {e : Env} {R : Room} {s : State} {m : MethodId} {args : Array Value} {below : List Frame} {meth : Method} {c : Code} {locs : List Loc} {cells slots : Nat}
/-- T0 with one array of N more, at its end, and i rows of M behind it, each hung into that array; nothing that was there is changed -/
def tm_In (p : Program) (l : Launch) (e : Env) (R : Room) (s : State) (m : MethodId) (args : Array Value) (below : List Frame) (meth : Method) (c : Code) (T0 : State) (locs : List Loc) (cells slots : Nat) (cA : ClassId) (N M i : Nat) (U : State) : Prop :=
  ∃ L : List Loc, Stand p l e R s m args below meth c U (locs ++ L) (cells + 1 + i) (slots + N + i * M) ∧ (∀ z ∈ L, z.base = T0.heap.size) ∧ U.vm = T0.vm ∧ U.heap.size = T0.heap.size + 1 + i ∧ (∀ q : Nat, q < T0.heap.size → U.heap[q]? = T0.heap[q]?) ∧
    ∃ cell : Cell, U.heap[T0.heap.size]? = some cell ∧ cell.cls = cA ∧ cell.vm = .none ∧ cell.slots.size = N
theorem tm_first {T0 : State} (X : Stand p l e R s m args below meth c T0 locs cells slots) (cA : ClassId) (N M : Nat) :
    tm_In p l e R s m args below meth c T0 locs cells slots cA N M 0 (T0.pushCell { cls := cA, slots := Array.replicate N .null, vm := .none }) := by
  have h := X.pushed { cls := cA, slots := Array.replicate N .null, vm := .none }
  refine ⟨[], (by simpa using h), (fun z hz => by cases hz), rfl, (by simp), fun q hq => State.heap_pushCell_of_lt _ _ hq, _, State.heap_pushCell_size _ _, rfl, rfl, by simp⟩
theorem tm_next {T0 U : State} {cA comp : ClassId} {N M i : Nat} (h : tm_In p l e R s m args below meth c T0 locs cells slots cA N M i U) {cell : Cell} (hc : U.heap[T0.heap.size]? = some cell) (dv v : Value) :
    tm_In p l e R s m args below meth c T0 locs cells slots cA N M (i + 1) ((U.pushCell { cls := comp, slots := Array.replicate M dv, vm := .none }).setCell T0.heap.size (cell.setSlot i v)) := by
  obtain ⟨L, X, hL, hvm, hz, ho, c0, g1, g2, g3, g4⟩ := h
  obtain rfl : cell = c0 := Option.some.inj (hc.symm.trans g1)
  have hlt : T0.heap.size < U.heap.size := by omega
  have hc' : (U.pushCell { cls := comp, slots := Array.replicate M dv, vm := .none }).heap[T0.heap.size]? = some cell := by rw [State.heap_pushCell_of_lt (h := hlt)]; exact hc
  have h1 := (X.pushed { cls := comp, slots := Array.replicate M dv, vm := .none }).stored hc' i v
  have e1 : (i + 1) * M = i * M + M := Nat.succ_mul i M
  refine ⟨L ++ [⟨T0.heap.size, i⟩], ?_, ?_, hvm, ?_, fun q hq => ?_, cell.setSlot i v, State.heap_setCell_self hc', g2, g3, ?_⟩
  · rw [e1, ← List.append_assoc, ← Nat.add_assoc, ← Nat.add_assoc]
    simpa using h1
  · intro z hz9
    rcases List.mem_append.mp hz9 with h | h
    · exact hL z h
    · rw [List.mem_singleton.mp h]
  · simp [State.setCell, hz]; omega
  · rw [State.heap_setCell_other (Nat.ne_of_gt hq), State.heap_pushCell_of_lt (h := (by omega : q < U.heap.size))]; exact ho q hq
  · simp [Cell.setSlot, g4]
/-- the state itself, row by row -/
def tm_st (T0 : State) (cA comp : ClassId) (N M : Nat) (dv : Value) : Nat → State
  | 0 => T0.pushCell { cls := cA, slots := Array.replicate N .null, vm := .none }
  | i + 1 =>
    match (tm_st T0 cA comp N M dv i).heap[T0.heap.size]? with
    | some c9 => ((tm_st T0 cA comp N M dv i).pushCell { cls := comp, slots := Array.replicate M dv, vm := .none }).setCell T0.heap.size (c9.setSlot i (.ref (tm_st T0 cA comp N M dv i).heap.size))
    | none => tm_st T0 cA comp N M dv i
theorem tm_st_s {T0 : State} {cA comp : ClassId} {N M i : Nat} {dv : Value} {cell : Cell} (h : (tm_st T0 cA comp N M dv i).heap[T0.heap.size]? = some cell) :
    tm_st T0 cA comp N M dv (i + 1) = ((tm_st T0 cA comp N M dv i).pushCell { cls := comp, slots := Array.replicate M dv, vm := .none }).setCell T0.heap.size (cell.setSlot i (.ref (tm_st T0 cA comp N M dv i).heap.size)) := by
  rw [tm_st, h]
theorem tm_st_In {T0 : State} (X : Stand p l e R s m args below meth c T0 locs cells slots) (cA comp : ClassId) (N M : Nat) (dv : Value) : ∀ i, tm_In p l e R s m args below meth c T0 locs cells slots cA N M i (tm_st T0 cA comp N M dv i)
  | 0 => tm_first X cA N M
  | i + 1 => by
    have h := tm_st_In X cA comp N M dv i
    have h' := h
    obtain ⟨L, -, -, -, -, -, c0, g1, -, -, -⟩ := h'
    rw [tm_st_s g1]
    exact tm_next h g1 dv _
theorem tm_fit {t : FieldType} (v : Value) (hv : v = .null ∨ ∃ a, v = .ref a) : fits (.array t) v = true := by
  rcases hv with rfl | ⟨a, rfl⟩ <;> rfl
theorem tm_make {E : CtlPost} {d : Bool} {acts : List Action} {T0 : State} {f : JFrame} (X : Stand p l e R s m args below meth c T0 locs cells slots) {cA comp cc : ClassId} {kA kC : Class} {ty : FieldType} {n k : Int32}
    (hkA : T0.vm.classes[cA]? = some kA) (hA : kA.kind = .array comp (.array ty)) (hkC : T0.vm.classes[comp]? = some kC) (hC : kC.kind = .array cc ty) (hn : ¬ n < 0) (hk : ¬ k < 0)
    (hl1 : ¬ n.toNatClampNeg > e.platform.arrayLengthLimit) (hh1 : ¬ n.toNatClampNeg * componentBytes (.array ty) > e.platform.maxHeapBytes) (hl2 : ¬ k.toNatClampNeg > e.platform.arrayLengthLimit) (hh2 : ¬ k.toNatClampNeg * componentBytes ty > e.platform.maxHeapBytes)
    (hdf : fits ty (defaultValue ty) = true) (hcl : cells + (1 + n.toNatClampNeg) ≤ R.cells) (hsl : slots + (n.toNatClampNeg + n.toNatClampNeg * k.toNatClampNeg) ≤ R.slots)
    {Q : Addr → Pre} (hq : ∀ d' acts', Q T0.heap.size d' acts' ((tm_st T0 cA comp n.toNatClampNeg k.toNatClampNeg (defaultValue ty) n.toNatClampNeg).setTop f)) :
    wp (multianewarray.make cA [n, k]) Q E e d acts (T0.setTop f) := by
  generalize hN : n.toNatClampNeg = N at hl1 hh1 hcl hsl hq
  generalize hM : k.toNatClampNeg = M at hl2 hh2 hsl hq
  have hfind : ([k].find? (· < 0)) = none := by simp [hk]
  obtain ⟨r1, r2⟩ := X.roomAbove (a := 1) (b := N) (by omega) (by omega)
  rw [multianewarray.make]
  simp only [wp_bind', W.ite, hn, if_false, wp_pure', W.theClass, State.vm_setTop, hkA, hA, Option.some.injEq, exists_eq_left', hN]
  refine W.newArray_of (s := T0.setTop f) hkA hA hl1 hh1 (by show T0.heap.size < _; omega) (by show T0.slotsUsed + _ ≤ _; omega) (tm_fit _ (Or.inl rfl)) (fun a1 => ?_)
  simp only [hfind]
  rw [ite_self, wp_bind', Std.Legacy.Range.forIn_eq_forIn_range', show ([:N] : Std.Legacy.Range).size = N by simp [Std.Legacy.Range.size]]
  refine wp_forIn_inv (fun rs s' => ∃ i, i ≤ N ∧ rs = List.range' i (N - i) ∧ s' = (tm_st T0 cA comp N M (defaultValue ty) i).setTop f) _ _ ⟨0, Nat.zero_le _, rfl, rfl⟩ ?_ ?_
  · rintro x rs s' d1 a1 Q1 ⟨i, hi, hr, rfl⟩ hnext
    obtain ⟨j, hj⟩ : ∃ j, N - i = j + 1 := by
      cases h9 : N - i with
      | zero => rw [h9] at hr; cases hr
      | succ j => exact ⟨j, rfl⟩
    rw [hj, List.range'_succ] at hr
    obtain ⟨rfl, rfl⟩ := List.cons.inj hr
    have hU := tm_st_In X cA comp N M (defaultValue ty) x
    have hst9 := fun c9 => tm_st_s (cell := c9) (T0 := T0) (cA := cA) (comp := comp) (N := N) (M := M) (i := x) (dv := defaultValue ty)
    generalize tm_st T0 cA comp N M (defaultValue ty) x = U at hU hst9 ⊢
    obtain ⟨L, XU, hL, hvm, hz, ho, c0, g1, g2, g3, g4⟩ := hU
    have hmul : x * M + M ≤ N * M := by have := Nat.mul_le_mul_right M (show x + 1 ≤ N by omega); rwa [Nat.succ_mul] at this
    obtain ⟨r3, r4⟩ := XU.roomAbove (a := 1) (b := M) (by omega) (by omega)
    simp only [wp_bind']
    rw [multianewarray.make]
    simp only [wp_bind', W.ite, hk, if_false, wp_pure', W.theClass, State.vm_setTop, hvm, hkC, hC, Option.some.injEq, exists_eq_left', hM]
    refine W.newArray_of (s := U.setTop f) (by show U.vm.classes[comp]? = _; rw [hvm]; exact hkC) hC hl2 hh2 (by show U.heap.size < _; omega) (by show U.slotsUsed + _ ≤ _; omega) hdf (fun a2 => ?_)
    have hlt : T0.heap.size < U.heap.size := by omega
    simp only [wp_bind', W.writeLoc, wp_pure']
    refine ⟨c0, by show (U.pushCell _).heap[T0.heap.size]? = _; rw [State.heap_pushCell_of_lt (h := hlt)]; exact g1, by rw [g3]; simp, by rw [g4]; omega, ?_, hnext _ _ _ ⟨x + 1, by omega, by rw [show N - (x + 1) = j by omega], ?_⟩⟩
    · rw [g2, g3]
      simp [State.fitsSlot, State.slotType?, hvm, hkA, hA, tm_fit (t := ty) _ (Or.inr ⟨_, rfl⟩)]
    · rw [hst9 c0 g1]; rfl
  · rintro s' d1 a1 ⟨i, hi, hr, rfl⟩
    have hiN : i = N := by
      cases h9 : N - i with
      | zero => omega
      | succ j => rw [h9, List.range'_succ] at hr; cases hr
    subst hiN
    simp only [wp_pure']
    exact hq _ _
/-- arrays of arrays of t are there -/
def tm_AO (t : FieldType) (U : State) : Prop := ∃ (comp cA : ClassId) (k : Class), U.vm.findClass (FieldType.array t).toString = some comp ∧ U.vm.classes[cA]? = some k ∧ k.kind = .array comp (.array t) ∧ U.vm.findClass ("[" ++ (FieldType.array t).toString) = some cA
theorem tm_AO.moved {t : FieldType} {u U : State} (hvm : u.vm.Alike U.vm) (h : tm_AO t u) : tm_AO t U := by
  obtain ⟨comp, cA, k, h1, h2, h3, h4⟩ := h
  obtain ⟨k', hk', he⟩ := hvm.2.2 _ _ h2
  exact ⟨comp, cA, k', by rw [hvm.findClass]; exact h1, hk', by rw [he]; exact h3, by rw [hvm.findClass]; exact h4⟩
theorem tm_AO.of {s : State} {args : Array Value} {t : FieldType} (h : (Cond.arrayOver (.array t)).before args s = true) : tm_AO t s := by
  simp only [Cond.before, Cond.holds, Cond.value, beq_iff_eq] at h
  cases hc : s.vm.findClass (FieldType.array t).toString with
  | none => simp [hc] at h
  | some comp =>
    simp only [hc, Option.bind_some, Option.bind_eq_some_iff, Option.map_eq_some_iff] at h
    obtain ⟨cA, hi, k, hk, hb⟩ := h
    have hp := (Array.findIdx?_eq_some_iff_getElem.mp hi).2.1
    rw [(Array.getElem?_eq_some_iff.mp hk).2] at hp
    cases hkind : k.kind with
    | array component ty =>
      rw [hkind] at hb hp
      simp at hb hp
      exact ⟨comp, cA, k, hc, hk, by rw [hkind, hp, hb.1], hb.2⟩
    | _ => rw [hkind] at hb; simp at hb
theorem tm_step {T : State} (X : Stand p l e R s m args below meth c T locs cells slots) (hexec : p.tables.exec = Jvm.exec) {own : String} {index : Nat} {ty : FieldType} (hown : s.vm.findClass own = some m.cls)
    (hclink : (Cond.classLink own index ("[" ++ (FieldType.array ty).toString)).before args s = true) (hover : tm_AO ty s) (harr : (Cond.arrayClass ty).before args s = true)
    {g : JFrame} (hg : g.method = m) (hdg : decode c.code g.pc = .ok (.multianewarray index 2, 4)) {n k : Int32} {rest : List Value} (hst : g.stack = .int k :: .int n :: rest) (hn : ¬ n < 0) (hk : ¬ k < 0)
    (hb1 : n.toNatClampNeg * 4 ≤ 536870912) (hb2 : k.toNatClampNeg * componentBytes ty ≤ 536870912) (hb3 : k.toNatClampNeg ≤ 536870912) (hdf : fits ty (defaultValue ty) = true)
    (hcl : cells + (1 + n.toNatClampNeg) ≤ R.cells) (hsl : slots + (n.toNatClampNeg + n.toNatClampNeg * k.toNatClampNeg) ≤ R.slots) {P : State → Prop}
    (kk : ∀ (U : State) (L : List Loc), Stand p l e R s m args below meth c U (locs ++ L) (cells + 1 + n.toNatClampNeg) (slots + n.toNatClampNeg + n.toNatClampNeg * k.toNatClampNeg) → (∀ z ∈ L, z.base = T.heap.size) → T.heap.size < U.heap.size → (∀ q : Nat, q < T.heap.size → U.heap[q]? = T.heap[q]?) →
      ∃ t, Steps p.tables e below (U.setTop { g with pc := g.pc + 4, stack := .ref T.heap.size :: rest }) t ∧ P t) : ∃ t, Steps p.tables e below (T.setTop g) t ∧ P t := by
  subst hg
  have hpl : e.platform.magicAccessors = ({} : Platform).magicAccessors := by rw [X.admits.platform]
  obtain ⟨comp, cA, kA, hcomp, hkA, hkindA, hnameA⟩ := hover
  obtain ⟨comp', kC, cc, hcomp', hkC, hkindC⟩ := Cond.arrayClass_spec harr
  obtain rfl : comp' = comp := Option.some.inj (hcomp'.symm.trans hcomp)
  obtain ⟨c0, hfc0, hcl0⟩ := Cond.classLink_spec hown hclink e.platform hpl
  cases hnameA.symm.trans hfc0
  obtain ⟨hg1, hw1, hr1⟩ := State.classEntry (e := e) X.warmed hcl0
  generalize T.vm.noted g.method.cls index (.cls cA) = vm1 at hg1 hw1 hr1
  obtain ⟨kA1, hkA1, heA⟩ := hw1.alike.2.2 _ _ hkA
  obtain ⟨kC1, hkC1, heC⟩ := hw1.alike.2.2 _ _ hkC
  have X1 := X.noted hw1
  have hl1 : ¬ n.toNatClampNeg > e.platform.arrayLengthLimit := by rw [Launch.admits_arrayLengthLimit X.admits]; omega
  have hh1 : ¬ n.toNatClampNeg * componentBytes (.array ty) > e.platform.maxHeapBytes := by rw [Launch.admits_maxHeapBytes X.admits]; show ¬ n.toNatClampNeg * 4 > 536870912; omega
  have hl2 : ¬ k.toNatClampNeg > e.platform.arrayLengthLimit := by rw [Launch.admits_arrayLengthLimit X.admits]; omega
  have hh2 : ¬ k.toNatClampNeg * componentBytes ty > e.platform.maxHeapBytes := by rw [Launch.admits_maxHeapBytes X.admits]; omega
  obtain ⟨L, XU, hL, hvm, hz, ho, -⟩ := tm_st_In X1 cA comp' n.toNatClampNeg k.toNatClampNeg (defaultValue ty) n.toNatClampNeg
  obtain ⟨t, st, hP⟩ := kk _ L XU hL (by rw [hz]; show T.heap.size < T.heap.size + 1 + _; omega) ho
  refine ⟨t, ?_, hP⟩
  jvm_step X.here [hexec, hdg]
  simp only [multianewarray.sem, wp_bind', W.resolveClassAt_links (State.method?_setTop g X.here.top) hg1]
  rw [W.popN, if_neg (by decide)]
  refine ⟨g, State.topJava?_setTop' (s := T.setVm vm1) g X.here.top, [.int n, .int k], rest, rfl, hst, ?_⟩
  simp only [List.mapM_cons, List.mapM_nil, wp_bind', wp_pure']
  have eS : ((T.setTop g).setVm vm1).setTop { g with stack := rest } = (T.setVm vm1).setTop { g with stack := rest } := by
    show ((T.setVm vm1).setTop g).setTop _ = _
    rw [State.setTop_setTop]
  rw [eS]
  refine tm_make X1 (kA := kA1) (kC := kC1) (comp := comp') (cc := cc) (ty := ty) hkA1 (by rw [heA]; exact hkindA) hkC1 (by rw [heC]; exact hkindC) hn hk hl1 hh1 hl2 hh2 hdf hcl hsl (fun d' acts' => ?_)
  simp only [wp_bind', W.mark, W.pushRef, State.topJava?_setTop' _ XU.here.top, Option.some.injEq, exists_eq_left', State.setTop_setTop, State.heap_setTop]
  intro acts
  simp [jvm, XU.here.top]
  exact st
end TMA
section TMB
variable {p : Program} {l : Launch} {e : Env} {R : Room} {s : State} {m : MethodId} {args : Array Value} {below : List Frame} {meth : Method} {c : Code} {H : Heap} {locs : List Loc} {cells slots : Nat} {Q : State → Prop}
  {cc : ByteArray} {pc : Nat} {ls : Array Slot} {rest : List Value} {D : va_G} {cl : List vw_C} {ws : va_W} {A : Nat → Prop}
theorem tm_multi (hexec : p.tables.exec = Jvm.exec) (hb : c.code = cc) {own nm : String} {index : Nat} {ty : FieldType} (hown : s.vm.findClass own = some m.cls) (hclink : (Cond.classLink own index nm).before args s = true) (hnm : "[" ++ (FieldType.array ty).toString = nm) (hover : tm_AO ty s) (harr : (Cond.arrayClass ty).before args s = true)
    (hP : va_P D cl ws H) (hS : va_S A s.heap H locs) (hA : ∀ q, s.heap.size ≤ q → A q) {n k : Int32} {N M : Nat} (hN : n.toNatClampNeg = N) (hM : k.toNatClampNeg = M) (hn : ¬ n < 0) (hk : ¬ k < 0) (hb1 : N * 4 ≤ 536870912) (hb2 : M * componentBytes ty ≤ 536870912) (hb3 : M ≤ 536870912) (hdf : fits ty (defaultValue ty) = true)
    (hcl : cells + (1 + N) ≤ R.cells) (hsl : slots + (N + N * M) ≤ R.slots) (hdg : decode cc pc = .ok (.multianewarray index 2, 4))
    (kk : ∀ (q : Nat) (H1 : Heap) (locs1 : List Loc), va_P D cl ws H1 → va_S A s.heap H1 locs1 → W p l e R s m args below meth c H1 locs1 (cells + (1 + N)) (slots + (N + N * M)) Q (F0 m (pc + 4) ls (.ref q :: rest))) :
    W p l e R s m args below meth c H locs cells slots Q (F0 m pc ls (.int k :: .int n :: rest)) := by
  subst hnm hN hM
  intro T hT X
  refine tm_step X hexec hown hclink hover harr (g := F0 m pc ls (.int k :: .int n :: rest)) rfl (by rw [hb]; exact hdg) rfl hn hk hb1 hb2 hb3 hdf hcl hsl (fun U L XU hL hz ho => ?_)
  rw [hT] at hL hz ho
  have XU' : Stand p l e R s m args below meth c U (locs ++ L) (cells + (1 + n.toNatClampNeg)) (slots + (n.toNatClampNeg + n.toNatClampNeg * k.toNatClampNeg)) := by
    rw [← Nat.add_assoc, ← Nat.add_assoc]; exact XU
  have h := kk T.heap.size U.heap (locs ++ L) (hP.kept (fun i q hq => ho q.1 ((hP i q hq).lt))) ⟨Nat.le_trans hS.1 (Nat.le_of_lt hz), fun q h1 h2 => (ho q (Nat.lt_of_lt_of_le h1 hS.1)).trans (hS.2.1 q h1 h2), fun z hz9 => ?_⟩ U rfl XU'
  · exact h
  · rcases List.mem_append.mp hz9 with h | h
    · exact hS.2.2 z h
    · rw [hL z h]; exact hA _ hS.1
end TMB
