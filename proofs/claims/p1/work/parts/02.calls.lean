/-! CALLS THAT THROW, calls of methods with handlers, and handlers that catch (own rows; tk_) -/
section TKB
variable {p : Program} {l : Launch} {e : Env} {R : Room} {s : State} {m : MethodId} {args : Array Value} {below : List Frame} {meth : Method} {c : Code} {H : Heap} {locs : List Loc} {cells slots : Nat} {Q : State → Prop}
  {Ts ws ws' : List Cond} {cc bytes : ByteArray} {nL maxL index n mc ms : Nat} {own C : String} {y : MethodName} {ret : Option FieldType} {rm : Room} {Pc : Array Value → State → Prop} {Qc : Array Value → State → Outcome → State → Prop} {Qt : Array Value → State → Addr → State → Prop} {free : Addr → Prop}
  {b : Addr} {As rest : List Value} {g : JFrame} {a : Array Value} {hh : List (Nat × Nat × Nat × Nat)}
/-- a call's facts, of a method with or without handlers -/
abbrev tk_CB (R : Room) (s : State) (args : Array Value) (own : String) (index : Nat) (y : MethodName) (maxL : Nat) (ws : List Cond) (rm : Room) (mc ms n : Nat) : Prop :=
  rm.cells = mc ∧ rm.slots = ms ∧ rm.frames + 1 ≤ R.frames ∧ 8 + (maxL + 11) + rm.locals ≤ R.locals ∧ (∀ w ∈ ws, ∀ (a' : Array Value) (U : State), s.WarmedH U.vm → w.before a' U = true) ∧ (∀ U : State, s.WarmedH U.vm → tk_Code y maxL U) ∧ tk_Code y maxL s ∧
  (Cond.initialized y.cls).before args s = true ∧ (y.cls ≠ "java/lang/invoke/MethodHandle" ∧ y.cls ≠ "java/lang/invoke/VarHandle") ∧ (∀ sig, parseMethodDescriptor y.desc = some sig → n = sig.parameters.length) ∧ (Cond.methodLink own index y).before args s = true
theorem tk_cb (h : CallB R s args own index y bytes maxL ret ws rm mc ms n) : tk_CB R s args own index y maxL ws rm mc ms n := by
  obtain ⟨h1, h2, h3, h4, h5, h6, h7, h8, h9, h10, h11⟩ := h
  exact ⟨h1, h2, h3, h4, h5, fun U hU => tk_code (h5 _ h6 args U hU), tk_code h7, h8, h9, h10, h11⟩
theorem tk_cbW (n : Nat) (ht : ∀ w ∈ Ts, w.before args s = true) (hG : GoodIn Ts ws) (hw : ws = Cond.codeWith y bytes maxL ret hh :: ws') (hrc : rm.cells = mc) (hrs : rm.slots = ms) (hini : (Cond.initialized y.cls).before args s = true) (hl : (Cond.methodLink own index y).before args s = true)
    (hd : y.cls ≠ "java/lang/invoke/MethodHandle" ∧ y.cls ≠ "java/lang/invoke/VarHandle" ∧ (parseMethodDescriptor y.desc).map (fun d => d.parameters.length) = some n) (hR : rm.frames + 1 ≤ R.frames ∧ 8 + (maxL + 11) + rm.locals ≤ R.locals) :
    tk_CB R s args own index y maxL ws rm mc ms n := by
  have hc : Cond.codeWith y bytes maxL ret hh ∈ ws := by rw [hw]; exact List.mem_cons_self
  refine ⟨hrc, hrs, hR.1, hR.2, pay_in ht hG, fun U hU => tk_codeW (pay_in ht hG _ hc args U hU), tk_codeW (ht _ (hG _ hc).1), hini, ⟨hd.1, hd.2.1⟩, fun sig h => ?_, hl⟩
  have h2 := hd.2.2
  rw [h] at h2
  exact (Option.some.inj h2).symm
theorem tk_runV (S : CallFix p m c cc nL s args Ts own) (hM : tk_Met l y ws rm Pc Qt mc ms free) (cw : tk_CB R s args own index y maxL ws rm mc ms n ∧ (Cond.instanceMethod y).before args s = true ∧ (Cond.selects C y y).before args s = true) (hp : PreV s H C b Pc As)
    (hg : g.method = m) (hn : As.length = n) (hsize : g.locals.size = nL) (hstack : g.stack = As.reverse ++ .ref b :: rest) (hW : 2 * g.monitorRoom + (rest.map fun v => v.category).sum ≤ 8) (hdg : decode cc g.pc = .ok (.invokevirtual index, 3)) (hf : cells + mc ≤ R.cells ∧ slots + ms ≤ R.slots) :
    tk_Run p l e R s m args below meth c H locs cells slots mc ms g rest (Qt (Value.ref b :: As).toArray) free := by
  obtain ⟨⟨hrc, hrs, hfr, hlo, hws, hcw, hcode, hini, hy, hlen, hl⟩, hin, hse⟩ := cw
  obtain ⟨hx, hb, hml, ho, -⟩ := S
  obtain ⟨hbl, ⟨cellB, hcB, hoB, hclB⟩, hPc⟩ := hp
  intro T hT X
  obtain ⟨mk, methM, hnamed, hmethM, hstM, habM⟩ := Cond.instanceMethod_spec hin
  obtain ⟨mk', methM', cM, hn', hmethM', -, -, hsigM⟩ := hcode
  cases hnamed.symm.trans hn'
  cases hmethM.symm.trans hmethM'
  obtain ⟨c2, r2, m2, q1, q2, q3, q4, kP, hkP, hkPi⟩ := Cond.selects_spec hse
  cases hclB.symm.trans q1
  cases (State.methodFound?_of_named hnamed hy).symm.trans q2
  cases hnamed.symm.trans q3
  have hselP : selectMethod e.platform s.vm cellB.cls mk = .method mk := by rw [Launch.admits_selectMethod X.admits]; exact q4
  obtain ⟨vm₁, X₁, hstep₁⟩ := X.invokevirtual hx ho hl hnamed hmethM hstM hkP hkPi hy (a := b) (cell := cellB) (by rw [hT]; exact hcB)
    (fun z h => by rw [h] at hoB; cases hoB) hselP hmethM habM hkP hkPi (g := g) hg (argsL := As) (rest := rest) (hn.trans (hlen _ hsigM)) hstack (by rw [hb]; exact hdg)
  obtain ⟨x, t, T', L, X', hL, e1, e2, ⟨hq, hz8, hk8⟩, st⟩ := tk_back (maxL := maxL) (Wn := 8) hM hbl hrc hrs hfr hlo hws hcw (fun a' U hU => word_at hU (Or.inl (by first | rfl | simp [Cond.onTables, Cond.keeps, Cond.steady])) hini) X₁ (g := { g with stack := rest }) hg (hsize.trans hml.symm) (by rw [hb]; exact hdg) hW (X₁.named hnamed) (a := (Value.ref b :: As).toArray) hf.1 hf.2 (hPc _ hT X₁.warmed)
  exact ⟨x, (T.setVm vm₁).calling { g with stack := rest } mk (Value.ref b :: As).toArray, t, T', L, ⟨hT, X₁.warmed⟩, X', hL, e1, e2, ⟨hq, by rw [← hT]; exact hz8, by rw [← hT]; exact hk8⟩, fun target h => hstep₁ _ fun acts => by rw [doInvoke_state]; exact st.trans h⟩
theorem tk_runS (S : CallFix p m c cc nL s args Ts own) (hM : tk_Met l y ws rm Pc Qt mc ms free) (cw : tk_CB R s args own index y maxL ws rm mc ms n ∧ (Cond.static y).before args s = true) (hp : PreS s H Pc As)
    (hg : g.method = m) (hn : As.length = n) (hsize : g.locals.size = nL) (hstack : g.stack = As.reverse ++ rest) (hW : 2 * g.monitorRoom + (rest.map fun v => v.category).sum ≤ 8) (hdg : decode cc g.pc = .ok (.invokestatic index, 3)) (hf : cells + mc ≤ R.cells ∧ slots + ms ≤ R.slots) :
    tk_Run p l e R s m args below meth c H locs cells slots mc ms g rest (Qt As.toArray) free := by
  obtain ⟨⟨hrc, hrs, hfr, hlo, hws, hcw, hcode, hini, hy, hlen, hl⟩, hstt⟩ := cw
  obtain ⟨hx, hb, hml, ho, -⟩ := S
  intro T hT X
  obtain ⟨mk, methM, cM, hnamed, hmethM, -, -, hsigM⟩ := hcode
  have hstatic : methM.isStatic = true := Cond.static_spec hnamed hmethM hstt
  obtain ⟨kP, hkP, -⟩ := className_of_methodNamed hnamed
  have hinitP : kP.init = .initialized := Cond.initialized_spec (findClass_of_methodNamed hnamed) hkP hini
  obtain ⟨vm₁, X₁, hstep₁⟩ := X.invokestatic hx ho hl hnamed hmethM hstatic hkP hinitP hy (g := g) hg (argsL := As) (rest := rest) (hn.trans (hlen _ hsigM)) hstack (by rw [hb]; exact hdg)
  obtain ⟨x, t, T', L, X', hL, e1, e2, ⟨hq, hz8, hk8⟩, st⟩ := tk_back (maxL := maxL) (Wn := 8) hM hp.1 hrc hrs hfr hlo hws hcw (fun a' U hU => word_at hU (Or.inl (by first | rfl | simp [Cond.onTables, Cond.keeps, Cond.steady])) hini) X₁ (g := { g with stack := rest }) hg (hsize.trans hml.symm) (by rw [hb]; exact hdg) hW (X₁.named hnamed) (a := As.toArray) hf.1 hf.2 (hp.2 _ hT X₁.warmed)
  exact ⟨x, (T.setVm vm₁).calling { g with stack := rest } mk As.toArray, t, T', L, ⟨hT, X₁.warmed⟩, X', hL, e1, e2, ⟨hq, by rw [← hT]; exact hz8, by rw [← hT]; exact hk8⟩, fun target h => hstep₁ _ fun acts => by rw [doInvoke_state]; exact st.trans h⟩
/-- a method with handlers is called, and comes back -/
theorem tk_runSW (S : CallFix p m c cc nL s args Ts own) (hM : Met l y ws rm Pc Qc mc ms free) (cw : tk_CB R s args own index y maxL ws rm mc ms n ∧ (Cond.static y).before args s = true) (hcW : Cond.codeWith y bytes maxL ret hh ∈ ws) (hp : PreS s H Pc As)
    (hg : g.method = m) (hn : As.length = n) (hsize : g.locals.size = nL) (hstack : g.stack = As.reverse ++ rest) (hW : 2 * g.monitorRoom + (rest.map fun v => v.category).sum ≤ 8) (hdg : decode cc g.pc = .ok (.invokestatic index, 3)) (hf : cells + mc ≤ R.cells ∧ slots + ms ≤ R.slots) :
    va_Run p l e R s m args below meth c H locs cells slots mc ms g rest (Qc As.toArray) free := by
  obtain ⟨⟨hrc, hrs, hfr, hlo, hws, hcw, hcode, hini, hy, hlen, hl⟩, hstt⟩ := cw
  have hK : Back l R p e below s args y 3 8 (PreOf R mc ms Pc) (PostOf Qc mc ms free) := va_backW (hh := hh) (bytes := bytes) (maxL := maxL) (ret := ret) hM hp.1 hrc hrs hfr hlo hws hcW (fun a' U hU => word_at hU (Or.inl (by first | rfl | simp [Cond.onTables, Cond.keeps, Cond.steady])) hini)
  obtain ⟨hx, hb, hml, ho, -⟩ := S
  intro T hT X
  obtain ⟨mk, methM, cM, hnamed, hmethM, -, -, hsigM⟩ := hcode
  have hstatic : methM.isStatic = true := Cond.static_spec hnamed hmethM hstt
  obtain ⟨kP, hkP, -⟩ := className_of_methodNamed hnamed
  have hinitP : kP.init = .initialized := Cond.initialized_spec (findClass_of_methodNamed hnamed) hkP hini
  obtain ⟨vm₁, X₁, hstep₁⟩ := X.invokestatic hx ho hl hnamed hmethM hstatic hkP hinitP hy (g := g) hg (argsL := As) (rest := rest) (hn.trans (hlen _ hsigM)) hstack (by rw [hb]; exact hdg)
  obtain ⟨v, ⟨U', l2, c2, s2⟩, X', ⟨g', mk', t, L, e1, e2, hq, h1, hL, h2, h3⟩, st⟩ := hK m meth c ⟨T.setVm vm₁, locs, cells, slots⟩ { g with stack := rest } (.invokestatic index) mk As.toArray X₁ hg (hsize.trans hml.symm) (by rw [hb]; exact hdg) hW (X₁.named hnamed) ⟨hf.1, hf.2, hp.2 (T.setVm vm₁) hT X₁.warmed⟩
  dsimp only [Pt.U, Pt.locs, Pt.cells, Pt.slots] at X' e1 e2 h1 h2 h3 st
  subst h1; subst h2; subst h3
  exact ⟨v, (T.setVm vm₁).calling g' mk' As.toArray, t, U', L, hT, X', hL, e1, e2, hq, fun target h => hstep₁ _ fun acts => by rw [doInvoke_state]; exact st.trans h⟩
theorem tk_runVW (S : CallFix p m c cc nL s args Ts own) (hM : Met l y ws rm Pc Qc mc ms free) (cw : tk_CB R s args own index y maxL ws rm mc ms n ∧ (Cond.instanceMethod y).before args s = true ∧ (Cond.selects C y y).before args s = true) (hcW : Cond.codeWith y bytes maxL ret hh ∈ ws) (hp : PreV s H C b Pc As)
    (hg : g.method = m) (hn : As.length = n) (hsize : g.locals.size = nL) (hstack : g.stack = As.reverse ++ .ref b :: rest) (hW : 2 * g.monitorRoom + (rest.map fun v => v.category).sum ≤ 8) (hdg : decode cc g.pc = .ok (.invokevirtual index, 3)) (hf : cells + mc ≤ R.cells ∧ slots + ms ≤ R.slots) :
    va_Run p l e R s m args below meth c H locs cells slots mc ms g rest (Qc (Value.ref b :: As).toArray) free := by
  obtain ⟨⟨hrc, hrs, hfr, hlo, hws, hcw, hcode, hini, hy, hlen, hl⟩, hin, hse⟩ := cw
  have hK : Back l R p e below s args y 3 8 (PreOf R mc ms Pc) (PostOf Qc mc ms free) := va_backW (hh := hh) (bytes := bytes) (maxL := maxL) (ret := ret) hM hp.1 hrc hrs hfr hlo hws hcW (fun a' U hU => word_at hU (Or.inl (by first | rfl | simp [Cond.onTables, Cond.keeps, Cond.steady])) hini)
  obtain ⟨hx, hb, hml, ho, -⟩ := S
  obtain ⟨hbl, ⟨cellB, hcB, hoB, hclB⟩, hPc⟩ := hp
  intro T hT X
  obtain ⟨mk, methM, hnamed, hmethM, hstM, habM⟩ := Cond.instanceMethod_spec hin
  obtain ⟨mk2, methM', cM, hn', hmethM', -, -, hsigM⟩ := hcode
  cases hnamed.symm.trans hn'
  cases hmethM.symm.trans hmethM'
  obtain ⟨c2, r2, m2, q1, q2, q3, q4, kP, hkP, hkPi⟩ := Cond.selects_spec hse
  cases hclB.symm.trans q1
  cases (State.methodFound?_of_named hnamed hy).symm.trans q2
  cases hnamed.symm.trans q3
  have hselP : selectMethod e.platform s.vm cellB.cls mk = .method mk := by rw [Launch.admits_selectMethod X.admits]; exact q4
  obtain ⟨vm₁, X₁, hstep₁⟩ := X.invokevirtual hx ho hl hnamed hmethM hstM hkP hkPi hy (a := b) (cell := cellB) (by rw [hT]; exact hcB)
    (fun z h => by rw [h] at hoB; cases hoB) hselP hmethM habM hkP hkPi (g := g) hg (argsL := As) (rest := rest) (hn.trans (hlen _ hsigM)) hstack (by rw [hb]; exact hdg)
  obtain ⟨v, ⟨U', l2, c3, s2⟩, X', ⟨g', mk', t, L, e1, e2, hq, h1, hL, h2, h3⟩, st⟩ := hK m meth c ⟨T.setVm vm₁, locs, cells, slots⟩ { g with stack := rest } (.invokevirtual index) mk (Value.ref b :: As).toArray X₁ hg (hsize.trans hml.symm) (by rw [hb]; exact hdg) hW (X₁.named hnamed) ⟨hf.1, hf.2, hPc (T.setVm vm₁) hT X₁.warmed⟩
  dsimp only [Pt.U, Pt.locs, Pt.cells, Pt.slots] at X' e1 e2 h1 h2 h3 st
  subst h1; subst h2; subst h3
  exact ⟨v, (T.setVm vm₁).calling g' mk' (Value.ref b :: As).toArray, t, U', L, hT, X', hL, e1, e2, hq, fun target h => hstep₁ _ fun acts => by rw [doInvoke_state]; exact st.trans h⟩
/-- what is thrown at a call goes through a method without handlers -/
theorem tk_pass {Qa : State → Addr → State → Prop} {free' : Addr → Prop} {pc : Nat} {ls : Array Slot} {st0 : List Value} (hr : tk_Run p l e R s m args below meth c H locs cells slots mc ms (F0 m pc ls st0) rest Qa free) (hnoh : c.exceptionTable.isEmpty = true) (hlocks : meth.locks = false)
    (hf : ∀ q ∈ locs, free' q.base) (hff : ∀ q, free q → free' q) (hq : ∀ (x : Addr) (st₀ t t' : State), st₀.heap = H → s.WarmedH st₀.vm → Qa st₀ x t → t'.heap = t.heap → t'.vm = t.vm → s.WarmedH t'.vm → Qt args s x t') :
    W p l e R s m args below meth c H locs cells slots (tk_MQ below Qt args s (cells + mc) (slots + ms) free') (F0 m pc ls st0) := by
  intro T hT X
  obtain ⟨x, st₀, t, T', L, h0, X', hL, e1, e2, ⟨hq1, -⟩, st⟩ := hr T hT X
  obtain ⟨sw, h1, h2, h3, h4⟩ := X'.leaveThrown x (g := { F0 m pc ls st0 with stack := rest }) rfl rfl rfl (tk_empty hnoh pc) hlocks
  refine ⟨_, st _ sw, x, h1, h2, hq x st₀ t _ h0.1 h0.2 hq1 e1 e2 h3, locs ++ L, ⟨⟨x, rfl⟩, h3, h4⟩, fun q hq' => ?_⟩
  rcases List.mem_append.mp hq' with h | h
  · exact hf q h
  · exact hff _ (hL q h)
end TKB
section TKC
variable {p : Program} {l : Launch} {e : Env} {R : Room} {s : State} {m : MethodId} {args : Array Value} {below : List Frame} {meth : Method} {c : Code} {H : Heap} {locs : List Loc} {cells slots : Nat} {Q : State → Prop}
/-- the search for a handler ends at h, the tables then being vm' -/
def tk_FT (e : Env) (u : State) (f : JFrame) (a : Addr) (tbl : List ExceptionTableEntry) (h : Handler) (vm' : Vm) : Prop := ∀ (Q : Handler → Pre) (E : CtlPost) (d : Bool) (acts : List Action), wp (findHandler.go f a tbl) Q E e d acts u ↔ Q h d acts (u.setVm vm')
/-- one entry that covers, its class cold or warm: caught, or passed -/
theorem tk_entry {u : State} {f : JFrame} {a : Addr} {z : ExceptionTableEntry} {tbl : List ExceptionTableEntry} {cT : ClassId} {cell : Cell} {k1 k2 : Class} (hx : covers z f.pc = true) (h0 : z.catchType ≠ 0)
    (hl : u.vm.ClassLinks e.platform f.method.cls z.catchType cT) (hcell : u.heap[a]? = some cell) (hobj : ∀ k, cell.vm ≠ .statics k) (hk1 : u.vm.classes[cell.cls]? = some k1) (hk2 : u.vm.classes[cT]? = some k2)
    (Q : Handler → Pre) (E : CtlPost) (d : Bool) (acts : List Action) :
    wp (findHandler.go f a (z :: tbl)) Q E e d acts u ↔ if u.vm.assignable cell.cls cT = true then Q (.found z.handlerPc) d acts (u.setVm (u.vm.noted f.method.cls z.catchType (.cls cT))) else wp (findHandler.go f a tbl) Q E e d acts (u.setVm (u.vm.noted f.method.cls z.catchType (.cls cT))) := by
  simp only [covers] at hx
  obtain ⟨ha, ht⟩ := (resolveClass_links e.toSetting hl).op (op := VmOp.resolveClass f.method.cls z.catchType) rfl
  have hal : u.vm.Alike (u.vm.noted f.method.cls z.catchType (.cls cT)) := (Vm.Alike.refl u.vm).noted _ _ _
  obtain ⟨k1', hk1', -⟩ := hal.2.2 _ _ hk1
  obtain ⟨k2', hk2', -⟩ := hal.2.2 _ _ hk2
  have hfit : (u.vm.noted f.method.cls z.catchType (.cls cT)).assignable cell.cls cT = u.vm.assignable cell.cls cT := hal.assignable ..
  cases hq : u.vm.assignable cell.cls cT <;> simp [findHandler.go, hx, h0, ha, ht, hcell, hobj, hk1', hk2', hfit, hq, VmOp.dirties, VmOp.acts]
/-- at a point of the walk: the search over the entries of tbl, told by names: the first that covers and fits is taken -/
theorem tk_go (X0 : l.admits e) {T : State} (hWm : s.WarmedH T.vm) {f : JFrame} {a : Addr} {own : String} (hown : s.vm.findClass own = some f.method.cls) {cell : Cell} {E : String} {cE : ClassId} (hcE : s.vm.findClass E = some cE) (hcls : cell.cls = cE) (hcell : T.heap[a]? = some cell) (hobj : cell.vm.isStatics = false)
    (z : ExceptionTableEntry) (tbl : List ExceptionTableEntry) (hx : covers z f.pc = true) (h0 : z.catchType ≠ 0) {name : String} (hlink : (Cond.classLink own z.catchType name).before args s = true) :
    ∃ vm', s.WarmedH vm' ∧ ∀ cT : ClassId, s.vm.findClass name = some cT → ∀ (Q : Handler → Pre) (Ep : CtlPost) (d : Bool) (acts : List Action), wp (findHandler.go f a (z :: tbl)) Q Ep e d acts T ↔ if s.vm.assignable cE cT = true then Q (.found z.handlerPc) d acts (T.setVm vm') else wp (findHandler.go f a tbl) Q Ep e d acts (T.setVm vm') := by
  have hpl : e.platform.magicAccessors = ({} : Platform).magicAccessors := by rw [X0.platform]
  obtain ⟨cT, hcT, hcl⟩ := Cond.classLink_spec hown hlink e.platform hpl
  obtain ⟨dk, _, _, kt, hd, _, _, _, _, hkt, _, hopen⟩ := hcl.here
  have hal := hWm.alike
  obtain ⟨kt', hkt', -⟩ := hal.2.2 _ _ hkt
  obtain ⟨kE, hkE⟩ := Vm.classAt_of_findClass hcE
  obtain ⟨kE', hkE', -⟩ := hal.2.2 _ _ hkE
  refine ⟨T.vm.noted f.method.cls z.catchType (.cls cT), hWm.noted hd hopen (State.rightAt_cls hcl), fun cT' hcT' Q Ep d acts => ?_⟩
  cases hcT.symm.trans hcT'
  rw [tk_entry hx h0 (hWm.classLinks hcl) hcell (VmData.ne_statics_of hobj) (by rw [hcls]; exact hkE') hkt', hcls, hal.assignable]
end TKC
