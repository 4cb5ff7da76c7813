section
/-! THROWN CONTRACTS (own rows; tk_): a method that throws, a call that throws, a handler that catches. -/
section TKA
variable {p : Program} {l : Launch} {e : Env} {R : Room} {s : State} {m : MethodId} {args : Array Value} {below : List Frame} {meth : Method} {c : Code} {H : Heap} {locs : List Loc} {cells slots : Nat} {Q : State → Prop}
/-- y throws: an object x, 'Qt args first x t' -/
def tk_Met (l : Launch) (y : MethodName) (ws : List Cond) (rm : Room) (Pc : Array Value → State → Prop) (Qt : Array Value → State → Addr → State → Prop) (mc ms : Nat) (free : Addr → Prop) : Prop :=
  MetFree l y (headSpec ws rm) Pc (fun _ _ _ _ _ => True) (fun a st o t => ∃ x, o = .threw x ∧ Qt a st x t ∧ ∃ L, FramedT st o t L mc ms ∧ ∀ q ∈ L, free q.base)
/-- the end of a walk that throws -/
def tk_MQ (below : List Frame) (Qt : Array Value → State → Addr → State → Prop) (a : Array Value) (s : State) (mc ms : Nat) (free : Addr → Prop) : State → Prop := fun t =>
  ∃ x, t.status = .running ∧ Ended t below (.threw x) ∧ Qt a s x t ∧ ∃ L, FramedT s (.threw x) t L mc ms ∧ ∀ q ∈ L, free q.base
theorem tk_Met.ofW {y : MethodName} {ws ws' : List Cond} {rm : Room} {Pc : Array Value → State → Prop} {Qt : Array Value → State → Addr → State → Prop} {mc ms : Nat} {free : Addr → Prop} {cc : ByteArray} {maxL : Nat} {ret : Option FieldType}
    (hy : plainName y.cls = true) (hw : ws = Cond.code y cc maxL ret :: ws')
    (body : ∀ p e s m args below meth c s₁, BodyLoose p l y (headSpec ws rm) cc maxL ret e s m args below meth c s₁ → c.maxLocals = maxL → Pc args s → c.exceptionTable.isEmpty = true →
      W p l e (headSpec ws rm).room s m args below meth c s.heap [] 0 0 (tk_MQ below Qt args s mc ms free) (entryFrame m args maxL)) : tk_Met l y ws rm Pc Qt mc ms free := by
  refine MetFree.of_bodyS (code := cc) (maxLocals := maxL) (ret := ret) hy ?_ ?_
  · intro args s m h hn
    obtain ⟨meth, c, h1, h2, h3, h4, h5, h6, -, -⟩ := Cond.code_spec hn (atoms_spec (ws := ws) h _ (by rw [hw]; exact List.mem_cons_self))
    exact ⟨meth, c, h1, h2, h3, h4, h5, h6⟩
  · intro p e s m args below meth c s₁ B hml hP _
    have hh0 : s₁.heap = s.heap := by rw [B.state]; rfl
    have hnoh : c.exceptionTable.isEmpty = true := B.noHandlers (atoms_spec (ws := ws) B.pre _ (by rw [hw]; exact List.mem_cons_self))
    obtain ⟨t, a1, x, b1, b2, b3, b4⟩ := body p e s m args below meth c s₁ B hml hP hnoh s₁ hh0 (Stand.of_body B)
    exact ⟨t, .threw x, a1, b1, b2, x, rfl, b3, b4⟩
theorem tk_empty {c : Code} (h : c.exceptionTable.isEmpty = true) (pc : Nat) : ∀ z ∈ c.exceptionTable.toList, covers z pc = false := by
  intro z hz
  rw [Array.isEmpty_iff.mp h] at hz
  cases hz
/-- athrow where no handler is: the method throws -/
theorem tk_athrow {cc : ByteArray} {Qt : Array Value → State → Addr → State → Prop} {free : Addr → Prop} {pc : Nat} {ls : Array Slot} {a : Addr} {rest : List Value} (hexec : p.tables.exec = Jvm.exec) (hb : c.code = cc) (hnoh : c.exceptionTable.isEmpty = true)
    (hq : ∀ t : State, t.heap = H → s.WarmedH t.vm → Qt args s a t) (hf : ∀ q ∈ locs, free q.base) (hlocks : meth.locks = false) (hdg : decode cc pc = .ok (.athrow, 1)) :
    W p l e R s m args below meth c H locs cells slots (tk_MQ below Qt args s cells slots free) (F0 m pc ls (.ref a :: rest)) := by
  intro T hT X
  obtain ⟨st, h1, h2, h3, h4⟩ := X.athrowLeaves hexec (g := F0 m pc ls (.ref a :: rest)) rfl rfl rfl (tk_empty hnoh pc) (a := a) (rest := rest) rfl (by rw [hb]; exact hdg) hlocks
  exact ⟨_, st, a, h1, h2, hq _ hT h3, locs, ⟨⟨a, rfl⟩, h3, h4⟩, hf⟩
/-- what the tables say of a callee, with or without handlers -/
def tk_Code (y : MethodName) (maxL : Nat) (U : State) : Prop := ∃ mk methM cM, U.methodNamed? y = some mk ∧ U.vm.method? mk = some methM ∧ methM.code = some cM ∧ cM.maxLocals = maxL ∧ parseMethodDescriptor y.desc = some methM.sig
theorem tk_code {y : MethodName} {bytes : ByteArray} {maxL : Nat} {ret : Option FieldType} {a : Array Value} {U : State} (h : (Cond.code y bytes maxL ret).before a U = true) : tk_Code y maxL U := by
  obtain ⟨mk, hn⟩ := Cond.code_named h
  obtain ⟨methM, cM, h1, h2, -, h4, -, -, -, h8⟩ := Cond.code_spec hn h
  exact ⟨mk, methM, cM, hn, h1, h2, h4, h8⟩
theorem tk_codeW {y : MethodName} {bytes : ByteArray} {maxL : Nat} {ret : Option FieldType} {hh : List (Nat × Nat × Nat × Nat)} {a : Array Value} {U : State} (h : (Cond.codeWith y bytes maxL ret hh).before a U = true) : tk_Code y maxL U := by
  obtain ⟨mk, methM, cM, hn, h1, h2, -, h4, -, -, -, h8⟩ := Cond.codeWith_spec h
  exact ⟨mk, methM, cM, hn, h1, h2, h4, h8⟩
/-- a call that throws -/
def tk_Run (p : Program) (l : Launch) (e : Env) (R : Room) (s : State) (m : MethodId) (args : Array Value) (below : List Frame) (meth : Method) (c : Code) (H : Heap) (locs : List Loc) (cells slots mc ms : Nat) (g : JFrame) (rest : List Value) (Qa : State → Addr → State → Prop) (free : Addr → Prop) : Prop :=
  ∀ T : State, T.heap = H → Stand p l e R s m args below meth c T locs cells slots → ∃ (x : Addr) (st₀ t T' : State) (L : List Loc), st₀.heap = H ∧ Stand p l e R s m args below meth c T' (locs ++ L) (cells + mc) (slots + ms) ∧ (∀ q ∈ L, free q.base) ∧ T'.heap = t.heap ∧ T'.vm = t.vm ∧ Qa st₀ x t ∧
    ∀ target, Steps p.tables e below ((T'.setTop { g with stack := rest }).pushFrame (.throwing x)) target → Steps p.tables e below (T.setTop g) target
/-- the callee is entered, and throws back into the caller's frame g -/
theorem tk_back {y : MethodName} {ws : List Cond} {rm : Room} {Pc : Array Value → State → Prop} {Qt : Array Value → State → Addr → State → Prop} {mc ms maxL len Wn : Nat} {free : Addr → Prop}
    (hM : tk_Met l y ws rm Pc Qt mc ms free) (hblind : FrameBlind Pc) (hrc : rm.cells = mc) (hrs : rm.slots = ms) (hframes : rm.frames + 1 ≤ R.frames) (hlocals : Wn + (maxL + 11) + rm.locals ≤ R.locals)
    (hws : ∀ w ∈ ws, ∀ (a' : Array Value) (U : State), s.WarmedH U.vm → w.before a' U = true) (hcode : ∀ U : State, s.WarmedH U.vm → tk_Code y maxL U) (hinit : ∀ (a' : Array Value) (U : State), s.WarmedH U.vm → (Cond.initialized y.cls).before a' U = true)
    {T : State} (X : Stand p l e R s m args below meth c T locs cells slots) {g : JFrame} (hg : g.method = m) (hsize : g.locals.size = c.maxLocals) {ig : Instr} (hdg : decode c.code g.pc = .ok (ig, len))
    (hW : 2 * g.monitorRoom + (g.stack.map fun v => v.category).sum ≤ Wn) {mk : MethodId} (hn : T.methodNamed? y = some mk) {a : Array Value} (hc : cells + mc ≤ R.cells) (hs : slots + ms ≤ R.slots) (hp : Pc a T) :
    ∃ (x : Addr) (t T' : State) (L : List Loc), Stand p l e R s m args below meth c T' (locs ++ L) (cells + mc) (slots + ms) ∧ (∀ q ∈ L, free q.base) ∧ T'.heap = t.heap ∧ T'.vm = t.vm ∧ Qt a (T.calling g mk a) x t ∧
      Steps p.tables e below (doInvoke e (T.setTop g) [] mk a).1 ((T'.setTop g).pushFrame (.throwing x)) := by
  obtain ⟨mk', methY, cY, hn', hmY, hcY, hlY, -⟩ := hcode T X.warmed
  cases hn.symm.trans hn'
  obtain ⟨kY, hkY, -⟩ := className_of_methodNamed hn
  have hinitY : kY.init = .initialized := Cond.initialized_spec (findClass_of_methodNamed hn) hkY (hinit a T X.warmed)
  have h : At T g.method c below := by rw [hg]; exact X.here
  have happ : (headSpec ws rm).appliesLoose y e.platform (T.calling g mk a) = true :=
    Spec.appliesLoose_calling (g := g) h hdg hn hkY hinitY
      (X.room_calling (g := g) (R' := (headSpec ws rm).room) hsize hmY hcY hframes (by rw [hlY]; show _ + _ + rm.locals ≤ _; omega) (by show cells + rm.cells ≤ _; rw [hrc]; exact hc) (by show slots + rm.slots ≤ _; rw [hrs]; exact hs)) (atoms_intro fun w hw => hws w hw _ _ X.warmed)
  obtain ⟨mid, hmid⟩ := h.above
  have hfr : (T.setTop g).frames = (.java g :: mid) ++ below := by rw [State.frames_setTop' g h.top, hmid]; rfl
  obtain ⟨o, s₂, hsteps, -, hend, x, rfl, hq, L, ⟨-, hW2, hsame⟩, hL⟩ := Steps.callFree hM p X.admits X.cas X.clock (acts := []) hfr happ (hblind _ _ _ _ hp) trivial
  rw [State.frames_setTop' g h.top, X.tail] at hend
  obtain ⟨T', X', hW', hsm, ht⟩ := X.outOfThrown hg hend hW2 hsame
  have e1 : T'.heap = s₂.heap := by rw [ht, Stand.throwing_heap]
  have e2 : T'.vm = s₂.vm := by rw [ht, Stand.throwing_vm]
  refine ⟨x, s₂, T', L, X', hL, e1, e2, hq, ?_⟩
  rw [← ht]
  exact hsteps
end TKA
end
section
/-! CALLS THAT THROW, calls of methods with handlers, and handlers that catch (own rows; tk_) -/
section TKB
variable {p : Program} {l : Launch} {e : Env} {R : Room} {s : State} {m : MethodId} {args : Array Value} {below : List Frame} {meth : Method} {c : Code} {H : Heap} {locs : List Loc} {cells slots : Nat} {Q : State → Prop}
  {Ts ws ws' : List Cond} {cc bytes : ByteArray} {nL maxL index n mc ms : Nat} {own C : String} {y : MethodName} {ret : Option FieldType} {rm : Room} {Pc : Array Value → State → Prop} {Qc : Array Value → State → Outcome → State → Prop} {Qt : Array Value → State → Addr → State → Prop} {free : Addr → Prop}
  {b : Addr} {As rest : List Value} {g : JFrame} {a : Array Value} {hh : List (Nat × Nat × Nat × Nat)}
/-- a call's facts, of a method with or without handlers -/
abbrev tk_CB (R : Room) (s : State) (args : Array Value) (own : String) (index : Nat) (y : MethodName) (maxL : Nat) (ws : List Cond) (rm : Room) (mc ms n : Nat) : Prop :=
  rm.cells = mc ∧ rm.slots = ms ∧ rm.frames + 1 ≤ R.frames ∧ 8 + (maxL + 11) + rm.locals ≤ R.locals ∧ (∀ w ∈ ws, ∀ (a' : Array Value) (U : State), s.WarmedH U.vm → w.before a' U = true) ∧ (∀ U : State, s.WarmedH U.vm → tk_Code y maxL U) ∧ tk_Code y maxL s ∧
  (Cond.initialized y.cls).before args s = true ∧ (y.cls ≠ "java/lang/invoke/MethodHandle" ∧ y.cls ≠ "java/lang/invoke/VarHandle") ∧ (∀ sig, parseMethodDescriptor y.desc = some sig → n = sig.parameters.length) ∧ (Cond.methodLink own index y).before args s = true
theorem tk_cb (h : CallB R s args own index y bytes maxL ret ws rm mc ms n) : tk_CB R s args own index y maxL ws rm mc ms n := by
  obtain ⟨h1, h2, h3, h4, h5, h6, h7, h8, h9, h10, h11⟩ := h
  exact ⟨h1, h2, h3, h4, h5, fun U hU => tk_code (h5 _ h6 args U hU), tk_code h7, h8, h9, h10, h11⟩
theorem tk_cbW (n : Nat) (ht : ∀ w ∈ Ts, w.before args s = true) (hG : GoodIn Ts ws) (hw : ws = Cond.codeWith y bytes maxL ret hh :: ws') (hrc : rm.cells = mc) (hrs : rm.slots = ms) (hini : (Cond.initialized y.cls).before args s = true) (hl : (Cond.methodLink own index y).before args s = true)
    (hd : y.cls ≠ "java/lang/invoke/MethodHandle" ∧ y.cls ≠ "java/lang/invoke/VarHandle" ∧ (parseMethodDescriptor y.desc).map (fun d => d.parameters.length) = some n) (hR : rm.frames + 1 ≤ R.frames ∧ 8 + (maxL + 11) + rm.locals ≤ R.locals) :
    tk_CB R s args own index y maxL ws rm mc ms n := by
  have hc : Cond.codeWith y bytes maxL ret hh ∈ ws := by rw [hw]; exact List.mem_cons_self
  refine ⟨hrc, hrs, hR.1, hR.2, pay_in ht hG, fun U hU => tk_codeW (pay_in ht hG _ hc args U hU), tk_codeW (ht _ (hG _ hc).1), hini, ⟨hd.1, hd.2.1⟩, fun sig h => ?_, hl⟩
  have h2 := hd.2.2
  rw [h] at h2
  exact (Option.some.inj h2).symm
theorem tk_runV (S : CallFix p m c cc nL s args Ts own) (hM : tk_Met l y ws rm Pc Qt mc ms free) (cw : tk_CB R s args own index y maxL ws rm mc ms n ∧ (Cond.instanceMethod y).before args s = true ∧ (Cond.selects C y y).before args s = true) (hp : PreV s H C b Pc As)
    (hg : g.method = m) (hn : As.length = n) (hsize : g.locals.size = nL) (hstack : g.stack = As.reverse ++ .ref b :: rest) (hW : 2 * g.monitorRoom + (rest.map fun v => v.category).sum ≤ 8) (hdg : decode cc g.pc = .ok (.invokevirtual index, 3)) (hf : cells + mc ≤ R.cells ∧ slots + ms ≤ R.slots) :
    tk_Run p l e R s m args below meth c H locs cells slots mc ms g rest (Qt (Value.ref b :: As).toArray) free := by
  obtain ⟨⟨hrc, hrs, hfr, hlo, hws, hcw, hcode, hini, hy, hlen, hl⟩, hin, hse⟩ := cw
  obtain ⟨hx, hb, hml, ho, -⟩ := S
  obtain ⟨hbl, ⟨cellB, hcB, hoB, hclB⟩, hPc⟩ := hp
  intro T hT X
  obtain ⟨mk, methM, hnamed, hmethM, hstM, habM⟩ := Cond.instanceMethod_spec hin
  obtain ⟨mk', methM', cM, hn', hmethM', -, -, hsigM⟩ := hcode
  cases hnamed.symm.trans hn'
  cases hmethM.symm.trans hmethM'
  obtain ⟨c2, r2, m2, q1, q2, q3, q4, kP, hkP, hkPi⟩ := Cond.selects_spec hse
  cases hclB.symm.trans q1
  cases (State.methodFound?_of_named hnamed hy).symm.trans q2
  cases hnamed.symm.trans q3
  have hselP : selectMethod e.platform s.vm cellB.cls mk = .method mk := by rw [Launch.admits_selectMethod X.admits]; exact q4
  obtain ⟨vm₁, X₁, hstep₁⟩ := X.invokevirtual hx ho hl hnamed hmethM hstM hkP hkPi hy (a := b) (cell := cellB) (by rw [hT]; exact hcB)
    (fun z h => by rw [h] at hoB; cases hoB) hselP hmethM habM hkP hkPi (g := g) hg (argsL := As) (rest := rest) (hn.trans (hlen _ hsigM)) hstack (by rw [hb]; exact hdg)
  obtain ⟨x, t, T', L, X', hL, e1, e2, hq, st⟩ := tk_back (maxL := maxL) (Wn := 8) hM hbl hrc hrs hfr hlo hws hcw (fun a' U hU => word_at hU (Or.inl (by first | rfl | simp [Cond.onTables, Cond.keeps, Cond.steady])) hini) X₁ (g := { g with stack := rest }) hg (hsize.trans hml.symm) (by rw [hb]; exact hdg) hW (X₁.named hnamed) (a := (Value.ref b :: As).toArray) hf.1 hf.2 (hPc _ hT X₁.warmed)
  exact ⟨x, (T.setVm vm₁).calling { g with stack := rest } mk (Value.ref b :: As).toArray, t, T', L, hT, X', hL, e1, e2, hq, fun target h => hstep₁ _ fun acts => by rw [doInvoke_state]; exact st.trans h⟩
theorem tk_runS (S : CallFix p m c cc nL s args Ts own) (hM : tk_Met l y ws rm Pc Qt mc ms free) (cw : tk_CB R s args own index y maxL ws rm mc ms n ∧ (Cond.static y).before args s = true) (hp : PreS s H Pc As)
    (hg : g.method = m) (hn : As.length = n) (hsize : g.locals.size = nL) (hstack : g.stack = As.reverse ++ rest) (hW : 2 * g.monitorRoom + (rest.map fun v => v.category).sum ≤ 8) (hdg : decode cc g.pc = .ok (.invokestatic index, 3)) (hf : cells + mc ≤ R.cells ∧ slots + ms ≤ R.slots) :
    tk_Run p l e R s m args below meth c H locs cells slots mc ms g rest (Qt As.toArray) free := by
  obtain ⟨⟨hrc, hrs, hfr, hlo, hws, hcw, hcode, hini, hy, hlen, hl⟩, hstt⟩ := cw
  obtain ⟨hx, hb, hml, ho, -⟩ := S
  intro T hT X
  obtain ⟨mk, methM, cM, hnamed, hmethM, -, -, hsigM⟩ := hcode
  have hstatic : methM.isStatic = true := Cond.static_spec hnamed hmethM hstt
  obtain ⟨kP, hkP, -⟩ := className_of_methodNamed hnamed
  have hinitP : kP.init = .initialized := Cond.initialized_spec (findClass_of_methodNamed hnamed) hkP hini
  obtain ⟨vm₁, X₁, hstep₁⟩ := X.invokestatic hx ho hl hnamed hmethM hstatic hkP hinitP hy (g := g) hg (argsL := As) (rest := rest) (hn.trans (hlen _ hsigM)) hstack (by rw [hb]; exact hdg)
  obtain ⟨x, t, T', L, X', hL, e1, e2, hq, st⟩ := tk_back (maxL := maxL) (Wn := 8) hM hp.1 hrc hrs hfr hlo hws hcw (fun a' U hU => word_at hU (Or.inl (by first | rfl | simp [Cond.onTables, Cond.keeps, Cond.steady])) hini) X₁ (g := { g with stack := rest }) hg (hsize.trans hml.symm) (by rw [hb]; exact hdg) hW (X₁.named hnamed) (a := As.toArray) hf.1 hf.2 (hp.2 _ hT X₁.warmed)
  exact ⟨x, (T.setVm vm₁).calling { g with stack := rest } mk As.toArray, t, T', L, hT, X', hL, e1, e2, hq, fun target h => hstep₁ _ fun acts => by rw [doInvoke_state]; exact st.trans h⟩
/-- a method with handlers is called, and comes back -/
theorem tk_runSW (S : CallFix p m c cc nL s args Ts own) (hM : Met l y ws rm Pc Qc mc ms free) (cw : tk_CB R s args own index y maxL ws rm mc ms n ∧ (Cond.static y).before args s = true) (hcW : Cond.codeWith y bytes maxL ret hh ∈ ws) (hp : PreS s H Pc As)
    (hg : g.method = m) (hn : As.length = n) (hsize : g.locals.size = nL) (hstack : g.stack = As.reverse ++ rest) (hW : 2 * g.monitorRoom + (rest.map fun v => v.category).sum ≤ 8) (hdg : decode cc g.pc = .ok (.invokestatic index, 3)) (hf : cells + mc ≤ R.cells ∧ slots + ms ≤ R.slots) :
    va_Run p l e R s m args below meth c H locs cells slots mc ms g rest (Qc As.toArray) free := by
  obtain ⟨⟨hrc, hrs, hfr, hlo, hws, hcw, hcode, hini, hy, hlen, hl⟩, hstt⟩ := cw
  have hK : Back l R p e below s args y 3 8 (PreOf R mc ms Pc) (PostOf Qc mc ms free) := va_backW (hh := hh) (bytes := bytes) (maxL := maxL) (ret := ret) hM hp.1 hrc hrs hfr hlo hws hcW (fun a' U hU => word_at hU (Or.inl (by first | rfl | simp [Cond.onTables, Cond.keeps, Cond.steady])) hini)
  obtain ⟨hx, hb, hml, ho, -⟩ := S
  intro T hT X
  obtain ⟨mk, methM, cM, hnamed, hmethM, -, -, hsigM⟩ := hcode
  have hstatic : methM.isStatic = true := Cond.static_spec hnamed hmethM hstt
  obtain ⟨kP, hkP, -⟩ := className_of_methodNamed hnamed
  have hinitP : kP.init = .initialized := Cond.initialized_spec (findClass_of_methodNamed hnamed) hkP hini
  obtain ⟨vm₁, X₁, hstep₁⟩ := X.invokestatic hx ho hl hnamed hmethM hstatic hkP hinitP hy (g := g) hg (argsL := As) (rest := rest) (hn.trans (hlen _ hsigM)) hstack (by rw [hb]; exact hdg)
  obtain ⟨v, ⟨U', l2, c2, s2⟩, X', ⟨g', mk', t, L, e1, e2, hq, h1, hL, h2, h3⟩, st⟩ := hK m meth c ⟨T.setVm vm₁, locs, cells, slots⟩ { g with stack := rest } (.invokestatic index) mk As.toArray X₁ hg (hsize.trans hml.symm) (by rw [hb]; exact hdg) hW (X₁.named hnamed) ⟨hf.1, hf.2, hp.2 (T.setVm vm₁) hT X₁.warmed⟩
  dsimp only [Pt.U, Pt.locs, Pt.cells, Pt.slots] at X' e1 e2 h1 h2 h3 st
  subst h1; subst h2; subst h3
  exact ⟨v, (T.setVm vm₁).calling g' mk' As.toArray, t, U', L, hT, X', hL, e1, e2, hq, fun target h => hstep₁ _ fun acts => by rw [doInvoke_state]; exact st.trans h⟩
theorem tk_runVW (S : CallFix p m c cc nL s args Ts own) (hM : Met l y ws rm Pc Qc mc ms free) (cw : tk_CB R s args own index y maxL ws rm mc ms n ∧ (Cond.instanceMethod y).before args s = true ∧ (Cond.selects C y y).before args s = true) (hcW : Cond.codeWith y bytes maxL ret hh ∈ ws) (hp : PreV s H C b Pc As)
    (hg : g.method = m) (hn : As.length = n) (hsize : g.locals.size = nL) (hstack : g.stack = As.reverse ++ .ref b :: rest) (hW : 2 * g.monitorRoom + (rest.map fun v => v.category).sum ≤ 8) (hdg : decode cc g.pc = .ok (.invokevirtual index, 3)) (hf : cells + mc ≤ R.cells ∧ slots + ms ≤ R.slots) :
    va_Run p l e R s m args below meth c H locs cells slots mc ms g rest (Qc (Value.ref b :: As).toArray) free := by
  obtain ⟨⟨hrc, hrs, hfr, hlo, hws, hcw, hcode, hini, hy, hlen, hl⟩, hin, hse⟩ := cw
  have hK : Back l R p e below s args y 3 8 (PreOf R mc ms Pc) (PostOf Qc mc ms free) := va_backW (hh := hh) (bytes := bytes) (maxL := maxL) (ret := ret) hM hp.1 hrc hrs hfr hlo hws hcW (fun a' U hU => word_at hU (Or.inl (by first | rfl | simp [Cond.onTables, Cond.keeps, Cond.steady])) hini)
  obtain ⟨hx, hb, hml, ho, -⟩ := S
  obtain ⟨hbl, ⟨cellB, hcB, hoB, hclB⟩, hPc⟩ := hp
  intro T hT X
  obtain ⟨mk, methM, hnamed, hmethM, hstM, habM⟩ := Cond.instanceMethod_spec hin
  obtain ⟨mk2, methM', cM, hn', hmethM', -, -, hsigM⟩ := hcode
  cases hnamed.symm.trans hn'
  cases hmethM.symm.trans hmethM'
  obtain ⟨c2, r2, m2, q1, q2, q3, q4, kP, hkP, hkPi⟩ := Cond.selects_spec hse
  cases hclB.symm.trans q1
  cases (State.methodFound?_of_named hnamed hy).symm.trans q2
  cases hnamed.symm.trans q3
  have hselP : selectMethod e.platform s.vm cellB.cls mk = .method mk := by rw [Launch.admits_selectMethod X.admits]; exact q4
  obtain ⟨vm₁, X₁, hstep₁⟩ := X.invokevirtual hx ho hl hnamed hmethM hstM hkP hkPi hy (a := b) (cell := cellB) (by rw [hT]; exact hcB)
    (fun z h => by rw [h] at hoB; cases hoB) hselP hmethM habM hkP hkPi (g := g) hg (argsL := As) (rest := rest) (hn.trans (hlen _ hsigM)) hstack (by rw [hb]; exact hdg)
  obtain ⟨v, ⟨U', l2, c3, s2⟩, X', ⟨g', mk', t, L, e1, e2, hq, h1, hL, h2, h3⟩, st⟩ := hK m meth c ⟨T.setVm vm₁, locs, cells, slots⟩ { g with stack := rest } (.invokevirtual index) mk (Value.ref b :: As).toArray X₁ hg (hsize.trans hml.symm) (by rw [hb]; exact hdg) hW (X₁.named hnamed) ⟨hf.1, hf.2, hPc (T.setVm vm₁) hT X₁.warmed⟩
  dsimp only [Pt.U, Pt.locs, Pt.cells, Pt.slots] at X' e1 e2 h1 h2 h3 st
  subst h1; subst h2; subst h3
  exact ⟨v, (T.setVm vm₁).calling g' mk' (Value.ref b :: As).toArray, t, U', L, hT, X', hL, e1, e2, hq, fun target h => hstep₁ _ fun acts => by rw [doInvoke_state]; exact st.trans h⟩
/-- what is thrown at a call goes through a method without handlers -/
theorem tk_pass {Qa : State → Addr → State → Prop} {free' : Addr → Prop} {pc : Nat} {ls : Array Slot} {st0 : List Value} (hr : tk_Run p l e R s m args below meth c H locs cells slots mc ms (F0 m pc ls st0) rest Qa free) (hnoh : c.exceptionTable.isEmpty = true) (hlocks : meth.locks = false)
    (hf : ∀ q ∈ locs, free' q.base) (hff : ∀ q, free q → free' q) (hq : ∀ (x : Addr) (st₀ t t' : State), st₀.heap = H → Qa st₀ x t → t'.heap = t.heap → t'.vm = t.vm → s.WarmedH t'.vm → Qt args s x t') :
    W p l e R s m args below meth c H locs cells slots (tk_MQ below Qt args s (cells + mc) (slots + ms) free') (F0 m pc ls st0) := by
  intro T hT X
  obtain ⟨x, st₀, t, T', L, h0, X', hL, e1, e2, hq1, st⟩ := hr T hT X
  obtain ⟨sw, h1, h2, h3, h4⟩ := X'.leaveThrown x (g := { F0 m pc ls st0 with stack := rest }) rfl rfl rfl (tk_empty hnoh pc) hlocks
  refine ⟨_, st _ sw, x, h1, h2, hq x st₀ t _ h0 hq1 e1 e2 h3, locs ++ L, ⟨⟨x, rfl⟩, h3, h4⟩, fun q hq' => ?_⟩
  rcases List.mem_append.mp hq' with h | h
  · exact hf q h
  · exact hff _ (hL q h)
end TKB
section TKC
variable {p : Program} {l : Launch} {e : Env} {R : Room} {s : State} {m : MethodId} {args : Array Value} {below : List Frame} {meth : Method} {c : Code} {H : Heap} {locs : List Loc} {cells slots : Nat} {Q : State → Prop}
/-- the search for a handler ends at h, the tables then being vm' -/
def tk_FT (e : Env) (u : State) (f : JFrame) (a : Addr) (tbl : List ExceptionTableEntry) (h : Handler) (vm' : Vm) : Prop := ∀ (Q : Handler → Pre) (E : CtlPost) (d : Bool) (acts : List Action), wp (findHandler.go f a tbl) Q E e d acts u ↔ Q h d acts (u.setVm vm')
/-- one entry that covers, its class cold or warm: caught, or passed -/
theorem tk_entry {u : State} {f : JFrame} {a : Addr} {z : ExceptionTableEntry} {tbl : List ExceptionTableEntry} {cT : ClassId} {cell : Cell} {k1 k2 : Class} (hx : covers z f.pc = true) (h0 : z.catchType ≠ 0)
    (hl : u.vm.ClassLinks e.platform f.method.cls z.catchType cT) (hcell : u.heap[a]? = some cell) (hobj : ∀ k, cell.vm ≠ .statics k) (hk1 : u.vm.classes[cell.cls]? = some k1) (hk2 : u.vm.classes[cT]? = some k2)
    (Q : Handler → Pre) (E : CtlPost) (d : Bool) (acts : List Action) :
    wp (findHandler.go f a (z :: tbl)) Q E e d acts u ↔ if u.vm.assignable cell.cls cT = true then Q (.found z.handlerPc) d acts (u.setVm (u.vm.noted f.method.cls z.catchType (.cls cT))) else wp (findHandler.go f a tbl) Q E e d acts (u.setVm (u.vm.noted f.method.cls z.catchType (.cls cT))) := by
  simp only [covers] at hx
  obtain ⟨ha, ht⟩ := (resolveClass_links e.toSetting hl).op (op := VmOp.resolveClass f.method.cls z.catchType) rfl
  have hal : u.vm.Alike (u.vm.noted f.method.cls z.catchType (.cls cT)) := (Vm.Alike.refl u.vm).noted _ _ _
  obtain ⟨k1', hk1', -⟩ := hal.2.2 _ _ hk1
  obtain ⟨k2', hk2', -⟩ := hal.2.2 _ _ hk2
  have hfit : (u.vm.noted f.method.cls z.catchType (.cls cT)).assignable cell.cls cT = u.vm.assignable cell.cls cT := hal.assignable ..
  cases hq : u.vm.assignable cell.cls cT <;> simp [findHandler.go, hx, h0, ha, ht, hcell, hobj, hk1', hk2', hfit, hq, VmOp.dirties, VmOp.acts]
/-- at a point of the walk: the search over the entries of tbl, told by names: the first that covers and fits is taken -/
theorem tk_go (X0 : l.admits e) {T : State} (hWm : s.WarmedH T.vm) {f : JFrame} {a : Addr} {own : String} (hown : s.vm.findClass own = some f.method.cls) {cell : Cell} {E : String} {cE : ClassId} (hcE : s.vm.findClass E = some cE) (hcls : cell.cls = cE) (hcell : T.heap[a]? = some cell) (hobj : cell.vm.isStatics = false)
    (z : ExceptionTableEntry) (tbl : List ExceptionTableEntry) (hx : covers z f.pc = true) (h0 : z.catchType ≠ 0) {name : String} (hlink : (Cond.classLink own z.catchType name).before args s = true) :
    ∃ vm', s.WarmedH vm' ∧ ∀ cT : ClassId, s.vm.findClass name = some cT → ∀ (Q : Handler → Pre) (Ep : CtlPost) (d : Bool) (acts : List Action), wp (findHandler.go f a (z :: tbl)) Q Ep e d acts T ↔ if s.vm.assignable cE cT = true then Q (.found z.handlerPc) d acts (T.setVm vm') else wp (findHandler.go f a tbl) Q Ep e d acts (T.setVm vm') := by
  have hpl : e.platform.magicAccessors = ({} : Platform).magicAccessors := by rw [X0.platform]
  obtain ⟨cT, hcT, hcl⟩ := Cond.classLink_spec hown hlink e.platform hpl
  obtain ⟨dk, _, _, kt, hd, _, _, _, _, hkt, _, hopen⟩ := hcl.here
  have hal := hWm.alike
  obtain ⟨kt', hkt', -⟩ := hal.2.2 _ _ hkt
  obtain ⟨kE, hkE⟩ := Vm.classAt_of_findClass hcE
  obtain ⟨kE', hkE', -⟩ := hal.2.2 _ _ hkE
  refine ⟨T.vm.noted f.method.cls z.catchType (.cls cT), hWm.noted hd hopen (State.rightAt_cls hcl), fun cT' hcT' Q Ep d acts => ?_⟩
  cases hcT.symm.trans hcT'
  rw [tk_entry hx h0 (hWm.classLinks hcl) hcell (VmData.ne_statics_of hobj) (by rw [hcls]; exact hkE') hkt', hcls, hal.assignable]
end TKC
end
section
/-! WHAT IS THROWN IS CAUGHT; an exception is made and thrown (own rows; tk_) -/
section TKD
variable {p : Program} {l : Launch} {e : Env} {R : Room} {s : State} {m : MethodId} {args : Array Value} {below : List Frame} {meth : Method} {c : Code} {H : Heap} {locs : List Loc} {cells slots : Nat} {Q : State → Prop}
/-- nothing but the slots of L has changed in the cells that were there: a cell without such a slot is as it was -/
theorem tk_kept {u : State} {L : List Loc} {k n : Nat} (h : s.sameButNew u L k n) {q : Nat} (hq : q < s.heap.size) (hL : ∀ z ∈ L, z.base ≠ q) : u.heap[q]? = s.heap[q]? := by
  obtain ⟨-, -, -, -, -, h6⟩ := h
  have hc : s.heap[q]? = some s.heap[q] := Array.getElem?_eq_getElem hq
  obtain ⟨c', e1, e2, e3, e4⟩ := h6 q _ hc
  rw [e1, hc]
  have hs : c'.slots = s.heap[q].slots := Array.ext_getElem? (fun i => e4 i (fun hm => hL _ hm rfl))
  rw [e2, hs]
/-- the step from the note to the handler, the tables grown warmer by the search -/
theorem tk_stepTo {u : State} {a : Addr} {f : JFrame} {r : List Frame} {pc : Nat} {vm' : Vm} {mf : Method} {cf : Code} (hm : u.vm.method? f.method = some mf) (hc : mf.code = some cf) (hfind : tk_FT e u f a cf.exceptionTable.toList (.found pc) vm') :
    (stepThrowing e u a (.java f :: r)).Is ((u.setVm vm').setFrames (.java { f with pc := pc, stack := [.ref a] } :: r)) [] := by
  simp only [stepThrowing, searchFrame, vmDo]
  generalize hr : Sem.go _ e false [] u = res
  obtain ⟨as, rfl, ha⟩ := Sem.eq_ok_of hr (a := Handler.found pc) (s' := u.setVm vm') (acts' := []) (by simp [Jvm.W.findHandler_eq hm hc, hfind _ _ _ _])
  exact ⟨rfl, ha⟩
theorem tk_caught {T : State} (X : Stand p l e R s m args below meth c T locs cells slots) {a : Addr} {g : JFrame} (hg : g.method = m) {pc : Nat} {vm' : Vm}
    (hfind : tk_FT e ((T.setTop g).pushFrame (.throwing a)) g a c.exceptionTable.toList (.found pc) vm') {target : State} (hrest : Steps p.tables e below ((T.setVm vm').setTop { g with pc := pc, stack := [.ref a] }) target) :
    Steps p.tables e below ((T.setTop g).pushFrame (.throwing a)) target := by
  have h : At T g.method c below := by rw [hg]; exact X.here
  obtain ⟨hgo, hw⟩ := h.throwing a
  refine Steps.head hgo hw ?_
  have hm : ((T.setTop g).pushFrame (.throwing a)).vm.method? g.method = some meth := by rw [Stand.throwing_vm, hg]; exact X.method'
  rw [stepThread_throwing (frames_entered h.top _), (tk_stepTo hm X.code hfind).1]
  obtain ⟨g₀, hr⟩ := X.frames_eq
  have hr' : (T.setVm vm').frames = .java g₀ :: below := hr
  rw [State.setTop_of_frames _ hr'] at hrest
  have key : ((((T.setTop g).pushFrame (.throwing a)).setVm vm').setFrames (.java { g with pc := pc, stack := [.ref a] } :: T.frames.tail)) = (T.setVm vm').setFrames (.java { g with pc := pc, stack := [.ref a] } :: below) := by
    rw [hr, List.tail_cons, State.pushFrame, State.setTop_of_frames _ hr]
    simp only [State.setFrames_setFrames]
    show (((T.setVm vm').setFrames _).setFrames _) = _
    rw [State.setFrames_setFrames]
  rw [key]
  exact hrest
/-- the callee throws an object of class E, and this method's table catches it at pcH -/
theorem tk_catch {mc ms : Nat} {free : Addr → Prop} {Qa : State → Addr → State → Prop} {pc pcH : Nat} {ls : Array Slot} {st0 rest : List Value} (hr : tk_Run p l e R s m args below meth c H locs cells slots mc ms (F0 m pc ls st0) rest Qa free)
    {cE : ClassId} (hQa : ∀ (st₀ : State) (x : Addr) (t : State), st₀.heap = H → Qa st₀ x t → ∃ ce, t.heap[x]? = some ce ∧ ce.vm.isStatics = false ∧ ce.cls = cE)
    (hfind : ∀ (U : State) (x : Addr) (ce : Cell), U.heap[x]? = some ce → ce.vm.isStatics = false → ce.cls = cE → s.WarmedH U.vm → ∃ vm', s.WarmedH vm' ∧ tk_FT e U (F0 m pc ls rest) x c.exceptionTable.toList (.found pcH) vm')
    (kk : ∀ (x : Addr) (H1 : Heap) (L : List Loc), (∀ z ∈ L, free z.base) → s.heap.size ≤ H1.size → (∀ q : Nat, q < s.heap.size → (∀ z ∈ locs ++ L, z.base ≠ q) → H1[q]? = s.heap[q]?) →
      W p l e R s m args below meth c H1 (locs ++ L) (cells + mc) (slots + ms) Q (F0 m pcH ls [.ref x])) : W p l e R s m args below meth c H locs cells slots Q (F0 m pc ls st0) := by
  intro T hT X
  obtain ⟨x, st₀, t, T', L, h0, X', hL, e1, e2, hq, st⟩ := hr T hT X
  obtain ⟨ce, c1, c2, c3⟩ := hQa st₀ x t h0 hq
  obtain ⟨vm', hW', hf⟩ := hfind ((T'.setTop (F0 m pc ls rest)).pushFrame (.throwing x)) x ce (by rw [Stand.throwing_heap, e1]; exact c1) c2 c3 (by rw [Stand.throwing_vm]; exact X'.warmed)
  have hsm := X'.same
  obtain ⟨t2, a2, b2⟩ := kk x T'.heap L hL hsm.2.1 (fun q hq' hne => tk_kept hsm hq' hne) (T'.setVm vm') rfl (X'.noted hW')
  exact ⟨t2, st t2 (tk_caught X' rfl hf a2), b2⟩
end TKD
end
section
/-! AN EXCEPTION IS MADE AND THROWN (new, dup, invokespecial, athrow), under a launch without stack traces (own rows; tk_) -/
section TKE
variable {p : Program} {l : Launch} {e : Env} {R : Room} {s : State} {m : MethodId} {args : Array Value} {below : List Frame} {meth : Method} {c : Code} {H : Heap} {locs : List Loc} {cells slots : Nat} {Q : State → Prop}
def tk_NT (l : Launch) : Prop := ∀ e, l.admits e → e.platform.stackTraces = false
/-- what was thrown is an object of class X -/
def tk_Qx (X : String) : Array Value → State → Addr → State → Prop := fun _ st x t => ∃ ce, t.heap[x]? = some ce ∧ ce.vm.isStatics = false ∧ st.vm.findClass X = some ce.cls
theorem tk_throw0 {cc : ByteArray} {free : Addr → Prop} {pc i0 ic : Nat} {ls : Array Slot} {rest : List Value} {own cls : String} {names : List String} (hexec : p.tables.exec = Jvm.exec) (hb : c.code = cc) (hnoh : c.exceptionTable.isEmpty = true) (hlocks : meth.locks = false) (hNT : tk_NT l)
    (hown : s.vm.findClass own = some m.cls) (hcls : Bundle.fit cls = true) (hnames : ∀ n ∈ names, Bundle.fit n = true) (hclink : (Cond.classLink own i0 cls).before args s = true) (hini : (Cond.initialized cls).before args s = true) (h : ∀ w ∈ Bundle.ownAtoms0 own ic cls names, w.before args s = true)
    (hlocs : ∀ z ∈ locs, ∀ cell, s.heap[z.base]? = some cell → cell.vm.isStatics = false) (hf : ∀ z ∈ locs, free z.base) (hsz : s.heap.size ≤ H.size) (hls : ls.size = c.maxLocals)
    (d0 : decode cc pc = .ok (.new i0, 3)) (d3 : decode cc (pc + 3) = .ok (.dup, 1)) (d4 : decode cc (pc + 4) = .ok (.invokespecial ic, 3)) (d7 : decode cc (pc + 7) = .ok (.athrow, 1))
    (hc : cells + 1 ≤ R.cells) (hs6 : slots + 6 ≤ R.slots) (hRf : names.length + 3 < R.frames) (hRl : (rest.map fun v => v.category).sum + 1 + (13 * (names.length + 1) + 41) ≤ R.locals) :
    W p l e R s m args below meth c H locs cells slots (tk_MQ below (tk_Qx cls) args s (cells + 1) (slots + 6) free) (F0 m pc ls rest) := by
  refine W.newc hexec hb hown hclink (h (.instantiable cls 6) (by simp [Bundle.ownAtoms0])) hini rfl d0 hc hs6 (fun cC kC h1 h2 h3 h4 => ?_)
  show W p l e R s m args below meth c _ locs (cells + 1) (slots + 6) _ (F0 m (pc + 3) ls (.ref H.size :: rest))
  refine lv_dup hexec hb d3 rfl ?_
  show W p l e R s m args below meth c _ locs (cells + 1) (slots + 6) _ (F0 m (pc + 4) ls (.ref H.size :: .ref H.size :: rest))
  intro T hT X
  have hcell : T.heap[H.size]? = some (freshCell cC kC) := by rw [hT]; simp [freshCell]
  obtain ⟨U, st, q1, q2, q3, q4, ce, q5, q6⟩ := X.ctorThrow0 hexec (hNT e X.admits) hown hcls hnames h hlocs h1 h2 hcell hsz (g := F0 m (pc + 4) ls (.ref H.size :: .ref H.size :: rest)) rfl hls rfl rfl (rest := rest) rfl (by rw [hb]; exact d4) (by rw [hb]; exact d7) (tk_empty hnoh _) hRf (by simp only [List.map_cons, List.sum_cons]; show 2 * 0 + (1 + _) + _ ≤ _; omega) hlocks
  exact ⟨U, st, H.size, q1, q2, ⟨ce, q5, by rw [q6.vm]; rfl, q6.cls⟩, locs, ⟨⟨_, rfl⟩, q3, q4⟩, hf⟩
end TKE
end
section
-- ===== PART A: goes FIRST, ahead of the names: the tables' words, and 'selects' of the private methods out of them =====
/-- a private method of a class that the tables say can be made, by its rows of tables_1 -/
def lw_okq (q : MethodName × Nat) : Prop := (q.1.cls ≠ "java/lang/invoke/MethodHandle" ∧ q.1.cls ≠ "java/lang/invoke/VarHandle") ∧ Cond.instantiable q.1.cls q.2 ∈ tables_1 ∧ Cond.privateMethod q.1 ∈ tables_1 ∧ Cond.instanceMethod q.1 ∈ tables_1
theorem lw_p0 : lw_okq (⟨"SyntaxForge$Schema", "keepWords", "()V"⟩, 19) := ⟨⟨by decide +kernel, by decide +kernel⟩, List.mem_of_getElem? (i := 82) (by decide +kernel), List.mem_of_getElem? (i := 229) (by decide +kernel), List.mem_of_getElem? (i := 230) (by decide +kernel)⟩
theorem lw_p1 : lw_okq (⟨"SyntaxForge$Schema", "isName", "(ILSyntaxForge$Bytes;I)Z"⟩, 19) := ⟨⟨by decide +kernel, by decide +kernel⟩, List.mem_of_getElem? (i := 82) (by decide +kernel), List.mem_of_getElem? (i := 244) (by decide +kernel), List.mem_of_getElem? (i := 245) (by decide +kernel)⟩
theorem lw_p2 : lw_okq (⟨"SyntaxForge$Schema", "added", "(LSyntaxForge$Bytes;III)I"⟩, 19) := ⟨⟨by decide +kernel, by decide +kernel⟩, List.mem_of_getElem? (i := 82) (by decide +kernel), List.mem_of_getElem? (i := 248) (by decide +kernel), List.mem_of_getElem? (i := 249) (by decide +kernel)⟩
theorem lw_p3 : lw_okq (⟨"java/lang/Throwable", "fillInStackTrace", "(I)Ljava/lang/Throwable;"⟩, 6) := ⟨⟨by decide +kernel, by decide +kernel⟩, List.mem_of_getElem? (i := 579) (by decide +kernel), List.mem_of_getElem? (i := 577) (by decide +kernel), List.mem_of_getElem? (i := 578) (by decide +kernel)⟩
theorem lw_p4 : lw_okq (⟨"SyntaxForge", "takeTape", "()LSyntaxForge$Bytes;"⟩, 14) := ⟨⟨by decide +kernel, by decide +kernel⟩, List.mem_of_getElem? (i := 46) (by decide +kernel), List.mem_of_getElem? (i := 642) (by decide +kernel), List.mem_of_getElem? (i := 643) (by decide +kernel)⟩
theorem lw_p5 : lw_okq (⟨"SyntaxForge$Scanner", "token", "(I)I"⟩, 8) := ⟨⟨by decide +kernel, by decide +kernel⟩, List.mem_of_getElem? (i := 323) (by decide +kernel), List.mem_of_getElem? (i := 656) (by decide +kernel), List.mem_of_getElem? (i := 657) (by decide +kernel)⟩
theorem lw_p6 : lw_okq (⟨"SyntaxForge$Scanner", "scanWord", "(I)I"⟩, 8) := ⟨⟨by decide +kernel, by decide +kernel⟩, List.mem_of_getElem? (i := 323) (by decide +kernel), List.mem_of_getElem? (i := 663) (by decide +kernel), List.mem_of_getElem? (i := 664) (by decide +kernel)⟩
theorem lw_p7 : lw_okq (⟨"SyntaxForge$Scanner", "goesOn", "(I)Z"⟩, 8) := ⟨⟨by decide +kernel, by decide +kernel⟩, List.mem_of_getElem? (i := 323) (by decide +kernel), List.mem_of_getElem? (i := 667) (by decide +kernel), List.mem_of_getElem? (i := 668) (by decide +kernel)⟩
theorem lw_p8 : lw_okq (⟨"SyntaxForge$Scanner", "keep", "(IIJ)V"⟩, 8) := ⟨⟨by decide +kernel, by decide +kernel⟩, List.mem_of_getElem? (i := 323) (by decide +kernel), List.mem_of_getElem? (i := 675) (by decide +kernel), List.mem_of_getElem? (i := 676) (by decide +kernel)⟩
theorem lw_p9 : lw_okq (⟨"SyntaxForge$Scanner", "scanNumber", "(I)I"⟩, 8) := ⟨⟨by decide +kernel, by decide +kernel⟩, List.mem_of_getElem? (i := 323) (by decide +kernel), List.mem_of_getElem? (i := 691) (by decide +kernel), List.mem_of_getElem? (i := 692) (by decide +kernel)⟩
theorem lw_p10 : lw_okq (⟨"SyntaxForge$Scanner", "scanString", "(I)I"⟩, 8) := ⟨⟨by decide +kernel, by decide +kernel⟩, List.mem_of_getElem? (i := 323) (by decide +kernel), List.mem_of_getElem? (i := 697) (by decide +kernel), List.mem_of_getElem? (i := 698) (by decide +kernel)⟩
theorem lw_p11 : lw_okq (⟨"SyntaxForge$Scanner", "scanDigits", "(I)I"⟩, 8) := ⟨⟨by decide +kernel, by decide +kernel⟩, List.mem_of_getElem? (i := 323) (by decide +kernel), List.mem_of_getElem? (i := 701) (by decide +kernel), List.mem_of_getElem? (i := 702) (by decide +kernel)⟩
theorem lw_p12 : lw_okq (⟨"SyntaxForge$Scanner", "scanSign", "(II)I"⟩, 8) := ⟨⟨by decide +kernel, by decide +kernel⟩, List.mem_of_getElem? (i := 323) (by decide +kernel), List.mem_of_getElem? (i := 708) (by decide +kernel), List.mem_of_getElem? (i := 709) (by decide +kernel)⟩
theorem lw_p13 : lw_okq (⟨"SyntaxForge$Parser", "need", "(I)J"⟩, 7) := ⟨⟨by decide +kernel, by decide +kernel⟩, List.mem_of_getElem? (i := 360) (by decide +kernel), List.mem_of_getElem? (i := 774) (by decide +kernel), List.mem_of_getElem? (i := 775) (by decide +kernel)⟩
theorem lw_p14 : lw_okq (⟨"SyntaxForge$Parser", "kind", "(I)I"⟩, 7) := ⟨⟨by decide +kernel, by decide +kernel⟩, List.mem_of_getElem? (i := 360) (by decide +kernel), List.mem_of_getElem? (i := 778) (by decide +kernel), List.mem_of_getElem? (i := 779) (by decide +kernel)⟩
theorem lw_p15 : lw_okq (⟨"SyntaxForge$Parser", "fail", "()V"⟩, 7) := ⟨⟨by decide +kernel, by decide +kernel⟩, List.mem_of_getElem? (i := 360) (by decide +kernel), List.mem_of_getElem? (i := 782) (by decide +kernel), List.mem_of_getElem? (i := 783) (by decide +kernel)⟩
def lw_privs_1 : List (MethodName × Nat) := [(⟨"SyntaxForge$Schema", "keepWords", "()V"⟩, 19), (⟨"SyntaxForge$Schema", "isName", "(ILSyntaxForge$Bytes;I)Z"⟩, 19), (⟨"SyntaxForge$Schema", "added", "(LSyntaxForge$Bytes;III)I"⟩, 19), (⟨"java/lang/Throwable", "fillInStackTrace", "(I)Ljava/lang/Throwable;"⟩, 6), (⟨"SyntaxForge", "takeTape", "()LSyntaxForge$Bytes;"⟩, 14), (⟨"SyntaxForge$Scanner", "token", "(I)I"⟩, 8), (⟨"SyntaxForge$Scanner", "scanWord", "(I)I"⟩, 8), (⟨"SyntaxForge$Scanner", "goesOn", "(I)Z"⟩, 8), (⟨"SyntaxForge$Scanner", "keep", "(IIJ)V"⟩, 8), (⟨"SyntaxForge$Scanner", "scanNumber", "(I)I"⟩, 8), (⟨"SyntaxForge$Scanner", "scanString", "(I)I"⟩, 8), (⟨"SyntaxForge$Scanner", "scanDigits", "(I)I"⟩, 8), (⟨"SyntaxForge$Scanner", "scanSign", "(II)I"⟩, 8), (⟨"SyntaxForge$Parser", "need", "(I)J"⟩, 7), (⟨"SyntaxForge$Parser", "kind", "(I)I"⟩, 7), (⟨"SyntaxForge$Parser", "fail", "()V"⟩, 7)]
theorem lw_r1 : ∀ q ∈ lw_privs_1, lw_okq q := List.forall_mem_cons.mpr ⟨lw_p0, List.forall_mem_cons.mpr ⟨lw_p1, List.forall_mem_cons.mpr ⟨lw_p2, List.forall_mem_cons.mpr ⟨lw_p3, List.forall_mem_cons.mpr ⟨lw_p4, List.forall_mem_cons.mpr ⟨lw_p5, List.forall_mem_cons.mpr ⟨lw_p6, List.forall_mem_cons.mpr ⟨lw_p7, List.forall_mem_cons.mpr ⟨lw_p8, List.forall_mem_cons.mpr ⟨lw_p9, List.forall_mem_cons.mpr ⟨lw_p10, List.forall_mem_cons.mpr ⟨lw_p11, List.forall_mem_cons.mpr ⟨lw_p12, List.forall_mem_cons.mpr ⟨lw_p13, List.forall_mem_cons.mpr ⟨lw_p14, List.forall_mem_cons.mpr ⟨lw_p15, fun _ h => absurd h List.not_mem_nil⟩⟩⟩⟩⟩⟩⟩⟩⟩⟩⟩⟩⟩⟩⟩⟩
theorem lw_p16 : lw_okq (⟨"SyntaxForge$Parser", "number", "()J"⟩, 7) := ⟨⟨by decide +kernel, by decide +kernel⟩, List.mem_of_getElem? (i := 360) (by decide +kernel), List.mem_of_getElem? (i := 801) (by decide +kernel), List.mem_of_getElem? (i := 802) (by decide +kernel)⟩
theorem lw_p17 : lw_okq (⟨"SyntaxForge$Parser", "type", "(I)LSyntaxForge$Type;"⟩, 7) := ⟨⟨by decide +kernel, by decide +kernel⟩, List.mem_of_getElem? (i := 360) (by decide +kernel), List.mem_of_getElem? (i := 805) (by decide +kernel), List.mem_of_getElem? (i := 806) (by decide +kernel)⟩
theorem lw_p18 : lw_okq (⟨"SyntaxForge$Parser", "take", "(I)Z"⟩, 7) := ⟨⟨by decide +kernel, by decide +kernel⟩, List.mem_of_getElem? (i := 360) (by decide +kernel), List.mem_of_getElem? (i := 809) (by decide +kernel), List.mem_of_getElem? (i := 810) (by decide +kernel)⟩
theorem lw_p19 : lw_okq (⟨"SyntaxForge$Parser", "base", "(I)LSyntaxForge$Type;"⟩, 7) := ⟨⟨by decide +kernel, by decide +kernel⟩, List.mem_of_getElem? (i := 360) (by decide +kernel), List.mem_of_getElem? (i := 813) (by decide +kernel), List.mem_of_getElem? (i := 814) (by decide +kernel)⟩
theorem lw_p20 : lw_okq (⟨"SyntaxForge$Parser", "baseKind", "(I)I"⟩, 7) := ⟨⟨by decide +kernel, by decide +kernel⟩, List.mem_of_getElem? (i := 360) (by decide +kernel), List.mem_of_getElem? (i := 817) (by decide +kernel), List.mem_of_getElem? (i := 818) (by decide +kernel)⟩
theorem lw_p21 : lw_okq (⟨"java/util/ArrayList", "add", "(Ljava/lang/Object;[Ljava/lang/Object;I)V"⟩, 3) := ⟨⟨by decide +kernel, by decide +kernel⟩, List.mem_of_getElem? (i := 88) (by decide +kernel), List.mem_of_getElem? (i := 960) (by decide +kernel), List.mem_of_getElem? (i := 961) (by decide +kernel)⟩
theorem lw_p22 : lw_okq (⟨"java/util/ArrayList", "grow", "()[Ljava/lang/Object;"⟩, 3) := ⟨⟨by decide +kernel, by decide +kernel⟩, List.mem_of_getElem? (i := 88) (by decide +kernel), List.mem_of_getElem? (i := 964) (by decide +kernel), List.mem_of_getElem? (i := 965) (by decide +kernel)⟩
theorem lw_p23 : lw_okq (⟨"java/util/ArrayList", "grow", "(I)[Ljava/lang/Object;"⟩, 3) := ⟨⟨by decide +kernel, by decide +kernel⟩, List.mem_of_getElem? (i := 88) (by decide +kernel), List.mem_of_getElem? (i := 968) (by decide +kernel), List.mem_of_getElem? (i := 969) (by decide +kernel)⟩
theorem lw_p24 : lw_okq (⟨"SyntaxForge$Parser", "sized", "(LSyntaxForge$Type;)V"⟩, 7) := ⟨⟨by decide +kernel, by decide +kernel⟩, List.mem_of_getElem? (i := 360) (by decide +kernel), List.mem_of_getElem? (i := 1022) (by decide +kernel), List.mem_of_getElem? (i := 1023) (by decide +kernel)⟩
theorem lw_p25 : lw_okq (⟨"SyntaxForge$Parser", "size", "(LSyntaxForge$Type;)V"⟩, 7) := ⟨⟨by decide +kernel, by decide +kernel⟩, List.mem_of_getElem? (i := 360) (by decide +kernel), List.mem_of_getElem? (i := 1026) (by decide +kernel), List.mem_of_getElem? (i := 1027) (by decide +kernel)⟩
theorem lw_p26 : lw_okq (⟨"SyntaxForge$Parser", "endBounds", "(LSyntaxForge$Type;)V"⟩, 7) := ⟨⟨by decide +kernel, by decide +kernel⟩, List.mem_of_getElem? (i := 360) (by decide +kernel), List.mem_of_getElem? (i := 1030) (by decide +kernel), List.mem_of_getElem? (i := 1031) (by decide +kernel)⟩
theorem lw_p27 : lw_okq (⟨"SyntaxForge$Parser", "range", "(LSyntaxForge$Type;)V"⟩, 7) := ⟨⟨by decide +kernel, by decide +kernel⟩, List.mem_of_getElem? (i := 360) (by decide +kernel), List.mem_of_getElem? (i := 1034) (by decide +kernel), List.mem_of_getElem? (i := 1035) (by decide +kernel)⟩
theorem lw_p28 : lw_okq (⟨"SyntaxForge$Parser", "signed", "()J"⟩, 7) := ⟨⟨by decide +kernel, by decide +kernel⟩, List.mem_of_getElem? (i := 360) (by decide +kernel), List.mem_of_getElem? (i := 1038) (by decide +kernel), List.mem_of_getElem? (i := 1039) (by decide +kernel)⟩
theorem lw_p29 : lw_okq (⟨"SyntaxForge$Parser", "members", "(LSyntaxForge$Type;I)V"⟩, 7) := ⟨⟨by decide +kernel, by decide +kernel⟩, List.mem_of_getElem? (i := 360) (by decide +kernel), List.mem_of_getElem? (i := 1042) (by decide +kernel), List.mem_of_getElem? (i := 1043) (by decide +kernel)⟩
theorem lw_p30 : lw_okq (⟨"SyntaxForge$Parser", "itemNumber", "(LSyntaxForge$Member;)V"⟩, 7) := ⟨⟨by decide +kernel, by decide +kernel⟩, List.mem_of_getElem? (i := 360) (by decide +kernel), List.mem_of_getElem? (i := 1130) (by decide +kernel), List.mem_of_getElem? (i := 1131) (by decide +kernel)⟩
theorem lw_p31 : lw_okq (⟨"SyntaxForge$Parser", "value", "()LSyntaxForge$Value;"⟩, 7) := ⟨⟨by decide +kernel, by decide +kernel⟩, List.mem_of_getElem? (i := 360) (by decide +kernel), List.mem_of_getElem? (i := 1134) (by decide +kernel), List.mem_of_getElem? (i := 1135) (by decide +kernel)⟩
def lw_privs_2 : List (MethodName × Nat) := [(⟨"SyntaxForge$Parser", "number", "()J"⟩, 7), (⟨"SyntaxForge$Parser", "type", "(I)LSyntaxForge$Type;"⟩, 7), (⟨"SyntaxForge$Parser", "take", "(I)Z"⟩, 7), (⟨"SyntaxForge$Parser", "base", "(I)LSyntaxForge$Type;"⟩, 7), (⟨"SyntaxForge$Parser", "baseKind", "(I)I"⟩, 7), (⟨"java/util/ArrayList", "add", "(Ljava/lang/Object;[Ljava/lang/Object;I)V"⟩, 3), (⟨"java/util/ArrayList", "grow", "()[Ljava/lang/Object;"⟩, 3), (⟨"java/util/ArrayList", "grow", "(I)[Ljava/lang/Object;"⟩, 3), (⟨"SyntaxForge$Parser", "sized", "(LSyntaxForge$Type;)V"⟩, 7), (⟨"SyntaxForge$Parser", "size", "(LSyntaxForge$Type;)V"⟩, 7), (⟨"SyntaxForge$Parser", "endBounds", "(LSyntaxForge$Type;)V"⟩, 7), (⟨"SyntaxForge$Parser", "range", "(LSyntaxForge$Type;)V"⟩, 7), (⟨"SyntaxForge$Parser", "signed", "()J"⟩, 7), (⟨"SyntaxForge$Parser", "members", "(LSyntaxForge$Type;I)V"⟩, 7), (⟨"SyntaxForge$Parser", "itemNumber", "(LSyntaxForge$Member;)V"⟩, 7), (⟨"SyntaxForge$Parser", "value", "()LSyntaxForge$Value;"⟩, 7)]
theorem lw_r2 : ∀ q ∈ lw_privs_2, lw_okq q := List.forall_mem_cons.mpr ⟨lw_p16, List.forall_mem_cons.mpr ⟨lw_p17, List.forall_mem_cons.mpr ⟨lw_p18, List.forall_mem_cons.mpr ⟨lw_p19, List.forall_mem_cons.mpr ⟨lw_p20, List.forall_mem_cons.mpr ⟨lw_p21, List.forall_mem_cons.mpr ⟨lw_p22, List.forall_mem_cons.mpr ⟨lw_p23, List.forall_mem_cons.mpr ⟨lw_p24, List.forall_mem_cons.mpr ⟨lw_p25, List.forall_mem_cons.mpr ⟨lw_p26, List.forall_mem_cons.mpr ⟨lw_p27, List.forall_mem_cons.mpr ⟨lw_p28, List.forall_mem_cons.mpr ⟨lw_p29, List.forall_mem_cons.mpr ⟨lw_p30, List.forall_mem_cons.mpr ⟨lw_p31, fun _ h => absurd h List.not_mem_nil⟩⟩⟩⟩⟩⟩⟩⟩⟩⟩⟩⟩⟩⟩⟩⟩
theorem lw_p32 : lw_okq (⟨"SyntaxForge$Parser", "brace", "(LSyntaxForge$Value;I)Z"⟩, 7) := ⟨⟨by decide +kernel, by decide +kernel⟩, List.mem_of_getElem? (i := 360) (by decide +kernel), List.mem_of_getElem? (i := 1272) (by decide +kernel), List.mem_of_getElem? (i := 1273) (by decide +kernel)⟩
theorem lw_p33 : lw_okq (⟨"SyntaxForge$Parser", "canBegin", "(I)Z"⟩, 7) := ⟨⟨by decide +kernel, by decide +kernel⟩, List.mem_of_getElem? (i := 360) (by decide +kernel), List.mem_of_getElem? (i := 1276) (by decide +kernel), List.mem_of_getElem? (i := 1277) (by decide +kernel)⟩
theorem lw_p34 : lw_okq (⟨"SyntaxForge$Parser", "arcs", "(LSyntaxForge$Value;)V"⟩, 7) := ⟨⟨by decide +kernel, by decide +kernel⟩, List.mem_of_getElem? (i := 360) (by decide +kernel), List.mem_of_getElem? (i := 1280) (by decide +kernel), List.mem_of_getElem? (i := 1281) (by decide +kernel)⟩
theorem lw_p35 : lw_okq (⟨"SyntaxForge$Parser", "begins", "(LSyntaxForge$Value;I)Z"⟩, 7) := ⟨⟨by decide +kernel, by decide +kernel⟩, List.mem_of_getElem? (i := 360) (by decide +kernel), List.mem_of_getElem? (i := 1305) (by decide +kernel), List.mem_of_getElem? (i := 1306) (by decide +kernel)⟩
theorem lw_p36 : lw_okq (⟨"SyntaxForge$Parser", "ended", "(I)I"⟩, 7) := ⟨⟨by decide +kernel, by decide +kernel⟩, List.mem_of_getElem? (i := 360) (by decide +kernel), List.mem_of_getElem? (i := 1325) (by decide +kernel), List.mem_of_getElem? (i := 1326) (by decide +kernel)⟩
theorem lw_p37 : lw_okq (⟨"SyntaxForge$Parser", "tagAll", "(LSyntaxForge$Type;)V"⟩, 7) := ⟨⟨by decide +kernel, by decide +kernel⟩, List.mem_of_getElem? (i := 360) (by decide +kernel), List.mem_of_getElem? (i := 1334) (by decide +kernel), List.mem_of_getElem? (i := 1335) (by decide +kernel)⟩
theorem lw_p38 : lw_okq (⟨"SyntaxForge$Schema", "linkNames", "()V"⟩, 19) := ⟨⟨by decide +kernel, by decide +kernel⟩, List.mem_of_getElem? (i := 82) (by decide +kernel), List.mem_of_getElem? (i := 1352) (by decide +kernel), List.mem_of_getElem? (i := 1353) (by decide +kernel)⟩
theorem lw_p39 : lw_okq (⟨"SyntaxForge$Schema", "insist", "()V"⟩, 19) := ⟨⟨by decide +kernel, by decide +kernel⟩, List.mem_of_getElem? (i := 82) (by decide +kernel), List.mem_of_getElem? (i := 1357) (by decide +kernel), List.mem_of_getElem? (i := 1358) (by decide +kernel)⟩
theorem lw_p40 : lw_okq (⟨"SyntaxForge$Schema", "resolve", "(LSyntaxForge$Type;)V"⟩, 19) := ⟨⟨by decide +kernel, by decide +kernel⟩, List.mem_of_getElem? (i := 82) (by decide +kernel), List.mem_of_getElem? (i := 1376) (by decide +kernel), List.mem_of_getElem? (i := 1377) (by decide +kernel)⟩
theorem lw_p41 : lw_okq (⟨"SyntaxForge$Type", "identify", "(Z)V"⟩, 20) := ⟨⟨by decide +kernel, by decide +kernel⟩, List.mem_of_getElem? (i := 825) (by decide +kernel), List.mem_of_getElem? (i := 1393) (by decide +kernel), List.mem_of_getElem? (i := 1394) (by decide +kernel)⟩
theorem lw_p42 : lw_okq (⟨"SyntaxForge$Schema", "makeRoom", "()V"⟩, 19) := ⟨⟨by decide +kernel, by decide +kernel⟩, List.mem_of_getElem? (i := 82) (by decide +kernel), List.mem_of_getElem? (i := 1404) (by decide +kernel), List.mem_of_getElem? (i := 1405) (by decide +kernel)⟩
theorem lw_p43 : lw_okq (⟨"SyntaxForge$Schema", "lookAt", "(LSyntaxForge$Type;)V"⟩, 19) := ⟨⟨by decide +kernel, by decide +kernel⟩, List.mem_of_getElem? (i := 82) (by decide +kernel), List.mem_of_getElem? (i := 1409) (by decide +kernel), List.mem_of_getElem? (i := 1410) (by decide +kernel)⟩
theorem lw_p44 : lw_okq (⟨"SyntaxForge$Schema", "newSet", "()V"⟩, 19) := ⟨⟨by decide +kernel, by decide +kernel⟩, List.mem_of_getElem? (i := 82) (by decide +kernel), List.mem_of_getElem? (i := 1413) (by decide +kernel), List.mem_of_getElem? (i := 1414) (by decide +kernel)⟩
theorem lw_p45 : lw_okq (⟨"SyntaxForge$Schema", "addKey", "(J)Z"⟩, 19) := ⟨⟨by decide +kernel, by decide +kernel⟩, List.mem_of_getElem? (i := 82) (by decide +kernel), List.mem_of_getElem? (i := 1418) (by decide +kernel), List.mem_of_getElem? (i := 1419) (by decide +kernel)⟩
theorem lw_p46 : lw_okq (⟨"SyntaxForge$Schema", "numberRoots", "(LSyntaxForge$Type;)V"⟩, 19) := ⟨⟨by decide +kernel, by decide +kernel⟩, List.mem_of_getElem? (i := 82) (by decide +kernel), List.mem_of_getElem? (i := 1423) (by decide +kernel), List.mem_of_getElem? (i := 1424) (by decide +kernel)⟩
theorem lw_p47 : lw_okq (⟨"SyntaxForge$Schema", "numberExtensions", "(LSyntaxForge$Type;)V"⟩, 19) := ⟨⟨by decide +kernel, by decide +kernel⟩, List.mem_of_getElem? (i := 82) (by decide +kernel), List.mem_of_getElem? (i := 1427) (by decide +kernel), List.mem_of_getElem? (i := 1428) (by decide +kernel)⟩
def lw_privs_3 : List (MethodName × Nat) := [(⟨"SyntaxForge$Parser", "brace", "(LSyntaxForge$Value;I)Z"⟩, 7), (⟨"SyntaxForge$Parser", "canBegin", "(I)Z"⟩, 7), (⟨"SyntaxForge$Parser", "arcs", "(LSyntaxForge$Value;)V"⟩, 7), (⟨"SyntaxForge$Parser", "begins", "(LSyntaxForge$Value;I)Z"⟩, 7), (⟨"SyntaxForge$Parser", "ended", "(I)I"⟩, 7), (⟨"SyntaxForge$Parser", "tagAll", "(LSyntaxForge$Type;)V"⟩, 7), (⟨"SyntaxForge$Schema", "linkNames", "()V"⟩, 19), (⟨"SyntaxForge$Schema", "insist", "()V"⟩, 19), (⟨"SyntaxForge$Schema", "resolve", "(LSyntaxForge$Type;)V"⟩, 19), (⟨"SyntaxForge$Type", "identify", "(Z)V"⟩, 20), (⟨"SyntaxForge$Schema", "makeRoom", "()V"⟩, 19), (⟨"SyntaxForge$Schema", "lookAt", "(LSyntaxForge$Type;)V"⟩, 19), (⟨"SyntaxForge$Schema", "newSet", "()V"⟩, 19), (⟨"SyntaxForge$Schema", "addKey", "(J)Z"⟩, 19), (⟨"SyntaxForge$Schema", "numberRoots", "(LSyntaxForge$Type;)V"⟩, 19), (⟨"SyntaxForge$Schema", "numberExtensions", "(LSyntaxForge$Type;)V"⟩, 19)]
theorem lw_r3 : ∀ q ∈ lw_privs_3, lw_okq q := List.forall_mem_cons.mpr ⟨lw_p32, List.forall_mem_cons.mpr ⟨lw_p33, List.forall_mem_cons.mpr ⟨lw_p34, List.forall_mem_cons.mpr ⟨lw_p35, List.forall_mem_cons.mpr ⟨lw_p36, List.forall_mem_cons.mpr ⟨lw_p37, List.forall_mem_cons.mpr ⟨lw_p38, List.forall_mem_cons.mpr ⟨lw_p39, List.forall_mem_cons.mpr ⟨lw_p40, List.forall_mem_cons.mpr ⟨lw_p41, List.forall_mem_cons.mpr ⟨lw_p42, List.forall_mem_cons.mpr ⟨lw_p43, List.forall_mem_cons.mpr ⟨lw_p44, List.forall_mem_cons.mpr ⟨lw_p45, List.forall_mem_cons.mpr ⟨lw_p46, List.forall_mem_cons.mpr ⟨lw_p47, fun _ h => absurd h List.not_mem_nil⟩⟩⟩⟩⟩⟩⟩⟩⟩⟩⟩⟩⟩⟩⟩⟩
theorem lw_p48 : lw_okq (⟨"SyntaxForge$Schema", "measureChoices", "()V"⟩, 19) := ⟨⟨by decide +kernel, by decide +kernel⟩, List.mem_of_getElem? (i := 82) (by decide +kernel), List.mem_of_getElem? (i := 1436) (by decide +kernel), List.mem_of_getElem? (i := 1437) (by decide +kernel)⟩
theorem lw_p49 : lw_okq (⟨"SyntaxForge$Schema", "leastOf", "(LSyntaxForge$Type;)J"⟩, 19) := ⟨⟨by decide +kernel, by decide +kernel⟩, List.mem_of_getElem? (i := 82) (by decide +kernel), List.mem_of_getElem? (i := 1440) (by decide +kernel), List.mem_of_getElem? (i := 1441) (by decide +kernel)⟩
theorem lw_p50 : lw_okq (⟨"SyntaxForge$Schema", "lookAtTags", "(LSyntaxForge$Type;)V"⟩, 19) := ⟨⟨by decide +kernel, by decide +kernel⟩, List.mem_of_getElem? (i := 82) (by decide +kernel), List.mem_of_getElem? (i := 1449) (by decide +kernel), List.mem_of_getElem? (i := 1450) (by decide +kernel)⟩
theorem lw_p51 : lw_okq (⟨"SyntaxForge$Schema", "addTags", "(LSyntaxForge$Type;)V"⟩, 19) := ⟨⟨by decide +kernel, by decide +kernel⟩, List.mem_of_getElem? (i := 82) (by decide +kernel), List.mem_of_getElem? (i := 1454) (by decide +kernel), List.mem_of_getElem? (i := 1455) (by decide +kernel)⟩
theorem lw_p52 : lw_okq (⟨"SyntaxForge$Schema", "walk", "(LSyntaxForge$Type;J)I"⟩, 19) := ⟨⟨by decide +kernel, by decide +kernel⟩, List.mem_of_getElem? (i := 82) (by decide +kernel), List.mem_of_getElem? (i := 1459) (by decide +kernel), List.mem_of_getElem? (i := 1460) (by decide +kernel)⟩
theorem lw_p53 : lw_okq (⟨"java/util/ArrayList", "fastRemove", "([Ljava/lang/Object;I)V"⟩, 3) := ⟨⟨by decide +kernel, by decide +kernel⟩, List.mem_of_getElem? (i := 88) (by decide +kernel), List.mem_of_getElem? (i := 1472) (by decide +kernel), List.mem_of_getElem? (i := 1473) (by decide +kernel)⟩
theorem lw_p54 : lw_okq (⟨"SyntaxForge$Schema", "arrange", "(LSyntaxForge$Type;)V"⟩, 19) := ⟨⟨by decide +kernel, by decide +kernel⟩, List.mem_of_getElem? (i := 82) (by decide +kernel), List.mem_of_getElem? (i := 1485) (by decide +kernel), List.mem_of_getElem? (i := 1486) (by decide +kernel)⟩
theorem lw_p55 : lw_okq (⟨"SyntaxForge$Schema", "settleStandards", "(LSyntaxForge$Der;)V"⟩, 19) := ⟨⟨by decide +kernel, by decide +kernel⟩, List.mem_of_getElem? (i := 82) (by decide +kernel), List.mem_of_getElem? (i := 1490) (by decide +kernel), List.mem_of_getElem? (i := 1491) (by decide +kernel)⟩
theorem lw_p56 : lw_okq (⟨"SyntaxForge$Values", "wrongPart", "(LSyntaxForge$Value;LSyntaxForge$Type;)LSyntaxForge$Value;"⟩, 3) := ⟨⟨by decide +kernel, by decide +kernel⟩, List.mem_of_getElem? (i := 114) (by decide +kernel), List.mem_of_getElem? (i := 1498) (by decide +kernel), List.mem_of_getElem? (i := 1499) (by decide +kernel)⟩
theorem lw_p57 : lw_okq (⟨"SyntaxForge$Values", "wrongElement", "(LSyntaxForge$Value;LSyntaxForge$Type;)LSyntaxForge$Value;"⟩, 3) := ⟨⟨by decide +kernel, by decide +kernel⟩, List.mem_of_getElem? (i := 114) (by decide +kernel), List.mem_of_getElem? (i := 1515) (by decide +kernel), List.mem_of_getElem? (i := 1516) (by decide +kernel)⟩
theorem lw_p58 : lw_okq (⟨"SyntaxForge$Values", "wrongChoice", "(LSyntaxForge$Value;LSyntaxForge$Type;)LSyntaxForge$Value;"⟩, 3) := ⟨⟨by decide +kernel, by decide +kernel⟩, List.mem_of_getElem? (i := 114) (by decide +kernel), List.mem_of_getElem? (i := 1527) (by decide +kernel), List.mem_of_getElem? (i := 1528) (by decide +kernel)⟩
theorem lw_p59 : lw_okq (⟨"SyntaxForge$Values", "isSimple", "(LSyntaxForge$Value;LSyntaxForge$Type;)Z"⟩, 3) := ⟨⟨by decide +kernel, by decide +kernel⟩, List.mem_of_getElem? (i := 114) (by decide +kernel), List.mem_of_getElem? (i := 1535) (by decide +kernel), List.mem_of_getElem? (i := 1536) (by decide +kernel)⟩
theorem lw_p60 : lw_okq (⟨"SyntaxForge$Schema", "isReady", "(LSyntaxForge$Member;)Z"⟩, 19) := ⟨⟨by decide +kernel, by decide +kernel⟩, List.mem_of_getElem? (i := 82) (by decide +kernel), List.mem_of_getElem? (i := 1555) (by decide +kernel), List.mem_of_getElem? (i := 1556) (by decide +kernel)⟩
theorem lw_p61 : lw_okq (⟨"SyntaxForge$Der", "gather", "(LSyntaxForge$Value;)I"⟩, 3) := ⟨⟨by decide +kernel, by decide +kernel⟩, List.mem_of_getElem? (i := 392) (by decide +kernel), List.mem_of_getElem? (i := 1573) (by decide +kernel), List.mem_of_getElem? (i := 1574) (by decide +kernel)⟩
theorem lw_p62 : lw_okq (⟨"SyntaxForge$Der", "makeRoom", "(I)V"⟩, 3) := ⟨⟨by decide +kernel, by decide +kernel⟩, List.mem_of_getElem? (i := 392) (by decide +kernel), List.mem_of_getElem? (i := 1577) (by decide +kernel), List.mem_of_getElem? (i := 1578) (by decide +kernel)⟩
theorem lw_p63 : lw_okq (⟨"SyntaxForge$Der", "sort", "(IZ)V"⟩, 3) := ⟨⟨by decide +kernel, by decide +kernel⟩, List.mem_of_getElem? (i := 392) (by decide +kernel), List.mem_of_getElem? (i := 1582) (by decide +kernel), List.mem_of_getElem? (i := 1583) (by decide +kernel)⟩
def lw_privs_4 : List (MethodName × Nat) := [(⟨"SyntaxForge$Schema", "measureChoices", "()V"⟩, 19), (⟨"SyntaxForge$Schema", "leastOf", "(LSyntaxForge$Type;)J"⟩, 19), (⟨"SyntaxForge$Schema", "lookAtTags", "(LSyntaxForge$Type;)V"⟩, 19), (⟨"SyntaxForge$Schema", "addTags", "(LSyntaxForge$Type;)V"⟩, 19), (⟨"SyntaxForge$Schema", "walk", "(LSyntaxForge$Type;J)I"⟩, 19), (⟨"java/util/ArrayList", "fastRemove", "([Ljava/lang/Object;I)V"⟩, 3), (⟨"SyntaxForge$Schema", "arrange", "(LSyntaxForge$Type;)V"⟩, 19), (⟨"SyntaxForge$Schema", "settleStandards", "(LSyntaxForge$Der;)V"⟩, 19), (⟨"SyntaxForge$Values", "wrongPart", "(LSyntaxForge$Value;LSyntaxForge$Type;)LSyntaxForge$Value;"⟩, 3), (⟨"SyntaxForge$Values", "wrongElement", "(LSyntaxForge$Value;LSyntaxForge$Type;)LSyntaxForge$Value;"⟩, 3), (⟨"SyntaxForge$Values", "wrongChoice", "(LSyntaxForge$Value;LSyntaxForge$Type;)LSyntaxForge$Value;"⟩, 3), (⟨"SyntaxForge$Values", "isSimple", "(LSyntaxForge$Value;LSyntaxForge$Type;)Z"⟩, 3), (⟨"SyntaxForge$Schema", "isReady", "(LSyntaxForge$Member;)Z"⟩, 19), (⟨"SyntaxForge$Der", "gather", "(LSyntaxForge$Value;)I"⟩, 3), (⟨"SyntaxForge$Der", "makeRoom", "(I)V"⟩, 3), (⟨"SyntaxForge$Der", "sort", "(IZ)V"⟩, 3)]
theorem lw_r4 : ∀ q ∈ lw_privs_4, lw_okq q := List.forall_mem_cons.mpr ⟨lw_p48, List.forall_mem_cons.mpr ⟨lw_p49, List.forall_mem_cons.mpr ⟨lw_p50, List.forall_mem_cons.mpr ⟨lw_p51, List.forall_mem_cons.mpr ⟨lw_p52, List.forall_mem_cons.mpr ⟨lw_p53, List.forall_mem_cons.mpr ⟨lw_p54, List.forall_mem_cons.mpr ⟨lw_p55, List.forall_mem_cons.mpr ⟨lw_p56, List.forall_mem_cons.mpr ⟨lw_p57, List.forall_mem_cons.mpr ⟨lw_p58, List.forall_mem_cons.mpr ⟨lw_p59, List.forall_mem_cons.mpr ⟨lw_p60, List.forall_mem_cons.mpr ⟨lw_p61, List.forall_mem_cons.mpr ⟨lw_p62, List.forall_mem_cons.mpr ⟨lw_p63, fun _ h => absurd h List.not_mem_nil⟩⟩⟩⟩⟩⟩⟩⟩⟩⟩⟩⟩⟩⟩⟩⟩
theorem lw_p64 : lw_okq (⟨"SyntaxForge$Der", "outermost", "(LSyntaxForge$Value;)LSyntaxForge$Type;"⟩, 3) := ⟨⟨by decide +kernel, by decide +kernel⟩, List.mem_of_getElem? (i := 392) (by decide +kernel), List.mem_of_getElem? (i := 1586) (by decide +kernel), List.mem_of_getElem? (i := 1587) (by decide +kernel)⟩
theorem lw_p65 : lw_okq (⟨"SyntaxForge$Der", "order", "(LSyntaxForge$Value;LSyntaxForge$Value;)I"⟩, 3) := ⟨⟨by decide +kernel, by decide +kernel⟩, List.mem_of_getElem? (i := 392) (by decide +kernel), List.mem_of_getElem? (i := 1590) (by decide +kernel), List.mem_of_getElem? (i := 1591) (by decide +kernel)⟩
theorem lw_p66 : lw_okq (⟨"SyntaxForge$Der", "orderWithin", "(LSyntaxForge$Value;LSyntaxForge$Value;)I"⟩, 3) := ⟨⟨by decide +kernel, by decide +kernel⟩, List.mem_of_getElem? (i := 392) (by decide +kernel), List.mem_of_getElem? (i := 1602) (by decide +kernel), List.mem_of_getElem? (i := 1603) (by decide +kernel)⟩
theorem lw_p67 : lw_okq (⟨"SyntaxForge$Der", "orderData", "(LSyntaxForge$Value;LSyntaxForge$Value;Z)I"⟩, 3) := ⟨⟨by decide +kernel, by decide +kernel⟩, List.mem_of_getElem? (i := 392) (by decide +kernel), List.mem_of_getElem? (i := 1606) (by decide +kernel), List.mem_of_getElem? (i := 1607) (by decide +kernel)⟩
theorem lw_p68 : lw_okq (⟨"SyntaxForge$Der", "chain", "(LSyntaxForge$Value;I)J"⟩, 3) := ⟨⟨by decide +kernel, by decide +kernel⟩, List.mem_of_getElem? (i := 392) (by decide +kernel), List.mem_of_getElem? (i := 1613) (by decide +kernel), List.mem_of_getElem? (i := 1614) (by decide +kernel)⟩
theorem lw_p69 : lw_okq (⟨"SyntaxForge$Der", "wrapped", "(LSyntaxForge$Type;J)J"⟩, 3) := ⟨⟨by decide +kernel, by decide +kernel⟩, List.mem_of_getElem? (i := 392) (by decide +kernel), List.mem_of_getElem? (i := 1617) (by decide +kernel), List.mem_of_getElem? (i := 1618) (by decide +kernel)⟩
theorem lw_p70 : lw_okq (⟨"SyntaxForge", "chosen", "(III)LSyntaxForge$Type;"⟩, 14) := ⟨⟨by decide +kernel, by decide +kernel⟩, List.mem_of_getElem? (i := 46) (by decide +kernel), List.mem_of_getElem? (i := 1638) (by decide +kernel), List.mem_of_getElem? (i := 1639) (by decide +kernel)⟩
theorem lw_p71 : lw_okq (⟨"SyntaxForge$Der", "writeOne", "(LSyntaxForge$Value;LSyntaxForge$Bytes;)V"⟩, 3) := ⟨⟨by decide +kernel, by decide +kernel⟩, List.mem_of_getElem? (i := 392) (by decide +kernel), List.mem_of_getElem? (i := 1679) (by decide +kernel), List.mem_of_getElem? (i := 1680) (by decide +kernel)⟩
theorem lw_p72 : lw_okq (⟨"SyntaxForge$Der", "header", "(LSyntaxForge$Type;JLSyntaxForge$Bytes;)J"⟩, 3) := ⟨⟨by decide +kernel, by decide +kernel⟩, List.mem_of_getElem? (i := 392) (by decide +kernel), List.mem_of_getElem? (i := 1683) (by decide +kernel), List.mem_of_getElem? (i := 1684) (by decide +kernel)⟩
theorem lw_p73 : lw_okq (⟨"SyntaxForge$Der", "writeData", "(LSyntaxForge$Value;LSyntaxForge$Bytes;)V"⟩, 3) := ⟨⟨by decide +kernel, by decide +kernel⟩, List.mem_of_getElem? (i := 392) (by decide +kernel), List.mem_of_getElem? (i := 1697) (by decide +kernel), List.mem_of_getElem? (i := 1698) (by decide +kernel)⟩
theorem lw_p74 : lw_okq (⟨"SyntaxForge$PerWriter", "value", "(LSyntaxForge$Value;)V"⟩, 2) := ⟨⟨by decide +kernel, by decide +kernel⟩, List.mem_of_getElem? (i := 449) (by decide +kernel), List.mem_of_getElem? (i := 1706) (by decide +kernel), List.mem_of_getElem? (i := 1707) (by decide +kernel)⟩
theorem lw_p75 : lw_okq (⟨"SyntaxForge$PerWriter", "bits", "(JI)V"⟩, 2) := ⟨⟨by decide +kernel, by decide +kernel⟩, List.mem_of_getElem? (i := 449) (by decide +kernel), List.mem_of_getElem? (i := 1710) (by decide +kernel), List.mem_of_getElem? (i := 1711) (by decide +kernel)⟩
theorem lw_p76 : lw_okq (⟨"SyntaxForge$PerWriter", "integer", "(JLSyntaxForge$Type;)V"⟩, 2) := ⟨⟨by decide +kernel, by decide +kernel⟩, List.mem_of_getElem? (i := 449) (by decide +kernel), List.mem_of_getElem? (i := 1719) (by decide +kernel), List.mem_of_getElem? (i := 1720) (by decide +kernel)⟩
theorem lw_p77 : lw_okq (⟨"SyntaxForge$PerWriter", "field", "(JJ)V"⟩, 2) := ⟨⟨by decide +kernel, by decide +kernel⟩, List.mem_of_getElem? (i := 449) (by decide +kernel), List.mem_of_getElem? (i := 1724) (by decide +kernel), List.mem_of_getElem? (i := 1725) (by decide +kernel)⟩
theorem lw_p78 : lw_okq (⟨"SyntaxForge$PerWriter", "eights", "(J)V"⟩, 2) := ⟨⟨by decide +kernel, by decide +kernel⟩, List.mem_of_getElem? (i := 449) (by decide +kernel), List.mem_of_getElem? (i := 1729) (by decide +kernel), List.mem_of_getElem? (i := 1730) (by decide +kernel)⟩
theorem lw_p79 : lw_okq (⟨"SyntaxForge$PerWriter", "lengthOf", "(I)I"⟩, 2) := ⟨⟨by decide +kernel, by decide +kernel⟩, List.mem_of_getElem? (i := 449) (by decide +kernel), List.mem_of_getElem? (i := 1734) (by decide +kernel), List.mem_of_getElem? (i := 1735) (by decide +kernel)⟩
def lw_privs_5 : List (MethodName × Nat) := [(⟨"SyntaxForge$Der", "outermost", "(LSyntaxForge$Value;)LSyntaxForge$Type;"⟩, 3), (⟨"SyntaxForge$Der", "order", "(LSyntaxForge$Value;LSyntaxForge$Value;)I"⟩, 3), (⟨"SyntaxForge$Der", "orderWithin", "(LSyntaxForge$Value;LSyntaxForge$Value;)I"⟩, 3), (⟨"SyntaxForge$Der", "orderData", "(LSyntaxForge$Value;LSyntaxForge$Value;Z)I"⟩, 3), (⟨"SyntaxForge$Der", "chain", "(LSyntaxForge$Value;I)J"⟩, 3), (⟨"SyntaxForge$Der", "wrapped", "(LSyntaxForge$Type;J)J"⟩, 3), (⟨"SyntaxForge", "chosen", "(III)LSyntaxForge$Type;"⟩, 14), (⟨"SyntaxForge$Der", "writeOne", "(LSyntaxForge$Value;LSyntaxForge$Bytes;)V"⟩, 3), (⟨"SyntaxForge$Der", "header", "(LSyntaxForge$Type;JLSyntaxForge$Bytes;)J"⟩, 3), (⟨"SyntaxForge$Der", "writeData", "(LSyntaxForge$Value;LSyntaxForge$Bytes;)V"⟩, 3), (⟨"SyntaxForge$PerWriter", "value", "(LSyntaxForge$Value;)V"⟩, 2), (⟨"SyntaxForge$PerWriter", "bits", "(JI)V"⟩, 2), (⟨"SyntaxForge$PerWriter", "integer", "(JLSyntaxForge$Type;)V"⟩, 2), (⟨"SyntaxForge$PerWriter", "field", "(JJ)V"⟩, 2), (⟨"SyntaxForge$PerWriter", "eights", "(J)V"⟩, 2), (⟨"SyntaxForge$PerWriter", "lengthOf", "(I)I"⟩, 2)]
theorem lw_r5 : ∀ q ∈ lw_privs_5, lw_okq q := List.forall_mem_cons.mpr ⟨lw_p64, List.forall_mem_cons.mpr ⟨lw_p65, List.forall_mem_cons.mpr ⟨lw_p66, List.forall_mem_cons.mpr ⟨lw_p67, List.forall_mem_cons.mpr ⟨lw_p68, List.forall_mem_cons.mpr ⟨lw_p69, List.forall_mem_cons.mpr ⟨lw_p70, List.forall_mem_cons.mpr ⟨lw_p71, List.forall_mem_cons.mpr ⟨lw_p72, List.forall_mem_cons.mpr ⟨lw_p73, List.forall_mem_cons.mpr ⟨lw_p74, List.forall_mem_cons.mpr ⟨lw_p75, List.forall_mem_cons.mpr ⟨lw_p76, List.forall_mem_cons.mpr ⟨lw_p77, List.forall_mem_cons.mpr ⟨lw_p78, List.forall_mem_cons.mpr ⟨lw_p79, fun _ h => absurd h List.not_mem_nil⟩⟩⟩⟩⟩⟩⟩⟩⟩⟩⟩⟩⟩⟩⟩⟩
theorem lw_p80 : lw_okq (⟨"SyntaxForge$PerWriter", "index", "(LSyntaxForge$Member;LSyntaxForge$Type;)V"⟩, 2) := ⟨⟨by decide +kernel, by decide +kernel⟩, List.mem_of_getElem? (i := 449) (by decide +kernel), List.mem_of_getElem? (i := 1740) (by decide +kernel), List.mem_of_getElem? (i := 1741) (by decide +kernel)⟩
theorem lw_p81 : lw_okq (⟨"SyntaxForge$PerWriter", "small", "(J)V"⟩, 2) := ⟨⟨by decide +kernel, by decide +kernel⟩, List.mem_of_getElem? (i := 449) (by decide +kernel), List.mem_of_getElem? (i := 1744) (by decide +kernel), List.mem_of_getElem? (i := 1745) (by decide +kernel)⟩
theorem lw_p82 : lw_okq (⟨"SyntaxForge$PerWriter", "parts", "(LSyntaxForge$Value;LSyntaxForge$Type;)V"⟩, 2) := ⟨⟨by decide +kernel, by decide +kernel⟩, List.mem_of_getElem? (i := 449) (by decide +kernel), List.mem_of_getElem? (i := 1749) (by decide +kernel), List.mem_of_getElem? (i := 1750) (by decide +kernel)⟩
theorem lw_p83 : lw_okq (⟨"SyntaxForge$PerWriter", "extensionBits", "(LSyntaxForge$Value;LSyntaxForge$Type;)V"⟩, 2) := ⟨⟨by decide +kernel, by decide +kernel⟩, List.mem_of_getElem? (i := 449) (by decide +kernel), List.mem_of_getElem? (i := 1758) (by decide +kernel), List.mem_of_getElem? (i := 1759) (by decide +kernel)⟩
theorem lw_p84 : lw_okq (⟨"SyntaxForge$PerWriter", "whole", "(LSyntaxForge$Value;)V"⟩, 2) := ⟨⟨by decide +kernel, by decide +kernel⟩, List.mem_of_getElem? (i := 449) (by decide +kernel), List.mem_of_getElem? (i := 1766) (by decide +kernel), List.mem_of_getElem? (i := 1767) (by decide +kernel)⟩
theorem lw_p85 : lw_okq (⟨"SyntaxForge$PerWriter", "fillByte", "(I)V"⟩, 2) := ⟨⟨by decide +kernel, by decide +kernel⟩, List.mem_of_getElem? (i := 449) (by decide +kernel), List.mem_of_getElem? (i := 1770) (by decide +kernel), List.mem_of_getElem? (i := 1771) (by decide +kernel)⟩
theorem lw_p86 : lw_okq (⟨"SyntaxForge$PerWriter", "list", "(LSyntaxForge$Value;LSyntaxForge$Type;)V"⟩, 2) := ⟨⟨by decide +kernel, by decide +kernel⟩, List.mem_of_getElem? (i := 449) (by decide +kernel), List.mem_of_getElem? (i := 1774) (by decide +kernel), List.mem_of_getElem? (i := 1775) (by decide +kernel)⟩
theorem lw_p87 : lw_okq (⟨"SyntaxForge$PerWriter", "tellsSize", "(ILSyntaxForge$Type;)Z"⟩, 2) := ⟨⟨by decide +kernel, by decide +kernel⟩, List.mem_of_getElem? (i := 449) (by decide +kernel), List.mem_of_getElem? (i := 1778) (by decide +kernel), List.mem_of_getElem? (i := 1779) (by decide +kernel)⟩
theorem lw_p88 : lw_okq (⟨"SyntaxForge$PerWriter", "string", "(LSyntaxForge$Value;LSyntaxForge$Type;)V"⟩, 2) := ⟨⟨by decide +kernel, by decide +kernel⟩, List.mem_of_getElem? (i := 449) (by decide +kernel), List.mem_of_getElem? (i := 1783) (by decide +kernel), List.mem_of_getElem? (i := 1784) (by decide +kernel)⟩
theorem lw_p89 : lw_okq (⟨"SyntaxForge$PerWriter", "unit", "(LSyntaxForge$Value;II)I"⟩, 2) := ⟨⟨by decide +kernel, by decide +kernel⟩, List.mem_of_getElem? (i := 449) (by decide +kernel), List.mem_of_getElem? (i := 1787) (by decide +kernel), List.mem_of_getElem? (i := 1788) (by decide +kernel)⟩
theorem lw_p90 : lw_okq (⟨"SyntaxForge", "keepOut", "()I"⟩, 14) := ⟨⟨by decide +kernel, by decide +kernel⟩, List.mem_of_getElem? (i := 46) (by decide +kernel), List.mem_of_getElem? (i := 1792) (by decide +kernel), List.mem_of_getElem? (i := 1793) (by decide +kernel)⟩
theorem lw_p91 : lw_okq (⟨"SyntaxForge$PerReader", "fill", "(LSyntaxForge$Value;LSyntaxForge$Type;I)V"⟩, 6) := ⟨⟨by decide +kernel, by decide +kernel⟩, List.mem_of_getElem? (i := 462) (by decide +kernel), List.mem_of_getElem? (i := 1818) (by decide +kernel), List.mem_of_getElem? (i := 1819) (by decide +kernel)⟩
theorem lw_p92 : lw_okq (⟨"SyntaxForge$PerReader", "bits", "(I)J"⟩, 6) := ⟨⟨by decide +kernel, by decide +kernel⟩, List.mem_of_getElem? (i := 462) (by decide +kernel), List.mem_of_getElem? (i := 1822) (by decide +kernel), List.mem_of_getElem? (i := 1823) (by decide +kernel)⟩
theorem lw_p93 : lw_okq (⟨"SyntaxForge$PerReader", "integer", "(LSyntaxForge$Type;)J"⟩, 6) := ⟨⟨by decide +kernel, by decide +kernel⟩, List.mem_of_getElem? (i := 462) (by decide +kernel), List.mem_of_getElem? (i := 1830) (by decide +kernel), List.mem_of_getElem? (i := 1831) (by decide +kernel)⟩
theorem lw_p94 : lw_okq (⟨"SyntaxForge$PerReader", "field", "(J)J"⟩, 6) := ⟨⟨by decide +kernel, by decide +kernel⟩, List.mem_of_getElem? (i := 462) (by decide +kernel), List.mem_of_getElem? (i := 1834) (by decide +kernel), List.mem_of_getElem? (i := 1835) (by decide +kernel)⟩
theorem lw_p95 : lw_okq (⟨"SyntaxForge$PerReader", "insist", "(Z)V"⟩, 6) := ⟨⟨by decide +kernel, by decide +kernel⟩, List.mem_of_getElem? (i := 462) (by decide +kernel), List.mem_of_getElem? (i := 1840) (by decide +kernel), List.mem_of_getElem? (i := 1841) (by decide +kernel)⟩
def lw_privs_6 : List (MethodName × Nat) := [(⟨"SyntaxForge$PerWriter", "index", "(LSyntaxForge$Member;LSyntaxForge$Type;)V"⟩, 2), (⟨"SyntaxForge$PerWriter", "small", "(J)V"⟩, 2), (⟨"SyntaxForge$PerWriter", "parts", "(LSyntaxForge$Value;LSyntaxForge$Type;)V"⟩, 2), (⟨"SyntaxForge$PerWriter", "extensionBits", "(LSyntaxForge$Value;LSyntaxForge$Type;)V"⟩, 2), (⟨"SyntaxForge$PerWriter", "whole", "(LSyntaxForge$Value;)V"⟩, 2), (⟨"SyntaxForge$PerWriter", "fillByte", "(I)V"⟩, 2), (⟨"SyntaxForge$PerWriter", "list", "(LSyntaxForge$Value;LSyntaxForge$Type;)V"⟩, 2), (⟨"SyntaxForge$PerWriter", "tellsSize", "(ILSyntaxForge$Type;)Z"⟩, 2), (⟨"SyntaxForge$PerWriter", "string", "(LSyntaxForge$Value;LSyntaxForge$Type;)V"⟩, 2), (⟨"SyntaxForge$PerWriter", "unit", "(LSyntaxForge$Value;II)I"⟩, 2), (⟨"SyntaxForge", "keepOut", "()I"⟩, 14), (⟨"SyntaxForge$PerReader", "fill", "(LSyntaxForge$Value;LSyntaxForge$Type;I)V"⟩, 6), (⟨"SyntaxForge$PerReader", "bits", "(I)J"⟩, 6), (⟨"SyntaxForge$PerReader", "integer", "(LSyntaxForge$Type;)J"⟩, 6), (⟨"SyntaxForge$PerReader", "field", "(J)J"⟩, 6), (⟨"SyntaxForge$PerReader", "insist", "(Z)V"⟩, 6)]
theorem lw_r6 : ∀ q ∈ lw_privs_6, lw_okq q := List.forall_mem_cons.mpr ⟨lw_p80, List.forall_mem_cons.mpr ⟨lw_p81, List.forall_mem_cons.mpr ⟨lw_p82, List.forall_mem_cons.mpr ⟨lw_p83, List.forall_mem_cons.mpr ⟨lw_p84, List.forall_mem_cons.mpr ⟨lw_p85, List.forall_mem_cons.mpr ⟨lw_p86, List.forall_mem_cons.mpr ⟨lw_p87, List.forall_mem_cons.mpr ⟨lw_p88, List.forall_mem_cons.mpr ⟨lw_p89, List.forall_mem_cons.mpr ⟨lw_p90, List.forall_mem_cons.mpr ⟨lw_p91, List.forall_mem_cons.mpr ⟨lw_p92, List.forall_mem_cons.mpr ⟨lw_p93, List.forall_mem_cons.mpr ⟨lw_p94, List.forall_mem_cons.mpr ⟨lw_p95, fun _ h => absurd h List.not_mem_nil⟩⟩⟩⟩⟩⟩⟩⟩⟩⟩⟩⟩⟩⟩⟩⟩
theorem lw_p96 : lw_okq (⟨"SyntaxForge$PerReader", "eights", "()J"⟩, 6) := ⟨⟨by decide +kernel, by decide +kernel⟩, List.mem_of_getElem? (i := 462) (by decide +kernel), List.mem_of_getElem? (i := 1844) (by decide +kernel), List.mem_of_getElem? (i := 1845) (by decide +kernel)⟩
theorem lw_p97 : lw_okq (⟨"SyntaxForge$PerReader", "lengthAfter", "(I)I"⟩, 6) := ⟨⟨by decide +kernel, by decide +kernel⟩, List.mem_of_getElem? (i := 462) (by decide +kernel), List.mem_of_getElem? (i := 1848) (by decide +kernel), List.mem_of_getElem? (i := 1849) (by decide +kernel)⟩
theorem lw_p98 : lw_okq (⟨"SyntaxForge$PerReader", "member", "(LSyntaxForge$Type;)LSyntaxForge$Member;"⟩, 6) := ⟨⟨by decide +kernel, by decide +kernel⟩, List.mem_of_getElem? (i := 462) (by decide +kernel), List.mem_of_getElem? (i := 1857) (by decide +kernel), List.mem_of_getElem? (i := 1858) (by decide +kernel)⟩
theorem lw_p99 : lw_okq (⟨"SyntaxForge$PerReader", "small", "()J"⟩, 6) := ⟨⟨by decide +kernel, by decide +kernel⟩, List.mem_of_getElem? (i := 462) (by decide +kernel), List.mem_of_getElem? (i := 1861) (by decide +kernel), List.mem_of_getElem? (i := 1862) (by decide +kernel)⟩
theorem lw_p100 : lw_okq (⟨"SyntaxForge$PerReader", "parts", "(LSyntaxForge$Value;LSyntaxForge$Type;I)V"⟩, 6) := ⟨⟨by decide +kernel, by decide +kernel⟩, List.mem_of_getElem? (i := 462) (by decide +kernel), List.mem_of_getElem? (i := 1869) (by decide +kernel), List.mem_of_getElem? (i := 1870) (by decide +kernel)⟩
theorem lw_p101 : lw_okq (⟨"SyntaxForge$PerReader", "bitAt", "(I)Z"⟩, 6) := ⟨⟨by decide +kernel, by decide +kernel⟩, List.mem_of_getElem? (i := 462) (by decide +kernel), List.mem_of_getElem? (i := 1874) (by decide +kernel), List.mem_of_getElem? (i := 1875) (by decide +kernel)⟩
theorem lw_p102 : lw_okq (⟨"SyntaxForge$PerReader", "extensionFlags", "(LSyntaxForge$Type;)I"⟩, 6) := ⟨⟨by decide +kernel, by decide +kernel⟩, List.mem_of_getElem? (i := 462) (by decide +kernel), List.mem_of_getElem? (i := 1884) (by decide +kernel), List.mem_of_getElem? (i := 1885) (by decide +kernel)⟩
theorem lw_p103 : lw_okq (⟨"SyntaxForge$PerReader", "whole", "(LSyntaxForge$Value;LSyntaxForge$Member;I)V"⟩, 6) := ⟨⟨by decide +kernel, by decide +kernel⟩, List.mem_of_getElem? (i := 462) (by decide +kernel), List.mem_of_getElem? (i := 1888) (by decide +kernel), List.mem_of_getElem? (i := 1889) (by decide +kernel)⟩
theorem lw_p104 : lw_okq (⟨"SyntaxForge$PerReader", "wholeLength", "()I"⟩, 6) := ⟨⟨by decide +kernel, by decide +kernel⟩, List.mem_of_getElem? (i := 462) (by decide +kernel), List.mem_of_getElem? (i := 1892) (by decide +kernel), List.mem_of_getElem? (i := 1893) (by decide +kernel)⟩
theorem lw_p105 : lw_okq (⟨"SyntaxForge$PerReader", "list", "(LSyntaxForge$Value;LSyntaxForge$Type;I)V"⟩, 6) := ⟨⟨by decide +kernel, by decide +kernel⟩, List.mem_of_getElem? (i := 462) (by decide +kernel), List.mem_of_getElem? (i := 1897) (by decide +kernel), List.mem_of_getElem? (i := 1898) (by decide +kernel)⟩
theorem lw_p106 : lw_okq (⟨"SyntaxForge$PerReader", "size", "(LSyntaxForge$Type;)I"⟩, 6) := ⟨⟨by decide +kernel, by decide +kernel⟩, List.mem_of_getElem? (i := 462) (by decide +kernel), List.mem_of_getElem? (i := 1901) (by decide +kernel), List.mem_of_getElem? (i := 1902) (by decide +kernel)⟩
theorem lw_p107 : lw_okq (⟨"SyntaxForge$PerReader", "string", "(LSyntaxForge$Value;LSyntaxForge$Type;)V"⟩, 6) := ⟨⟨by decide +kernel, by decide +kernel⟩, List.mem_of_getElem? (i := 462) (by decide +kernel), List.mem_of_getElem? (i := 1907) (by decide +kernel), List.mem_of_getElem? (i := 1908) (by decide +kernel)⟩
theorem lw_p108 : lw_okq (⟨"SyntaxForge$PerReader", "units", "(II)V"⟩, 6) := ⟨⟨by decide +kernel, by decide +kernel⟩, List.mem_of_getElem? (i := 462) (by decide +kernel), List.mem_of_getElem? (i := 1911) (by decide +kernel), List.mem_of_getElem? (i := 1912) (by decide +kernel)⟩
theorem lw_p109 : lw_okq (⟨"SyntaxForge$BerReader", "fill", "(LSyntaxForge$Value;LSyntaxForge$Type;I)V"⟩, 11) := ⟨⟨by decide +kernel, by decide +kernel⟩, List.mem_of_getElem? (i := 409) (by decide +kernel), List.mem_of_getElem? (i := 1928) (by decide +kernel), List.mem_of_getElem? (i := 1929) (by decide +kernel)⟩
theorem lw_p110 : lw_okq (⟨"SyntaxForge$BerReader", "header", "(II)V"⟩, 11) := ⟨⟨by decide +kernel, by decide +kernel⟩, List.mem_of_getElem? (i := 409) (by decide +kernel), List.mem_of_getElem? (i := 1932) (by decide +kernel), List.mem_of_getElem? (i := 1933) (by decide +kernel)⟩
theorem lw_p111 : lw_okq (⟨"SyntaxForge$BerReader", "identifier", "(II)V"⟩, 11) := ⟨⟨by decide +kernel, by decide +kernel⟩, List.mem_of_getElem? (i := 409) (by decide +kernel), List.mem_of_getElem? (i := 1936) (by decide +kernel), List.mem_of_getElem? (i := 1937) (by decide +kernel)⟩
def lw_privs_7 : List (MethodName × Nat) := [(⟨"SyntaxForge$PerReader", "eights", "()J"⟩, 6), (⟨"SyntaxForge$PerReader", "lengthAfter", "(I)I"⟩, 6), (⟨"SyntaxForge$PerReader", "member", "(LSyntaxForge$Type;)LSyntaxForge$Member;"⟩, 6), (⟨"SyntaxForge$PerReader", "small", "()J"⟩, 6), (⟨"SyntaxForge$PerReader", "parts", "(LSyntaxForge$Value;LSyntaxForge$Type;I)V"⟩, 6), (⟨"SyntaxForge$PerReader", "bitAt", "(I)Z"⟩, 6), (⟨"SyntaxForge$PerReader", "extensionFlags", "(LSyntaxForge$Type;)I"⟩, 6), (⟨"SyntaxForge$PerReader", "whole", "(LSyntaxForge$Value;LSyntaxForge$Member;I)V"⟩, 6), (⟨"SyntaxForge$PerReader", "wholeLength", "()I"⟩, 6), (⟨"SyntaxForge$PerReader", "list", "(LSyntaxForge$Value;LSyntaxForge$Type;I)V"⟩, 6), (⟨"SyntaxForge$PerReader", "size", "(LSyntaxForge$Type;)I"⟩, 6), (⟨"SyntaxForge$PerReader", "string", "(LSyntaxForge$Value;LSyntaxForge$Type;)V"⟩, 6), (⟨"SyntaxForge$PerReader", "units", "(II)V"⟩, 6), (⟨"SyntaxForge$BerReader", "fill", "(LSyntaxForge$Value;LSyntaxForge$Type;I)V"⟩, 11), (⟨"SyntaxForge$BerReader", "header", "(II)V"⟩, 11), (⟨"SyntaxForge$BerReader", "identifier", "(II)V"⟩, 11)]
theorem lw_r7 : ∀ q ∈ lw_privs_7, lw_okq q := List.forall_mem_cons.mpr ⟨lw_p96, List.forall_mem_cons.mpr ⟨lw_p97, List.forall_mem_cons.mpr ⟨lw_p98, List.forall_mem_cons.mpr ⟨lw_p99, List.forall_mem_cons.mpr ⟨lw_p100, List.forall_mem_cons.mpr ⟨lw_p101, List.forall_mem_cons.mpr ⟨lw_p102, List.forall_mem_cons.mpr ⟨lw_p103, List.forall_mem_cons.mpr ⟨lw_p104, List.forall_mem_cons.mpr ⟨lw_p105, List.forall_mem_cons.mpr ⟨lw_p106, List.forall_mem_cons.mpr ⟨lw_p107, List.forall_mem_cons.mpr ⟨lw_p108, List.forall_mem_cons.mpr ⟨lw_p109, List.forall_mem_cons.mpr ⟨lw_p110, List.forall_mem_cons.mpr ⟨lw_p111, fun _ h => absurd h List.not_mem_nil⟩⟩⟩⟩⟩⟩⟩⟩⟩⟩⟩⟩⟩⟩⟩⟩
theorem lw_p112 : lw_okq (⟨"SyntaxForge$BerReader", "insist", "(Z)V"⟩, 11) := ⟨⟨by decide +kernel, by decide +kernel⟩, List.mem_of_getElem? (i := 409) (by decide +kernel), List.mem_of_getElem? (i := 1940) (by decide +kernel), List.mem_of_getElem? (i := 1941) (by decide +kernel)⟩
theorem lw_p113 : lw_okq (⟨"SyntaxForge$BerReader", "next", "(I)I"⟩, 11) := ⟨⟨by decide +kernel, by decide +kernel⟩, List.mem_of_getElem? (i := 409) (by decide +kernel), List.mem_of_getElem? (i := 1946) (by decide +kernel), List.mem_of_getElem? (i := 1947) (by decide +kernel)⟩
theorem lw_p114 : lw_okq (⟨"SyntaxForge$BerReader", "tagNumber", "(I)J"⟩, 11) := ⟨⟨by decide +kernel, by decide +kernel⟩, List.mem_of_getElem? (i := 409) (by decide +kernel), List.mem_of_getElem? (i := 1950) (by decide +kernel), List.mem_of_getElem? (i := 1951) (by decide +kernel)⟩
theorem lw_p115 : lw_okq (⟨"SyntaxForge$BerReader", "enter", "(I)I"⟩, 11) := ⟨⟨by decide +kernel, by decide +kernel⟩, List.mem_of_getElem? (i := 409) (by decide +kernel), List.mem_of_getElem? (i := 1960) (by decide +kernel), List.mem_of_getElem? (i := 1961) (by decide +kernel)⟩
theorem lw_p116 : lw_okq (⟨"SyntaxForge$BerReader", "hasMore", "(I)Z"⟩, 11) := ⟨⟨by decide +kernel, by decide +kernel⟩, List.mem_of_getElem? (i := 409) (by decide +kernel), List.mem_of_getElem? (i := 1964) (by decide +kernel), List.mem_of_getElem? (i := 1965) (by decide +kernel)⟩
theorem lw_p117 : lw_okq (⟨"SyntaxForge$BerReader", "isEndMark", "(I)Z"⟩, 11) := ⟨⟨by decide +kernel, by decide +kernel⟩, List.mem_of_getElem? (i := 409) (by decide +kernel), List.mem_of_getElem? (i := 1968) (by decide +kernel), List.mem_of_getElem? (i := 1969) (by decide +kernel)⟩
theorem lw_p118 : lw_okq (⟨"SyntaxForge$BerReader", "peek", "(I)J"⟩, 11) := ⟨⟨by decide +kernel, by decide +kernel⟩, List.mem_of_getElem? (i := 409) (by decide +kernel), List.mem_of_getElem? (i := 1972) (by decide +kernel), List.mem_of_getElem? (i := 1973) (by decide +kernel)⟩
theorem lw_p119 : lw_okq (⟨"SyntaxForge$BerReader", "contents", "(LSyntaxForge$Value;LSyntaxForge$Type;I)V"⟩, 11) := ⟨⟨by decide +kernel, by decide +kernel⟩, List.mem_of_getElem? (i := 409) (by decide +kernel), List.mem_of_getElem? (i := 1981) (by decide +kernel), List.mem_of_getElem? (i := 1982) (by decide +kernel)⟩
theorem lw_p120 : lw_okq (⟨"SyntaxForge$BerReader", "sequence", "(LSyntaxForge$Value;LSyntaxForge$Type;I)V"⟩, 11) := ⟨⟨by decide +kernel, by decide +kernel⟩, List.mem_of_getElem? (i := 409) (by decide +kernel), List.mem_of_getElem? (i := 1986) (by decide +kernel), List.mem_of_getElem? (i := 1987) (by decide +kernel)⟩
theorem lw_p121 : lw_okq (⟨"SyntaxForge$BerReader", "refuseDefault", "(LSyntaxForge$Value;I)V"⟩, 11) := ⟨⟨by decide +kernel, by decide +kernel⟩, List.mem_of_getElem? (i := 409) (by decide +kernel), List.mem_of_getElem? (i := 1999) (by decide +kernel), List.mem_of_getElem? (i := 2000) (by decide +kernel)⟩
theorem lw_p122 : lw_okq (⟨"SyntaxForge$BerReader", "passOver", "(I)V"⟩, 11) := ⟨⟨by decide +kernel, by decide +kernel⟩, List.mem_of_getElem? (i := 409) (by decide +kernel), List.mem_of_getElem? (i := 2006) (by decide +kernel), List.mem_of_getElem? (i := 2007) (by decide +kernel)⟩
theorem lw_p123 : lw_okq (⟨"SyntaxForge$BerReader", "set", "(LSyntaxForge$Value;LSyntaxForge$Type;I)V"⟩, 11) := ⟨⟨by decide +kernel, by decide +kernel⟩, List.mem_of_getElem? (i := 409) (by decide +kernel), List.mem_of_getElem? (i := 2010) (by decide +kernel), List.mem_of_getElem? (i := 2011) (by decide +kernel)⟩
theorem lw_p124 : lw_okq (⟨"SyntaxForge$BerReader", "partOf", "(LSyntaxForge$Type;J)LSyntaxForge$Member;"⟩, 11) := ⟨⟨by decide +kernel, by decide +kernel⟩, List.mem_of_getElem? (i := 409) (by decide +kernel), List.mem_of_getElem? (i := 2014) (by decide +kernel), List.mem_of_getElem? (i := 2015) (by decide +kernel)⟩
theorem lw_p125 : lw_okq (⟨"SyntaxForge$BerReader", "list", "(LSyntaxForge$Value;LSyntaxForge$Type;I)V"⟩, 11) := ⟨⟨by decide +kernel, by decide +kernel⟩, List.mem_of_getElem? (i := 409) (by decide +kernel), List.mem_of_getElem? (i := 2019) (by decide +kernel), List.mem_of_getElem? (i := 2020) (by decide +kernel)⟩
theorem lw_p126 : lw_okq (⟨"SyntaxForge$BerReader", "rises", "(II)Z"⟩, 11) := ⟨⟨by decide +kernel, by decide +kernel⟩, List.mem_of_getElem? (i := 409) (by decide +kernel), List.mem_of_getElem? (i := 2024) (by decide +kernel), List.mem_of_getElem? (i := 2025) (by decide +kernel)⟩
theorem lw_p127 : lw_okq (⟨"SyntaxForge$BerReader", "leave", "(I)V"⟩, 11) := ⟨⟨by decide +kernel, by decide +kernel⟩, List.mem_of_getElem? (i := 409) (by decide +kernel), List.mem_of_getElem? (i := 2030) (by decide +kernel), List.mem_of_getElem? (i := 2031) (by decide +kernel)⟩
def lw_privs_8 : List (MethodName × Nat) := [(⟨"SyntaxForge$BerReader", "insist", "(Z)V"⟩, 11), (⟨"SyntaxForge$BerReader", "next", "(I)I"⟩, 11), (⟨"SyntaxForge$BerReader", "tagNumber", "(I)J"⟩, 11), (⟨"SyntaxForge$BerReader", "enter", "(I)I"⟩, 11), (⟨"SyntaxForge$BerReader", "hasMore", "(I)Z"⟩, 11), (⟨"SyntaxForge$BerReader", "isEndMark", "(I)Z"⟩, 11), (⟨"SyntaxForge$BerReader", "peek", "(I)J"⟩, 11), (⟨"SyntaxForge$BerReader", "contents", "(LSyntaxForge$Value;LSyntaxForge$Type;I)V"⟩, 11), (⟨"SyntaxForge$BerReader", "sequence", "(LSyntaxForge$Value;LSyntaxForge$Type;I)V"⟩, 11), (⟨"SyntaxForge$BerReader", "refuseDefault", "(LSyntaxForge$Value;I)V"⟩, 11), (⟨"SyntaxForge$BerReader", "passOver", "(I)V"⟩, 11), (⟨"SyntaxForge$BerReader", "set", "(LSyntaxForge$Value;LSyntaxForge$Type;I)V"⟩, 11), (⟨"SyntaxForge$BerReader", "partOf", "(LSyntaxForge$Type;J)LSyntaxForge$Member;"⟩, 11), (⟨"SyntaxForge$BerReader", "list", "(LSyntaxForge$Value;LSyntaxForge$Type;I)V"⟩, 11), (⟨"SyntaxForge$BerReader", "rises", "(II)Z"⟩, 11), (⟨"SyntaxForge$BerReader", "leave", "(I)V"⟩, 11)]
theorem lw_r8 : ∀ q ∈ lw_privs_8, lw_okq q := List.forall_mem_cons.mpr ⟨lw_p112, List.forall_mem_cons.mpr ⟨lw_p113, List.forall_mem_cons.mpr ⟨lw_p114, List.forall_mem_cons.mpr ⟨lw_p115, List.forall_mem_cons.mpr ⟨lw_p116, List.forall_mem_cons.mpr ⟨lw_p117, List.forall_mem_cons.mpr ⟨lw_p118, List.forall_mem_cons.mpr ⟨lw_p119, List.forall_mem_cons.mpr ⟨lw_p120, List.forall_mem_cons.mpr ⟨lw_p121, List.forall_mem_cons.mpr ⟨lw_p122, List.forall_mem_cons.mpr ⟨lw_p123, List.forall_mem_cons.mpr ⟨lw_p124, List.forall_mem_cons.mpr ⟨lw_p125, List.forall_mem_cons.mpr ⟨lw_p126, List.forall_mem_cons.mpr ⟨lw_p127, fun _ h => absurd h List.not_mem_nil⟩⟩⟩⟩⟩⟩⟩⟩⟩⟩⟩⟩⟩⟩⟩⟩
theorem lw_p128 : lw_okq (⟨"SyntaxForge$BerReader", "simple", "(LSyntaxForge$Value;LSyntaxForge$Type;)V"⟩, 11) := ⟨⟨by decide +kernel, by decide +kernel⟩, List.mem_of_getElem? (i := 409) (by decide +kernel), List.mem_of_getElem? (i := 2034) (by decide +kernel), List.mem_of_getElem? (i := 2035) (by decide +kernel)⟩
theorem lw_p129 : lw_okq (⟨"SyntaxForge$BerReader", "segments", "(LSyntaxForge$Value;ZI)V"⟩, 11) := ⟨⟨by decide +kernel, by decide +kernel⟩, List.mem_of_getElem? (i := 409) (by decide +kernel), List.mem_of_getElem? (i := 2046) (by decide +kernel), List.mem_of_getElem? (i := 2047) (by decide +kernel)⟩
theorem lw_p130 : lw_okq (⟨"SyntaxForge$BerReader", "segment", "(LSyntaxForge$Value;Z)V"⟩, 11) := ⟨⟨by decide +kernel, by decide +kernel⟩, List.mem_of_getElem? (i := 409) (by decide +kernel), List.mem_of_getElem? (i := 2051) (by decide +kernel), List.mem_of_getElem? (i := 2052) (by decide +kernel)⟩
theorem lw_p131 : lw_okq (⟨"SyntaxForge$Values", "printOne", "(LSyntaxForge$Value;LSyntaxForge$Schema;LSyntaxForge$Bytes;)V"⟩, 3) := ⟨⟨by decide +kernel, by decide +kernel⟩, List.mem_of_getElem? (i := 114) (by decide +kernel), List.mem_of_getElem? (i := 2060) (by decide +kernel), List.mem_of_getElem? (i := 2061) (by decide +kernel)⟩
theorem lw_p132 : lw_okq (⟨"SyntaxForge$Values", "printText", "(Ljava/lang/String;LSyntaxForge$Bytes;)V"⟩, 3) := ⟨⟨by decide +kernel, by decide +kernel⟩, List.mem_of_getElem? (i := 114) (by decide +kernel), List.mem_of_getElem? (i := 2066) (by decide +kernel), List.mem_of_getElem? (i := 2067) (by decide +kernel)⟩
theorem lw_p133 : lw_okq (⟨"SyntaxForge$Values", "printNumber", "(JLSyntaxForge$Bytes;)V"⟩, 3) := ⟨⟨by decide +kernel, by decide +kernel⟩, List.mem_of_getElem? (i := 114) (by decide +kernel), List.mem_of_getElem? (i := 2074) (by decide +kernel), List.mem_of_getElem? (i := 2075) (by decide +kernel)⟩
theorem lw_p134 : lw_okq (⟨"SyntaxForge$Values", "printArcs", "(LSyntaxForge$Value;LSyntaxForge$Bytes;)V"⟩, 3) := ⟨⟨by decide +kernel, by decide +kernel⟩, List.mem_of_getElem? (i := 114) (by decide +kernel), List.mem_of_getElem? (i := 2087) (by decide +kernel), List.mem_of_getElem? (i := 2088) (by decide +kernel)⟩
theorem lw_p135 : lw_okq (⟨"SyntaxForge$Values", "printDigits", "(LSyntaxForge$Value;ZLSyntaxForge$Bytes;)V"⟩, 3) := ⟨⟨by decide +kernel, by decide +kernel⟩, List.mem_of_getElem? (i := 114) (by decide +kernel), List.mem_of_getElem? (i := 2094) (by decide +kernel), List.mem_of_getElem? (i := 2095) (by decide +kernel)⟩
theorem lw_p136 : lw_okq (⟨"SyntaxForge$Values", "printWithin", "(LSyntaxForge$Value;LSyntaxForge$Type;LSyntaxForge$Schema;LSyntaxForge$Bytes;)V"⟩, 3) := ⟨⟨by decide +kernel, by decide +kernel⟩, List.mem_of_getElem? (i := 114) (by decide +kernel), List.mem_of_getElem? (i := 2099) (by decide +kernel), List.mem_of_getElem? (i := 2100) (by decide +kernel)⟩
theorem lw_p137 : lw_okq (⟨"SyntaxForge$Values", "printString", "(LSyntaxForge$Value;LSyntaxForge$Bytes;)V"⟩, 3) := ⟨⟨by decide +kernel, by decide +kernel⟩, List.mem_of_getElem? (i := 114) (by decide +kernel), List.mem_of_getElem? (i := 2104) (by decide +kernel), List.mem_of_getElem? (i := 2105) (by decide +kernel)⟩
theorem lw_p138 : lw_okq (⟨"SyntaxForgeModel", "fail", "(I)I"⟩, 53) := ⟨⟨by decide +kernel, by decide +kernel⟩, List.mem_of_getElem? (i := 2131) (by decide +kernel), List.mem_of_getElem? (i := 2377) (by decide +kernel), List.mem_of_getElem? (i := 2378) (by decide +kernel)⟩
theorem lw_p139 : lw_okq (⟨"SyntaxForgeModel", "begin", "(Z)V"⟩, 53) := ⟨⟨by decide +kernel, by decide +kernel⟩, List.mem_of_getElem? (i := 2131) (by decide +kernel), List.mem_of_getElem? (i := 2391) (by decide +kernel), List.mem_of_getElem? (i := 2392) (by decide +kernel)⟩
theorem lw_p140 : lw_okq (⟨"SyntaxForgeModel", "advance", "()V"⟩, 53) := ⟨⟨by decide +kernel, by decide +kernel⟩, List.mem_of_getElem? (i := 2131) (by decide +kernel), List.mem_of_getElem? (i := 2395) (by decide +kernel), List.mem_of_getElem? (i := 2396) (by decide +kernel)⟩
theorem lw_p141 : lw_okq (⟨"SyntaxForgeModel", "skip", "()V"⟩, 53) := ⟨⟨by decide +kernel, by decide +kernel⟩, List.mem_of_getElem? (i := 2131) (by decide +kernel), List.mem_of_getElem? (i := 2399) (by decide +kernel), List.mem_of_getElem? (i := 2400) (by decide +kernel)⟩
theorem lw_p142 : lw_okq (⟨"SyntaxForgeModel", "byteAt", "(I)I"⟩, 53) := ⟨⟨by decide +kernel, by decide +kernel⟩, List.mem_of_getElem? (i := 2131) (by decide +kernel), List.mem_of_getElem? (i := 2403) (by decide +kernel), List.mem_of_getElem? (i := 2404) (by decide +kernel)⟩
theorem lw_p143 : lw_okq (⟨"SyntaxForgeModel", "blank", "(I)Z"⟩, 53) := ⟨⟨by decide +kernel, by decide +kernel⟩, List.mem_of_getElem? (i := 2131) (by decide +kernel), List.mem_of_getElem? (i := 2407) (by decide +kernel), List.mem_of_getElem? (i := 2408) (by decide +kernel)⟩
def lw_privs_9 : List (MethodName × Nat) := [(⟨"SyntaxForge$BerReader", "simple", "(LSyntaxForge$Value;LSyntaxForge$Type;)V"⟩, 11), (⟨"SyntaxForge$BerReader", "segments", "(LSyntaxForge$Value;ZI)V"⟩, 11), (⟨"SyntaxForge$BerReader", "segment", "(LSyntaxForge$Value;Z)V"⟩, 11), (⟨"SyntaxForge$Values", "printOne", "(LSyntaxForge$Value;LSyntaxForge$Schema;LSyntaxForge$Bytes;)V"⟩, 3), (⟨"SyntaxForge$Values", "printText", "(Ljava/lang/String;LSyntaxForge$Bytes;)V"⟩, 3), (⟨"SyntaxForge$Values", "printNumber", "(JLSyntaxForge$Bytes;)V"⟩, 3), (⟨"SyntaxForge$Values", "printArcs", "(LSyntaxForge$Value;LSyntaxForge$Bytes;)V"⟩, 3), (⟨"SyntaxForge$Values", "printDigits", "(LSyntaxForge$Value;ZLSyntaxForge$Bytes;)V"⟩, 3), (⟨"SyntaxForge$Values", "printWithin", "(LSyntaxForge$Value;LSyntaxForge$Type;LSyntaxForge$Schema;LSyntaxForge$Bytes;)V"⟩, 3), (⟨"SyntaxForge$Values", "printString", "(LSyntaxForge$Value;LSyntaxForge$Bytes;)V"⟩, 3), (⟨"SyntaxForgeModel", "fail", "(I)I"⟩, 53), (⟨"SyntaxForgeModel", "begin", "(Z)V"⟩, 53), (⟨"SyntaxForgeModel", "advance", "()V"⟩, 53), (⟨"SyntaxForgeModel", "skip", "()V"⟩, 53), (⟨"SyntaxForgeModel", "byteAt", "(I)I"⟩, 53), (⟨"SyntaxForgeModel", "blank", "(I)Z"⟩, 53)]
theorem lw_r9 : ∀ q ∈ lw_privs_9, lw_okq q := List.forall_mem_cons.mpr ⟨lw_p128, List.forall_mem_cons.mpr ⟨lw_p129, List.forall_mem_cons.mpr ⟨lw_p130, List.forall_mem_cons.mpr ⟨lw_p131, List.forall_mem_cons.mpr ⟨lw_p132, List.forall_mem_cons.mpr ⟨lw_p133, List.forall_mem_cons.mpr ⟨lw_p134, List.forall_mem_cons.mpr ⟨lw_p135, List.forall_mem_cons.mpr ⟨lw_p136, List.forall_mem_cons.mpr ⟨lw_p137, List.forall_mem_cons.mpr ⟨lw_p138, List.forall_mem_cons.mpr ⟨lw_p139, List.forall_mem_cons.mpr ⟨lw_p140, List.forall_mem_cons.mpr ⟨lw_p141, List.forall_mem_cons.mpr ⟨lw_p142, List.forall_mem_cons.mpr ⟨lw_p143, fun _ h => absurd h List.not_mem_nil⟩⟩⟩⟩⟩⟩⟩⟩⟩⟩⟩⟩⟩⟩⟩⟩
theorem lw_p144 : lw_okq (⟨"SyntaxForgeModel", "letter", "(I)Z"⟩, 53) := ⟨⟨by decide +kernel, by decide +kernel⟩, List.mem_of_getElem? (i := 2131) (by decide +kernel), List.mem_of_getElem? (i := 2411) (by decide +kernel), List.mem_of_getElem? (i := 2412) (by decide +kernel)⟩
theorem lw_p145 : lw_okq (⟨"SyntaxForgeModel", "words", "()V"⟩, 53) := ⟨⟨by decide +kernel, by decide +kernel⟩, List.mem_of_getElem? (i := 2131) (by decide +kernel), List.mem_of_getElem? (i := 2415) (by decide +kernel), List.mem_of_getElem? (i := 2416) (by decide +kernel)⟩
theorem lw_p146 : lw_okq (⟨"SyntaxForgeModel", "digit", "(I)Z"⟩, 53) := ⟨⟨by decide +kernel, by decide +kernel⟩, List.mem_of_getElem? (i := 2131) (by decide +kernel), List.mem_of_getElem? (i := 2419) (by decide +kernel), List.mem_of_getElem? (i := 2420) (by decide +kernel)⟩
theorem lw_p147 : lw_okq (⟨"SyntaxForgeModel", "text", "(II)Ljava/lang/String;"⟩, 53) := ⟨⟨by decide +kernel, by decide +kernel⟩, List.mem_of_getElem? (i := 2131) (by decide +kernel), List.mem_of_getElem? (i := 2423) (by decide +kernel), List.mem_of_getElem? (i := 2424) (by decide +kernel)⟩
theorem lw_p148 : lw_okq (⟨"SyntaxForgeModel", "wordOf", "(LSyntaxForgeModel$Chars;)Ljava/lang/String;"⟩, 53) := ⟨⟨by decide +kernel, by decide +kernel⟩, List.mem_of_getElem? (i := 2131) (by decide +kernel), List.mem_of_getElem? (i := 2435) (by decide +kernel), List.mem_of_getElem? (i := 2436) (by decide +kernel)⟩
theorem lw_p149 : lw_okq (⟨"SyntaxForgeModel", "numbers", "()V"⟩, 53) := ⟨⟨by decide +kernel, by decide +kernel⟩, List.mem_of_getElem? (i := 2131) (by decide +kernel), List.mem_of_getElem? (i := 2667) (by decide +kernel), List.mem_of_getElem? (i := 2668) (by decide +kernel)⟩
theorem lw_p150 : lw_okq (⟨"SyntaxForgeModel", "strings", "()V"⟩, 53) := ⟨⟨by decide +kernel, by decide +kernel⟩, List.mem_of_getElem? (i := 2131) (by decide +kernel), List.mem_of_getElem? (i := 2673) (by decide +kernel), List.mem_of_getElem? (i := 2674) (by decide +kernel)⟩
theorem lw_p151 : lw_okq (⟨"SyntaxForgeModel", "quoted", "()V"⟩, 53) := ⟨⟨by decide +kernel, by decide +kernel⟩, List.mem_of_getElem? (i := 2131) (by decide +kernel), List.mem_of_getElem? (i := 2677) (by decide +kernel), List.mem_of_getElem? (i := 2678) (by decide +kernel)⟩
theorem lw_p152 : lw_okq (⟨"SyntaxForgeModel", "readModule", "()LSyntaxForgeModel$Module;"⟩, 53) := ⟨⟨by decide +kernel, by decide +kernel⟩, List.mem_of_getElem? (i := 2131) (by decide +kernel), List.mem_of_getElem? (i := 2681) (by decide +kernel), List.mem_of_getElem? (i := 2682) (by decide +kernel)⟩
theorem lw_p153 : lw_okq (⟨"SyntaxForgeModel", "take", "(I)Ljava/lang/String;"⟩, 53) := ⟨⟨by decide +kernel, by decide +kernel⟩, List.mem_of_getElem? (i := 2131) (by decide +kernel), List.mem_of_getElem? (i := 2709) (by decide +kernel), List.mem_of_getElem? (i := 2710) (by decide +kernel)⟩
theorem lw_p154 : lw_okq (⟨"SyntaxForgeModel", "can", "(Z)V"⟩, 53) := ⟨⟨by decide +kernel, by decide +kernel⟩, List.mem_of_getElem? (i := 2131) (by decide +kernel), List.mem_of_getElem? (i := 2713) (by decide +kernel), List.mem_of_getElem? (i := 2714) (by decide +kernel)⟩
theorem lw_p155 : lw_okq (⟨"SyntaxForgeModel", "expect", "(Ljava/lang/String;)V"⟩, 53) := ⟨⟨by decide +kernel, by decide +kernel⟩, List.mem_of_getElem? (i := 2131) (by decide +kernel), List.mem_of_getElem? (i := 2718) (by decide +kernel), List.mem_of_getElem? (i := 2719) (by decide +kernel)⟩
theorem lw_p156 : lw_okq (⟨"SyntaxForgeModel", "is", "(Ljava/lang/String;)Z"⟩, 53) := ⟨⟨by decide +kernel, by decide +kernel⟩, List.mem_of_getElem? (i := 2131) (by decide +kernel), List.mem_of_getElem? (i := 2722) (by decide +kernel), List.mem_of_getElem? (i := 2723) (by decide +kernel)⟩
theorem lw_p157 : lw_okq (⟨"SyntaxForgeModel", "type", "(I)LSyntaxForgeModel$Type;"⟩, 53) := ⟨⟨by decide +kernel, by decide +kernel⟩, List.mem_of_getElem? (i := 2131) (by decide +kernel), List.mem_of_getElem? (i := 2726) (by decide +kernel), List.mem_of_getElem? (i := 2727) (by decide +kernel)⟩
theorem lw_p158 : lw_okq (⟨"SyntaxForgeModel", "base", "(LSyntaxForgeModel$Type;I)V"⟩, 53) := ⟨⟨by decide +kernel, by decide +kernel⟩, List.mem_of_getElem? (i := 2131) (by decide +kernel), List.mem_of_getElem? (i := 2834) (by decide +kernel), List.mem_of_getElem? (i := 2835) (by decide +kernel)⟩
theorem lw_p159 : lw_okq (⟨"SyntaxForgeModel", "range", "(LSyntaxForgeModel$Type;)V"⟩, 53) := ⟨⟨by decide +kernel, by decide +kernel⟩, List.mem_of_getElem? (i := 2131) (by decide +kernel), List.mem_of_getElem? (i := 2838) (by decide +kernel), List.mem_of_getElem? (i := 2839) (by decide +kernel)⟩
def lw_privs_10 : List (MethodName × Nat) := [(⟨"SyntaxForgeModel", "letter", "(I)Z"⟩, 53), (⟨"SyntaxForgeModel", "words", "()V"⟩, 53), (⟨"SyntaxForgeModel", "digit", "(I)Z"⟩, 53), (⟨"SyntaxForgeModel", "text", "(II)Ljava/lang/String;"⟩, 53), (⟨"SyntaxForgeModel", "wordOf", "(LSyntaxForgeModel$Chars;)Ljava/lang/String;"⟩, 53), (⟨"SyntaxForgeModel", "numbers", "()V"⟩, 53), (⟨"SyntaxForgeModel", "strings", "()V"⟩, 53), (⟨"SyntaxForgeModel", "quoted", "()V"⟩, 53), (⟨"SyntaxForgeModel", "readModule", "()LSyntaxForgeModel$Module;"⟩, 53), (⟨"SyntaxForgeModel", "take", "(I)Ljava/lang/String;"⟩, 53), (⟨"SyntaxForgeModel", "can", "(Z)V"⟩, 53), (⟨"SyntaxForgeModel", "expect", "(Ljava/lang/String;)V"⟩, 53), (⟨"SyntaxForgeModel", "is", "(Ljava/lang/String;)Z"⟩, 53), (⟨"SyntaxForgeModel", "type", "(I)LSyntaxForgeModel$Type;"⟩, 53), (⟨"SyntaxForgeModel", "base", "(LSyntaxForgeModel$Type;I)V"⟩, 53), (⟨"SyntaxForgeModel", "range", "(LSyntaxForgeModel$Type;)V"⟩, 53)]
theorem lw_r10 : ∀ q ∈ lw_privs_10, lw_okq q := List.forall_mem_cons.mpr ⟨lw_p144, List.forall_mem_cons.mpr ⟨lw_p145, List.forall_mem_cons.mpr ⟨lw_p146, List.forall_mem_cons.mpr ⟨lw_p147, List.forall_mem_cons.mpr ⟨lw_p148, List.forall_mem_cons.mpr ⟨lw_p149, List.forall_mem_cons.mpr ⟨lw_p150, List.forall_mem_cons.mpr ⟨lw_p151, List.forall_mem_cons.mpr ⟨lw_p152, List.forall_mem_cons.mpr ⟨lw_p153, List.forall_mem_cons.mpr ⟨lw_p154, List.forall_mem_cons.mpr ⟨lw_p155, List.forall_mem_cons.mpr ⟨lw_p156, List.forall_mem_cons.mpr ⟨lw_p157, List.forall_mem_cons.mpr ⟨lw_p158, List.forall_mem_cons.mpr ⟨lw_p159, fun _ h => absurd h List.not_mem_nil⟩⟩⟩⟩⟩⟩⟩⟩⟩⟩⟩⟩⟩⟩⟩⟩
theorem lw_p160 : lw_okq (⟨"SyntaxForgeModel", "whole", "()J"⟩, 53) := ⟨⟨by decide +kernel, by decide +kernel⟩, List.mem_of_getElem? (i := 2131) (by decide +kernel), List.mem_of_getElem? (i := 2842) (by decide +kernel), List.mem_of_getElem? (i := 2843) (by decide +kernel)⟩
theorem lw_p161 : lw_okq (⟨"SyntaxForgeModel", "dots", "(LSyntaxForgeModel$Type;)V"⟩, 53) := ⟨⟨by decide +kernel, by decide +kernel⟩, List.mem_of_getElem? (i := 2131) (by decide +kernel), List.mem_of_getElem? (i := 2846) (by decide +kernel), List.mem_of_getElem? (i := 2847) (by decide +kernel)⟩
theorem lw_p162 : lw_okq (⟨"SyntaxForgeModel", "items", "(LSyntaxForgeModel$Type;)V"⟩, 53) := ⟨⟨by decide +kernel, by decide +kernel⟩, List.mem_of_getElem? (i := 2131) (by decide +kernel), List.mem_of_getElem? (i := 2850) (by decide +kernel), List.mem_of_getElem? (i := 2851) (by decide +kernel)⟩
theorem lw_p163 : lw_okq (⟨"SyntaxForgeModel", "item", "(LSyntaxForgeModel$Type;)V"⟩, 53) := ⟨⟨by decide +kernel, by decide +kernel⟩, List.mem_of_getElem? (i := 2131) (by decide +kernel), List.mem_of_getElem? (i := 2854) (by decide +kernel), List.mem_of_getElem? (i := 2855) (by decide +kernel)⟩
theorem lw_p164 : lw_okq (⟨"SyntaxForgeModel", "sized", "(LSyntaxForgeModel$Type;)V"⟩, 53) := ⟨⟨by decide +kernel, by decide +kernel⟩, List.mem_of_getElem? (i := 2131) (by decide +kernel), List.mem_of_getElem? (i := 2862) (by decide +kernel), List.mem_of_getElem? (i := 2863) (by decide +kernel)⟩
theorem lw_p165 : lw_okq (⟨"SyntaxForgeModel", "size", "(LSyntaxForgeModel$Type;)V"⟩, 53) := ⟨⟨by decide +kernel, by decide +kernel⟩, List.mem_of_getElem? (i := 2131) (by decide +kernel), List.mem_of_getElem? (i := 2866) (by decide +kernel), List.mem_of_getElem? (i := 2867) (by decide +kernel)⟩
theorem lw_p166 : lw_okq (⟨"SyntaxForgeModel", "parts", "(LSyntaxForgeModel$Type;I)V"⟩, 53) := ⟨⟨by decide +kernel, by decide +kernel⟩, List.mem_of_getElem? (i := 2131) (by decide +kernel), List.mem_of_getElem? (i := 2870) (by decide +kernel), List.mem_of_getElem? (i := 2871) (by decide +kernel)⟩
theorem lw_p167 : lw_okq (⟨"SyntaxForgeModel", "value", "()LSyntaxForgeModel$Value;"⟩, 53) := ⟨⟨by decide +kernel, by decide +kernel⟩, List.mem_of_getElem? (i := 2131) (by decide +kernel), List.mem_of_getElem? (i := 2874) (by decide +kernel), List.mem_of_getElem? (i := 2875) (by decide +kernel)⟩
theorem lw_p168 : lw_okq (⟨"SyntaxForgeModel", "made", "(II)LSyntaxForgeModel$Value;"⟩, 53) := ⟨⟨by decide +kernel, by decide +kernel⟩, List.mem_of_getElem? (i := 2131) (by decide +kernel), List.mem_of_getElem? (i := 2878) (by decide +kernel), List.mem_of_getElem? (i := 2879) (by decide +kernel)⟩
theorem lw_p169 : lw_okq (⟨"SyntaxForgeModel", "open", "()V"⟩, 53) := ⟨⟨by decide +kernel, by decide +kernel⟩, List.mem_of_getElem? (i := 2131) (by decide +kernel), List.mem_of_getElem? (i := 2933) (by decide +kernel), List.mem_of_getElem? (i := 2934) (by decide +kernel)⟩
theorem lw_p170 : lw_okq (⟨"SyntaxForgeModel", "braces", "(I)LSyntaxForgeModel$Value;"⟩, 53) := ⟨⟨by decide +kernel, by decide +kernel⟩, List.mem_of_getElem? (i := 2131) (by decide +kernel), List.mem_of_getElem? (i := 2941) (by decide +kernel), List.mem_of_getElem? (i := 2942) (by decide +kernel)⟩
theorem lw_p171 : lw_okq (⟨"SyntaxForgeModel", "beginsValue", "()Z"⟩, 53) := ⟨⟨by decide +kernel, by decide +kernel⟩, List.mem_of_getElem? (i := 2131) (by decide +kernel), List.mem_of_getElem? (i := 2945) (by decide +kernel), List.mem_of_getElem? (i := 2946) (by decide +kernel)⟩
theorem lw_p172 : lw_okq (⟨"SyntaxForgeModel", "many", "(LSyntaxForgeModel$Type;I)V"⟩, 53) := ⟨⟨by decide +kernel, by decide +kernel⟩, List.mem_of_getElem? (i := 2131) (by decide +kernel), List.mem_of_getElem? (i := 2950) (by decide +kernel), List.mem_of_getElem? (i := 2951) (by decide +kernel)⟩
theorem lw_p173 : lw_okq (⟨"SyntaxForgeModel", "soundModule", "(LSyntaxForgeModel$Module;)V"⟩, 53) := ⟨⟨by decide +kernel, by decide +kernel⟩, List.mem_of_getElem? (i := 2131) (by decide +kernel), List.mem_of_getElem? (i := 2954) (by decide +kernel), List.mem_of_getElem? (i := 2955) (by decide +kernel)⟩
theorem lw_p174 : lw_okq (⟨"SyntaxForgeModel", "sound", "(Z)V"⟩, 53) := ⟨⟨by decide +kernel, by decide +kernel⟩, List.mem_of_getElem? (i := 2131) (by decide +kernel), List.mem_of_getElem? (i := 2958) (by decide +kernel), List.mem_of_getElem? (i := 2959) (by decide +kernel)⟩
theorem lw_p175 : lw_okq (⟨"SyntaxForgeModel", "soundType", "(LSyntaxForgeModel$Type;)V"⟩, 53) := ⟨⟨by decide +kernel, by decide +kernel⟩, List.mem_of_getElem? (i := 2131) (by decide +kernel), List.mem_of_getElem? (i := 2963) (by decide +kernel), List.mem_of_getElem? (i := 2964) (by decide +kernel)⟩
def lw_privs_11 : List (MethodName × Nat) := [(⟨"SyntaxForgeModel", "whole", "()J"⟩, 53), (⟨"SyntaxForgeModel", "dots", "(LSyntaxForgeModel$Type;)V"⟩, 53), (⟨"SyntaxForgeModel", "items", "(LSyntaxForgeModel$Type;)V"⟩, 53), (⟨"SyntaxForgeModel", "item", "(LSyntaxForgeModel$Type;)V"⟩, 53), (⟨"SyntaxForgeModel", "sized", "(LSyntaxForgeModel$Type;)V"⟩, 53), (⟨"SyntaxForgeModel", "size", "(LSyntaxForgeModel$Type;)V"⟩, 53), (⟨"SyntaxForgeModel", "parts", "(LSyntaxForgeModel$Type;I)V"⟩, 53), (⟨"SyntaxForgeModel", "value", "()LSyntaxForgeModel$Value;"⟩, 53), (⟨"SyntaxForgeModel", "made", "(II)LSyntaxForgeModel$Value;"⟩, 53), (⟨"SyntaxForgeModel", "open", "()V"⟩, 53), (⟨"SyntaxForgeModel", "braces", "(I)LSyntaxForgeModel$Value;"⟩, 53), (⟨"SyntaxForgeModel", "beginsValue", "()Z"⟩, 53), (⟨"SyntaxForgeModel", "many", "(LSyntaxForgeModel$Type;I)V"⟩, 53), (⟨"SyntaxForgeModel", "soundModule", "(LSyntaxForgeModel$Module;)V"⟩, 53), (⟨"SyntaxForgeModel", "sound", "(Z)V"⟩, 53), (⟨"SyntaxForgeModel", "soundType", "(LSyntaxForgeModel$Type;)V"⟩, 53)]
theorem lw_r11 : ∀ q ∈ lw_privs_11, lw_okq q := List.forall_mem_cons.mpr ⟨lw_p160, List.forall_mem_cons.mpr ⟨lw_p161, List.forall_mem_cons.mpr ⟨lw_p162, List.forall_mem_cons.mpr ⟨lw_p163, List.forall_mem_cons.mpr ⟨lw_p164, List.forall_mem_cons.mpr ⟨lw_p165, List.forall_mem_cons.mpr ⟨lw_p166, List.forall_mem_cons.mpr ⟨lw_p167, List.forall_mem_cons.mpr ⟨lw_p168, List.forall_mem_cons.mpr ⟨lw_p169, List.forall_mem_cons.mpr ⟨lw_p170, List.forall_mem_cons.mpr ⟨lw_p171, List.forall_mem_cons.mpr ⟨lw_p172, List.forall_mem_cons.mpr ⟨lw_p173, List.forall_mem_cons.mpr ⟨lw_p174, List.forall_mem_cons.mpr ⟨lw_p175, fun _ h => absurd h List.not_mem_nil⟩⟩⟩⟩⟩⟩⟩⟩⟩⟩⟩⟩⟩⟩⟩⟩
theorem lw_p176 : lw_okq (⟨"SyntaxForgeModel", "named", "(Ljava/lang/String;)LSyntaxForgeModel$Type;"⟩, 53) := ⟨⟨by decide +kernel, by decide +kernel⟩, List.mem_of_getElem? (i := 2131) (by decide +kernel), List.mem_of_getElem? (i := 2969) (by decide +kernel), List.mem_of_getElem? (i := 2970) (by decide +kernel)⟩
theorem lw_p177 : lw_okq (⟨"SyntaxForgeModel", "soundItems", "(LSyntaxForgeModel$Type;)V"⟩, 53) := ⟨⟨by decide +kernel, by decide +kernel⟩, List.mem_of_getElem? (i := 2131) (by decide +kernel), List.mem_of_getElem? (i := 2978) (by decide +kernel), List.mem_of_getElem? (i := 2979) (by decide +kernel)⟩
theorem lw_p178 : lw_okq (⟨"SyntaxForgeModel", "base", "(LSyntaxForgeModel$Type;)LSyntaxForgeModel$Type;"⟩, 53) := ⟨⟨by decide +kernel, by decide +kernel⟩, List.mem_of_getElem? (i := 2131) (by decide +kernel), List.mem_of_getElem? (i := 2983) (by decide +kernel), List.mem_of_getElem? (i := 2984) (by decide +kernel)⟩
theorem lw_p179 : lw_okq (⟨"SyntaxForgeModel", "loops", "(LSyntaxForgeModel$Type;)V"⟩, 53) := ⟨⟨by decide +kernel, by decide +kernel⟩, List.mem_of_getElem? (i := 2131) (by decide +kernel), List.mem_of_getElem? (i := 2987) (by decide +kernel), List.mem_of_getElem? (i := 2988) (by decide +kernel)⟩
theorem lw_p180 : lw_okq (⟨"SyntaxForgeModel", "noLoop", "(LSyntaxForgeModel$Type;)V"⟩, 53) := ⟨⟨by decide +kernel, by decide +kernel⟩, List.mem_of_getElem? (i := 2131) (by decide +kernel), List.mem_of_getElem? (i := 2991) (by decide +kernel), List.mem_of_getElem? (i := 2992) (by decide +kernel)⟩
theorem lw_p181 : lw_okq (⟨"SyntaxForgeModel", "tags", "(LSyntaxForgeModel$Type;I)LSyntaxForgeModel$Tags;"⟩, 53) := ⟨⟨by decide +kernel, by decide +kernel⟩, List.mem_of_getElem? (i := 2131) (by decide +kernel), List.mem_of_getElem? (i := 2995) (by decide +kernel), List.mem_of_getElem? (i := 2996) (by decide +kernel)⟩
theorem lw_p182 : lw_okq (⟨"SyntaxForgeModel", "reckoned", "(LSyntaxForgeModel$Type;I)LSyntaxForgeModel$Tags;"⟩, 53) := ⟨⟨by decide +kernel, by decide +kernel⟩, List.mem_of_getElem? (i := 2131) (by decide +kernel), List.mem_of_getElem? (i := 2999) (by decide +kernel), List.mem_of_getElem? (i := 3000) (by decide +kernel)⟩
theorem lw_p183 : lw_okq (⟨"SyntaxForgeModel", "one", "(LSyntaxForgeModel$Tags;JZ)V"⟩, 53) := ⟨⟨by decide +kernel, by decide +kernel⟩, List.mem_of_getElem? (i := 2131) (by decide +kernel), List.mem_of_getElem? (i := 3024) (by decide +kernel), List.mem_of_getElem? (i := 3025) (by decide +kernel)⟩
theorem lw_p184 : lw_okq (⟨"SyntaxForgeModel", "soundTags", "(LSyntaxForgeModel$Type;)V"⟩, 53) := ⟨⟨by decide +kernel, by decide +kernel⟩, List.mem_of_getElem? (i := 2131) (by decide +kernel), List.mem_of_getElem? (i := 3029) (by decide +kernel), List.mem_of_getElem? (i := 3030) (by decide +kernel)⟩
theorem lw_p185 : lw_okq (⟨"SyntaxForgeModel", "firstOf", "(LSyntaxForgeModel$Type;I)LSyntaxForgeModel$Tags;"⟩, 53) := ⟨⟨by decide +kernel, by decide +kernel⟩, List.mem_of_getElem? (i := 2131) (by decide +kernel), List.mem_of_getElem? (i := 3034) (by decide +kernel), List.mem_of_getElem? (i := 3035) (by decide +kernel)⟩
theorem lw_p186 : lw_okq (⟨"SyntaxForgeModel", "firstTags", "(LSyntaxForgeModel$Type;ILSyntaxForgeModel$Tags;)V"⟩, 53) := ⟨⟨by decide +kernel, by decide +kernel⟩, List.mem_of_getElem? (i := 2131) (by decide +kernel), List.mem_of_getElem? (i := 3038) (by decide +kernel), List.mem_of_getElem? (i := 3039) (by decide +kernel)⟩
theorem lw_p187 : lw_okq (⟨"SyntaxForgeModel", "different", "(LSyntaxForgeModel$Tags;LSyntaxForgeModel$Tags;)V"⟩, 53) := ⟨⟨by decide +kernel, by decide +kernel⟩, List.mem_of_getElem? (i := 2131) (by decide +kernel), List.mem_of_getElem? (i := 3046) (by decide +kernel), List.mem_of_getElem? (i := 3047) (by decide +kernel)⟩
theorem lw_p188 : lw_okq (⟨"SyntaxForgeModel", "orders", "(LSyntaxForgeModel$Type;)V"⟩, 53) := ⟨⟨by decide +kernel, by decide +kernel⟩, List.mem_of_getElem? (i := 2131) (by decide +kernel), List.mem_of_getElem? (i := 3054) (by decide +kernel), List.mem_of_getElem? (i := 3055) (by decide +kernel)⟩
theorem lw_p189 : lw_okq (⟨"SyntaxForgeModel", "leastTag", "(LSyntaxForgeModel$Type;I)J"⟩, 53) := ⟨⟨by decide +kernel, by decide +kernel⟩, List.mem_of_getElem? (i := 2131) (by decide +kernel), List.mem_of_getElem? (i := 3058) (by decide +kernel), List.mem_of_getElem? (i := 3059) (by decide +kernel)⟩
theorem lw_p190 : lw_okq (⟨"SyntaxForgeModel", "soundDefaults", "(LSyntaxForgeModel$Type;)V"⟩, 53) := ⟨⟨by decide +kernel, by decide +kernel⟩, List.mem_of_getElem? (i := 2131) (by decide +kernel), List.mem_of_getElem? (i := 3063) (by decide +kernel), List.mem_of_getElem? (i := 3064) (by decide +kernel)⟩
theorem lw_p191 : lw_okq (⟨"SyntaxForgeModel", "check", "(LSyntaxForgeModel$Value;LSyntaxForgeModel$Type;)V"⟩, 53) := ⟨⟨by decide +kernel, by decide +kernel⟩, List.mem_of_getElem? (i := 2131) (by decide +kernel), List.mem_of_getElem? (i := 3067) (by decide +kernel), List.mem_of_getElem? (i := 3068) (by decide +kernel)⟩
def lw_privs_12 : List (MethodName × Nat) := [(⟨"SyntaxForgeModel", "named", "(Ljava/lang/String;)LSyntaxForgeModel$Type;"⟩, 53), (⟨"SyntaxForgeModel", "soundItems", "(LSyntaxForgeModel$Type;)V"⟩, 53), (⟨"SyntaxForgeModel", "base", "(LSyntaxForgeModel$Type;)LSyntaxForgeModel$Type;"⟩, 53), (⟨"SyntaxForgeModel", "loops", "(LSyntaxForgeModel$Type;)V"⟩, 53), (⟨"SyntaxForgeModel", "noLoop", "(LSyntaxForgeModel$Type;)V"⟩, 53), (⟨"SyntaxForgeModel", "tags", "(LSyntaxForgeModel$Type;I)LSyntaxForgeModel$Tags;"⟩, 53), (⟨"SyntaxForgeModel", "reckoned", "(LSyntaxForgeModel$Type;I)LSyntaxForgeModel$Tags;"⟩, 53), (⟨"SyntaxForgeModel", "one", "(LSyntaxForgeModel$Tags;JZ)V"⟩, 53), (⟨"SyntaxForgeModel", "soundTags", "(LSyntaxForgeModel$Type;)V"⟩, 53), (⟨"SyntaxForgeModel", "firstOf", "(LSyntaxForgeModel$Type;I)LSyntaxForgeModel$Tags;"⟩, 53), (⟨"SyntaxForgeModel", "firstTags", "(LSyntaxForgeModel$Type;ILSyntaxForgeModel$Tags;)V"⟩, 53), (⟨"SyntaxForgeModel", "different", "(LSyntaxForgeModel$Tags;LSyntaxForgeModel$Tags;)V"⟩, 53), (⟨"SyntaxForgeModel", "orders", "(LSyntaxForgeModel$Type;)V"⟩, 53), (⟨"SyntaxForgeModel", "leastTag", "(LSyntaxForgeModel$Type;I)J"⟩, 53), (⟨"SyntaxForgeModel", "soundDefaults", "(LSyntaxForgeModel$Type;)V"⟩, 53), (⟨"SyntaxForgeModel", "check", "(LSyntaxForgeModel$Value;LSyntaxForgeModel$Type;)V"⟩, 53)]
theorem lw_r12 : ∀ q ∈ lw_privs_12, lw_okq q := List.forall_mem_cons.mpr ⟨lw_p176, List.forall_mem_cons.mpr ⟨lw_p177, List.forall_mem_cons.mpr ⟨lw_p178, List.forall_mem_cons.mpr ⟨lw_p179, List.forall_mem_cons.mpr ⟨lw_p180, List.forall_mem_cons.mpr ⟨lw_p181, List.forall_mem_cons.mpr ⟨lw_p182, List.forall_mem_cons.mpr ⟨lw_p183, List.forall_mem_cons.mpr ⟨lw_p184, List.forall_mem_cons.mpr ⟨lw_p185, List.forall_mem_cons.mpr ⟨lw_p186, List.forall_mem_cons.mpr ⟨lw_p187, List.forall_mem_cons.mpr ⟨lw_p188, List.forall_mem_cons.mpr ⟨lw_p189, List.forall_mem_cons.mpr ⟨lw_p190, List.forall_mem_cons.mpr ⟨lw_p191, fun _ h => absurd h List.not_mem_nil⟩⟩⟩⟩⟩⟩⟩⟩⟩⟩⟩⟩⟩⟩⟩⟩
theorem lw_p192 : lw_okq (⟨"SyntaxForgeModel", "bad", "(I)V"⟩, 53) := ⟨⟨by decide +kernel, by decide +kernel⟩, List.mem_of_getElem? (i := 2131) (by decide +kernel), List.mem_of_getElem? (i := 3071) (by decide +kernel), List.mem_of_getElem? (i := 3072) (by decide +kernel)⟩
theorem lw_p193 : lw_okq (⟨"SyntaxForgeModel", "fits", "(LSyntaxForgeModel$Type;J)Z"⟩, 53) := ⟨⟨by decide +kernel, by decide +kernel⟩, List.mem_of_getElem? (i := 2131) (by decide +kernel), List.mem_of_getElem? (i := 3075) (by decide +kernel), List.mem_of_getElem? (i := 3076) (by decide +kernel)⟩
theorem lw_p194 : lw_okq (⟨"SyntaxForgeModel", "inRange", "(LSyntaxForgeModel$Type;J)Z"⟩, 53) := ⟨⟨by decide +kernel, by decide +kernel⟩, List.mem_of_getElem? (i := 2131) (by decide +kernel), List.mem_of_getElem? (i := 3079) (by decide +kernel), List.mem_of_getElem? (i := 3080) (by decide +kernel)⟩
theorem lw_p195 : lw_okq (⟨"SyntaxForgeModel", "index", "(LSyntaxForgeModel$Type;Ljava/lang/String;)I"⟩, 53) := ⟨⟨by decide +kernel, by decide +kernel⟩, List.mem_of_getElem? (i := 2131) (by decide +kernel), List.mem_of_getElem? (i := 3083) (by decide +kernel), List.mem_of_getElem? (i := 3084) (by decide +kernel)⟩
theorem lw_p196 : lw_okq (⟨"SyntaxForgeModel", "checkOid", "(LSyntaxForgeModel$Value;)V"⟩, 53) := ⟨⟨by decide +kernel, by decide +kernel⟩, List.mem_of_getElem? (i := 2131) (by decide +kernel), List.mem_of_getElem? (i := 3090) (by decide +kernel), List.mem_of_getElem? (i := 3091) (by decide +kernel)⟩
theorem lw_p197 : lw_okq (⟨"SyntaxForgeModel", "checkParts", "(LSyntaxForgeModel$Value;LSyntaxForgeModel$Type;)V"⟩, 53) := ⟨⟨by decide +kernel, by decide +kernel⟩, List.mem_of_getElem? (i := 2131) (by decide +kernel), List.mem_of_getElem? (i := 3100) (by decide +kernel), List.mem_of_getElem? (i := 3101) (by decide +kernel)⟩
theorem lw_p198 : lw_okq (⟨"SyntaxForgeModel", "character", "(II)Z"⟩, 53) := ⟨⟨by decide +kernel, by decide +kernel⟩, List.mem_of_getElem? (i := 2131) (by decide +kernel), List.mem_of_getElem? (i := 3104) (by decide +kernel), List.mem_of_getElem? (i := 3105) (by decide +kernel)⟩
theorem lw_p199 : lw_okq (⟨"SyntaxForgeModel", "settle", "(LSyntaxForgeModel$Type;)Z"⟩, 53) := ⟨⟨by decide +kernel, by decide +kernel⟩, List.mem_of_getElem? (i := 2131) (by decide +kernel), List.mem_of_getElem? (i := 3108) (by decide +kernel), List.mem_of_getElem? (i := 3109) (by decide +kernel)⟩
theorem lw_p200 : lw_okq (⟨"SyntaxForgeModel", "waits", "(LSyntaxForgeModel$Value;LSyntaxForgeModel$Type;)Z"⟩, 53) := ⟨⟨by decide +kernel, by decide +kernel⟩, List.mem_of_getElem? (i := 2131) (by decide +kernel), List.mem_of_getElem? (i := 3112) (by decide +kernel), List.mem_of_getElem? (i := 3113) (by decide +kernel)⟩
theorem lw_p201 : lw_okq (⟨"SyntaxForgeModel", "out", "(I)Z"⟩, 53) := ⟨⟨by decide +kernel, by decide +kernel⟩, List.mem_of_getElem? (i := 2131) (by decide +kernel), List.mem_of_getElem? (i := 3121) (by decide +kernel), List.mem_of_getElem? (i := 3122) (by decide +kernel)⟩
theorem lw_p202 : lw_okq (⟨"SyntaxForgeModel", "encodePacked", "(LSyntaxForgeModel$Value;LSyntaxForgeModel$Type;)I"⟩, 53) := ⟨⟨by decide +kernel, by decide +kernel⟩, List.mem_of_getElem? (i := 2131) (by decide +kernel), List.mem_of_getElem? (i := 3125) (by decide +kernel), List.mem_of_getElem? (i := 3126) (by decide +kernel)⟩
theorem lw_p203 : lw_okq (⟨"SyntaxForgeModel", "per", "(LSyntaxForgeModel$Value;LSyntaxForgeModel$Type;)V"⟩, 53) := ⟨⟨by decide +kernel, by decide +kernel⟩, List.mem_of_getElem? (i := 2131) (by decide +kernel), List.mem_of_getElem? (i := 3129) (by decide +kernel), List.mem_of_getElem? (i := 3130) (by decide +kernel)⟩
theorem lw_p204 : lw_okq (⟨"SyntaxForgeModel", "beyond", "(LSyntaxForgeModel$Value;LSyntaxForgeModel$Type;)Z"⟩, 53) := ⟨⟨by decide +kernel, by decide +kernel⟩, List.mem_of_getElem? (i := 2131) (by decide +kernel), List.mem_of_getElem? (i := 3133) (by decide +kernel), List.mem_of_getElem? (i := 3134) (by decide +kernel)⟩
theorem lw_p205 : lw_okq (⟨"SyntaxForgeModel", "part", "(LSyntaxForgeModel$Value;LSyntaxForgeModel$Type;I)LSyntaxForgeModel$Value;"⟩, 53) := ⟨⟨by decide +kernel, by decide +kernel⟩, List.mem_of_getElem? (i := 2131) (by decide +kernel), List.mem_of_getElem? (i := 3137) (by decide +kernel), List.mem_of_getElem? (i := 3138) (by decide +kernel)⟩
theorem lw_p206 : lw_okq (⟨"SyntaxForgeModel", "written", "(LSyntaxForgeModel$Value;Ljava/lang/String;)LSyntaxForgeModel$Value;"⟩, 53) := ⟨⟨by decide +kernel, by decide +kernel⟩, List.mem_of_getElem? (i := 2131) (by decide +kernel), List.mem_of_getElem? (i := 3141) (by decide +kernel), List.mem_of_getElem? (i := 3142) (by decide +kernel)⟩
theorem lw_p207 : lw_okq (⟨"SyntaxForgeModel", "same", "(LSyntaxForgeModel$Value;LSyntaxForgeModel$Value;LSyntaxForgeModel$Type;)Z"⟩, 53) := ⟨⟨by decide +kernel, by decide +kernel⟩, List.mem_of_getElem? (i := 2131) (by decide +kernel), List.mem_of_getElem? (i := 3145) (by decide +kernel), List.mem_of_getElem? (i := 3146) (by decide +kernel)⟩
def lw_privs_13 : List (MethodName × Nat) := [(⟨"SyntaxForgeModel", "bad", "(I)V"⟩, 53), (⟨"SyntaxForgeModel", "fits", "(LSyntaxForgeModel$Type;J)Z"⟩, 53), (⟨"SyntaxForgeModel", "inRange", "(LSyntaxForgeModel$Type;J)Z"⟩, 53), (⟨"SyntaxForgeModel", "index", "(LSyntaxForgeModel$Type;Ljava/lang/String;)I"⟩, 53), (⟨"SyntaxForgeModel", "checkOid", "(LSyntaxForgeModel$Value;)V"⟩, 53), (⟨"SyntaxForgeModel", "checkParts", "(LSyntaxForgeModel$Value;LSyntaxForgeModel$Type;)V"⟩, 53), (⟨"SyntaxForgeModel", "character", "(II)Z"⟩, 53), (⟨"SyntaxForgeModel", "settle", "(LSyntaxForgeModel$Type;)Z"⟩, 53), (⟨"SyntaxForgeModel", "waits", "(LSyntaxForgeModel$Value;LSyntaxForgeModel$Type;)Z"⟩, 53), (⟨"SyntaxForgeModel", "out", "(I)Z"⟩, 53), (⟨"SyntaxForgeModel", "encodePacked", "(LSyntaxForgeModel$Value;LSyntaxForgeModel$Type;)I"⟩, 53), (⟨"SyntaxForgeModel", "per", "(LSyntaxForgeModel$Value;LSyntaxForgeModel$Type;)V"⟩, 53), (⟨"SyntaxForgeModel", "beyond", "(LSyntaxForgeModel$Value;LSyntaxForgeModel$Type;)Z"⟩, 53), (⟨"SyntaxForgeModel", "part", "(LSyntaxForgeModel$Value;LSyntaxForgeModel$Type;I)LSyntaxForgeModel$Value;"⟩, 53), (⟨"SyntaxForgeModel", "written", "(LSyntaxForgeModel$Value;Ljava/lang/String;)LSyntaxForgeModel$Value;"⟩, 53), (⟨"SyntaxForgeModel", "same", "(LSyntaxForgeModel$Value;LSyntaxForgeModel$Value;LSyntaxForgeModel$Type;)Z"⟩, 53)]
theorem lw_r13 : ∀ q ∈ lw_privs_13, lw_okq q := List.forall_mem_cons.mpr ⟨lw_p192, List.forall_mem_cons.mpr ⟨lw_p193, List.forall_mem_cons.mpr ⟨lw_p194, List.forall_mem_cons.mpr ⟨lw_p195, List.forall_mem_cons.mpr ⟨lw_p196, List.forall_mem_cons.mpr ⟨lw_p197, List.forall_mem_cons.mpr ⟨lw_p198, List.forall_mem_cons.mpr ⟨lw_p199, List.forall_mem_cons.mpr ⟨lw_p200, List.forall_mem_cons.mpr ⟨lw_p201, List.forall_mem_cons.mpr ⟨lw_p202, List.forall_mem_cons.mpr ⟨lw_p203, List.forall_mem_cons.mpr ⟨lw_p204, List.forall_mem_cons.mpr ⟨lw_p205, List.forall_mem_cons.mpr ⟨lw_p206, List.forall_mem_cons.mpr ⟨lw_p207, fun _ h => absurd h List.not_mem_nil⟩⟩⟩⟩⟩⟩⟩⟩⟩⟩⟩⟩⟩⟩⟩⟩
theorem lw_p208 : lw_okq (⟨"SyntaxForgeModel", "sameSets", "(LSyntaxForgeModel$Value;LSyntaxForgeModel$Value;LSyntaxForgeModel$Type;)Z"⟩, 53) := ⟨⟨by decide +kernel, by decide +kernel⟩, List.mem_of_getElem? (i := 2131) (by decide +kernel), List.mem_of_getElem? (i := 3155) (by decide +kernel), List.mem_of_getElem? (i := 3156) (by decide +kernel)⟩
theorem lw_p209 : lw_okq (⟨"SyntaxForgeModel", "countOf", "(LSyntaxForgeModel$Value;LSyntaxForgeModel$Type;)I"⟩, 53) := ⟨⟨by decide +kernel, by decide +kernel⟩, List.mem_of_getElem? (i := 2131) (by decide +kernel), List.mem_of_getElem? (i := 3159) (by decide +kernel), List.mem_of_getElem? (i := 3160) (by decide +kernel)⟩
theorem lw_p210 : lw_okq (⟨"SyntaxForgeModel", "put", "(JI)V"⟩, 53) := ⟨⟨by decide +kernel, by decide +kernel⟩, List.mem_of_getElem? (i := 2131) (by decide +kernel), List.mem_of_getElem? (i := 3163) (by decide +kernel), List.mem_of_getElem? (i := 3164) (by decide +kernel)⟩
theorem lw_p211 : lw_okq (⟨"SyntaxForgeModel", "perInteger", "(JLSyntaxForgeModel$Type;Z)V"⟩, 53) := ⟨⟨by decide +kernel, by decide +kernel⟩, List.mem_of_getElem? (i := 2131) (by decide +kernel), List.mem_of_getElem? (i := 3169) (by decide +kernel), List.mem_of_getElem? (i := 3170) (by decide +kernel)⟩
theorem lw_p212 : lw_okq (⟨"SyntaxForgeModel", "length", "(I)V"⟩, 53) := ⟨⟨by decide +kernel, by decide +kernel⟩, List.mem_of_getElem? (i := 2131) (by decide +kernel), List.mem_of_getElem? (i := 3180) (by decide +kernel), List.mem_of_getElem? (i := 3181) (by decide +kernel)⟩
theorem lw_p213 : lw_okq (⟨"SyntaxForgeModel", "putSmall", "(J)V"⟩, 53) := ⟨⟨by decide +kernel, by decide +kernel⟩, List.mem_of_getElem? (i := 2131) (by decide +kernel), List.mem_of_getElem? (i := 3188) (by decide +kernel), List.mem_of_getElem? (i := 3189) (by decide +kernel)⟩
theorem lw_p214 : lw_okq (⟨"SyntaxForgeModel", "perOid", "(LSyntaxForgeModel$Value;)V"⟩, 53) := ⟨⟨by decide +kernel, by decide +kernel⟩, List.mem_of_getElem? (i := 2131) (by decide +kernel), List.mem_of_getElem? (i := 3196) (by decide +kernel), List.mem_of_getElem? (i := 3197) (by decide +kernel)⟩
theorem lw_p215 : lw_okq (⟨"SyntaxForgeModel", "sevensBefore", "(J)V"⟩, 53) := ⟨⟨by decide +kernel, by decide +kernel⟩, List.mem_of_getElem? (i := 2131) (by decide +kernel), List.mem_of_getElem? (i := 3200) (by decide +kernel), List.mem_of_getElem? (i := 3201) (by decide +kernel)⟩
theorem lw_p216 : lw_okq (⟨"SyntaxForgeModel", "before", "(J)V"⟩, 53) := ⟨⟨by decide +kernel, by decide +kernel⟩, List.mem_of_getElem? (i := 2131) (by decide +kernel), List.mem_of_getElem? (i := 3205) (by decide +kernel), List.mem_of_getElem? (i := 3206) (by decide +kernel)⟩
theorem lw_p217 : lw_okq (⟨"SyntaxForgeModel", "portion", "(I)I"⟩, 53) := ⟨⟨by decide +kernel, by decide +kernel⟩, List.mem_of_getElem? (i := 2131) (by decide +kernel), List.mem_of_getElem? (i := 3211) (by decide +kernel), List.mem_of_getElem? (i := 3212) (by decide +kernel)⟩
theorem lw_p218 : lw_okq (⟨"SyntaxForgeModel", "perParts", "(LSyntaxForgeModel$Value;LSyntaxForgeModel$Type;Z)V"⟩, 53) := ⟨⟨by decide +kernel, by decide +kernel⟩, List.mem_of_getElem? (i := 2131) (by decide +kernel), List.mem_of_getElem? (i := 3217) (by decide +kernel), List.mem_of_getElem? (i := 3218) (by decide +kernel)⟩
theorem lw_p219 : lw_okq (⟨"SyntaxForgeModel", "whole", "(LSyntaxForgeModel$Value;LSyntaxForgeModel$Type;)V"⟩, 53) := ⟨⟨by decide +kernel, by decide +kernel⟩, List.mem_of_getElem? (i := 2131) (by decide +kernel), List.mem_of_getElem? (i := 3221) (by decide +kernel), List.mem_of_getElem? (i := 3222) (by decide +kernel)⟩
theorem lw_p220 : lw_okq (⟨"SyntaxForgeModel", "byteFrom", "(I)I"⟩, 53) := ⟨⟨by decide +kernel, by decide +kernel⟩, List.mem_of_getElem? (i := 2131) (by decide +kernel), List.mem_of_getElem? (i := 3225) (by decide +kernel), List.mem_of_getElem? (i := 3226) (by decide +kernel)⟩
theorem lw_p221 : lw_okq (⟨"SyntaxForgeModel", "perMany", "(LSyntaxForgeModel$Value;LSyntaxForgeModel$Type;I)V"⟩, 53) := ⟨⟨by decide +kernel, by decide +kernel⟩, List.mem_of_getElem? (i := 2131) (by decide +kernel), List.mem_of_getElem? (i := 3233) (by decide +kernel), List.mem_of_getElem? (i := 3234) (by decide +kernel)⟩
theorem lw_p222 : lw_okq (⟨"SyntaxForgeModel", "putUnit", "(LSyntaxForgeModel$Value;LSyntaxForgeModel$Type;I)V"⟩, 53) := ⟨⟨by decide +kernel, by decide +kernel⟩, List.mem_of_getElem? (i := 2131) (by decide +kernel), List.mem_of_getElem? (i := 3237) (by decide +kernel), List.mem_of_getElem? (i := 3238) (by decide +kernel)⟩
theorem lw_p223 : lw_okq (⟨"SyntaxForgeModel", "unit", "(LSyntaxForgeModel$Type;)I"⟩, 53) := ⟨⟨by decide +kernel, by decide +kernel⟩, List.mem_of_getElem? (i := 2131) (by decide +kernel), List.mem_of_getElem? (i := 3241) (by decide +kernel), List.mem_of_getElem? (i := 3242) (by decide +kernel)⟩
def lw_privs_14 : List (MethodName × Nat) := [(⟨"SyntaxForgeModel", "sameSets", "(LSyntaxForgeModel$Value;LSyntaxForgeModel$Value;LSyntaxForgeModel$Type;)Z"⟩, 53), (⟨"SyntaxForgeModel", "countOf", "(LSyntaxForgeModel$Value;LSyntaxForgeModel$Type;)I"⟩, 53), (⟨"SyntaxForgeModel", "put", "(JI)V"⟩, 53), (⟨"SyntaxForgeModel", "perInteger", "(JLSyntaxForgeModel$Type;Z)V"⟩, 53), (⟨"SyntaxForgeModel", "length", "(I)V"⟩, 53), (⟨"SyntaxForgeModel", "putSmall", "(J)V"⟩, 53), (⟨"SyntaxForgeModel", "perOid", "(LSyntaxForgeModel$Value;)V"⟩, 53), (⟨"SyntaxForgeModel", "sevensBefore", "(J)V"⟩, 53), (⟨"SyntaxForgeModel", "before", "(J)V"⟩, 53), (⟨"SyntaxForgeModel", "portion", "(I)I"⟩, 53), (⟨"SyntaxForgeModel", "perParts", "(LSyntaxForgeModel$Value;LSyntaxForgeModel$Type;Z)V"⟩, 53), (⟨"SyntaxForgeModel", "whole", "(LSyntaxForgeModel$Value;LSyntaxForgeModel$Type;)V"⟩, 53), (⟨"SyntaxForgeModel", "byteFrom", "(I)I"⟩, 53), (⟨"SyntaxForgeModel", "perMany", "(LSyntaxForgeModel$Value;LSyntaxForgeModel$Type;I)V"⟩, 53), (⟨"SyntaxForgeModel", "putUnit", "(LSyntaxForgeModel$Value;LSyntaxForgeModel$Type;I)V"⟩, 53), (⟨"SyntaxForgeModel", "unit", "(LSyntaxForgeModel$Type;)I"⟩, 53)]
theorem lw_r14 : ∀ q ∈ lw_privs_14, lw_okq q := List.forall_mem_cons.mpr ⟨lw_p208, List.forall_mem_cons.mpr ⟨lw_p209, List.forall_mem_cons.mpr ⟨lw_p210, List.forall_mem_cons.mpr ⟨lw_p211, List.forall_mem_cons.mpr ⟨lw_p212, List.forall_mem_cons.mpr ⟨lw_p213, List.forall_mem_cons.mpr ⟨lw_p214, List.forall_mem_cons.mpr ⟨lw_p215, List.forall_mem_cons.mpr ⟨lw_p216, List.forall_mem_cons.mpr ⟨lw_p217, List.forall_mem_cons.mpr ⟨lw_p218, List.forall_mem_cons.mpr ⟨lw_p219, List.forall_mem_cons.mpr ⟨lw_p220, List.forall_mem_cons.mpr ⟨lw_p221, List.forall_mem_cons.mpr ⟨lw_p222, List.forall_mem_cons.mpr ⟨lw_p223, fun _ h => absurd h List.not_mem_nil⟩⟩⟩⟩⟩⟩⟩⟩⟩⟩⟩⟩⟩⟩⟩⟩
theorem lw_p224 : lw_okq (⟨"SyntaxForgeModel", "der", "(LSyntaxForgeModel$Value;LSyntaxForgeModel$Type;I)V"⟩, 53) := ⟨⟨by decide +kernel, by decide +kernel⟩, List.mem_of_getElem? (i := 2131) (by decide +kernel), List.mem_of_getElem? (i := 3245) (by decide +kernel), List.mem_of_getElem? (i := 3246) (by decide +kernel)⟩
theorem lw_p225 : lw_okq (⟨"SyntaxForgeModel", "derContents", "(LSyntaxForgeModel$Value;LSyntaxForgeModel$Type;)V"⟩, 53) := ⟨⟨by decide +kernel, by decide +kernel⟩, List.mem_of_getElem? (i := 2131) (by decide +kernel), List.mem_of_getElem? (i := 3249) (by decide +kernel), List.mem_of_getElem? (i := 3250) (by decide +kernel)⟩
theorem lw_p226 : lw_okq (⟨"SyntaxForgeModel", "derParts", "(LSyntaxForgeModel$Value;LSyntaxForgeModel$Type;)V"⟩, 53) := ⟨⟨by decide +kernel, by decide +kernel⟩, List.mem_of_getElem? (i := 2131) (by decide +kernel), List.mem_of_getElem? (i := 3254) (by decide +kernel), List.mem_of_getElem? (i := 3255) (by decide +kernel)⟩
theorem lw_p227 : lw_okq (⟨"SyntaxForgeModel", "tagOf", "(LSyntaxForgeModel$Value;LSyntaxForgeModel$Type;I)J"⟩, 53) := ⟨⟨by decide +kernel, by decide +kernel⟩, List.mem_of_getElem? (i := 2131) (by decide +kernel), List.mem_of_getElem? (i := 3258) (by decide +kernel), List.mem_of_getElem? (i := 3259) (by decide +kernel)⟩
theorem lw_p228 : lw_okq (⟨"SyntaxForgeModel", "derEach", "(LSyntaxForgeModel$Value;LSyntaxForgeModel$Type;)V"⟩, 53) := ⟨⟨by decide +kernel, by decide +kernel⟩, List.mem_of_getElem? (i := 2131) (by decide +kernel), List.mem_of_getElem? (i := 3262) (by decide +kernel), List.mem_of_getElem? (i := 3263) (by decide +kernel)⟩
theorem lw_p229 : lw_okq (⟨"SyntaxForgeModel", "compare", "([III)I"⟩, 53) := ⟨⟨by decide +kernel, by decide +kernel⟩, List.mem_of_getElem? (i := 2131) (by decide +kernel), List.mem_of_getElem? (i := 3266) (by decide +kernel), List.mem_of_getElem? (i := 3267) (by decide +kernel)⟩
theorem lw_p230 : lw_okq (⟨"SyntaxForgeModel", "lengthBefore", "(I)V"⟩, 53) := ⟨⟨by decide +kernel, by decide +kernel⟩, List.mem_of_getElem? (i := 2131) (by decide +kernel), List.mem_of_getElem? (i := 3270) (by decide +kernel), List.mem_of_getElem? (i := 3271) (by decide +kernel)⟩
theorem lw_p231 : lw_okq (⟨"SyntaxForgeModel", "identifierBefore", "(JZ)V"⟩, 53) := ⟨⟨by decide +kernel, by decide +kernel⟩, List.mem_of_getElem? (i := 2131) (by decide +kernel), List.mem_of_getElem? (i := 3274) (by decide +kernel), List.mem_of_getElem? (i := 3275) (by decide +kernel)⟩
theorem lw_p232 : lw_okq (⟨"SyntaxForgeModel", "decoded", "(II)LSyntaxForgeModel$Value;"⟩, 53) := ⟨⟨by decide +kernel, by decide +kernel⟩, List.mem_of_getElem? (i := 2131) (by decide +kernel), List.mem_of_getElem? (i := 3284) (by decide +kernel), List.mem_of_getElem? (i := 3285) (by decide +kernel)⟩
theorem lw_p233 : lw_okq (⟨"SyntaxForgeModel", "unpack", "(LSyntaxForgeModel$Type;)LSyntaxForgeModel$Value;"⟩, 53) := ⟨⟨by decide +kernel, by decide +kernel⟩, List.mem_of_getElem? (i := 2131) (by decide +kernel), List.mem_of_getElem? (i := 3289) (by decide +kernel), List.mem_of_getElem? (i := 3290) (by decide +kernel)⟩
theorem lw_p234 : lw_okq (⟨"SyntaxForgeModel", "valid", "(Z)V"⟩, 53) := ⟨⟨by decide +kernel, by decide +kernel⟩, List.mem_of_getElem? (i := 2131) (by decide +kernel), List.mem_of_getElem? (i := 3293) (by decide +kernel), List.mem_of_getElem? (i := 3294) (by decide +kernel)⟩
theorem lw_p235 : lw_okq (⟨"SyntaxForgeModel", "begins", "()V"⟩, 53) := ⟨⟨by decide +kernel, by decide +kernel⟩, List.mem_of_getElem? (i := 2131) (by decide +kernel), List.mem_of_getElem? (i := 3297) (by decide +kernel), List.mem_of_getElem? (i := 3298) (by decide +kernel)⟩
theorem lw_p236 : lw_okq (⟨"SyntaxForgeModel", "get", "(I)J"⟩, 53) := ⟨⟨by decide +kernel, by decide +kernel⟩, List.mem_of_getElem? (i := 2131) (by decide +kernel), List.mem_of_getElem? (i := 3301) (by decide +kernel), List.mem_of_getElem? (i := 3302) (by decide +kernel)⟩
theorem lw_p237 : lw_okq (⟨"SyntaxForgeModel", "integerRead", "(LSyntaxForgeModel$Type;Z)J"⟩, 53) := ⟨⟨by decide +kernel, by decide +kernel⟩, List.mem_of_getElem? (i := 2131) (by decide +kernel), List.mem_of_getElem? (i := 3306) (by decide +kernel), List.mem_of_getElem? (i := 3307) (by decide +kernel)⟩
theorem lw_p238 : lw_okq (⟨"SyntaxForgeModel", "unsignedRead", "()J"⟩, 53) := ⟨⟨by decide +kernel, by decide +kernel⟩, List.mem_of_getElem? (i := 2131) (by decide +kernel), List.mem_of_getElem? (i := 3310) (by decide +kernel), List.mem_of_getElem? (i := 3311) (by decide +kernel)⟩
theorem lw_p239 : lw_okq (⟨"SyntaxForgeModel", "lengthRead", "()I"⟩, 53) := ⟨⟨by decide +kernel, by decide +kernel⟩, List.mem_of_getElem? (i := 2131) (by decide +kernel), List.mem_of_getElem? (i := 3314) (by decide +kernel), List.mem_of_getElem? (i := 3315) (by decide +kernel)⟩
def lw_privs_15 : List (MethodName × Nat) := [(⟨"SyntaxForgeModel", "der", "(LSyntaxForgeModel$Value;LSyntaxForgeModel$Type;I)V"⟩, 53), (⟨"SyntaxForgeModel", "derContents", "(LSyntaxForgeModel$Value;LSyntaxForgeModel$Type;)V"⟩, 53), (⟨"SyntaxForgeModel", "derParts", "(LSyntaxForgeModel$Value;LSyntaxForgeModel$Type;)V"⟩, 53), (⟨"SyntaxForgeModel", "tagOf", "(LSyntaxForgeModel$Value;LSyntaxForgeModel$Type;I)J"⟩, 53), (⟨"SyntaxForgeModel", "derEach", "(LSyntaxForgeModel$Value;LSyntaxForgeModel$Type;)V"⟩, 53), (⟨"SyntaxForgeModel", "compare", "([III)I"⟩, 53), (⟨"SyntaxForgeModel", "lengthBefore", "(I)V"⟩, 53), (⟨"SyntaxForgeModel", "identifierBefore", "(JZ)V"⟩, 53), (⟨"SyntaxForgeModel", "decoded", "(II)LSyntaxForgeModel$Value;"⟩, 53), (⟨"SyntaxForgeModel", "unpack", "(LSyntaxForgeModel$Type;)LSyntaxForgeModel$Value;"⟩, 53), (⟨"SyntaxForgeModel", "valid", "(Z)V"⟩, 53), (⟨"SyntaxForgeModel", "begins", "()V"⟩, 53), (⟨"SyntaxForgeModel", "get", "(I)J"⟩, 53), (⟨"SyntaxForgeModel", "integerRead", "(LSyntaxForgeModel$Type;Z)J"⟩, 53), (⟨"SyntaxForgeModel", "unsignedRead", "()J"⟩, 53), (⟨"SyntaxForgeModel", "lengthRead", "()I"⟩, 53)]
theorem lw_r15 : ∀ q ∈ lw_privs_15, lw_okq q := List.forall_mem_cons.mpr ⟨lw_p224, List.forall_mem_cons.mpr ⟨lw_p225, List.forall_mem_cons.mpr ⟨lw_p226, List.forall_mem_cons.mpr ⟨lw_p227, List.forall_mem_cons.mpr ⟨lw_p228, List.forall_mem_cons.mpr ⟨lw_p229, List.forall_mem_cons.mpr ⟨lw_p230, List.forall_mem_cons.mpr ⟨lw_p231, List.forall_mem_cons.mpr ⟨lw_p232, List.forall_mem_cons.mpr ⟨lw_p233, List.forall_mem_cons.mpr ⟨lw_p234, List.forall_mem_cons.mpr ⟨lw_p235, List.forall_mem_cons.mpr ⟨lw_p236, List.forall_mem_cons.mpr ⟨lw_p237, List.forall_mem_cons.mpr ⟨lw_p238, List.forall_mem_cons.mpr ⟨lw_p239, fun _ h => absurd h List.not_mem_nil⟩⟩⟩⟩⟩⟩⟩⟩⟩⟩⟩⟩⟩⟩⟩⟩
theorem lw_p240 : lw_okq (⟨"SyntaxForgeModel", "portionRead", "(Z)I"⟩, 53) := ⟨⟨by decide +kernel, by decide +kernel⟩, List.mem_of_getElem? (i := 2131) (by decide +kernel), List.mem_of_getElem? (i := 3318) (by decide +kernel), List.mem_of_getElem? (i := 3319) (by decide +kernel)⟩
theorem lw_p241 : lw_okq (⟨"SyntaxForgeModel", "which", "(LSyntaxForgeModel$Type;Z)I"⟩, 53) := ⟨⟨by decide +kernel, by decide +kernel⟩, List.mem_of_getElem? (i := 2131) (by decide +kernel), List.mem_of_getElem? (i := 3322) (by decide +kernel), List.mem_of_getElem? (i := 3323) (by decide +kernel)⟩
theorem lw_p242 : lw_okq (⟨"SyntaxForgeModel", "smallRead", "()J"⟩, 53) := ⟨⟨by decide +kernel, by decide +kernel⟩, List.mem_of_getElem? (i := 2131) (by decide +kernel), List.mem_of_getElem? (i := 3326) (by decide +kernel), List.mem_of_getElem? (i := 3327) (by decide +kernel)⟩
theorem lw_p243 : lw_okq (⟨"SyntaxForgeModel", "oidRead", "()LSyntaxForgeModel$Value;"⟩, 53) := ⟨⟨by decide +kernel, by decide +kernel⟩, List.mem_of_getElem? (i := 2131) (by decide +kernel), List.mem_of_getElem? (i := 3330) (by decide +kernel), List.mem_of_getElem? (i := 3331) (by decide +kernel)⟩
theorem lw_p244 : lw_okq (⟨"SyntaxForgeModel", "arc", "(LSyntaxForgeModel$Value;J)V"⟩, 53) := ⟨⟨by decide +kernel, by decide +kernel⟩, List.mem_of_getElem? (i := 2131) (by decide +kernel), List.mem_of_getElem? (i := 3335) (by decide +kernel), List.mem_of_getElem? (i := 3336) (by decide +kernel)⟩
theorem lw_p245 : lw_okq (⟨"SyntaxForgeModel", "partsRead", "(LSyntaxForgeModel$Type;Z)LSyntaxForgeModel$Value;"⟩, 53) := ⟨⟨by decide +kernel, by decide +kernel⟩, List.mem_of_getElem? (i := 2131) (by decide +kernel), List.mem_of_getElem? (i := 3339) (by decide +kernel), List.mem_of_getElem? (i := 3340) (by decide +kernel)⟩
theorem lw_p246 : lw_okq (⟨"SyntaxForgeModel", "there", "(I)[Z"⟩, 53) := ⟨⟨by decide +kernel, by decide +kernel⟩, List.mem_of_getElem? (i := 2131) (by decide +kernel), List.mem_of_getElem? (i := 3343) (by decide +kernel), List.mem_of_getElem? (i := 3344) (by decide +kernel)⟩
theorem lw_p247 : lw_okq (⟨"SyntaxForgeModel", "additions", "(LSyntaxForgeModel$Type;LSyntaxForgeModel$Value;)V"⟩, 53) := ⟨⟨by decide +kernel, by decide +kernel⟩, List.mem_of_getElem? (i := 2131) (by decide +kernel), List.mem_of_getElem? (i := 3347) (by decide +kernel), List.mem_of_getElem? (i := 3348) (by decide +kernel)⟩
theorem lw_p248 : lw_okq (⟨"SyntaxForgeModel", "wholeRead", "(LSyntaxForgeModel$Type;)LSyntaxForgeModel$Value;"⟩, 53) := ⟨⟨by decide +kernel, by decide +kernel⟩, List.mem_of_getElem? (i := 2131) (by decide +kernel), List.mem_of_getElem? (i := 3351) (by decide +kernel), List.mem_of_getElem? (i := 3352) (by decide +kernel)⟩
theorem lw_p249 : lw_okq (⟨"SyntaxForgeModel", "gather", "()V"⟩, 53) := ⟨⟨by decide +kernel, by decide +kernel⟩, List.mem_of_getElem? (i := 2131) (by decide +kernel), List.mem_of_getElem? (i := 3355) (by decide +kernel), List.mem_of_getElem? (i := 3356) (by decide +kernel)⟩
theorem lw_p250 : lw_okq (⟨"SyntaxForgeModel", "move", "(JJ)V"⟩, 53) := ⟨⟨by decide +kernel, by decide +kernel⟩, List.mem_of_getElem? (i := 2131) (by decide +kernel), List.mem_of_getElem? (i := 3359) (by decide +kernel), List.mem_of_getElem? (i := 3360) (by decide +kernel)⟩
theorem lw_p251 : lw_okq (⟨"SyntaxForgeModel", "filled", "(JI)V"⟩, 53) := ⟨⟨by decide +kernel, by decide +kernel⟩, List.mem_of_getElem? (i := 2131) (by decide +kernel), List.mem_of_getElem? (i := 3363) (by decide +kernel), List.mem_of_getElem? (i := 3364) (by decide +kernel)⟩
theorem lw_p252 : lw_okq (⟨"SyntaxForgeModel", "eachRead", "(LSyntaxForgeModel$Type;Z)LSyntaxForgeModel$Value;"⟩, 53) := ⟨⟨by decide +kernel, by decide +kernel⟩, List.mem_of_getElem? (i := 2131) (by decide +kernel), List.mem_of_getElem? (i := 3367) (by decide +kernel), List.mem_of_getElem? (i := 3368) (by decide +kernel)⟩
theorem lw_p253 : lw_okq (⟨"SyntaxForgeModel", "field", "(LSyntaxForgeModel$Type;)J"⟩, 53) := ⟨⟨by decide +kernel, by decide +kernel⟩, List.mem_of_getElem? (i := 2131) (by decide +kernel), List.mem_of_getElem? (i := 3371) (by decide +kernel), List.mem_of_getElem? (i := 3372) (by decide +kernel)⟩
theorem lw_p254 : lw_okq (⟨"SyntaxForgeModel", "rowRead", "(LSyntaxForgeModel$Type;Z)LSyntaxForgeModel$Value;"⟩, 53) := ⟨⟨by decide +kernel, by decide +kernel⟩, List.mem_of_getElem? (i := 2131) (by decide +kernel), List.mem_of_getElem? (i := 3375) (by decide +kernel), List.mem_of_getElem? (i := 3376) (by decide +kernel)⟩
theorem lw_p255 : lw_okq (⟨"SyntaxForgeModel", "unitRead", "(LSyntaxForgeModel$Type;LSyntaxForgeModel$Chars;)V"⟩, 53) := ⟨⟨by decide +kernel, by decide +kernel⟩, List.mem_of_getElem? (i := 2131) (by decide +kernel), List.mem_of_getElem? (i := 3379) (by decide +kernel), List.mem_of_getElem? (i := 3380) (by decide +kernel)⟩
def lw_privs_16 : List (MethodName × Nat) := [(⟨"SyntaxForgeModel", "portionRead", "(Z)I"⟩, 53), (⟨"SyntaxForgeModel", "which", "(LSyntaxForgeModel$Type;Z)I"⟩, 53), (⟨"SyntaxForgeModel", "smallRead", "()J"⟩, 53), (⟨"SyntaxForgeModel", "oidRead", "()LSyntaxForgeModel$Value;"⟩, 53), (⟨"SyntaxForgeModel", "arc", "(LSyntaxForgeModel$Value;J)V"⟩, 53), (⟨"SyntaxForgeModel", "partsRead", "(LSyntaxForgeModel$Type;Z)LSyntaxForgeModel$Value;"⟩, 53), (⟨"SyntaxForgeModel", "there", "(I)[Z"⟩, 53), (⟨"SyntaxForgeModel", "additions", "(LSyntaxForgeModel$Type;LSyntaxForgeModel$Value;)V"⟩, 53), (⟨"SyntaxForgeModel", "wholeRead", "(LSyntaxForgeModel$Type;)LSyntaxForgeModel$Value;"⟩, 53), (⟨"SyntaxForgeModel", "gather", "()V"⟩, 53), (⟨"SyntaxForgeModel", "move", "(JJ)V"⟩, 53), (⟨"SyntaxForgeModel", "filled", "(JI)V"⟩, 53), (⟨"SyntaxForgeModel", "eachRead", "(LSyntaxForgeModel$Type;Z)LSyntaxForgeModel$Value;"⟩, 53), (⟨"SyntaxForgeModel", "field", "(LSyntaxForgeModel$Type;)J"⟩, 53), (⟨"SyntaxForgeModel", "rowRead", "(LSyntaxForgeModel$Type;Z)LSyntaxForgeModel$Value;"⟩, 53), (⟨"SyntaxForgeModel", "unitRead", "(LSyntaxForgeModel$Type;LSyntaxForgeModel$Chars;)V"⟩, 53)]
theorem lw_r16 : ∀ q ∈ lw_privs_16, lw_okq q := List.forall_mem_cons.mpr ⟨lw_p240, List.forall_mem_cons.mpr ⟨lw_p241, List.forall_mem_cons.mpr ⟨lw_p242, List.forall_mem_cons.mpr ⟨lw_p243, List.forall_mem_cons.mpr ⟨lw_p244, List.forall_mem_cons.mpr ⟨lw_p245, List.forall_mem_cons.mpr ⟨lw_p246, List.forall_mem_cons.mpr ⟨lw_p247, List.forall_mem_cons.mpr ⟨lw_p248, List.forall_mem_cons.mpr ⟨lw_p249, List.forall_mem_cons.mpr ⟨lw_p250, List.forall_mem_cons.mpr ⟨lw_p251, List.forall_mem_cons.mpr ⟨lw_p252, List.forall_mem_cons.mpr ⟨lw_p253, List.forall_mem_cons.mpr ⟨lw_p254, List.forall_mem_cons.mpr ⟨lw_p255, fun _ h => absurd h List.not_mem_nil⟩⟩⟩⟩⟩⟩⟩⟩⟩⟩⟩⟩⟩⟩⟩⟩
theorem lw_p256 : lw_okq (⟨"SyntaxForgeModel", "rowOf", "(LSyntaxForgeModel$Type;LSyntaxForgeModel$Chars;)LSyntaxForgeModel$Value;"⟩, 53) := ⟨⟨by decide +kernel, by decide +kernel⟩, List.mem_of_getElem? (i := 2131) (by decide +kernel), List.mem_of_getElem? (i := 3384) (by decide +kernel), List.mem_of_getElem? (i := 3385) (by decide +kernel)⟩
theorem lw_p257 : lw_okq (⟨"SyntaxForgeModel", "ber", "(LSyntaxForgeModel$Type;I)LSyntaxForgeModel$Value;"⟩, 53) := ⟨⟨by decide +kernel, by decide +kernel⟩, List.mem_of_getElem? (i := 2131) (by decide +kernel), List.mem_of_getElem? (i := 3391) (by decide +kernel), List.mem_of_getElem? (i := 3392) (by decide +kernel)⟩
theorem lw_p258 : lw_okq (⟨"SyntaxForgeModel", "layers", "(LSyntaxForgeModel$Type;LSyntaxForgeModel$Tags;I)LSyntaxForgeModel$Value;"⟩, 53) := ⟨⟨by decide +kernel, by decide +kernel⟩, List.mem_of_getElem? (i := 2131) (by decide +kernel), List.mem_of_getElem? (i := 3395) (by decide +kernel), List.mem_of_getElem? (i := 3396) (by decide +kernel)⟩
theorem lw_p259 : lw_okq (⟨"SyntaxForgeModel", "alternative", "(LSyntaxForgeModel$Type;)LSyntaxForgeModel$Value;"⟩, 53) := ⟨⟨by decide +kernel, by decide +kernel⟩, List.mem_of_getElem? (i := 2131) (by decide +kernel), List.mem_of_getElem? (i := 3399) (by decide +kernel), List.mem_of_getElem? (i := 3400) (by decide +kernel)⟩
theorem lw_p260 : lw_okq (⟨"SyntaxForgeModel", "peek", "()J"⟩, 53) := ⟨⟨by decide +kernel, by decide +kernel⟩, List.mem_of_getElem? (i := 2131) (by decide +kernel), List.mem_of_getElem? (i := 3403) (by decide +kernel), List.mem_of_getElem? (i := 3404) (by decide +kernel)⟩
theorem lw_p261 : lw_okq (⟨"SyntaxForgeModel", "tagged", "()V"⟩, 53) := ⟨⟨by decide +kernel, by decide +kernel⟩, List.mem_of_getElem? (i := 2131) (by decide +kernel), List.mem_of_getElem? (i := 3407) (by decide +kernel), List.mem_of_getElem? (i := 3408) (by decide +kernel)⟩
theorem lw_p262 : lw_okq (⟨"SyntaxForgeModel", "take", "()I"⟩, 53) := ⟨⟨by decide +kernel, by decide +kernel⟩, List.mem_of_getElem? (i := 2131) (by decide +kernel), List.mem_of_getElem? (i := 3411) (by decide +kernel), List.mem_of_getElem? (i := 3412) (by decide +kernel)⟩
theorem lw_p263 : lw_okq (⟨"SyntaxForgeModel", "begins", "(LSyntaxForgeModel$Tags;J)Z"⟩, 53) := ⟨⟨by decide +kernel, by decide +kernel⟩, List.mem_of_getElem? (i := 2131) (by decide +kernel), List.mem_of_getElem? (i := 3416) (by decide +kernel), List.mem_of_getElem? (i := 3417) (by decide +kernel)⟩
theorem lw_p264 : lw_okq (⟨"SyntaxForgeModel", "identifier", "()V"⟩, 53) := ⟨⟨by decide +kernel, by decide +kernel⟩, List.mem_of_getElem? (i := 2131) (by decide +kernel), List.mem_of_getElem? (i := 3420) (by decide +kernel), List.mem_of_getElem? (i := 3421) (by decide +kernel)⟩
theorem lw_p265 : lw_okq (⟨"SyntaxForgeModel", "stops", "(I)Z"⟩, 53) := ⟨⟨by decide +kernel, by decide +kernel⟩, List.mem_of_getElem? (i := 2131) (by decide +kernel), List.mem_of_getElem? (i := 3425) (by decide +kernel), List.mem_of_getElem? (i := 3426) (by decide +kernel)⟩
theorem lw_p266 : lw_okq (⟨"SyntaxForgeModel", "contents", "(LSyntaxForgeModel$Type;ZI)LSyntaxForgeModel$Value;"⟩, 53) := ⟨⟨by decide +kernel, by decide +kernel⟩, List.mem_of_getElem? (i := 2131) (by decide +kernel), List.mem_of_getElem? (i := 3429) (by decide +kernel), List.mem_of_getElem? (i := 3430) (by decide +kernel)⟩
theorem lw_p267 : lw_okq (⟨"SyntaxForgeModel", "sequence", "(LSyntaxForgeModel$Type;I)LSyntaxForgeModel$Value;"⟩, 53) := ⟨⟨by decide +kernel, by decide +kernel⟩, List.mem_of_getElem? (i := 2131) (by decide +kernel), List.mem_of_getElem? (i := 3433) (by decide +kernel), List.mem_of_getElem? (i := 3434) (by decide +kernel)⟩
theorem lw_p268 : lw_okq (⟨"SyntaxForgeModel", "zeros", "()Z"⟩, 53) := ⟨⟨by decide +kernel, by decide +kernel⟩, List.mem_of_getElem? (i := 2131) (by decide +kernel), List.mem_of_getElem? (i := 3437) (by decide +kernel), List.mem_of_getElem? (i := 3438) (by decide +kernel)⟩
theorem lw_p269 : lw_okq (⟨"SyntaxForgeModel", "enter", "(LSyntaxForgeModel$Value;LSyntaxForgeModel$Type;ILSyntaxForgeModel$Value;)V"⟩, 53) := ⟨⟨by decide +kernel, by decide +kernel⟩, List.mem_of_getElem? (i := 2131) (by decide +kernel), List.mem_of_getElem? (i := 3441) (by decide +kernel), List.mem_of_getElem? (i := 3442) (by decide +kernel)⟩
theorem lw_p270 : lw_okq (⟨"SyntaxForgeModel", "pass", "()V"⟩, 53) := ⟨⟨by decide +kernel, by decide +kernel⟩, List.mem_of_getElem? (i := 2131) (by decide +kernel), List.mem_of_getElem? (i := 3445) (by decide +kernel), List.mem_of_getElem? (i := 3446) (by decide +kernel)⟩
theorem lw_p271 : lw_okq (⟨"SyntaxForgeModel", "set", "(LSyntaxForgeModel$Type;I)LSyntaxForgeModel$Value;"⟩, 53) := ⟨⟨by decide +kernel, by decide +kernel⟩, List.mem_of_getElem? (i := 2131) (by decide +kernel), List.mem_of_getElem? (i := 3449) (by decide +kernel), List.mem_of_getElem? (i := 3450) (by decide +kernel)⟩
def lw_privs_17 : List (MethodName × Nat) := [(⟨"SyntaxForgeModel", "rowOf", "(LSyntaxForgeModel$Type;LSyntaxForgeModel$Chars;)LSyntaxForgeModel$Value;"⟩, 53), (⟨"SyntaxForgeModel", "ber", "(LSyntaxForgeModel$Type;I)LSyntaxForgeModel$Value;"⟩, 53), (⟨"SyntaxForgeModel", "layers", "(LSyntaxForgeModel$Type;LSyntaxForgeModel$Tags;I)LSyntaxForgeModel$Value;"⟩, 53), (⟨"SyntaxForgeModel", "alternative", "(LSyntaxForgeModel$Type;)LSyntaxForgeModel$Value;"⟩, 53), (⟨"SyntaxForgeModel", "peek", "()J"⟩, 53), (⟨"SyntaxForgeModel", "tagged", "()V"⟩, 53), (⟨"SyntaxForgeModel", "take", "()I"⟩, 53), (⟨"SyntaxForgeModel", "begins", "(LSyntaxForgeModel$Tags;J)Z"⟩, 53), (⟨"SyntaxForgeModel", "identifier", "()V"⟩, 53), (⟨"SyntaxForgeModel", "stops", "(I)Z"⟩, 53), (⟨"SyntaxForgeModel", "contents", "(LSyntaxForgeModel$Type;ZI)LSyntaxForgeModel$Value;"⟩, 53), (⟨"SyntaxForgeModel", "sequence", "(LSyntaxForgeModel$Type;I)LSyntaxForgeModel$Value;"⟩, 53), (⟨"SyntaxForgeModel", "zeros", "()Z"⟩, 53), (⟨"SyntaxForgeModel", "enter", "(LSyntaxForgeModel$Value;LSyntaxForgeModel$Type;ILSyntaxForgeModel$Value;)V"⟩, 53), (⟨"SyntaxForgeModel", "pass", "()V"⟩, 53), (⟨"SyntaxForgeModel", "set", "(LSyntaxForgeModel$Type;I)LSyntaxForgeModel$Value;"⟩, 53)]
theorem lw_r17 : ∀ q ∈ lw_privs_17, lw_okq q := List.forall_mem_cons.mpr ⟨lw_p256, List.forall_mem_cons.mpr ⟨lw_p257, List.forall_mem_cons.mpr ⟨lw_p258, List.forall_mem_cons.mpr ⟨lw_p259, List.forall_mem_cons.mpr ⟨lw_p260, List.forall_mem_cons.mpr ⟨lw_p261, List.forall_mem_cons.mpr ⟨lw_p262, List.forall_mem_cons.mpr ⟨lw_p263, List.forall_mem_cons.mpr ⟨lw_p264, List.forall_mem_cons.mpr ⟨lw_p265, List.forall_mem_cons.mpr ⟨lw_p266, List.forall_mem_cons.mpr ⟨lw_p267, List.forall_mem_cons.mpr ⟨lw_p268, List.forall_mem_cons.mpr ⟨lw_p269, List.forall_mem_cons.mpr ⟨lw_p270, List.forall_mem_cons.mpr ⟨lw_p271, fun _ h => absurd h List.not_mem_nil⟩⟩⟩⟩⟩⟩⟩⟩⟩⟩⟩⟩⟩⟩⟩⟩
theorem lw_p272 : lw_okq (⟨"SyntaxForgeModel", "each", "(LSyntaxForgeModel$Type;I)LSyntaxForgeModel$Value;"⟩, 53) := ⟨⟨by decide +kernel, by decide +kernel⟩, List.mem_of_getElem? (i := 2131) (by decide +kernel), List.mem_of_getElem? (i := 3453) (by decide +kernel), List.mem_of_getElem? (i := 3454) (by decide +kernel)⟩
theorem lw_p273 : lw_okq (⟨"SyntaxForgeModel", "rises", "(IIII)Z"⟩, 53) := ⟨⟨by decide +kernel, by decide +kernel⟩, List.mem_of_getElem? (i := 2131) (by decide +kernel), List.mem_of_getElem? (i := 3457) (by decide +kernel), List.mem_of_getElem? (i := 3458) (by decide +kernel)⟩
theorem lw_p274 : lw_okq (⟨"SyntaxForgeModel", "rows", "(LSyntaxForgeModel$Type;ZI)LSyntaxForgeModel$Value;"⟩, 53) := ⟨⟨by decide +kernel, by decide +kernel⟩, List.mem_of_getElem? (i := 2131) (by decide +kernel), List.mem_of_getElem? (i := 3461) (by decide +kernel), List.mem_of_getElem? (i := 3462) (by decide +kernel)⟩
theorem lw_p275 : lw_okq (⟨"SyntaxForgeModel", "pieces", "(ZILSyntaxForgeModel$Chars;)V"⟩, 53) := ⟨⟨by decide +kernel, by decide +kernel⟩, List.mem_of_getElem? (i := 2131) (by decide +kernel), List.mem_of_getElem? (i := 3465) (by decide +kernel), List.mem_of_getElem? (i := 3466) (by decide +kernel)⟩
theorem lw_p276 : lw_okq (⟨"SyntaxForgeModel", "piece", "(ZILSyntaxForgeModel$Chars;)V"⟩, 53) := ⟨⟨by decide +kernel, by decide +kernel⟩, List.mem_of_getElem? (i := 2131) (by decide +kernel), List.mem_of_getElem? (i := 3470) (by decide +kernel), List.mem_of_getElem? (i := 3471) (by decide +kernel)⟩
theorem lw_p277 : lw_okq (⟨"SyntaxForgeModel", "complementRead", "(I)J"⟩, 53) := ⟨⟨by decide +kernel, by decide +kernel⟩, List.mem_of_getElem? (i := 2131) (by decide +kernel), List.mem_of_getElem? (i := 3474) (by decide +kernel), List.mem_of_getElem? (i := 3475) (by decide +kernel)⟩
theorem lw_p278 : lw_okq (⟨"SyntaxForgeModel", "number", "(LSyntaxForgeModel$Type;J)LSyntaxForgeModel$Value;"⟩, 53) := ⟨⟨by decide +kernel, by decide +kernel⟩, List.mem_of_getElem? (i := 2131) (by decide +kernel), List.mem_of_getElem? (i := 3478) (by decide +kernel), List.mem_of_getElem? (i := 3479) (by decide +kernel)⟩
theorem lw_p279 : lw_okq (⟨"SyntaxForgeModel", "oid", "(I)LSyntaxForgeModel$Value;"⟩, 53) := ⟨⟨by decide +kernel, by decide +kernel⟩, List.mem_of_getElem? (i := 2131) (by decide +kernel), List.mem_of_getElem? (i := 3482) (by decide +kernel), List.mem_of_getElem? (i := 3483) (by decide +kernel)⟩
theorem lw_p280 : lw_okq (⟨"SyntaxForgeModel", "sevens", "(I)J"⟩, 53) := ⟨⟨by decide +kernel, by decide +kernel⟩, List.mem_of_getElem? (i := 2131) (by decide +kernel), List.mem_of_getElem? (i := 3486) (by decide +kernel), List.mem_of_getElem? (i := 3487) (by decide +kernel)⟩
theorem lw_p281 : lw_okq (⟨"SyntaxForgeModel", "print", "(LSyntaxForgeModel$Value;LSyntaxForgeModel$Type;)V"⟩, 53) := ⟨⟨by decide +kernel, by decide +kernel⟩, List.mem_of_getElem? (i := 2131) (by decide +kernel), List.mem_of_getElem? (i := 3490) (by decide +kernel), List.mem_of_getElem? (i := 3491) (by decide +kernel)⟩
theorem lw_p282 : lw_okq (⟨"SyntaxForgeModel", "print", "(Ljava/lang/String;)V"⟩, 53) := ⟨⟨by decide +kernel, by decide +kernel⟩, List.mem_of_getElem? (i := 2131) (by decide +kernel), List.mem_of_getElem? (i := 3494) (by decide +kernel), List.mem_of_getElem? (i := 3495) (by decide +kernel)⟩
theorem lw_p283 : lw_okq (⟨"SyntaxForgeModel", "print", "(C)V"⟩, 53) := ⟨⟨by decide +kernel, by decide +kernel⟩, List.mem_of_getElem? (i := 2131) (by decide +kernel), List.mem_of_getElem? (i := 3498) (by decide +kernel), List.mem_of_getElem? (i := 3499) (by decide +kernel)⟩
theorem lw_p284 : lw_okq (⟨"SyntaxForgeModel", "print", "(J)V"⟩, 53) := ⟨⟨by decide +kernel, by decide +kernel⟩, List.mem_of_getElem? (i := 2131) (by decide +kernel), List.mem_of_getElem? (i := 3502) (by decide +kernel), List.mem_of_getElem? (i := 3503) (by decide +kernel)⟩
theorem lw_p285 : lw_okq (⟨"SyntaxForgeModel", "printBits", "(LSyntaxForgeModel$Value;)V"⟩, 53) := ⟨⟨by decide +kernel, by decide +kernel⟩, List.mem_of_getElem? (i := 2131) (by decide +kernel), List.mem_of_getElem? (i := 3508) (by decide +kernel), List.mem_of_getElem? (i := 3509) (by decide +kernel)⟩
def lw_privs_18 : List (MethodName × Nat) := [(⟨"SyntaxForgeModel", "each", "(LSyntaxForgeModel$Type;I)LSyntaxForgeModel$Value;"⟩, 53), (⟨"SyntaxForgeModel", "rises", "(IIII)Z"⟩, 53), (⟨"SyntaxForgeModel", "rows", "(LSyntaxForgeModel$Type;ZI)LSyntaxForgeModel$Value;"⟩, 53), (⟨"SyntaxForgeModel", "pieces", "(ZILSyntaxForgeModel$Chars;)V"⟩, 53), (⟨"SyntaxForgeModel", "piece", "(ZILSyntaxForgeModel$Chars;)V"⟩, 53), (⟨"SyntaxForgeModel", "complementRead", "(I)J"⟩, 53), (⟨"SyntaxForgeModel", "number", "(LSyntaxForgeModel$Type;J)LSyntaxForgeModel$Value;"⟩, 53), (⟨"SyntaxForgeModel", "oid", "(I)LSyntaxForgeModel$Value;"⟩, 53), (⟨"SyntaxForgeModel", "sevens", "(I)J"⟩, 53), (⟨"SyntaxForgeModel", "print", "(LSyntaxForgeModel$Value;LSyntaxForgeModel$Type;)V"⟩, 53), (⟨"SyntaxForgeModel", "print", "(Ljava/lang/String;)V"⟩, 53), (⟨"SyntaxForgeModel", "print", "(C)V"⟩, 53), (⟨"SyntaxForgeModel", "print", "(J)V"⟩, 53), (⟨"SyntaxForgeModel", "printBits", "(LSyntaxForgeModel$Value;)V"⟩, 53)]
theorem lw_r18 : ∀ q ∈ lw_privs_18, lw_okq q := List.forall_mem_cons.mpr ⟨lw_p272, List.forall_mem_cons.mpr ⟨lw_p273, List.forall_mem_cons.mpr ⟨lw_p274, List.forall_mem_cons.mpr ⟨lw_p275, List.forall_mem_cons.mpr ⟨lw_p276, List.forall_mem_cons.mpr ⟨lw_p277, List.forall_mem_cons.mpr ⟨lw_p278, List.forall_mem_cons.mpr ⟨lw_p279, List.forall_mem_cons.mpr ⟨lw_p280, List.forall_mem_cons.mpr ⟨lw_p281, List.forall_mem_cons.mpr ⟨lw_p282, List.forall_mem_cons.mpr ⟨lw_p283, List.forall_mem_cons.mpr ⟨lw_p284, List.forall_mem_cons.mpr ⟨lw_p285, fun _ h => absurd h List.not_mem_nil⟩⟩⟩⟩⟩⟩⟩⟩⟩⟩⟩⟩⟩⟩
def lw_privs : List (MethodName × Nat) := lw_privs_1 ++ (lw_privs_2 ++ (lw_privs_3 ++ (lw_privs_4 ++ (lw_privs_5 ++ (lw_privs_6 ++ (lw_privs_7 ++ (lw_privs_8 ++ (lw_privs_9 ++ (lw_privs_10 ++ (lw_privs_11 ++ (lw_privs_12 ++ (lw_privs_13 ++ (lw_privs_14 ++ (lw_privs_15 ++ (lw_privs_16 ++ (lw_privs_17 ++ (lw_privs_18)))))))))))))))))
def lw_tbl : List Cond := k2_sels lw_privs ++ tables_1
theorem lw_privs_ok : ∀ q ∈ lw_privs, lw_okq q := by
  show ∀ q ∈ lw_privs_1 ++ (lw_privs_2 ++ (lw_privs_3 ++ (lw_privs_4 ++ (lw_privs_5 ++ (lw_privs_6 ++ (lw_privs_7 ++ (lw_privs_8 ++ (lw_privs_9 ++ (lw_privs_10 ++ (lw_privs_11 ++ (lw_privs_12 ++ (lw_privs_13 ++ (lw_privs_14 ++ (lw_privs_15 ++ (lw_privs_16 ++ (lw_privs_17 ++ (lw_privs_18))))))))))))))))), lw_okq q
  exact List.forall_mem_append.mpr ⟨lw_r1, List.forall_mem_append.mpr ⟨lw_r2, List.forall_mem_append.mpr ⟨lw_r3, List.forall_mem_append.mpr ⟨lw_r4, List.forall_mem_append.mpr ⟨lw_r5, List.forall_mem_append.mpr ⟨lw_r6, List.forall_mem_append.mpr ⟨lw_r7, List.forall_mem_append.mpr ⟨lw_r8, List.forall_mem_append.mpr ⟨lw_r9, List.forall_mem_append.mpr ⟨lw_r10, List.forall_mem_append.mpr ⟨lw_r11, List.forall_mem_append.mpr ⟨lw_r12, List.forall_mem_append.mpr ⟨lw_r13, List.forall_mem_append.mpr ⟨lw_r14, List.forall_mem_append.mpr ⟨lw_r15, List.forall_mem_append.mpr ⟨lw_r16, List.forall_mem_append.mpr ⟨lw_r17, lw_r18⟩⟩⟩⟩⟩⟩⟩⟩⟩⟩⟩⟩⟩⟩⟩⟩⟩
-- ===== end of PART A; then your names; then what follows =====
end
section
/-! ONE WORD LIST FOR ALL METHODS (own rows; tw_): a method's words are its code, then all good words of lw_tbl -/
def tw_tbl : List Cond := lw_tbl.filter goodWord
theorem tw_mem {w : Cond} (h : w ∈ lw_tbl) (hg : goodWord w = true) : w ∈ tw_tbl := List.mem_filter.mpr ⟨h, hg⟩
theorem tw_sub {w : Cond} (h : w ∈ tw_tbl) : w ∈ lw_tbl := (List.mem_filter.mp h).1
theorem tw_in {big : List Cond} (h : ∀ w ∈ tw_tbl, w ∈ big) {cd : Cond} (hcd : cd ∈ tw_tbl) : GoodIn big (cd :: tw_tbl) := by
  intro w hw
  have hw2 : w ∈ tw_tbl := by
    rcases List.mem_cons.mp hw with rfl | h2
    · exact hcd
    · exact h2
  exact ⟨h w hw2, good_of_word (List.mem_filter.mp hw2).2⟩
theorem tw_inM {cd0 cd : Cond} (hcd : cd ∈ tw_tbl) : GoodIn (cd0 :: tw_tbl) (cd :: tw_tbl) := tw_in (fun _ h => List.mem_cons_of_mem _ h) hcd
theorem tw_inL {cd : Cond} (hcd : cd ∈ tw_tbl) : GoodIn tw_tbl (cd :: tw_tbl) := tw_in (fun _ h => h) hcd
end
section
/-! by program (wip/p1): the tables, list by list -/
theorem tw_t1 {w : Cond} (h : w ∈ tables_1_1) (hg : goodWord w = true) : w ∈ tw_tbl := tw_mem (List.mem_append_right _ (List.mem_append_left _ h)) hg
theorem tw_t2 {w : Cond} (h : w ∈ tables_1_2) (hg : goodWord w = true) : w ∈ tw_tbl := tw_mem (List.mem_append_right _ (List.mem_append_right _ (List.mem_append_left _ h))) hg
theorem tw_t3 {w : Cond} (h : w ∈ tables_1_3) (hg : goodWord w = true) : w ∈ tw_tbl := tw_mem (List.mem_append_right _ (List.mem_append_right _ (List.mem_append_right _ (List.mem_append_left _ h)))) hg
theorem tw_t4 {w : Cond} (h : w ∈ tables_1_4) (hg : goodWord w = true) : w ∈ tw_tbl := tw_mem (List.mem_append_right _ (List.mem_append_right _ (List.mem_append_right _ (List.mem_append_right _ (List.mem_append_left _ h))))) hg
theorem tw_t5 {w : Cond} (h : w ∈ tables_1_5) (hg : goodWord w = true) : w ∈ tw_tbl := tw_mem (List.mem_append_right _ (List.mem_append_right _ (List.mem_append_right _ (List.mem_append_right _ (List.mem_append_right _ (List.mem_append_left _ h)))))) hg
theorem tw_t6 {w : Cond} (h : w ∈ tables_1_6) (hg : goodWord w = true) : w ∈ tw_tbl := tw_mem (List.mem_append_right _ (List.mem_append_right _ (List.mem_append_right _ (List.mem_append_right _ (List.mem_append_right _ (List.mem_append_right _ (List.mem_append_left _ h))))))) hg
theorem tw_t7 {w : Cond} (h : w ∈ tables_1_7) (hg : goodWord w = true) : w ∈ tw_tbl := tw_mem (List.mem_append_right _ (List.mem_append_right _ (List.mem_append_right _ (List.mem_append_right _ (List.mem_append_right _ (List.mem_append_right _ (List.mem_append_right _ (List.mem_append_left _ h)))))))) hg
theorem tw_t8 {w : Cond} (h : w ∈ tables_1_8) (hg : goodWord w = true) : w ∈ tw_tbl := tw_mem (List.mem_append_right _ (List.mem_append_right _ (List.mem_append_right _ (List.mem_append_right _ (List.mem_append_right _ (List.mem_append_right _ (List.mem_append_right _ (List.mem_append_right _ (List.mem_append_left _ h))))))))) hg
theorem tw_t9 {w : Cond} (h : w ∈ tables_1_9) (hg : goodWord w = true) : w ∈ tw_tbl := tw_mem (List.mem_append_right _ (List.mem_append_right _ (List.mem_append_right _ (List.mem_append_right _ (List.mem_append_right _ (List.mem_append_right _ (List.mem_append_right _ (List.mem_append_right _ (List.mem_append_right _ (List.mem_append_left _ h)))))))))) hg
theorem tw_t10 {w : Cond} (h : w ∈ tables_1_10) (hg : goodWord w = true) : w ∈ tw_tbl := tw_mem (List.mem_append_right _ (List.mem_append_right _ (List.mem_append_right _ (List.mem_append_right _ (List.mem_append_right _ (List.mem_append_right _ (List.mem_append_right _ (List.mem_append_right _ (List.mem_append_right _ (List.mem_append_right _ (List.mem_append_left _ h))))))))))) hg
theorem tw_t11 {w : Cond} (h : w ∈ tables_1_11) (hg : goodWord w = true) : w ∈ tw_tbl := tw_mem (List.mem_append_right _ (List.mem_append_right _ (List.mem_append_right _ (List.mem_append_right _ (List.mem_append_right _ (List.mem_append_right _ (List.mem_append_right _ (List.mem_append_right _ (List.mem_append_right _ (List.mem_append_right _ (List.mem_append_right _ (List.mem_append_left _ h)))))))))))) hg
theorem tw_t12 {w : Cond} (h : w ∈ tables_1_12) (hg : goodWord w = true) : w ∈ tw_tbl := tw_mem (List.mem_append_right _ (List.mem_append_right _ (List.mem_append_right _ (List.mem_append_right _ (List.mem_append_right _ (List.mem_append_right _ (List.mem_append_right _ (List.mem_append_right _ (List.mem_append_right _ (List.mem_append_right _ (List.mem_append_right _ (List.mem_append_right _ (List.mem_append_left _ h))))))))))))) hg
theorem tw_t13 {w : Cond} (h : w ∈ tables_1_13) (hg : goodWord w = true) : w ∈ tw_tbl := tw_mem (List.mem_append_right _ (List.mem_append_right _ (List.mem_append_right _ (List.mem_append_right _ (List.mem_append_right _ (List.mem_append_right _ (List.mem_append_right _ (List.mem_append_right _ (List.mem_append_right _ (List.mem_append_right _ (List.mem_append_right _ (List.mem_append_right _ (List.mem_append_right _ (List.mem_append_left _ h)))))))))))))) hg
theorem tw_t14 {w : Cond} (h : w ∈ tables_1_14) (hg : goodWord w = true) : w ∈ tw_tbl := tw_mem (List.mem_append_right _ (List.mem_append_right _ (List.mem_append_right _ (List.mem_append_right _ (List.mem_append_right _ (List.mem_append_right _ (List.mem_append_right _ (List.mem_append_right _ (List.mem_append_right _ (List.mem_append_right _ (List.mem_append_right _ (List.mem_append_right _ (List.mem_append_right _ (List.mem_append_right _ (List.mem_append_left _ h))))))))))))))) hg
theorem tw_t15 {w : Cond} (h : w ∈ tables_1_15) (hg : goodWord w = true) : w ∈ tw_tbl := tw_mem (List.mem_append_right _ (List.mem_append_right _ (List.mem_append_right _ (List.mem_append_right _ (List.mem_append_right _ (List.mem_append_right _ (List.mem_append_right _ (List.mem_append_right _ (List.mem_append_right _ (List.mem_append_right _ (List.mem_append_right _ (List.mem_append_right _ (List.mem_append_right _ (List.mem_append_right _ (List.mem_append_right _ (h)))))))))))))))) hg
theorem tw_p {q : MethodName × Nat} (h : q ∈ lw_privs) : Cond.selects q.1.cls q.1 q.1 ∈ tw_tbl := tw_mem (List.mem_append_left _ (List.mem_map.mpr ⟨q, h, rfl⟩)) rfl
theorem tw_p1 {q : MethodName × Nat} (h : q ∈ lw_privs_1) : Cond.selects q.1.cls q.1 q.1 ∈ tw_tbl := tw_p (List.mem_append_left _ h)
theorem tw_p2 {q : MethodName × Nat} (h : q ∈ lw_privs_2) : Cond.selects q.1.cls q.1 q.1 ∈ tw_tbl := tw_p (List.mem_append_right _ (List.mem_append_left _ h))
theorem tw_p3 {q : MethodName × Nat} (h : q ∈ lw_privs_3) : Cond.selects q.1.cls q.1 q.1 ∈ tw_tbl := tw_p (List.mem_append_right _ (List.mem_append_right _ (List.mem_append_left _ h)))
theorem tw_p4 {q : MethodName × Nat} (h : q ∈ lw_privs_4) : Cond.selects q.1.cls q.1 q.1 ∈ tw_tbl := tw_p (List.mem_append_right _ (List.mem_append_right _ (List.mem_append_right _ (List.mem_append_left _ h))))
theorem tw_p5 {q : MethodName × Nat} (h : q ∈ lw_privs_5) : Cond.selects q.1.cls q.1 q.1 ∈ tw_tbl := tw_p (List.mem_append_right _ (List.mem_append_right _ (List.mem_append_right _ (List.mem_append_right _ (List.mem_append_left _ h)))))
theorem tw_p6 {q : MethodName × Nat} (h : q ∈ lw_privs_6) : Cond.selects q.1.cls q.1 q.1 ∈ tw_tbl := tw_p (List.mem_append_right _ (List.mem_append_right _ (List.mem_append_right _ (List.mem_append_right _ (List.mem_append_right _ (List.mem_append_left _ h))))))
theorem tw_p7 {q : MethodName × Nat} (h : q ∈ lw_privs_7) : Cond.selects q.1.cls q.1 q.1 ∈ tw_tbl := tw_p (List.mem_append_right _ (List.mem_append_right _ (List.mem_append_right _ (List.mem_append_right _ (List.mem_append_right _ (List.mem_append_right _ (List.mem_append_left _ h)))))))
theorem tw_p8 {q : MethodName × Nat} (h : q ∈ lw_privs_8) : Cond.selects q.1.cls q.1 q.1 ∈ tw_tbl := tw_p (List.mem_append_right _ (List.mem_append_right _ (List.mem_append_right _ (List.mem_append_right _ (List.mem_append_right _ (List.mem_append_right _ (List.mem_append_right _ (List.mem_append_left _ h))))))))
theorem tw_p9 {q : MethodName × Nat} (h : q ∈ lw_privs_9) : Cond.selects q.1.cls q.1 q.1 ∈ tw_tbl := tw_p (List.mem_append_right _ (List.mem_append_right _ (List.mem_append_right _ (List.mem_append_right _ (List.mem_append_right _ (List.mem_append_right _ (List.mem_append_right _ (List.mem_append_right _ (List.mem_append_left _ h)))))))))
theorem tw_p10 {q : MethodName × Nat} (h : q ∈ lw_privs_10) : Cond.selects q.1.cls q.1 q.1 ∈ tw_tbl := tw_p (List.mem_append_right _ (List.mem_append_right _ (List.mem_append_right _ (List.mem_append_right _ (List.mem_append_right _ (List.mem_append_right _ (List.mem_append_right _ (List.mem_append_right _ (List.mem_append_right _ (List.mem_append_left _ h))))))))))
theorem tw_p11 {q : MethodName × Nat} (h : q ∈ lw_privs_11) : Cond.selects q.1.cls q.1 q.1 ∈ tw_tbl := tw_p (List.mem_append_right _ (List.mem_append_right _ (List.mem_append_right _ (List.mem_append_right _ (List.mem_append_right _ (List.mem_append_right _ (List.mem_append_right _ (List.mem_append_right _ (List.mem_append_right _ (List.mem_append_right _ (List.mem_append_left _ h)))))))))))
theorem tw_p12 {q : MethodName × Nat} (h : q ∈ lw_privs_12) : Cond.selects q.1.cls q.1 q.1 ∈ tw_tbl := tw_p (List.mem_append_right _ (List.mem_append_right _ (List.mem_append_right _ (List.mem_append_right _ (List.mem_append_right _ (List.mem_append_right _ (List.mem_append_right _ (List.mem_append_right _ (List.mem_append_right _ (List.mem_append_right _ (List.mem_append_right _ (List.mem_append_left _ h))))))))))))
theorem tw_p13 {q : MethodName × Nat} (h : q ∈ lw_privs_13) : Cond.selects q.1.cls q.1 q.1 ∈ tw_tbl := tw_p (List.mem_append_right _ (List.mem_append_right _ (List.mem_append_right _ (List.mem_append_right _ (List.mem_append_right _ (List.mem_append_right _ (List.mem_append_right _ (List.mem_append_right _ (List.mem_append_right _ (List.mem_append_right _ (List.mem_append_right _ (List.mem_append_right _ (List.mem_append_left _ h)))))))))))))
theorem tw_p14 {q : MethodName × Nat} (h : q ∈ lw_privs_14) : Cond.selects q.1.cls q.1 q.1 ∈ tw_tbl := tw_p (List.mem_append_right _ (List.mem_append_right _ (List.mem_append_right _ (List.mem_append_right _ (List.mem_append_right _ (List.mem_append_right _ (List.mem_append_right _ (List.mem_append_right _ (List.mem_append_right _ (List.mem_append_right _ (List.mem_append_right _ (List.mem_append_right _ (List.mem_append_right _ (List.mem_append_left _ h))))))))))))))
theorem tw_p15 {q : MethodName × Nat} (h : q ∈ lw_privs_15) : Cond.selects q.1.cls q.1 q.1 ∈ tw_tbl := tw_p (List.mem_append_right _ (List.mem_append_right _ (List.mem_append_right _ (List.mem_append_right _ (List.mem_append_right _ (List.mem_append_right _ (List.mem_append_right _ (List.mem_append_right _ (List.mem_append_right _ (List.mem_append_right _ (List.mem_append_right _ (List.mem_append_right _ (List.mem_append_right _ (List.mem_append_right _ (List.mem_append_left _ h)))))))))))))))
theorem tw_p16 {q : MethodName × Nat} (h : q ∈ lw_privs_16) : Cond.selects q.1.cls q.1 q.1 ∈ tw_tbl := tw_p (List.mem_append_right _ (List.mem_append_right _ (List.mem_append_right _ (List.mem_append_right _ (List.mem_append_right _ (List.mem_append_right _ (List.mem_append_right _ (List.mem_append_right _ (List.mem_append_right _ (List.mem_append_right _ (List.mem_append_right _ (List.mem_append_right _ (List.mem_append_right _ (List.mem_append_right _ (List.mem_append_right _ (List.mem_append_left _ h))))))))))))))))
theorem tw_p17 {q : MethodName × Nat} (h : q ∈ lw_privs_17) : Cond.selects q.1.cls q.1 q.1 ∈ tw_tbl := tw_p (List.mem_append_right _ (List.mem_append_right _ (List.mem_append_right _ (List.mem_append_right _ (List.mem_append_right _ (List.mem_append_right _ (List.mem_append_right _ (List.mem_append_right _ (List.mem_append_right _ (List.mem_append_right _ (List.mem_append_right _ (List.mem_append_right _ (List.mem_append_right _ (List.mem_append_right _ (List.mem_append_right _ (List.mem_append_right _ (List.mem_append_left _ h)))))))))))))))))
theorem tw_p18 {q : MethodName × Nat} (h : q ∈ lw_privs_18) : Cond.selects q.1.cls q.1 q.1 ∈ tw_tbl := tw_p (List.mem_append_right _ (List.mem_append_right _ (List.mem_append_right _ (List.mem_append_right _ (List.mem_append_right _ (List.mem_append_right _ (List.mem_append_right _ (List.mem_append_right _ (List.mem_append_right _ (List.mem_append_right _ (List.mem_append_right _ (List.mem_append_right _ (List.mem_append_right _ (List.mem_append_right _ (List.mem_append_right _ (List.mem_append_right _ (List.mem_append_right _ (h))))))))))))))))))
theorem tw_V {own C : String} {idx : Nat} {y : MethodName} {cd : Cond} (h1 : Cond.methodLink own idx y ∈ tw_tbl) (h2 : Cond.instanceMethod y ∈ tw_tbl) (h3 : Cond.selects C y y ∈ tw_tbl) (h4 : Cond.initialized C ∈ tw_tbl) (hcd : cd ∈ tw_tbl) : GoodIn tw_tbl (wsV own idx C y (cd :: tw_tbl)) := by
  intro w hw
  have ok : ∀ z ∈ tw_tbl, z ∈ tw_tbl ∧ ((z.onTables && z.keeps) = true ∨ ∃ ty, z = .arrayClass ty) := fun z hz => ⟨hz, good_of_word (List.mem_filter.mp hz).2⟩
  unfold wsV at hw
  rcases List.mem_append.mp hw with h | h
  · simp only [List.mem_cons, List.not_mem_nil, or_false] at h
    rcases h with rfl | rfl | rfl | rfl
    · exact ok _ h1
    · exact ok _ h2
    · exact ok _ h3
    · exact ok _ h4
  · exact tw_inL hcd w h
end
section
/-! by program (wip/p1): words, classes -/
theorem wd_1_75 : Cond.lays "SyntaxForge$Bytes" "SyntaxForge$Bytes" "at" "[B" ∈ tw_tbl := tw_t1 (List.mem_of_getElem? (i := 75) rfl) rfl
theorem wd_1_77 : Cond.lays "SyntaxForge$Bytes" "SyntaxForge$Bytes" "length" "I" ∈ tw_tbl := tw_t1 (List.mem_of_getElem? (i := 77) rfl) rfl
theorem wd_1_106 : Cond.lays "java/util/ArrayList" "java/util/ArrayList" "elementData" "[Ljava/lang/Object;" ∈ tw_tbl := tw_t1 (List.mem_of_getElem? (i := 106) rfl) rfl
theorem wd_1_108 : Cond.lays "java/util/ArrayList" "java/util/ArrayList" "size" "I" ∈ tw_tbl := tw_t1 (List.mem_of_getElem? (i := 108) rfl) rfl
theorem wd_1_110 : Cond.lays "java/util/ArrayList" "java/util/AbstractList" "modCount" "I" ∈ tw_tbl := tw_t1 (List.mem_of_getElem? (i := 110) rfl) rfl
theorem wd_1_138 : Cond.laysFinal "SyntaxForge$Values" "SyntaxForge$Values" "all" "Ljava/util/ArrayList;" ∈ tw_tbl := tw_t1 (List.mem_of_getElem? (i := 138) rfl) rfl
theorem wd_1_140 : Cond.laysFinal "SyntaxForge$Values" "SyntaxForge$Values" "data" "LSyntaxForge$Bytes;" ∈ tw_tbl := tw_t1 (List.mem_of_getElem? (i := 140) rfl) rfl
theorem wd_1_142 : Cond.lays "SyntaxForge$Values" "SyntaxForge$Values" "used" "I" ∈ tw_tbl := tw_t1 (List.mem_of_getElem? (i := 142) rfl) rfl
theorem wd_2_41 : Cond.laysFinal "SyntaxForge$Schema" "SyntaxForge$Schema" "assigned" "Ljava/util/ArrayList;" ∈ tw_tbl := tw_t2 (List.mem_of_getElem? (i := 41) rfl) rfl
theorem wd_2_43 : Cond.laysFinal "SyntaxForge$Schema" "SyntaxForge$Schema" "defaults" "LSyntaxForge$Values;" ∈ tw_tbl := tw_t2 (List.mem_of_getElem? (i := 43) rfl) rfl
theorem wd_2_45 : Cond.lays "SyntaxForge$Schema" "SyntaxForge$Schema" "mode" "I" ∈ tw_tbl := tw_t2 (List.mem_of_getElem? (i := 45) rfl) rfl
theorem wd_2_47 : Cond.lays "SyntaxForge$Schema" "SyntaxForge$Schema" "broken" "Z" ∈ tw_tbl := tw_t2 (List.mem_of_getElem? (i := 47) rfl) rfl
theorem wd_2_49 : Cond.laysFinal "SyntaxForge$Schema" "SyntaxForge$Schema" "types" "Ljava/util/ArrayList;" ∈ tw_tbl := tw_t2 (List.mem_of_getElem? (i := 49) rfl) rfl
theorem wd_2_51 : Cond.laysFinal "SyntaxForge$Schema" "SyntaxForge$Schema" "standards" "Ljava/util/ArrayList;" ∈ tw_tbl := tw_t2 (List.mem_of_getElem? (i := 51) rfl) rfl
theorem wd_2_53 : Cond.laysFinal "SyntaxForge$Schema" "SyntaxForge$Schema" "path" "Ljava/util/ArrayList;" ∈ tw_tbl := tw_t2 (List.mem_of_getElem? (i := 53) rfl) rfl
theorem wd_2_55 : Cond.laysFinal "SyntaxForge$Schema" "SyntaxForge$Schema" "words" "LSyntaxForge$Bytes;" ∈ tw_tbl := tw_t2 (List.mem_of_getElem? (i := 55) rfl) rfl
theorem wd_2_57 : Cond.laysFinal "SyntaxForge$Schema" "SyntaxForge$Schema" "letters" "LSyntaxForge$Bytes;" ∈ tw_tbl := tw_t2 (List.mem_of_getElem? (i := 57) rfl) rfl
theorem wd_2_59 : Cond.laysFinal "SyntaxForge$Schema" "SyntaxForge$Schema" "buckets" "[I" ∈ tw_tbl := tw_t2 (List.mem_of_getElem? (i := 59) rfl) rfl
theorem wd_2_61 : Cond.lays "SyntaxForge$Schema" "SyntaxForge$Schema" "starts" "[I" ∈ tw_tbl := tw_t2 (List.mem_of_getElem? (i := 61) rfl) rfl
theorem wd_2_63 : Cond.lays "SyntaxForge$Schema" "SyntaxForge$Schema" "lengths" "[I" ∈ tw_tbl := tw_t2 (List.mem_of_getElem? (i := 63) rfl) rfl
theorem wd_2_65 : Cond.lays "SyntaxForge$Schema" "SyntaxForge$Schema" "nexts" "[I" ∈ tw_tbl := tw_t2 (List.mem_of_getElem? (i := 65) rfl) rfl
theorem wd_2_67 : Cond.lays "SyntaxForge$Schema" "SyntaxForge$Schema" "owners" "[I" ∈ tw_tbl := tw_t2 (List.mem_of_getElem? (i := 67) rfl) rfl
theorem wd_2_69 : Cond.lays "SyntaxForge$Schema" "SyntaxForge$Schema" "symbols" "I" ∈ tw_tbl := tw_t2 (List.mem_of_getElem? (i := 69) rfl) rfl
theorem wd_2_71 : Cond.lays "SyntaxForge$Schema" "SyntaxForge$Schema" "steps" "[I" ∈ tw_tbl := tw_t2 (List.mem_of_getElem? (i := 71) rfl) rfl
theorem wd_2_73 : Cond.lays "SyntaxForge$Schema" "SyntaxForge$Schema" "keys" "[J" ∈ tw_tbl := tw_t2 (List.mem_of_getElem? (i := 73) rfl) rfl
theorem wd_2_75 : Cond.lays "SyntaxForge$Schema" "SyntaxForge$Schema" "stamps" "[I" ∈ tw_tbl := tw_t2 (List.mem_of_getElem? (i := 75) rfl) rfl
theorem wd_2_77 : Cond.lays "SyntaxForge$Schema" "SyntaxForge$Schema" "stamp" "I" ∈ tw_tbl := tw_t2 (List.mem_of_getElem? (i := 77) rfl) rfl
theorem wd_2_102 : Cond.lays "SyntaxForge$Scanner" "SyntaxForge$Scanner" "kinds" "[I" ∈ tw_tbl := tw_t2 (List.mem_of_getElem? (i := 102) rfl) rfl
theorem wd_2_104 : Cond.lays "SyntaxForge$Scanner" "SyntaxForge$Scanner" "places" "[I" ∈ tw_tbl := tw_t2 (List.mem_of_getElem? (i := 104) rfl) rfl
theorem wd_2_106 : Cond.lays "SyntaxForge$Scanner" "SyntaxForge$Scanner" "numbers" "[J" ∈ tw_tbl := tw_t2 (List.mem_of_getElem? (i := 106) rfl) rfl
theorem wd_2_108 : Cond.lays "SyntaxForge$Scanner" "SyntaxForge$Scanner" "count" "I" ∈ tw_tbl := tw_t2 (List.mem_of_getElem? (i := 108) rfl) rfl
theorem wd_2_110 : Cond.lays "SyntaxForge$Scanner" "SyntaxForge$Scanner" "told" "I" ∈ tw_tbl := tw_t2 (List.mem_of_getElem? (i := 110) rfl) rfl
theorem wd_2_112 : Cond.lays "SyntaxForge$Scanner" "SyntaxForge$Scanner" "tape" "LSyntaxForge$Bytes;" ∈ tw_tbl := tw_t2 (List.mem_of_getElem? (i := 112) rfl) rfl
theorem wd_2_114 : Cond.lays "SyntaxForge$Scanner" "SyntaxForge$Scanner" "names" "LSyntaxForge$Schema;" ∈ tw_tbl := tw_t2 (List.mem_of_getElem? (i := 114) rfl) rfl
theorem wd_2_116 : Cond.lays "SyntaxForge$Scanner" "SyntaxForge$Scanner" "adding" "Z" ∈ tw_tbl := tw_t2 (List.mem_of_getElem? (i := 116) rfl) rfl
theorem wd_2_134 : Cond.laysFinal "SyntaxForge$Parser" "SyntaxForge$Parser" "scanner" "LSyntaxForge$Scanner;" ∈ tw_tbl := tw_t2 (List.mem_of_getElem? (i := 134) rfl) rfl
theorem wd_2_136 : Cond.laysFinal "SyntaxForge$Parser" "SyntaxForge$Parser" "unended" "[LSyntaxForge$Value;" ∈ tw_tbl := tw_t2 (List.mem_of_getElem? (i := 136) rfl) rfl
theorem wd_2_138 : Cond.lays "SyntaxForge$Parser" "SyntaxForge$Parser" "tape" "LSyntaxForge$Bytes;" ∈ tw_tbl := tw_t2 (List.mem_of_getElem? (i := 138) rfl) rfl
theorem wd_2_140 : Cond.lays "SyntaxForge$Parser" "SyntaxForge$Parser" "schema" "LSyntaxForge$Schema;" ∈ tw_tbl := tw_t2 (List.mem_of_getElem? (i := 140) rfl) rfl
theorem wd_2_142 : Cond.lays "SyntaxForge$Parser" "SyntaxForge$Parser" "values" "LSyntaxForge$Values;" ∈ tw_tbl := tw_t2 (List.mem_of_getElem? (i := 142) rfl) rfl
theorem wd_2_144 : Cond.lays "SyntaxForge$Parser" "SyntaxForge$Parser" "at" "I" ∈ tw_tbl := tw_t2 (List.mem_of_getElem? (i := 144) rfl) rfl
theorem wd_2_146 : Cond.lays "SyntaxForge$Parser" "SyntaxForge$Parser" "label" "I" ∈ tw_tbl := tw_t2 (List.mem_of_getElem? (i := 146) rfl) rfl
theorem wd_2_161 : Cond.lays "SyntaxForge$Der" "SyntaxForge$Der" "row" "[LSyntaxForge$Value;" ∈ tw_tbl := tw_t2 (List.mem_of_getElem? (i := 161) rfl) rfl
theorem wd_2_163 : Cond.lays "SyntaxForge$Der" "SyntaxForge$Der" "merged" "[LSyntaxForge$Value;" ∈ tw_tbl := tw_t2 (List.mem_of_getElem? (i := 163) rfl) rfl
theorem wd_2_165 : Cond.lays "SyntaxForge$Der" "SyntaxForge$Der" "widths" "[I" ∈ tw_tbl := tw_t2 (List.mem_of_getElem? (i := 165) rfl) rfl
theorem wd_2_185 : Cond.laysFinal "SyntaxForge$BerReader" "SyntaxForge$BerReader" "values" "LSyntaxForge$Values;" ∈ tw_tbl := tw_t2 (List.mem_of_getElem? (i := 185) rfl) rfl
theorem wd_2_187 : Cond.laysFinal "SyntaxForge$BerReader" "SyntaxForge$BerReader" "order" "LSyntaxForge$Der;" ∈ tw_tbl := tw_t2 (List.mem_of_getElem? (i := 187) rfl) rfl
theorem wd_2_189 : Cond.laysFinal "SyntaxForge$BerReader" "SyntaxForge$BerReader" "ends" "[I" ∈ tw_tbl := tw_t2 (List.mem_of_getElem? (i := 189) rfl) rfl
theorem wd_2_191 : Cond.laysFinal "SyntaxForge$BerReader" "SyntaxForge$BerReader" "limits" "[I" ∈ tw_tbl := tw_t2 (List.mem_of_getElem? (i := 191) rfl) rfl
theorem wd_2_193 : Cond.lays "SyntaxForge$BerReader" "SyntaxForge$BerReader" "in" "LSyntaxForge$Bytes;" ∈ tw_tbl := tw_t2 (List.mem_of_getElem? (i := 193) rfl) rfl
theorem wd_2_195 : Cond.lays "SyntaxForge$BerReader" "SyntaxForge$BerReader" "schema" "LSyntaxForge$Schema;" ∈ tw_tbl := tw_t2 (List.mem_of_getElem? (i := 195) rfl) rfl
theorem wd_2_197 : Cond.lays "SyntaxForge$BerReader" "SyntaxForge$BerReader" "strict" "Z" ∈ tw_tbl := tw_t2 (List.mem_of_getElem? (i := 197) rfl) rfl
theorem wd_2_199 : Cond.lays "SyntaxForge$BerReader" "SyntaxForge$BerReader" "at" "I" ∈ tw_tbl := tw_t2 (List.mem_of_getElem? (i := 199) rfl) rfl
theorem wd_2_201 : Cond.lays "SyntaxForge$BerReader" "SyntaxForge$BerReader" "tag" "J" ∈ tw_tbl := tw_t2 (List.mem_of_getElem? (i := 201) rfl) rfl
theorem wd_2_203 : Cond.lays "SyntaxForge$BerReader" "SyntaxForge$BerReader" "constructed" "Z" ∈ tw_tbl := tw_t2 (List.mem_of_getElem? (i := 203) rfl) rfl
theorem wd_2_205 : Cond.lays "SyntaxForge$BerReader" "SyntaxForge$BerReader" "stop" "I" ∈ tw_tbl := tw_t2 (List.mem_of_getElem? (i := 205) rfl) rfl
theorem wd_2_216 : Cond.lays "SyntaxForge$PerWriter" "SyntaxForge$PerWriter" "out" "LSyntaxForge$Bytes;" ∈ tw_tbl := tw_t2 (List.mem_of_getElem? (i := 216) rfl) rfl
theorem wd_2_218 : Cond.lays "SyntaxForge$PerWriter" "SyntaxForge$PerWriter" "at" "I" ∈ tw_tbl := tw_t2 (List.mem_of_getElem? (i := 218) rfl) rfl
theorem wd_2_233 : Cond.laysFinal "SyntaxForge$PerReader" "SyntaxForge$PerReader" "values" "LSyntaxForge$Values;" ∈ tw_tbl := tw_t2 (List.mem_of_getElem? (i := 233) rfl) rfl
theorem wd_2_235 : Cond.lays "SyntaxForge$PerReader" "SyntaxForge$PerReader" "in" "LSyntaxForge$Bytes;" ∈ tw_tbl := tw_t2 (List.mem_of_getElem? (i := 235) rfl) rfl
theorem wd_2_237 : Cond.lays "SyntaxForge$PerReader" "SyntaxForge$PerReader" "at" "I" ∈ tw_tbl := tw_t2 (List.mem_of_getElem? (i := 237) rfl) rfl
theorem wd_2_239 : Cond.lays "SyntaxForge$PerReader" "SyntaxForge$PerReader" "limit" "I" ∈ tw_tbl := tw_t2 (List.mem_of_getElem? (i := 239) rfl) rfl
theorem wd_3_1 : Cond.lays "SyntaxForge$PerReader" "SyntaxForge$PerReader" "listed" "I" ∈ tw_tbl := tw_t3 (List.mem_of_getElem? (i := 1) rfl) rfl
theorem wd_3_3 : Cond.lays "SyntaxForge$PerReader" "SyntaxForge$PerReader" "strange" "I" ∈ tw_tbl := tw_t3 (List.mem_of_getElem? (i := 3) rfl) rfl
theorem wd_3_20 : Cond.lays "SyntaxForge" "SyntaxForge" "tape" "LSyntaxForge$Bytes;" ∈ tw_tbl := tw_t3 (List.mem_of_getElem? (i := 20) rfl) rfl
theorem wd_3_22 : Cond.lays "SyntaxForge" "SyntaxForge" "taken" "LSyntaxForge$Bytes;" ∈ tw_tbl := tw_t3 (List.mem_of_getElem? (i := 22) rfl) rfl
theorem wd_3_24 : Cond.lays "SyntaxForge" "SyntaxForge" "result" "LSyntaxForge$Bytes;" ∈ tw_tbl := tw_t3 (List.mem_of_getElem? (i := 24) rfl) rfl
theorem wd_3_26 : Cond.lays "SyntaxForge" "SyntaxForge" "out" "LSyntaxForge$Bytes;" ∈ tw_tbl := tw_t3 (List.mem_of_getElem? (i := 26) rfl) rfl
theorem wd_3_28 : Cond.lays "SyntaxForge" "SyntaxForge" "hasText" "Z" ∈ tw_tbl := tw_t3 (List.mem_of_getElem? (i := 28) rfl) rfl
theorem wd_3_30 : Cond.lays "SyntaxForge" "SyntaxForge" "schema" "LSyntaxForge$Schema;" ∈ tw_tbl := tw_t3 (List.mem_of_getElem? (i := 30) rfl) rfl
theorem wd_3_32 : Cond.lays "SyntaxForge" "SyntaxForge" "spare" "LSyntaxForge$Schema;" ∈ tw_tbl := tw_t3 (List.mem_of_getElem? (i := 32) rfl) rfl
theorem wd_3_34 : Cond.laysFinal "SyntaxForge" "SyntaxForge" "scanner" "LSyntaxForge$Scanner;" ∈ tw_tbl := tw_t3 (List.mem_of_getElem? (i := 34) rfl) rfl
theorem wd_3_36 : Cond.laysFinal "SyntaxForge" "SyntaxForge" "parser" "LSyntaxForge$Parser;" ∈ tw_tbl := tw_t3 (List.mem_of_getElem? (i := 36) rfl) rfl
theorem wd_3_38 : Cond.laysFinal "SyntaxForge" "SyntaxForge" "values" "LSyntaxForge$Values;" ∈ tw_tbl := tw_t3 (List.mem_of_getElem? (i := 38) rfl) rfl
theorem wd_3_40 : Cond.laysFinal "SyntaxForge" "SyntaxForge" "der" "LSyntaxForge$Der;" ∈ tw_tbl := tw_t3 (List.mem_of_getElem? (i := 40) rfl) rfl
theorem wd_3_42 : Cond.laysFinal "SyntaxForge" "SyntaxForge" "berReader" "LSyntaxForge$BerReader;" ∈ tw_tbl := tw_t3 (List.mem_of_getElem? (i := 42) rfl) rfl
theorem wd_3_44 : Cond.laysFinal "SyntaxForge" "SyntaxForge" "perWriter" "LSyntaxForge$PerWriter;" ∈ tw_tbl := tw_t3 (List.mem_of_getElem? (i := 44) rfl) rfl
theorem wd_3_46 : Cond.laysFinal "SyntaxForge" "SyntaxForge" "perReader" "LSyntaxForge$PerReader;" ∈ tw_tbl := tw_t3 (List.mem_of_getElem? (i := 46) rfl) rfl
theorem wd_10_100 : Cond.lays "SyntaxForgeModel" "SyntaxForgeModel" "failed" "I" ∈ tw_tbl := tw_t10 (List.mem_of_getElem? (i := 100) rfl) rfl
theorem wd_10_102 : Cond.laysFinal "SyntaxForgeModel" "SyntaxForgeModel" "tape" "[B" ∈ tw_tbl := tw_t10 (List.mem_of_getElem? (i := 102) rfl) rfl
theorem wd_10_104 : Cond.lays "SyntaxForgeModel" "SyntaxForgeModel" "taped" "I" ∈ tw_tbl := tw_t10 (List.mem_of_getElem? (i := 104) rfl) rfl
theorem wd_10_106 : Cond.laysFinal "SyntaxForgeModel" "SyntaxForgeModel" "result" "[B" ∈ tw_tbl := tw_t10 (List.mem_of_getElem? (i := 106) rfl) rfl
theorem wd_10_108 : Cond.lays "SyntaxForgeModel" "SyntaxForgeModel" "size" "I" ∈ tw_tbl := tw_t10 (List.mem_of_getElem? (i := 108) rfl) rfl
theorem wd_10_110 : Cond.lays "SyntaxForgeModel" "SyntaxForgeModel" "place" "I" ∈ tw_tbl := tw_t10 (List.mem_of_getElem? (i := 110) rfl) rfl
theorem wd_10_112 : Cond.laysFinal "SyntaxForgeModel" "SyntaxForgeModel" "signs" "[Ljava/lang/String;" ∈ tw_tbl := tw_t10 (List.mem_of_getElem? (i := 112) rfl) rfl
theorem wd_10_114 : Cond.laysFinal "SyntaxForgeModel" "SyntaxForgeModel" "keptWords" "[Ljava/lang/String;" ∈ tw_tbl := tw_t10 (List.mem_of_getElem? (i := 114) rfl) rfl
theorem wd_10_116 : Cond.lays "SyntaxForgeModel" "SyntaxForgeModel" "token" "I" ∈ tw_tbl := tw_t10 (List.mem_of_getElem? (i := 116) rfl) rfl
theorem wd_10_118 : Cond.lays "SyntaxForgeModel" "SyntaxForgeModel" "from" "I" ∈ tw_tbl := tw_t10 (List.mem_of_getElem? (i := 118) rfl) rfl
theorem wd_10_120 : Cond.lays "SyntaxForgeModel" "SyntaxForgeModel" "to" "I" ∈ tw_tbl := tw_t10 (List.mem_of_getElem? (i := 120) rfl) rfl
theorem wd_10_122 : Cond.lays "SyntaxForgeModel" "SyntaxForgeModel" "number" "J" ∈ tw_tbl := tw_t10 (List.mem_of_getElem? (i := 122) rfl) rfl
theorem wd_10_124 : Cond.lays "SyntaxForgeModel" "SyntaxForgeModel" "word" "Ljava/lang/String;" ∈ tw_tbl := tw_t10 (List.mem_of_getElem? (i := 124) rfl) rfl
theorem wd_10_126 : Cond.lays "SyntaxForgeModel" "SyntaxForgeModel" "at" "I" ∈ tw_tbl := tw_t10 (List.mem_of_getElem? (i := 126) rfl) rfl
theorem wd_10_128 : Cond.lays "SyntaxForgeModel" "SyntaxForgeModel" "valuesOpen" "I" ∈ tw_tbl := tw_t10 (List.mem_of_getElem? (i := 128) rfl) rfl
theorem wd_10_130 : Cond.lays "SyntaxForgeModel" "SyntaxForgeModel" "typesOpen" "I" ∈ tw_tbl := tw_t10 (List.mem_of_getElem? (i := 130) rfl) rfl
theorem wd_10_132 : Cond.laysFinal "SyntaxForgeModel" "SyntaxForgeModel" "spelled" "LSyntaxForgeModel$Chars;" ∈ tw_tbl := tw_t10 (List.mem_of_getElem? (i := 132) rfl) rfl
theorem wd_10_134 : Cond.laysFinal "SyntaxForgeModel" "SyntaxForgeModel" "pieced" "LSyntaxForgeModel$Chars;" ∈ tw_tbl := tw_t10 (List.mem_of_getElem? (i := 134) rfl) rfl
theorem wd_10_136 : Cond.laysFinal "SyntaxForgeModel" "SyntaxForgeModel" "hexes" "LSyntaxForgeModel$Chars;" ∈ tw_tbl := tw_t10 (List.mem_of_getElem? (i := 136) rfl) rfl
theorem wd_10_138 : Cond.lays "SyntaxForgeModel" "SyntaxForgeModel" "words" "[Ljava/lang/String;" ∈ tw_tbl := tw_t10 (List.mem_of_getElem? (i := 138) rfl) rfl
theorem wd_10_140 : Cond.lays "SyntaxForgeModel" "SyntaxForgeModel" "nextWords" "[I" ∈ tw_tbl := tw_t10 (List.mem_of_getElem? (i := 140) rfl) rfl
theorem wd_10_142 : Cond.laysFinal "SyntaxForgeModel" "SyntaxForgeModel" "firstWords" "[I" ∈ tw_tbl := tw_t10 (List.mem_of_getElem? (i := 142) rfl) rfl
theorem wd_10_144 : Cond.lays "SyntaxForgeModel" "SyntaxForgeModel" "wordCount" "I" ∈ tw_tbl := tw_t10 (List.mem_of_getElem? (i := 144) rfl) rfl
theorem wd_10_146 : Cond.lays "SyntaxForgeModel" "SyntaxForgeModel" "pool" "[LSyntaxForgeModel$Value;" ∈ tw_tbl := tw_t10 (List.mem_of_getElem? (i := 146) rfl) rfl
theorem wd_10_148 : Cond.lays "SyntaxForgeModel" "SyntaxForgeModel" "pooled" "I" ∈ tw_tbl := tw_t10 (List.mem_of_getElem? (i := 148) rfl) rfl
theorem wd_10_150 : Cond.lays "SyntaxForgeModel" "SyntaxForgeModel" "pooling" "Z" ∈ tw_tbl := tw_t10 (List.mem_of_getElem? (i := 150) rfl) rfl
theorem wd_10_152 : Cond.lays "SyntaxForgeModel" "SyntaxForgeModel" "module" "LSyntaxForgeModel$Module;" ∈ tw_tbl := tw_t10 (List.mem_of_getElem? (i := 152) rfl) rfl
theorem wd_10_154 : Cond.lays "SyntaxForgeModel" "SyntaxForgeModel" "reading" "LSyntaxForgeModel$Module;" ∈ tw_tbl := tw_t10 (List.mem_of_getElem? (i := 154) rfl) rfl
theorem wd_10_156 : Cond.lays "SyntaxForgeModel" "SyntaxForgeModel" "chain" "[LSyntaxForgeModel$Type;" ∈ tw_tbl := tw_t10 (List.mem_of_getElem? (i := 156) rfl) rfl
theorem wd_10_158 : Cond.lays "SyntaxForgeModel" "SyntaxForgeModel" "waiting" "[LSyntaxForgeModel$Type;" ∈ tw_tbl := tw_t10 (List.mem_of_getElem? (i := 158) rfl) rfl
theorem wd_10_160 : Cond.lays "SyntaxForgeModel" "SyntaxForgeModel" "stamp" "I" ∈ tw_tbl := tw_t10 (List.mem_of_getElem? (i := 160) rfl) rfl
theorem wd_10_162 : Cond.lays "SyntaxForgeModel" "SyntaxForgeModel" "settledNow" "Z" ∈ tw_tbl := tw_t10 (List.mem_of_getElem? (i := 162) rfl) rfl
theorem wd_10_164 : Cond.laysFinal "SyntaxForgeModel" "SyntaxForgeModel" "back" "[B" ∈ tw_tbl := tw_t10 (List.mem_of_getElem? (i := 164) rfl) rfl
theorem wd_10_166 : Cond.laysFinal "SyntaxForgeModel" "SyntaxForgeModel" "spare" "[B" ∈ tw_tbl := tw_t10 (List.mem_of_getElem? (i := 166) rfl) rfl
theorem wd_10_168 : Cond.lays "SyntaxForgeModel" "SyntaxForgeModel" "pos" "I" ∈ tw_tbl := tw_t10 (List.mem_of_getElem? (i := 168) rfl) rfl
theorem wd_10_170 : Cond.laysFinal "SyntaxForgeModel" "SyntaxForgeModel" "packed" "[B" ∈ tw_tbl := tw_t10 (List.mem_of_getElem? (i := 170) rfl) rfl
theorem wd_10_172 : Cond.lays "SyntaxForgeModel" "SyntaxForgeModel" "bits" "I" ∈ tw_tbl := tw_t10 (List.mem_of_getElem? (i := 172) rfl) rfl
theorem wd_10_174 : Cond.lays "SyntaxForgeModel" "SyntaxForgeModel" "in" "I" ∈ tw_tbl := tw_t10 (List.mem_of_getElem? (i := 174) rfl) rfl
theorem wd_10_176 : Cond.lays "SyntaxForgeModel" "SyntaxForgeModel" "end" "I" ∈ tw_tbl := tw_t10 (List.mem_of_getElem? (i := 176) rfl) rfl
theorem wd_10_178 : Cond.lays "SyntaxForgeModel" "SyntaxForgeModel" "strict" "Z" ∈ tw_tbl := tw_t10 (List.mem_of_getElem? (i := 178) rfl) rfl
theorem wd_10_180 : Cond.lays "SyntaxForgeModel" "SyntaxForgeModel" "within" "I" ∈ tw_tbl := tw_t10 (List.mem_of_getElem? (i := 180) rfl) rfl
theorem wd_10_182 : Cond.lays "SyntaxForgeModel" "SyntaxForgeModel" "gotTag" "J" ∈ tw_tbl := tw_t10 (List.mem_of_getElem? (i := 182) rfl) rfl
theorem wd_10_184 : Cond.lays "SyntaxForgeModel" "SyntaxForgeModel" "gotMany" "Z" ∈ tw_tbl := tw_t10 (List.mem_of_getElem? (i := 184) rfl) rfl
theorem wd_10_186 : Cond.lays "SyntaxForgeModel" "SyntaxForgeModel" "gotStop" "I" ∈ tw_tbl := tw_t10 (List.mem_of_getElem? (i := 186) rfl) rfl
theorem wd_10_188 : Cond.lays "SyntaxForgeModel" "SyntaxForgeModel" "closed" "Z" ∈ tw_tbl := tw_t10 (List.mem_of_getElem? (i := 188) rfl) rfl
theorem wd_10_190 : Cond.lays "SyntaxForgeModel" "SyntaxForgeModel" "bit" "J" ∈ tw_tbl := tw_t10 (List.mem_of_getElem? (i := 190) rfl) rfl
theorem wd_10_192 : Cond.lays "SyntaxForgeModel" "SyntaxForgeModel" "bitEnd" "J" ∈ tw_tbl := tw_t10 (List.mem_of_getElem? (i := 192) rfl) rfl
theorem wd_10_194 : Cond.laysFinal "SyntaxForgeModel" "SyntaxForgeModel" "theres" "[[Z" ∈ tw_tbl := tw_t10 (List.mem_of_getElem? (i := 194) rfl) rfl
theorem wd_10_196 : Cond.lays "SyntaxForgeModel" "SyntaxForgeModel" "goesOn" "Z" ∈ tw_tbl := tw_t10 (List.mem_of_getElem? (i := 196) rfl) rfl
theorem wd_10_198 : Cond.lays "SyntaxForgeModel" "SyntaxForgeModel" "lastPortion" "I" ∈ tw_tbl := tw_t10 (List.mem_of_getElem? (i := 198) rfl) rfl
theorem wd_10_200 : Cond.lays "SyntaxForgeModel" "SyntaxForgeModel" "begun" "I" ∈ tw_tbl := tw_t10 (List.mem_of_getElem? (i := 200) rfl) rfl
theorem wd_10_202 : Cond.lays "SyntaxForgeModel" "SyntaxForgeModel" "gathered" "J" ∈ tw_tbl := tw_t10 (List.mem_of_getElem? (i := 202) rfl) rfl
theorem wd_10_204 : Cond.lays "SyntaxForgeModel" "SyntaxForgeModel" "gatheredSize" "I" ∈ tw_tbl := tw_t10 (List.mem_of_getElem? (i := 204) rfl) rfl
theorem wd_10_34 : Cond.lays "SyntaxForgeModel$Chars" "SyntaxForgeModel$Chars" "row" "[C" ∈ tw_tbl := tw_t10 (List.mem_of_getElem? (i := 34) rfl) rfl
theorem wd_10_36 : Cond.lays "SyntaxForgeModel$Chars" "SyntaxForgeModel$Chars" "n" "I" ∈ tw_tbl := tw_t10 (List.mem_of_getElem? (i := 36) rfl) rfl
def R_Bytes : String := "SyntaxForge$Bytes"
def F_Bytes : u_T := fun k => match k with
  | 0 => ("SyntaxForge$Bytes", "at", "[B", false)
  | _ => ("SyntaxForge$Bytes", "length", "I", false)
def t_Bytes : Nat → FieldType := fun k => match k with
  | 0 => .array .byte
  | _ => .int
theorem n_Bytes : ∀ a, a < 2 → ∀ b, b < 2 → a ≠ b → (F_Bytes a).2.1 ≠ (F_Bytes b).2.1 := by decide +kernel
theorem t_Bytes_ok : ∀ k, k < 2 → parseFieldDescriptor (F_Bytes k).2.2.1 = some (t_Bytes k) := by decide +kernel
def R_AL : String := "java/util/ArrayList"
def F_AL : u_T := fun k => match k with
  | 0 => ("java/util/ArrayList", "elementData", "[Ljava/lang/Object;", false)
  | 1 => ("java/util/ArrayList", "size", "I", false)
  | _ => ("java/util/AbstractList", "modCount", "I", false)
def t_AL : Nat → FieldType := fun k => match k with
  | 0 => .array (.object "java/lang/Object")
  | 1 => .int
  | _ => .int
theorem n_AL : ∀ a, a < 3 → ∀ b, b < 3 → a ≠ b → (F_AL a).2.1 ≠ (F_AL b).2.1 := by decide +kernel
theorem t_AL_ok : ∀ k, k < 3 → parseFieldDescriptor (F_AL k).2.2.1 = some (t_AL k) := by decide +kernel
def R_Values : String := "SyntaxForge$Values"
def F_Values : u_T := fun k => match k with
  | 0 => ("SyntaxForge$Values", "all", "Ljava/util/ArrayList;", true)
  | 1 => ("SyntaxForge$Values", "data", "LSyntaxForge$Bytes;", true)
  | _ => ("SyntaxForge$Values", "used", "I", false)
def t_Values : Nat → FieldType := fun k => match k with
  | 0 => .object "java/util/ArrayList"
  | 1 => .object "SyntaxForge$Bytes"
  | _ => .int
theorem n_Values : ∀ a, a < 3 → ∀ b, b < 3 → a ≠ b → (F_Values a).2.1 ≠ (F_Values b).2.1 := by decide +kernel
theorem t_Values_ok : ∀ k, k < 3 → parseFieldDescriptor (F_Values k).2.2.1 = some (t_Values k) := by decide +kernel
def R_Schema : String := "SyntaxForge$Schema"
def F_Schema : u_T := fun k => match k with
  | 0 => ("SyntaxForge$Schema", "assigned", "Ljava/util/ArrayList;", true)
  | 1 => ("SyntaxForge$Schema", "defaults", "LSyntaxForge$Values;", true)
  | 2 => ("SyntaxForge$Schema", "mode", "I", false)
  | 3 => ("SyntaxForge$Schema", "broken", "Z", false)
  | 4 => ("SyntaxForge$Schema", "types", "Ljava/util/ArrayList;", true)
  | 5 => ("SyntaxForge$Schema", "standards", "Ljava/util/ArrayList;", true)
  | 6 => ("SyntaxForge$Schema", "path", "Ljava/util/ArrayList;", true)
  | 7 => ("SyntaxForge$Schema", "words", "LSyntaxForge$Bytes;", true)
  | 8 => ("SyntaxForge$Schema", "letters", "LSyntaxForge$Bytes;", true)
  | 9 => ("SyntaxForge$Schema", "buckets", "[I", true)
  | 10 => ("SyntaxForge$Schema", "starts", "[I", false)
  | 11 => ("SyntaxForge$Schema", "lengths", "[I", false)
  | 12 => ("SyntaxForge$Schema", "nexts", "[I", false)
  | 13 => ("SyntaxForge$Schema", "owners", "[I", false)
  | 14 => ("SyntaxForge$Schema", "symbols", "I", false)
  | 15 => ("SyntaxForge$Schema", "steps", "[I", false)
  | 16 => ("SyntaxForge$Schema", "keys", "[J", false)
  | 17 => ("SyntaxForge$Schema", "stamps", "[I", false)
  | _ => ("SyntaxForge$Schema", "stamp", "I", false)
def t_Schema : Nat → FieldType := fun k => match k with
  | 0 => .object "java/util/ArrayList"
  | 1 => .object "SyntaxForge$Values"
  | 2 => .int
  | 3 => .boolean
  | 4 => .object "java/util/ArrayList"
  | 5 => .object "java/util/ArrayList"
  | 6 => .object "java/util/ArrayList"
  | 7 => .object "SyntaxForge$Bytes"
  | 8 => .object "SyntaxForge$Bytes"
  | 9 => .array .int
  | 10 => .array .int
  | 11 => .array .int
  | 12 => .array .int
  | 13 => .array .int
  | 14 => .int
  | 15 => .array .int
  | 16 => .array .long
  | 17 => .array .int
  | _ => .int
theorem n_Schema : ∀ a, a < 19 → ∀ b, b < 19 → a ≠ b → (F_Schema a).2.1 ≠ (F_Schema b).2.1 := by decide +kernel
theorem t_Schema_ok : ∀ k, k < 19 → parseFieldDescriptor (F_Schema k).2.2.1 = some (t_Schema k) := by decide +kernel
def R_Scanner : String := "SyntaxForge$Scanner"
def F_Scanner : u_T := fun k => match k with
  | 0 => ("SyntaxForge$Scanner", "kinds", "[I", false)
  | 1 => ("SyntaxForge$Scanner", "places", "[I", false)
  | 2 => ("SyntaxForge$Scanner", "numbers", "[J", false)
  | 3 => ("SyntaxForge$Scanner", "count", "I", false)
  | 4 => ("SyntaxForge$Scanner", "told", "I", false)
  | 5 => ("SyntaxForge$Scanner", "tape", "LSyntaxForge$Bytes;", false)
  | 6 => ("SyntaxForge$Scanner", "names", "LSyntaxForge$Schema;", false)
  | _ => ("SyntaxForge$Scanner", "adding", "Z", false)
def t_Scanner : Nat → FieldType := fun k => match k with
  | 0 => .array .int
  | 1 => .array .int
  | 2 => .array .long
  | 3 => .int
  | 4 => .int
  | 5 => .object "SyntaxForge$Bytes"
  | 6 => .object "SyntaxForge$Schema"
  | _ => .boolean
theorem n_Scanner : ∀ a, a < 8 → ∀ b, b < 8 → a ≠ b → (F_Scanner a).2.1 ≠ (F_Scanner b).2.1 := by decide +kernel
theorem t_Scanner_ok : ∀ k, k < 8 → parseFieldDescriptor (F_Scanner k).2.2.1 = some (t_Scanner k) := by decide +kernel
def R_Parser : String := "SyntaxForge$Parser"
def F_Parser : u_T := fun k => match k with
  | 0 => ("SyntaxForge$Parser", "scanner", "LSyntaxForge$Scanner;", true)
  | 1 => ("SyntaxForge$Parser", "unended", "[LSyntaxForge$Value;", true)
  | 2 => ("SyntaxForge$Parser", "tape", "LSyntaxForge$Bytes;", false)
  | 3 => ("SyntaxForge$Parser", "schema", "LSyntaxForge$Schema;", false)
  | 4 => ("SyntaxForge$Parser", "values", "LSyntaxForge$Values;", false)
  | 5 => ("SyntaxForge$Parser", "at", "I", false)
  | _ => ("SyntaxForge$Parser", "label", "I", false)
def t_Parser : Nat → FieldType := fun k => match k with
  | 0 => .object "SyntaxForge$Scanner"
  | 1 => .array (.object "SyntaxForge$Value")
  | 2 => .object "SyntaxForge$Bytes"
  | 3 => .object "SyntaxForge$Schema"
  | 4 => .object "SyntaxForge$Values"
  | 5 => .int
  | _ => .int
theorem n_Parser : ∀ a, a < 7 → ∀ b, b < 7 → a ≠ b → (F_Parser a).2.1 ≠ (F_Parser b).2.1 := by decide +kernel
theorem t_Parser_ok : ∀ k, k < 7 → parseFieldDescriptor (F_Parser k).2.2.1 = some (t_Parser k) := by decide +kernel
def R_Der : String := "SyntaxForge$Der"
def F_Der : u_T := fun k => match k with
  | 0 => ("SyntaxForge$Der", "row", "[LSyntaxForge$Value;", false)
  | 1 => ("SyntaxForge$Der", "merged", "[LSyntaxForge$Value;", false)
  | _ => ("SyntaxForge$Der", "widths", "[I", false)
def t_Der : Nat → FieldType := fun k => match k with
  | 0 => .array (.object "SyntaxForge$Value")
  | 1 => .array (.object "SyntaxForge$Value")
  | _ => .array .int
theorem n_Der : ∀ a, a < 3 → ∀ b, b < 3 → a ≠ b → (F_Der a).2.1 ≠ (F_Der b).2.1 := by decide +kernel
theorem t_Der_ok : ∀ k, k < 3 → parseFieldDescriptor (F_Der k).2.2.1 = some (t_Der k) := by decide +kernel
def R_Ber : String := "SyntaxForge$BerReader"
def F_Ber : u_T := fun k => match k with
  | 0 => ("SyntaxForge$BerReader", "values", "LSyntaxForge$Values;", true)
  | 1 => ("SyntaxForge$BerReader", "order", "LSyntaxForge$Der;", true)
  | 2 => ("SyntaxForge$BerReader", "ends", "[I", true)
  | 3 => ("SyntaxForge$BerReader", "limits", "[I", true)
  | 4 => ("SyntaxForge$BerReader", "in", "LSyntaxForge$Bytes;", false)
  | 5 => ("SyntaxForge$BerReader", "schema", "LSyntaxForge$Schema;", false)
  | 6 => ("SyntaxForge$BerReader", "strict", "Z", false)
  | 7 => ("SyntaxForge$BerReader", "at", "I", false)
  | 8 => ("SyntaxForge$BerReader", "tag", "J", false)
  | 9 => ("SyntaxForge$BerReader", "constructed", "Z", false)
  | _ => ("SyntaxForge$BerReader", "stop", "I", false)
def t_Ber : Nat → FieldType := fun k => match k with
  | 0 => .object "SyntaxForge$Values"
  | 1 => .object "SyntaxForge$Der"
  | 2 => .array .int
  | 3 => .array .int
  | 4 => .object "SyntaxForge$Bytes"
  | 5 => .object "SyntaxForge$Schema"
  | 6 => .boolean
  | 7 => .int
  | 8 => .long
  | 9 => .boolean
  | _ => .int
theorem n_Ber : ∀ a, a < 11 → ∀ b, b < 11 → a ≠ b → (F_Ber a).2.1 ≠ (F_Ber b).2.1 := by decide +kernel
theorem t_Ber_ok : ∀ k, k < 11 → parseFieldDescriptor (F_Ber k).2.2.1 = some (t_Ber k) := by decide +kernel
def R_PerW : String := "SyntaxForge$PerWriter"
def F_PerW : u_T := fun k => match k with
  | 0 => ("SyntaxForge$PerWriter", "out", "LSyntaxForge$Bytes;", false)
  | _ => ("SyntaxForge$PerWriter", "at", "I", false)
def t_PerW : Nat → FieldType := fun k => match k with
  | 0 => .object "SyntaxForge$Bytes"
  | _ => .int
theorem n_PerW : ∀ a, a < 2 → ∀ b, b < 2 → a ≠ b → (F_PerW a).2.1 ≠ (F_PerW b).2.1 := by decide +kernel
theorem t_PerW_ok : ∀ k, k < 2 → parseFieldDescriptor (F_PerW k).2.2.1 = some (t_PerW k) := by decide +kernel
def R_PerR : String := "SyntaxForge$PerReader"
def F_PerR : u_T := fun k => match k with
  | 0 => ("SyntaxForge$PerReader", "values", "LSyntaxForge$Values;", true)
  | 1 => ("SyntaxForge$PerReader", "in", "LSyntaxForge$Bytes;", false)
  | 2 => ("SyntaxForge$PerReader", "at", "I", false)
  | 3 => ("SyntaxForge$PerReader", "limit", "I", false)
  | 4 => ("SyntaxForge$PerReader", "listed", "I", false)
  | _ => ("SyntaxForge$PerReader", "strange", "I", false)
def t_PerR : Nat → FieldType := fun k => match k with
  | 0 => .object "SyntaxForge$Values"
  | 1 => .object "SyntaxForge$Bytes"
  | 2 => .int
  | 3 => .int
  | 4 => .int
  | _ => .int
theorem n_PerR : ∀ a, a < 6 → ∀ b, b < 6 → a ≠ b → (F_PerR a).2.1 ≠ (F_PerR b).2.1 := by decide +kernel
theorem t_PerR_ok : ∀ k, k < 6 → parseFieldDescriptor (F_PerR k).2.2.1 = some (t_PerR k) := by decide +kernel
def R_SF : String := "SyntaxForge"
def F_SF : u_T := fun k => match k with
  | 0 => ("SyntaxForge", "tape", "LSyntaxForge$Bytes;", false)
  | 1 => ("SyntaxForge", "taken", "LSyntaxForge$Bytes;", false)
  | 2 => ("SyntaxForge", "result", "LSyntaxForge$Bytes;", false)
  | 3 => ("SyntaxForge", "out", "LSyntaxForge$Bytes;", false)
  | 4 => ("SyntaxForge", "hasText", "Z", false)
  | 5 => ("SyntaxForge", "schema", "LSyntaxForge$Schema;", false)
  | 6 => ("SyntaxForge", "spare", "LSyntaxForge$Schema;", false)
  | 7 => ("SyntaxForge", "scanner", "LSyntaxForge$Scanner;", true)
  | 8 => ("SyntaxForge", "parser", "LSyntaxForge$Parser;", true)
  | 9 => ("SyntaxForge", "values", "LSyntaxForge$Values;", true)
  | 10 => ("SyntaxForge", "der", "LSyntaxForge$Der;", true)
  | 11 => ("SyntaxForge", "berReader", "LSyntaxForge$BerReader;", true)
  | 12 => ("SyntaxForge", "perWriter", "LSyntaxForge$PerWriter;", true)
  | _ => ("SyntaxForge", "perReader", "LSyntaxForge$PerReader;", true)
def t_SF : Nat → FieldType := fun k => match k with
  | 0 => .object "SyntaxForge$Bytes"
  | 1 => .object "SyntaxForge$Bytes"
  | 2 => .object "SyntaxForge$Bytes"
  | 3 => .object "SyntaxForge$Bytes"
  | 4 => .boolean
  | 5 => .object "SyntaxForge$Schema"
  | 6 => .object "SyntaxForge$Schema"
  | 7 => .object "SyntaxForge$Scanner"
  | 8 => .object "SyntaxForge$Parser"
  | 9 => .object "SyntaxForge$Values"
  | 10 => .object "SyntaxForge$Der"
  | 11 => .object "SyntaxForge$BerReader"
  | 12 => .object "SyntaxForge$PerWriter"
  | _ => .object "SyntaxForge$PerReader"
theorem n_SF : ∀ a, a < 14 → ∀ b, b < 14 → a ≠ b → (F_SF a).2.1 ≠ (F_SF b).2.1 := by decide +kernel
theorem t_SF_ok : ∀ k, k < 14 → parseFieldDescriptor (F_SF k).2.2.1 = some (t_SF k) := by decide +kernel
def R_Mo : String := "SyntaxForgeModel"
def F_Mo : u_T := fun k => match k with
  | 0 => ("SyntaxForgeModel", "failed", "I", false)
  | 1 => ("SyntaxForgeModel", "tape", "[B", true)
  | 2 => ("SyntaxForgeModel", "taped", "I", false)
  | 3 => ("SyntaxForgeModel", "result", "[B", true)
  | 4 => ("SyntaxForgeModel", "size", "I", false)
  | 5 => ("SyntaxForgeModel", "place", "I", false)
  | 6 => ("SyntaxForgeModel", "signs", "[Ljava/lang/String;", true)
  | 7 => ("SyntaxForgeModel", "keptWords", "[Ljava/lang/String;", true)
  | 8 => ("SyntaxForgeModel", "token", "I", false)
  | 9 => ("SyntaxForgeModel", "from", "I", false)
  | 10 => ("SyntaxForgeModel", "to", "I", false)
  | 11 => ("SyntaxForgeModel", "number", "J", false)
  | 12 => ("SyntaxForgeModel", "word", "Ljava/lang/String;", false)
  | 13 => ("SyntaxForgeModel", "at", "I", false)
  | 14 => ("SyntaxForgeModel", "valuesOpen", "I", false)
  | 15 => ("SyntaxForgeModel", "typesOpen", "I", false)
  | 16 => ("SyntaxForgeModel", "spelled", "LSyntaxForgeModel$Chars;", true)
  | 17 => ("SyntaxForgeModel", "pieced", "LSyntaxForgeModel$Chars;", true)
  | 18 => ("SyntaxForgeModel", "hexes", "LSyntaxForgeModel$Chars;", true)
  | 19 => ("SyntaxForgeModel", "words", "[Ljava/lang/String;", false)
  | 20 => ("SyntaxForgeModel", "nextWords", "[I", false)
  | 21 => ("SyntaxForgeModel", "firstWords", "[I", true)
  | 22 => ("SyntaxForgeModel", "wordCount", "I", false)
  | 23 => ("SyntaxForgeModel", "pool", "[LSyntaxForgeModel$Value;", false)
  | 24 => ("SyntaxForgeModel", "pooled", "I", false)
  | 25 => ("SyntaxForgeModel", "pooling", "Z", false)
  | 26 => ("SyntaxForgeModel", "module", "LSyntaxForgeModel$Module;", false)
  | 27 => ("SyntaxForgeModel", "reading", "LSyntaxForgeModel$Module;", false)
  | 28 => ("SyntaxForgeModel", "chain", "[LSyntaxForgeModel$Type;", false)
  | 29 => ("SyntaxForgeModel", "waiting", "[LSyntaxForgeModel$Type;", false)
  | 30 => ("SyntaxForgeModel", "stamp", "I", false)
  | 31 => ("SyntaxForgeModel", "settledNow", "Z", false)
  | 32 => ("SyntaxForgeModel", "back", "[B", true)
  | 33 => ("SyntaxForgeModel", "spare", "[B", true)
  | 34 => ("SyntaxForgeModel", "pos", "I", false)
  | 35 => ("SyntaxForgeModel", "packed", "[B", true)
  | 36 => ("SyntaxForgeModel", "bits", "I", false)
  | 37 => ("SyntaxForgeModel", "in", "I", false)
  | 38 => ("SyntaxForgeModel", "end", "I", false)
  | 39 => ("SyntaxForgeModel", "strict", "Z", false)
  | 40 => ("SyntaxForgeModel", "within", "I", false)
  | 41 => ("SyntaxForgeModel", "gotTag", "J", false)
  | 42 => ("SyntaxForgeModel", "gotMany", "Z", false)
  | 43 => ("SyntaxForgeModel", "gotStop", "I", false)
  | 44 => ("SyntaxForgeModel", "closed", "Z", false)
  | 45 => ("SyntaxForgeModel", "bit", "J", false)
  | 46 => ("SyntaxForgeModel", "bitEnd", "J", false)
  | 47 => ("SyntaxForgeModel", "theres", "[[Z", true)
  | 48 => ("SyntaxForgeModel", "goesOn", "Z", false)
  | 49 => ("SyntaxForgeModel", "lastPortion", "I", false)
  | 50 => ("SyntaxForgeModel", "begun", "I", false)
  | 51 => ("SyntaxForgeModel", "gathered", "J", false)
  | _ => ("SyntaxForgeModel", "gatheredSize", "I", false)
def t_Mo : Nat → FieldType := fun k => match k with
  | 0 => .int
  | 1 => .array .byte
  | 2 => .int
  | 3 => .array .byte
  | 4 => .int
  | 5 => .int
  | 6 => .array (.object "java/lang/String")
  | 7 => .array (.object "java/lang/String")
  | 8 => .int
  | 9 => .int
  | 10 => .int
  | 11 => .long
  | 12 => .object "java/lang/String"
  | 13 => .int
  | 14 => .int
  | 15 => .int
  | 16 => .object "SyntaxForgeModel$Chars"
  | 17 => .object "SyntaxForgeModel$Chars"
  | 18 => .object "SyntaxForgeModel$Chars"
  | 19 => .array (.object "java/lang/String")
  | 20 => .array .int
  | 21 => .array .int
  | 22 => .int
  | 23 => .array (.object "SyntaxForgeModel$Value")
  | 24 => .int
  | 25 => .boolean
  | 26 => .object "SyntaxForgeModel$Module"
  | 27 => .object "SyntaxForgeModel$Module"
  | 28 => .array (.object "SyntaxForgeModel$Type")
  | 29 => .array (.object "SyntaxForgeModel$Type")
  | 30 => .int
  | 31 => .boolean
  | 32 => .array .byte
  | 33 => .array .byte
  | 34 => .int
  | 35 => .array .byte
  | 36 => .int
  | 37 => .int
  | 38 => .int
  | 39 => .boolean
  | 40 => .int
  | 41 => .long
  | 42 => .boolean
  | 43 => .int
  | 44 => .boolean
  | 45 => .long
  | 46 => .long
  | 47 => .array (.array .boolean)
  | 48 => .boolean
  | 49 => .int
  | 50 => .int
  | 51 => .long
  | _ => .int
theorem n_Mo : ∀ a, a < 53 → ∀ b, b < 53 → a ≠ b → (F_Mo a).2.1 ≠ (F_Mo b).2.1 := by decide +kernel
theorem t_Mo_ok : ∀ k, k < 53 → parseFieldDescriptor (F_Mo k).2.2.1 = some (t_Mo k) := by decide +kernel
def R_Chars : String := "SyntaxForgeModel$Chars"
def F_Chars : u_T := fun k => match k with
  | 0 => ("SyntaxForgeModel$Chars", "row", "[C", false)
  | _ => ("SyntaxForgeModel$Chars", "n", "I", false)
def t_Chars : Nat → FieldType := fun k => match k with
  | 0 => .array .char
  | _ => .int
theorem n_Chars : ∀ a, a < 2 → ∀ b, b < 2 → a ≠ b → (F_Chars a).2.1 ≠ (F_Chars b).2.1 := by decide +kernel
theorem t_Chars_ok : ∀ k, k < 2 → parseFieldDescriptor (F_Chars k).2.2.1 = some (t_Chars k) := by decide +kernel
def R_AbL : String := "java/util/AbstractList"
def R_AbC : String := "java/util/AbstractCollection"
def R_Obj : String := "java/lang/Object"
def R_Arrs : String := "java/util/Arrays"
def R_Str : String := "java/lang/String"
def R_Lat : String := "java/lang/StringLatin1"
def R_Prec : String := "jdk/internal/util/Preconditions"
theorem i_Bytes : ∀ w ∈ u_ws R_Bytes F_Bytes 2, w ∈ tw_tbl := by
  show ∀ w ∈ [Cond.lays "SyntaxForge$Bytes" "SyntaxForge$Bytes" "at" "[B", Cond.lays "SyntaxForge$Bytes" "SyntaxForge$Bytes" "length" "I"], w ∈ tw_tbl
  exact List.forall_mem_cons.mpr ⟨wd_1_75, List.forall_mem_cons.mpr ⟨wd_1_77, fun _ h => absurd h List.not_mem_nil⟩⟩
theorem i_AL : ∀ w ∈ u_ws R_AL F_AL 3, w ∈ tw_tbl := by
  show ∀ w ∈ [Cond.lays "java/util/ArrayList" "java/util/ArrayList" "elementData" "[Ljava/lang/Object;", Cond.lays "java/util/ArrayList" "java/util/ArrayList" "size" "I", Cond.lays "java/util/ArrayList" "java/util/AbstractList" "modCount" "I"], w ∈ tw_tbl
  exact List.forall_mem_cons.mpr ⟨wd_1_106, List.forall_mem_cons.mpr ⟨wd_1_108, List.forall_mem_cons.mpr ⟨wd_1_110, fun _ h => absurd h List.not_mem_nil⟩⟩⟩
theorem i_Values : ∀ w ∈ u_ws R_Values F_Values 3, w ∈ tw_tbl := by
  show ∀ w ∈ [Cond.laysFinal "SyntaxForge$Values" "SyntaxForge$Values" "all" "Ljava/util/ArrayList;", Cond.laysFinal "SyntaxForge$Values" "SyntaxForge$Values" "data" "LSyntaxForge$Bytes;", Cond.lays "SyntaxForge$Values" "SyntaxForge$Values" "used" "I"], w ∈ tw_tbl
  exact List.forall_mem_cons.mpr ⟨wd_1_138, List.forall_mem_cons.mpr ⟨wd_1_140, List.forall_mem_cons.mpr ⟨wd_1_142, fun _ h => absurd h List.not_mem_nil⟩⟩⟩
theorem i_Schema : ∀ w ∈ u_ws R_Schema F_Schema 19, w ∈ tw_tbl := by
  show ∀ w ∈ [Cond.laysFinal "SyntaxForge$Schema" "SyntaxForge$Schema" "assigned" "Ljava/util/ArrayList;", Cond.laysFinal "SyntaxForge$Schema" "SyntaxForge$Schema" "defaults" "LSyntaxForge$Values;", Cond.lays "SyntaxForge$Schema" "SyntaxForge$Schema" "mode" "I", Cond.lays "SyntaxForge$Schema" "SyntaxForge$Schema" "broken" "Z", Cond.laysFinal "SyntaxForge$Schema" "SyntaxForge$Schema" "types" "Ljava/util/ArrayList;", Cond.laysFinal "SyntaxForge$Schema" "SyntaxForge$Schema" "standards" "Ljava/util/ArrayList;", Cond.laysFinal "SyntaxForge$Schema" "SyntaxForge$Schema" "path" "Ljava/util/ArrayList;", Cond.laysFinal "SyntaxForge$Schema" "SyntaxForge$Schema" "words" "LSyntaxForge$Bytes;", Cond.laysFinal "SyntaxForge$Schema" "SyntaxForge$Schema" "letters" "LSyntaxForge$Bytes;", Cond.laysFinal "SyntaxForge$Schema" "SyntaxForge$Schema" "buckets" "[I", Cond.lays "SyntaxForge$Schema" "SyntaxForge$Schema" "starts" "[I", Cond.lays "SyntaxForge$Schema" "SyntaxForge$Schema" "lengths" "[I", Cond.lays "SyntaxForge$Schema" "SyntaxForge$Schema" "nexts" "[I", Cond.lays "SyntaxForge$Schema" "SyntaxForge$Schema" "owners" "[I", Cond.lays "SyntaxForge$Schema" "SyntaxForge$Schema" "symbols" "I", Cond.lays "SyntaxForge$Schema" "SyntaxForge$Schema" "steps" "[I", Cond.lays "SyntaxForge$Schema" "SyntaxForge$Schema" "keys" "[J", Cond.lays "SyntaxForge$Schema" "SyntaxForge$Schema" "stamps" "[I", Cond.lays "SyntaxForge$Schema" "SyntaxForge$Schema" "stamp" "I"], w ∈ tw_tbl
  exact List.forall_mem_cons.mpr ⟨wd_2_41, List.forall_mem_cons.mpr ⟨wd_2_43, List.forall_mem_cons.mpr ⟨wd_2_45, List.forall_mem_cons.mpr ⟨wd_2_47, List.forall_mem_cons.mpr ⟨wd_2_49, List.forall_mem_cons.mpr ⟨wd_2_51, List.forall_mem_cons.mpr ⟨wd_2_53, List.forall_mem_cons.mpr ⟨wd_2_55, List.forall_mem_cons.mpr ⟨wd_2_57, List.forall_mem_cons.mpr ⟨wd_2_59, List.forall_mem_cons.mpr ⟨wd_2_61, List.forall_mem_cons.mpr ⟨wd_2_63, List.forall_mem_cons.mpr ⟨wd_2_65, List.forall_mem_cons.mpr ⟨wd_2_67, List.forall_mem_cons.mpr ⟨wd_2_69, List.forall_mem_cons.mpr ⟨wd_2_71, List.forall_mem_cons.mpr ⟨wd_2_73, List.forall_mem_cons.mpr ⟨wd_2_75, List.forall_mem_cons.mpr ⟨wd_2_77, fun _ h => absurd h List.not_mem_nil⟩⟩⟩⟩⟩⟩⟩⟩⟩⟩⟩⟩⟩⟩⟩⟩⟩⟩⟩
theorem i_Scanner : ∀ w ∈ u_ws R_Scanner F_Scanner 8, w ∈ tw_tbl := by
  show ∀ w ∈ [Cond.lays "SyntaxForge$Scanner" "SyntaxForge$Scanner" "kinds" "[I", Cond.lays "SyntaxForge$Scanner" "SyntaxForge$Scanner" "places" "[I", Cond.lays "SyntaxForge$Scanner" "SyntaxForge$Scanner" "numbers" "[J", Cond.lays "SyntaxForge$Scanner" "SyntaxForge$Scanner" "count" "I", Cond.lays "SyntaxForge$Scanner" "SyntaxForge$Scanner" "told" "I", Cond.lays "SyntaxForge$Scanner" "SyntaxForge$Scanner" "tape" "LSyntaxForge$Bytes;", Cond.lays "SyntaxForge$Scanner" "SyntaxForge$Scanner" "names" "LSyntaxForge$Schema;", Cond.lays "SyntaxForge$Scanner" "SyntaxForge$Scanner" "adding" "Z"], w ∈ tw_tbl
  exact List.forall_mem_cons.mpr ⟨wd_2_102, List.forall_mem_cons.mpr ⟨wd_2_104, List.forall_mem_cons.mpr ⟨wd_2_106, List.forall_mem_cons.mpr ⟨wd_2_108, List.forall_mem_cons.mpr ⟨wd_2_110, List.forall_mem_cons.mpr ⟨wd_2_112, List.forall_mem_cons.mpr ⟨wd_2_114, List.forall_mem_cons.mpr ⟨wd_2_116, fun _ h => absurd h List.not_mem_nil⟩⟩⟩⟩⟩⟩⟩⟩
theorem i_Parser : ∀ w ∈ u_ws R_Parser F_Parser 7, w ∈ tw_tbl := by
  show ∀ w ∈ [Cond.laysFinal "SyntaxForge$Parser" "SyntaxForge$Parser" "scanner" "LSyntaxForge$Scanner;", Cond.laysFinal "SyntaxForge$Parser" "SyntaxForge$Parser" "unended" "[LSyntaxForge$Value;", Cond.lays "SyntaxForge$Parser" "SyntaxForge$Parser" "tape" "LSyntaxForge$Bytes;", Cond.lays "SyntaxForge$Parser" "SyntaxForge$Parser" "schema" "LSyntaxForge$Schema;", Cond.lays "SyntaxForge$Parser" "SyntaxForge$Parser" "values" "LSyntaxForge$Values;", Cond.lays "SyntaxForge$Parser" "SyntaxForge$Parser" "at" "I", Cond.lays "SyntaxForge$Parser" "SyntaxForge$Parser" "label" "I"], w ∈ tw_tbl
  exact List.forall_mem_cons.mpr ⟨wd_2_134, List.forall_mem_cons.mpr ⟨wd_2_136, List.forall_mem_cons.mpr ⟨wd_2_138, List.forall_mem_cons.mpr ⟨wd_2_140, List.forall_mem_cons.mpr ⟨wd_2_142, List.forall_mem_cons.mpr ⟨wd_2_144, List.forall_mem_cons.mpr ⟨wd_2_146, fun _ h => absurd h List.not_mem_nil⟩⟩⟩⟩⟩⟩⟩
theorem i_Der : ∀ w ∈ u_ws R_Der F_Der 3, w ∈ tw_tbl := by
  show ∀ w ∈ [Cond.lays "SyntaxForge$Der" "SyntaxForge$Der" "row" "[LSyntaxForge$Value;", Cond.lays "SyntaxForge$Der" "SyntaxForge$Der" "merged" "[LSyntaxForge$Value;", Cond.lays "SyntaxForge$Der" "SyntaxForge$Der" "widths" "[I"], w ∈ tw_tbl
  exact List.forall_mem_cons.mpr ⟨wd_2_161, List.forall_mem_cons.mpr ⟨wd_2_163, List.forall_mem_cons.mpr ⟨wd_2_165, fun _ h => absurd h List.not_mem_nil⟩⟩⟩
theorem i_Ber : ∀ w ∈ u_ws R_Ber F_Ber 11, w ∈ tw_tbl := by
  show ∀ w ∈ [Cond.laysFinal "SyntaxForge$BerReader" "SyntaxForge$BerReader" "values" "LSyntaxForge$Values;", Cond.laysFinal "SyntaxForge$BerReader" "SyntaxForge$BerReader" "order" "LSyntaxForge$Der;", Cond.laysFinal "SyntaxForge$BerReader" "SyntaxForge$BerReader" "ends" "[I", Cond.laysFinal "SyntaxForge$BerReader" "SyntaxForge$BerReader" "limits" "[I", Cond.lays "SyntaxForge$BerReader" "SyntaxForge$BerReader" "in" "LSyntaxForge$Bytes;", Cond.lays "SyntaxForge$BerReader" "SyntaxForge$BerReader" "schema" "LSyntaxForge$Schema;", Cond.lays "SyntaxForge$BerReader" "SyntaxForge$BerReader" "strict" "Z", Cond.lays "SyntaxForge$BerReader" "SyntaxForge$BerReader" "at" "I", Cond.lays "SyntaxForge$BerReader" "SyntaxForge$BerReader" "tag" "J", Cond.lays "SyntaxForge$BerReader" "SyntaxForge$BerReader" "constructed" "Z", Cond.lays "SyntaxForge$BerReader" "SyntaxForge$BerReader" "stop" "I"], w ∈ tw_tbl
  exact List.forall_mem_cons.mpr ⟨wd_2_185, List.forall_mem_cons.mpr ⟨wd_2_187, List.forall_mem_cons.mpr ⟨wd_2_189, List.forall_mem_cons.mpr ⟨wd_2_191, List.forall_mem_cons.mpr ⟨wd_2_193, List.forall_mem_cons.mpr ⟨wd_2_195, List.forall_mem_cons.mpr ⟨wd_2_197, List.forall_mem_cons.mpr ⟨wd_2_199, List.forall_mem_cons.mpr ⟨wd_2_201, List.forall_mem_cons.mpr ⟨wd_2_203, List.forall_mem_cons.mpr ⟨wd_2_205, fun _ h => absurd h List.not_mem_nil⟩⟩⟩⟩⟩⟩⟩⟩⟩⟩⟩
theorem i_PerW : ∀ w ∈ u_ws R_PerW F_PerW 2, w ∈ tw_tbl := by
  show ∀ w ∈ [Cond.lays "SyntaxForge$PerWriter" "SyntaxForge$PerWriter" "out" "LSyntaxForge$Bytes;", Cond.lays "SyntaxForge$PerWriter" "SyntaxForge$PerWriter" "at" "I"], w ∈ tw_tbl
  exact List.forall_mem_cons.mpr ⟨wd_2_216, List.forall_mem_cons.mpr ⟨wd_2_218, fun _ h => absurd h List.not_mem_nil⟩⟩
theorem i_PerR : ∀ w ∈ u_ws R_PerR F_PerR 6, w ∈ tw_tbl := by
  show ∀ w ∈ [Cond.laysFinal "SyntaxForge$PerReader" "SyntaxForge$PerReader" "values" "LSyntaxForge$Values;", Cond.lays "SyntaxForge$PerReader" "SyntaxForge$PerReader" "in" "LSyntaxForge$Bytes;", Cond.lays "SyntaxForge$PerReader" "SyntaxForge$PerReader" "at" "I", Cond.lays "SyntaxForge$PerReader" "SyntaxForge$PerReader" "limit" "I", Cond.lays "SyntaxForge$PerReader" "SyntaxForge$PerReader" "listed" "I", Cond.lays "SyntaxForge$PerReader" "SyntaxForge$PerReader" "strange" "I"], w ∈ tw_tbl
  exact List.forall_mem_cons.mpr ⟨wd_2_233, List.forall_mem_cons.mpr ⟨wd_2_235, List.forall_mem_cons.mpr ⟨wd_2_237, List.forall_mem_cons.mpr ⟨wd_2_239, List.forall_mem_cons.mpr ⟨wd_3_1, List.forall_mem_cons.mpr ⟨wd_3_3, fun _ h => absurd h List.not_mem_nil⟩⟩⟩⟩⟩⟩
theorem i_SF : ∀ w ∈ u_ws R_SF F_SF 14, w ∈ tw_tbl := by
  show ∀ w ∈ [Cond.lays "SyntaxForge" "SyntaxForge" "tape" "LSyntaxForge$Bytes;", Cond.lays "SyntaxForge" "SyntaxForge" "taken" "LSyntaxForge$Bytes;", Cond.lays "SyntaxForge" "SyntaxForge" "result" "LSyntaxForge$Bytes;", Cond.lays "SyntaxForge" "SyntaxForge" "out" "LSyntaxForge$Bytes;", Cond.lays "SyntaxForge" "SyntaxForge" "hasText" "Z", Cond.lays "SyntaxForge" "SyntaxForge" "schema" "LSyntaxForge$Schema;", Cond.lays "SyntaxForge" "SyntaxForge" "spare" "LSyntaxForge$Schema;", Cond.laysFinal "SyntaxForge" "SyntaxForge" "scanner" "LSyntaxForge$Scanner;", Cond.laysFinal "SyntaxForge" "SyntaxForge" "parser" "LSyntaxForge$Parser;", Cond.laysFinal "SyntaxForge" "SyntaxForge" "values" "LSyntaxForge$Values;", Cond.laysFinal "SyntaxForge" "SyntaxForge" "der" "LSyntaxForge$Der;", Cond.laysFinal "SyntaxForge" "SyntaxForge" "berReader" "LSyntaxForge$BerReader;", Cond.laysFinal "SyntaxForge" "SyntaxForge" "perWriter" "LSyntaxForge$PerWriter;", Cond.laysFinal "SyntaxForge" "SyntaxForge" "perReader" "LSyntaxForge$PerReader;"], w ∈ tw_tbl
  exact List.forall_mem_cons.mpr ⟨wd_3_20, List.forall_mem_cons.mpr ⟨wd_3_22, List.forall_mem_cons.mpr ⟨wd_3_24, List.forall_mem_cons.mpr ⟨wd_3_26, List.forall_mem_cons.mpr ⟨wd_3_28, List.forall_mem_cons.mpr ⟨wd_3_30, List.forall_mem_cons.mpr ⟨wd_3_32, List.forall_mem_cons.mpr ⟨wd_3_34, List.forall_mem_cons.mpr ⟨wd_3_36, List.forall_mem_cons.mpr ⟨wd_3_38, List.forall_mem_cons.mpr ⟨wd_3_40, List.forall_mem_cons.mpr ⟨wd_3_42, List.forall_mem_cons.mpr ⟨wd_3_44, List.forall_mem_cons.mpr ⟨wd_3_46, fun _ h => absurd h List.not_mem_nil⟩⟩⟩⟩⟩⟩⟩⟩⟩⟩⟩⟩⟩⟩
theorem i_Mo : ∀ w ∈ u_ws R_Mo F_Mo 53, w ∈ tw_tbl := by
  show ∀ w ∈ [Cond.lays "SyntaxForgeModel" "SyntaxForgeModel" "failed" "I", Cond.laysFinal "SyntaxForgeModel" "SyntaxForgeModel" "tape" "[B", Cond.lays "SyntaxForgeModel" "SyntaxForgeModel" "taped" "I", Cond.laysFinal "SyntaxForgeModel" "SyntaxForgeModel" "result" "[B", Cond.lays "SyntaxForgeModel" "SyntaxForgeModel" "size" "I", Cond.lays "SyntaxForgeModel" "SyntaxForgeModel" "place" "I", Cond.laysFinal "SyntaxForgeModel" "SyntaxForgeModel" "signs" "[Ljava/lang/String;", Cond.laysFinal "SyntaxForgeModel" "SyntaxForgeModel" "keptWords" "[Ljava/lang/String;", Cond.lays "SyntaxForgeModel" "SyntaxForgeModel" "token" "I", Cond.lays "SyntaxForgeModel" "SyntaxForgeModel" "from" "I", Cond.lays "SyntaxForgeModel" "SyntaxForgeModel" "to" "I", Cond.lays "SyntaxForgeModel" "SyntaxForgeModel" "number" "J", Cond.lays "SyntaxForgeModel" "SyntaxForgeModel" "word" "Ljava/lang/String;", Cond.lays "SyntaxForgeModel" "SyntaxForgeModel" "at" "I", Cond.lays "SyntaxForgeModel" "SyntaxForgeModel" "valuesOpen" "I", Cond.lays "SyntaxForgeModel" "SyntaxForgeModel" "typesOpen" "I", Cond.laysFinal "SyntaxForgeModel" "SyntaxForgeModel" "spelled" "LSyntaxForgeModel$Chars;", Cond.laysFinal "SyntaxForgeModel" "SyntaxForgeModel" "pieced" "LSyntaxForgeModel$Chars;", Cond.laysFinal "SyntaxForgeModel" "SyntaxForgeModel" "hexes" "LSyntaxForgeModel$Chars;", Cond.lays "SyntaxForgeModel" "SyntaxForgeModel" "words" "[Ljava/lang/String;", Cond.lays "SyntaxForgeModel" "SyntaxForgeModel" "nextWords" "[I", Cond.laysFinal "SyntaxForgeModel" "SyntaxForgeModel" "firstWords" "[I", Cond.lays "SyntaxForgeModel" "SyntaxForgeModel" "wordCount" "I", Cond.lays "SyntaxForgeModel" "SyntaxForgeModel" "pool" "[LSyntaxForgeModel$Value;", Cond.lays "SyntaxForgeModel" "SyntaxForgeModel" "pooled" "I", Cond.lays "SyntaxForgeModel" "SyntaxForgeModel" "pooling" "Z", Cond.lays "SyntaxForgeModel" "SyntaxForgeModel" "module" "LSyntaxForgeModel$Module;", Cond.lays "SyntaxForgeModel" "SyntaxForgeModel" "reading" "LSyntaxForgeModel$Module;", Cond.lays "SyntaxForgeModel" "SyntaxForgeModel" "chain" "[LSyntaxForgeModel$Type;", Cond.lays "SyntaxForgeModel" "SyntaxForgeModel" "waiting" "[LSyntaxForgeModel$Type;", Cond.lays "SyntaxForgeModel" "SyntaxForgeModel" "stamp" "I", Cond.lays "SyntaxForgeModel" "SyntaxForgeModel" "settledNow" "Z", Cond.laysFinal "SyntaxForgeModel" "SyntaxForgeModel" "back" "[B", Cond.laysFinal "SyntaxForgeModel" "SyntaxForgeModel" "spare" "[B", Cond.lays "SyntaxForgeModel" "SyntaxForgeModel" "pos" "I", Cond.laysFinal "SyntaxForgeModel" "SyntaxForgeModel" "packed" "[B", Cond.lays "SyntaxForgeModel" "SyntaxForgeModel" "bits" "I", Cond.lays "SyntaxForgeModel" "SyntaxForgeModel" "in" "I", Cond.lays "SyntaxForgeModel" "SyntaxForgeModel" "end" "I", Cond.lays "SyntaxForgeModel" "SyntaxForgeModel" "strict" "Z", Cond.lays "SyntaxForgeModel" "SyntaxForgeModel" "within" "I", Cond.lays "SyntaxForgeModel" "SyntaxForgeModel" "gotTag" "J", Cond.lays "SyntaxForgeModel" "SyntaxForgeModel" "gotMany" "Z", Cond.lays "SyntaxForgeModel" "SyntaxForgeModel" "gotStop" "I", Cond.lays "SyntaxForgeModel" "SyntaxForgeModel" "closed" "Z", Cond.lays "SyntaxForgeModel" "SyntaxForgeModel" "bit" "J", Cond.lays "SyntaxForgeModel" "SyntaxForgeModel" "bitEnd" "J", Cond.laysFinal "SyntaxForgeModel" "SyntaxForgeModel" "theres" "[[Z", Cond.lays "SyntaxForgeModel" "SyntaxForgeModel" "goesOn" "Z", Cond.lays "SyntaxForgeModel" "SyntaxForgeModel" "lastPortion" "I", Cond.lays "SyntaxForgeModel" "SyntaxForgeModel" "begun" "I", Cond.lays "SyntaxForgeModel" "SyntaxForgeModel" "gathered" "J", Cond.lays "SyntaxForgeModel" "SyntaxForgeModel" "gatheredSize" "I"], w ∈ tw_tbl
  exact List.forall_mem_cons.mpr ⟨wd_10_100, List.forall_mem_cons.mpr ⟨wd_10_102, List.forall_mem_cons.mpr ⟨wd_10_104, List.forall_mem_cons.mpr ⟨wd_10_106, List.forall_mem_cons.mpr ⟨wd_10_108, List.forall_mem_cons.mpr ⟨wd_10_110, List.forall_mem_cons.mpr ⟨wd_10_112, List.forall_mem_cons.mpr ⟨wd_10_114, List.forall_mem_cons.mpr ⟨wd_10_116, List.forall_mem_cons.mpr ⟨wd_10_118, List.forall_mem_cons.mpr ⟨wd_10_120, List.forall_mem_cons.mpr ⟨wd_10_122, List.forall_mem_cons.mpr ⟨wd_10_124, List.forall_mem_cons.mpr ⟨wd_10_126, List.forall_mem_cons.mpr ⟨wd_10_128, List.forall_mem_cons.mpr ⟨wd_10_130, List.forall_mem_cons.mpr ⟨wd_10_132, List.forall_mem_cons.mpr ⟨wd_10_134, List.forall_mem_cons.mpr ⟨wd_10_136, List.forall_mem_cons.mpr ⟨wd_10_138, List.forall_mem_cons.mpr ⟨wd_10_140, List.forall_mem_cons.mpr ⟨wd_10_142, List.forall_mem_cons.mpr ⟨wd_10_144, List.forall_mem_cons.mpr ⟨wd_10_146, List.forall_mem_cons.mpr ⟨wd_10_148, List.forall_mem_cons.mpr ⟨wd_10_150, List.forall_mem_cons.mpr ⟨wd_10_152, List.forall_mem_cons.mpr ⟨wd_10_154, List.forall_mem_cons.mpr ⟨wd_10_156, List.forall_mem_cons.mpr ⟨wd_10_158, List.forall_mem_cons.mpr ⟨wd_10_160, List.forall_mem_cons.mpr ⟨wd_10_162, List.forall_mem_cons.mpr ⟨wd_10_164, List.forall_mem_cons.mpr ⟨wd_10_166, List.forall_mem_cons.mpr ⟨wd_10_168, List.forall_mem_cons.mpr ⟨wd_10_170, List.forall_mem_cons.mpr ⟨wd_10_172, List.forall_mem_cons.mpr ⟨wd_10_174, List.forall_mem_cons.mpr ⟨wd_10_176, List.forall_mem_cons.mpr ⟨wd_10_178, List.forall_mem_cons.mpr ⟨wd_10_180, List.forall_mem_cons.mpr ⟨wd_10_182, List.forall_mem_cons.mpr ⟨wd_10_184, List.forall_mem_cons.mpr ⟨wd_10_186, List.forall_mem_cons.mpr ⟨wd_10_188, List.forall_mem_cons.mpr ⟨wd_10_190, List.forall_mem_cons.mpr ⟨wd_10_192, List.forall_mem_cons.mpr ⟨wd_10_194, List.forall_mem_cons.mpr ⟨wd_10_196, List.forall_mem_cons.mpr ⟨wd_10_198, List.forall_mem_cons.mpr ⟨wd_10_200, List.forall_mem_cons.mpr ⟨wd_10_202, List.forall_mem_cons.mpr ⟨wd_10_204, fun _ h => absurd h List.not_mem_nil⟩⟩⟩⟩⟩⟩⟩⟩⟩⟩⟩⟩⟩⟩⟩⟩⟩⟩⟩⟩⟩⟩⟩⟩⟩⟩⟩⟩⟩⟩⟩⟩⟩⟩⟩⟩⟩⟩⟩⟩⟩⟩⟩⟩⟩⟩⟩⟩⟩⟩⟩⟩⟩
theorem i_Chars : ∀ w ∈ u_ws R_Chars F_Chars 2, w ∈ tw_tbl := by
  show ∀ w ∈ [Cond.lays "SyntaxForgeModel$Chars" "SyntaxForgeModel$Chars" "row" "[C", Cond.lays "SyntaxForgeModel$Chars" "SyntaxForgeModel$Chars" "n" "I"], w ∈ tw_tbl
  exact List.forall_mem_cons.mpr ⟨wd_10_34, List.forall_mem_cons.mpr ⟨wd_10_36, fun _ h => absurd h List.not_mem_nil⟩⟩
abbrev classes : List vw_C := [(R_Bytes, F_Bytes, 2), (R_AL, F_AL, 3), (R_Values, F_Values, 3), (R_Schema, F_Schema, 19), (R_Scanner, F_Scanner, 8), (R_Parser, F_Parser, 7), (R_Der, F_Der, 3), (R_Ber, F_Ber, 11), (R_PerW, F_PerW, 2), (R_PerR, F_PerR, 6), (R_SF, F_SF, 14), (R_Mo, F_Mo, 53), (R_Chars, F_Chars, 2)]
end
section
/-! pure words of mine (tz_) -/
theorem tz_in {i : Int32} {n : Nat} (h0 : ¬ i < 0) (h : ¬ nI n ≤ i) (hn : n < 2 ^ 31) : vp_in i n := by
  obtain ⟨j, hj, rfl, -⟩ := pk_mu h0 h hn
  exact vp_in_nI hj hn
/-- Bytes.get: f the bytes of a row of n, k the length -/
def tz_gb (n : Nat) (f : Nat → Int32) (k i : Int32) : Int32 := if ¬ i < 0 ∧ ¬ k ≤ i ∧ ¬ nI n ≤ i then f i.toNatClampNeg &&& 255 else -1
theorem tz_fill {i : Nat} {g : Nat → Int32} {x : Int32} (hi : i < 2 ^ 31) (hg : ∀ j, j < i → g j = x) : ∀ j, j < i + 1 → upd g (nI i).toNatClampNeg x j = x := by
  intro j hj
  rw [nI_clamp hi]
  by_cases h : j = i
  · rw [h, pk_us]
  · rw [pk_un h]; exact hg j (by omega)
theorem tz_inc {i : Nat} {x : Int32} (hi : i < 2 ^ 31) (h : ¬ x ≤ nI i) : i + 1 < 2 ^ 31 := by
  have h1 := Int32.toInt_lt x
  have h2 : ¬ x.toInt ≤ (nI i).toInt := fun q => h (Int32.le_iff_toInt_le.mpr q)
  rw [nI_toInt hi] at h2
  omega
/-- the rows of names: a bucket begins a falling chain -/
def tz_inv (sn : Nat) (nxf buf : Nat → Int32) : Prop := (∀ j, j < sn → ∃ q, q ≤ j ∧ nxf j = nI q - 1) ∧ ∀ b, b < 256 → ∃ q, q ≤ sn ∧ buf b = nI q - 1
theorem tz_inv_add {sn b : Nat} {nxf buf : Nat → Int32} (hs : sn < 64) (hb : b < 256) (h : tz_inv sn nxf buf) : tz_inv (sn + 1) (upd nxf (nI sn).toNatClampNeg (buf (nI b).toNatClampNeg)) (upd buf (nI b).toNatClampNeg (nI sn)) := by
  rw [nI_clamp (n := sn) (by omega), nI_clamp (n := b) (by omega)]
  refine ⟨fun j hj => ?_, fun c hc => ?_⟩
  · by_cases e : j = sn
    · obtain ⟨q, h1, h2⟩ := h.2 b hb
      exact ⟨q, by omega, by rw [e, pk_us]; exact h2⟩
    · obtain ⟨q, h1, h2⟩ := h.1 j (by omega)
      exact ⟨q, h1, by rw [pk_un e]; exact h2⟩
  · by_cases e : c = b
    · exact ⟨sn + 1, Nat.le_refl _, by rw [e, pk_us, nI_pred]⟩
    · obtain ⟨q, h1, h2⟩ := h.2 c hc
      exact ⟨q, by omega, by rw [pk_un e]; exact h2⟩
theorem tz_q {q : Nat} (h : ¬ nI q - 1 < 0) : ∃ j, q = j + 1 := by
  cases q with
  | zero => exact absurd (by decide) h
  | succ j => exact ⟨j, rfl⟩
/-- the kept words, letter by letter; behind them a blank -/
def tz_wl : List Int32 := [68, 69, 70, 73, 78, 73, 84, 73, 79, 78, 83, 32, 69, 88, 80, 76, 73, 67, 73, 84, 32, 73, 77, 80, 76, 73, 67, 73, 84, 32, 65, 85, 84, 79, 77, 65, 84, 73, 67, 32, 84, 65, 71, 83, 32, 66, 69, 71, 73, 78, 32, 69, 78, 68, 32, 85, 78, 73, 86, 69, 82, 83, 65, 76, 32, 65, 80, 80, 76, 73, 67, 65, 84, 73, 79, 78, 32, 80, 82, 73, 86, 65, 84, 69, 32, 73, 78, 84, 69, 71, 69, 82, 32, 69, 78, 85, 77, 69, 82, 65, 84, 69, 68, 32, 66, 73, 84, 32, 83, 84, 82, 73, 78, 71, 32, 79, 67, 84, 69, 84, 32, 79, 66, 74, 69, 67, 84, 32, 73, 68, 69, 78, 84, 73, 70, 73, 69, 82, 32, 83, 69, 81, 85, 69, 78, 67, 69, 32, 83, 69, 84, 32, 79, 70, 32, 67, 72, 79, 73, 67, 69, 32, 83, 73, 90, 69, 32, 79, 80, 84, 73, 79, 78, 65, 76, 32, 68, 69, 70, 65, 85, 76, 84, 32, 66, 79, 79, 76, 69, 65, 78, 32, 84, 82, 85, 69, 32, 70, 65, 76, 83, 69, 32, 78, 85, 76, 76, 32, 77, 73, 78, 32, 77, 65, 88, 32, 85, 84, 70, 56, 83, 116, 114, 105, 110, 103, 32, 80, 114, 105, 110, 116, 97, 98, 108, 101, 83, 116, 114, 105, 110, 103, 32, 73, 65, 53, 83, 116, 114, 105, 110, 103, 32, 78, 117, 109, 101, 114, 105, 99, 83, 116, 114, 105, 110, 103, 32, 86, 105, 115, 105, 98, 108, 101, 83, 116, 114, 105, 110, 103]
def tz_wb (i : Nat) : Int32 := tz_wl.getD i 32
def tz_cnt : Nat → Nat
  | 0 => 0
  | i + 1 => tz_cnt i + if tz_wb i = 32 then 1 else 0
theorem tz_wb_b : ∀ i, i < 281 → tz_wb i &&& 255 = tz_wb i := by decide +kernel
theorem tz_cnt_35 : tz_cnt 281 = 35 := by decide +kernel
theorem tz_cnt_mono (a : Nat) : ∀ d, tz_cnt a ≤ tz_cnt (a + d)
  | 0 => Nat.le_refl _
  | d + 1 => Nat.le_trans (tz_cnt_mono a d) (Nat.le_add_right _ _)
theorem tz_cnt_le {i : Nat} (h : i ≤ 281) : tz_cnt i ≤ 35 := by
  have h1 := tz_cnt_mono i (281 - i)
  rw [show i + (281 - i) = 281 by omega, tz_cnt_35] at h1
  exact h1
theorem tz_cnt_s {i : Nat} (h : tz_wb i = 32) : tz_cnt (i + 1) = tz_cnt i + 1 := by
  show tz_cnt i + (if tz_wb i = 32 then 1 else 0) = _
  rw [if_pos h]
theorem tz_cnt_m (i : Nat) : tz_cnt i ≤ tz_cnt (i + 1) := tz_cnt_mono i 1
theorem tz_gw {wf : Nat → Int32} (hw : ∀ j, j < 280 → wf j = tz_wb j) {i : Nat} (hi : i < 280) : tz_gb 280 wf (nI 280) (nI i) = tz_wb i := by
  have h : ¬ nI i < 0 ∧ ¬ nI 280 ≤ nI i ∧ ¬ nI 280 ≤ nI i := ⟨nI_pos (by omega), nI_ge hi (by decide), nI_ge hi (by decide)⟩
  unfold tz_gb
  rw [if_pos h, nI_clamp (by omega), hw i hi, tz_wb_b i (by omega)]
theorem tz_inv_0 {f g : Nat → Int32} (h : ∀ j, j < 256 → g j = -1) : tz_inv 0 f g := ⟨fun j hj => absurd hj (Nat.not_lt_zero j), fun b hb => ⟨0, Nat.le_refl _, by rw [h b hb]; rfl⟩⟩
theorem tz_ch0 : ∀ i, i < 280 → ((tz_wb i &&& 255 : Int32).toUInt32 % 65536).toInt32 = tz_wb i := by decide +kernel
theorem tz_ch {i : Nat} (h : i < 280) : (((tz_wb (nI i).toNatClampNeg) &&& 255 : Int32).toUInt32 % 65536).toInt32 = tz_wb i := by rw [nI_clamp (by omega)]; exact tz_ch0 i h
theorem tz_pt0 : ∀ i, i < 280 → vp_nar .byte ((tz_wb i : Int32).toInt8.toInt32) = tz_wb i := by decide +kernel
theorem tz_pt {i : Nat} {g : Nat → Int32} (h : i < 280) (hg : ∀ j, j < i → g j = tz_wb j) : ∀ j, j < i + 1 → upd g (nI i).toNatClampNeg (vp_nar .byte ((tz_wb i : Int32).toInt8.toInt32)) j = tz_wb j := by
  intro j hj
  rw [nI_clamp (by omega), tz_pt0 i h]
  by_cases e : j = i
  · rw [e, pk_us]
  · rw [pk_un e]; exact hg j (by omega)
end
section
/-! by program (wip/p1) -/
theorem wd_1_58 : Cond.methodLink "SyntaxForge$Bytes" 3 ⟨"java/lang/Object", "<init>", "()V"⟩ ∈ tw_tbl := tw_t1 (List.mem_of_getElem? (i := 58) rfl) rfl
theorem wd_1_51 : Cond.instanceMethod ⟨"java/lang/Object", "<init>", "()V"⟩ ∈ tw_tbl := tw_t1 (List.mem_of_getElem? (i := 51) rfl) rfl
theorem wd_1_52 : Cond.code ⟨"java/lang/Object", "<init>", "()V"⟩ object_method_1_code 1 none ∈ tw_tbl := tw_t1 (List.mem_of_getElem? (i := 52) rfl) rfl
theorem wd_1_80 : Cond.arrayClass .byte ∈ tw_tbl := tw_t1 (List.mem_of_getElem? (i := 80) rfl) rfl
theorem wd_1_59 : Cond.fieldLink "SyntaxForge$Bytes" 9 "SyntaxForge$Bytes" "at" "[B" ∈ tw_tbl := tw_t1 (List.mem_of_getElem? (i := 59) rfl) rfl
theorem wd_1_64 : Cond.fieldLink "SyntaxForge$Bytes" 15 "SyntaxForge$Bytes" "length" "I" ∈ tw_tbl := tw_t1 (List.mem_of_getElem? (i := 64) rfl) rfl
theorem wd_1_98 : Cond.methodLink "java/util/AbstractCollection" 1 ⟨"java/lang/Object", "<init>", "()V"⟩ ∈ tw_tbl := tw_t1 (List.mem_of_getElem? (i := 98) rfl) rfl
theorem wd_1_4 : Cond.initialized "java/util/AbstractCollection" ∈ tw_tbl := tw_t1 (List.mem_of_getElem? (i := 4) rfl) rfl
theorem wd_1_95 : Cond.methodLink "java/util/AbstractList" 1 ⟨"java/util/AbstractCollection", "<init>", "()V"⟩ ∈ tw_tbl := tw_t1 (List.mem_of_getElem? (i := 95) rfl) rfl
theorem wd_1_96 : Cond.instanceMethod ⟨"java/util/AbstractCollection", "<init>", "()V"⟩ ∈ tw_tbl := tw_t1 (List.mem_of_getElem? (i := 96) rfl) rfl
theorem wd_1_103 : Cond.fieldLink "java/util/AbstractList" 7 "java/util/AbstractList" "modCount" "I" ∈ tw_tbl := tw_t1 (List.mem_of_getElem? (i := 103) rfl) rfl
theorem wd_1_5 : Cond.initialized "java/util/AbstractList" ∈ tw_tbl := tw_t1 (List.mem_of_getElem? (i := 5) rfl) rfl
theorem wd_1_92 : Cond.methodLink "java/util/ArrayList" 1 ⟨"java/util/AbstractList", "<init>", "()V"⟩ ∈ tw_tbl := tw_t1 (List.mem_of_getElem? (i := 92) rfl) rfl
theorem wd_1_93 : Cond.instanceMethod ⟨"java/util/AbstractList", "<init>", "()V"⟩ ∈ tw_tbl := tw_t1 (List.mem_of_getElem? (i := 93) rfl) rfl
theorem wd_1_99 : Cond.fieldLink "java/util/ArrayList" 39 "java/util/ArrayList" "DEFAULTCAPACITY_EMPTY_ELEMENTDATA" "[Ljava/lang/Object;" ∈ tw_tbl := tw_t1 (List.mem_of_getElem? (i := 99) rfl) rfl
theorem wd_1_101 : Cond.fieldLink "java/util/ArrayList" 9 "java/util/ArrayList" "elementData" "[Ljava/lang/Object;" ∈ tw_tbl := tw_t1 (List.mem_of_getElem? (i := 101) rfl) rfl
theorem wd_1_118 : Cond.methodLink "SyntaxForge$Values" 3 ⟨"java/lang/Object", "<init>", "()V"⟩ ∈ tw_tbl := tw_t1 (List.mem_of_getElem? (i := 118) rfl) rfl
theorem wd_1_119 : Cond.classLink "SyntaxForge$Values" 9 "java/util/ArrayList" ∈ tw_tbl := tw_t1 (List.mem_of_getElem? (i := 119) rfl) rfl
theorem wd_1_88 : Cond.instantiable "java/util/ArrayList" 3 ∈ tw_tbl := tw_t1 (List.mem_of_getElem? (i := 88) rfl) rfl
theorem wd_1_6 : Cond.initialized "java/util/ArrayList" ∈ tw_tbl := tw_t1 (List.mem_of_getElem? (i := 6) rfl) rfl
theorem wd_1_120 : Cond.methodLink "SyntaxForge$Values" 11 ⟨"java/util/ArrayList", "<init>", "()V"⟩ ∈ tw_tbl := tw_t1 (List.mem_of_getElem? (i := 120) rfl) rfl
theorem wd_1_90 : Cond.instanceMethod ⟨"java/util/ArrayList", "<init>", "()V"⟩ ∈ tw_tbl := tw_t1 (List.mem_of_getElem? (i := 90) rfl) rfl
theorem wd_1_123 : Cond.fieldLink "SyntaxForge$Values" 12 "SyntaxForge$Values" "all" "Ljava/util/ArrayList;" ∈ tw_tbl := tw_t1 (List.mem_of_getElem? (i := 123) rfl) rfl
theorem wd_1_121 : Cond.classLink "SyntaxForge$Values" 18 "SyntaxForge$Bytes" ∈ tw_tbl := tw_t1 (List.mem_of_getElem? (i := 121) rfl) rfl
theorem wd_1_54 : Cond.instantiable "SyntaxForge$Bytes" 2 ∈ tw_tbl := tw_t1 (List.mem_of_getElem? (i := 54) rfl) rfl
theorem wd_1_2 : Cond.initialized "SyntaxForge$Bytes" ∈ tw_tbl := tw_t1 (List.mem_of_getElem? (i := 2) rfl) rfl
theorem wd_1_122 : Cond.methodLink "SyntaxForge$Values" 20 ⟨"SyntaxForge$Bytes", "<init>", "(I)V"⟩ ∈ tw_tbl := tw_t1 (List.mem_of_getElem? (i := 122) rfl) rfl
theorem wd_1_56 : Cond.instanceMethod ⟨"SyntaxForge$Bytes", "<init>", "(I)V"⟩ ∈ tw_tbl := tw_t1 (List.mem_of_getElem? (i := 56) rfl) rfl
theorem wd_1_126 : Cond.fieldLink "SyntaxForge$Values" 23 "SyntaxForge$Values" "data" "LSyntaxForge$Bytes;" ∈ tw_tbl := tw_t1 (List.mem_of_getElem? (i := 126) rfl) rfl
theorem wd_1_132 : Cond.fieldLink "SyntaxForge$Values" 27 "SyntaxForge$Values" "used" "I" ∈ tw_tbl := tw_t1 (List.mem_of_getElem? (i := 132) rfl) rfl
theorem wd_2_156 : Cond.methodLink "SyntaxForge$Der" 3 ⟨"java/lang/Object", "<init>", "()V"⟩ ∈ tw_tbl := tw_t2 (List.mem_of_getElem? (i := 156) rfl) rfl
theorem wd_2_157 : Cond.classLink "SyntaxForge$Der" 9 "SyntaxForge$Value" ∈ tw_tbl := tw_t2 (List.mem_of_getElem? (i := 157) rfl) rfl
theorem wd_2_158 : Cond.fieldLink "SyntaxForge$Der" 11 "SyntaxForge$Der" "row" "[LSyntaxForge$Value;" ∈ tw_tbl := tw_t2 (List.mem_of_getElem? (i := 158) rfl) rfl
theorem wd_2_159 : Cond.fieldLink "SyntaxForge$Der" 17 "SyntaxForge$Der" "merged" "[LSyntaxForge$Value;" ∈ tw_tbl := tw_t2 (List.mem_of_getElem? (i := 159) rfl) rfl
theorem wd_2_80 : Cond.arrayClass .int ∈ tw_tbl := tw_t2 (List.mem_of_getElem? (i := 80) rfl) rfl
theorem wd_2_160 : Cond.fieldLink "SyntaxForge$Der" 20 "SyntaxForge$Der" "widths" "[I" ∈ tw_tbl := tw_t2 (List.mem_of_getElem? (i := 160) rfl) rfl
theorem wd_2_173 : Cond.methodLink "SyntaxForge$BerReader" 3 ⟨"java/lang/Object", "<init>", "()V"⟩ ∈ tw_tbl := tw_t2 (List.mem_of_getElem? (i := 173) rfl) rfl
theorem wd_2_174 : Cond.fieldLink "SyntaxForge$BerReader" 9 "SyntaxForge$BerReader" "values" "LSyntaxForge$Values;" ∈ tw_tbl := tw_t2 (List.mem_of_getElem? (i := 174) rfl) rfl
theorem wd_2_175 : Cond.fieldLink "SyntaxForge$BerReader" 15 "SyntaxForge$BerReader" "order" "LSyntaxForge$Der;" ∈ tw_tbl := tw_t2 (List.mem_of_getElem? (i := 175) rfl) rfl
theorem wd_2_176 : Cond.fieldLink "SyntaxForge$BerReader" 19 "SyntaxForge$BerReader" "ends" "[I" ∈ tw_tbl := tw_t2 (List.mem_of_getElem? (i := 176) rfl) rfl
theorem wd_2_177 : Cond.fieldLink "SyntaxForge$BerReader" 23 "SyntaxForge$BerReader" "limits" "[I" ∈ tw_tbl := tw_t2 (List.mem_of_getElem? (i := 177) rfl) rfl
theorem wd_2_213 : Cond.methodLink "SyntaxForge$PerWriter" 3 ⟨"java/lang/Object", "<init>", "()V"⟩ ∈ tw_tbl := tw_t2 (List.mem_of_getElem? (i := 213) rfl) rfl
theorem wd_2_226 : Cond.methodLink "SyntaxForge$PerReader" 3 ⟨"java/lang/Object", "<init>", "()V"⟩ ∈ tw_tbl := tw_t2 (List.mem_of_getElem? (i := 226) rfl) rfl
theorem wd_2_227 : Cond.fieldLink "SyntaxForge$PerReader" 9 "SyntaxForge$PerReader" "values" "LSyntaxForge$Values;" ∈ tw_tbl := tw_t2 (List.mem_of_getElem? (i := 227) rfl) rfl
theorem wd_2_87 : Cond.methodLink "SyntaxForge$Scanner" 1 ⟨"java/lang/Object", "<init>", "()V"⟩ ∈ tw_tbl := tw_t2 (List.mem_of_getElem? (i := 87) rfl) rfl
theorem wd_2_88 : Cond.fieldLink "SyntaxForge$Scanner" 7 "SyntaxForge$Scanner" "kinds" "[I" ∈ tw_tbl := tw_t2 (List.mem_of_getElem? (i := 88) rfl) rfl
theorem wd_2_90 : Cond.fieldLink "SyntaxForge$Scanner" 13 "SyntaxForge$Scanner" "places" "[I" ∈ tw_tbl := tw_t2 (List.mem_of_getElem? (i := 90) rfl) rfl
theorem wd_2_81 : Cond.arrayClass .long ∈ tw_tbl := tw_t2 (List.mem_of_getElem? (i := 81) rfl) rfl
theorem wd_2_92 : Cond.fieldLink "SyntaxForge$Scanner" 16 "SyntaxForge$Scanner" "numbers" "[J" ∈ tw_tbl := tw_t2 (List.mem_of_getElem? (i := 92) rfl) rfl
theorem wd_2_96 : Cond.fieldLink "SyntaxForge$Scanner" 20 "SyntaxForge$Scanner" "told" "I" ∈ tw_tbl := tw_t2 (List.mem_of_getElem? (i := 96) rfl) rfl
theorem wd_2_124 : Cond.methodLink "SyntaxForge$Parser" 3 ⟨"java/lang/Object", "<init>", "()V"⟩ ∈ tw_tbl := tw_t2 (List.mem_of_getElem? (i := 124) rfl) rfl
theorem wd_2_127 : Cond.fieldLink "SyntaxForge$Parser" 9 "SyntaxForge$Parser" "scanner" "LSyntaxForge$Scanner;" ∈ tw_tbl := tw_t2 (List.mem_of_getElem? (i := 127) rfl) rfl
theorem wd_2_125 : Cond.classLink "SyntaxForge$Parser" 15 "SyntaxForge$Value" ∈ tw_tbl := tw_t2 (List.mem_of_getElem? (i := 125) rfl) rfl
theorem wd_2_128 : Cond.fieldLink "SyntaxForge$Parser" 17 "SyntaxForge$Parser" "unended" "[LSyntaxForge$Value;" ∈ tw_tbl := tw_t2 (List.mem_of_getElem? (i := 128) rfl) rfl
def y_Bytes_init : MethodName := ⟨"SyntaxForge$Bytes", "<init>", "(I)V"⟩
abbrev b_Bytes_init : ByteArray := prog_3_method_1_code
abbrev cd_Bytes_init : Cond := .code y_Bytes_init b_Bytes_init 2 none
abbrev ws_Bytes_init : List Cond := cd_Bytes_init :: tw_tbl
theorem k_Bytes_init : cd_Bytes_init ∈ tw_tbl := tw_t1 (List.mem_of_getElem? (i := 57) rfl) rfl
theorem d_Bytes_init_0 : decode b_Bytes_init 0 = .ok (.aload_n 0, 1) := by decide +kernel
theorem d_Bytes_init_1 : decode b_Bytes_init 1 = .ok (.invokespecial 3, 3) := by decide +kernel
theorem d_Bytes_init_4 : decode b_Bytes_init 4 = .ok (.aload_n 0, 1) := by decide +kernel
theorem d_Bytes_init_5 : decode b_Bytes_init 5 = .ok (.iload_n 1, 1) := by decide +kernel
theorem d_Bytes_init_6 : decode b_Bytes_init 6 = .ok (.newarray .byte, 2) := by decide +kernel
theorem d_Bytes_init_8 : decode b_Bytes_init 8 = .ok (.putfield 9, 3) := by decide +kernel
theorem d_Bytes_init_11 : decode b_Bytes_init 11 = .ok (.aload_n 0, 1) := by decide +kernel
theorem d_Bytes_init_12 : decode b_Bytes_init 12 = .ok (.iconst 0, 1) := by decide +kernel
theorem d_Bytes_init_13 : decode b_Bytes_init 13 = .ok (.putfield 15, 3) := by decide +kernel
theorem d_Bytes_init_16 : decode b_Bytes_init 16 = .ok (.return_, 1) := by decide +kernel
def y_AbC_init : MethodName := ⟨"java/util/AbstractCollection", "<init>", "()V"⟩
abbrev b_AbC_init : ByteArray := prog_42_method_1_code
abbrev cd_AbC_init : Cond := .code y_AbC_init b_AbC_init 1 none
abbrev ws_AbC_init : List Cond := cd_AbC_init :: tw_tbl
theorem k_AbC_init : cd_AbC_init ∈ tw_tbl := tw_t1 (List.mem_of_getElem? (i := 97) rfl) rfl
theorem d_AbC_init_0 : decode b_AbC_init 0 = .ok (.aload_n 0, 1) := by decide +kernel
theorem d_AbC_init_1 : decode b_AbC_init 1 = .ok (.invokespecial 1, 3) := by decide +kernel
theorem d_AbC_init_4 : decode b_AbC_init 4 = .ok (.return_, 1) := by decide +kernel
def y_AbL_init : MethodName := ⟨"java/util/AbstractList", "<init>", "()V"⟩
abbrev b_AbL_init : ByteArray := prog_43_method_1_code
abbrev cd_AbL_init : Cond := .code y_AbL_init b_AbL_init 1 none
abbrev ws_AbL_init : List Cond := cd_AbL_init :: tw_tbl
theorem k_AbL_init : cd_AbL_init ∈ tw_tbl := tw_t1 (List.mem_of_getElem? (i := 94) rfl) rfl
theorem d_AbL_init_0 : decode b_AbL_init 0 = .ok (.aload_n 0, 1) := by decide +kernel
theorem d_AbL_init_1 : decode b_AbL_init 1 = .ok (.invokespecial 1, 3) := by decide +kernel
theorem d_AbL_init_4 : decode b_AbL_init 4 = .ok (.aload_n 0, 1) := by decide +kernel
theorem d_AbL_init_5 : decode b_AbL_init 5 = .ok (.iconst 0, 1) := by decide +kernel
theorem d_AbL_init_6 : decode b_AbL_init 6 = .ok (.putfield 7, 3) := by decide +kernel
theorem d_AbL_init_9 : decode b_AbL_init 9 = .ok (.return_, 1) := by decide +kernel
def y_AL_init : MethodName := ⟨"java/util/ArrayList", "<init>", "()V"⟩
abbrev b_AL_init : ByteArray := prog_44_method_2_code
abbrev cd_AL_init : Cond := .code y_AL_init b_AL_init 1 none
abbrev ws_AL_init : List Cond := cd_AL_init :: tw_tbl
theorem k_AL_init : cd_AL_init ∈ tw_tbl := tw_t1 (List.mem_of_getElem? (i := 91) rfl) rfl
theorem d_AL_init_0 : decode b_AL_init 0 = .ok (.aload_n 0, 1) := by decide +kernel
theorem d_AL_init_1 : decode b_AL_init 1 = .ok (.invokespecial 1, 3) := by decide +kernel
theorem d_AL_init_4 : decode b_AL_init 4 = .ok (.aload_n 0, 1) := by decide +kernel
theorem d_AL_init_5 : decode b_AL_init 5 = .ok (.getstatic 39, 3) := by decide +kernel
theorem d_AL_init_8 : decode b_AL_init 8 = .ok (.putfield 9, 3) := by decide +kernel
theorem d_AL_init_11 : decode b_AL_init 11 = .ok (.return_, 1) := by decide +kernel
def y_Values_init : MethodName := ⟨"SyntaxForge$Values", "<init>", "()V"⟩
abbrev b_Values_init : ByteArray := prog_13_method_1_code
abbrev cd_Values_init : Cond := .code y_Values_init b_Values_init 1 none
abbrev ws_Values_init : List Cond := cd_Values_init :: tw_tbl
theorem k_Values_init : cd_Values_init ∈ tw_tbl := tw_t1 (List.mem_of_getElem? (i := 117) rfl) rfl
theorem d_Values_init_0 : decode b_Values_init 0 = .ok (.aload_n 0, 1) := by decide +kernel
theorem d_Values_init_1 : decode b_Values_init 1 = .ok (.invokespecial 3, 3) := by decide +kernel
theorem d_Values_init_4 : decode b_Values_init 4 = .ok (.aload_n 0, 1) := by decide +kernel
theorem d_Values_init_5 : decode b_Values_init 5 = .ok (.new 9, 3) := by decide +kernel
theorem d_Values_init_8 : decode b_Values_init 8 = .ok (.dup, 1) := by decide +kernel
theorem d_Values_init_9 : decode b_Values_init 9 = .ok (.invokespecial 11, 3) := by decide +kernel
theorem d_Values_init_12 : decode b_Values_init 12 = .ok (.putfield 12, 3) := by decide +kernel
theorem d_Values_init_15 : decode b_Values_init 15 = .ok (.aload_n 0, 1) := by decide +kernel
theorem d_Values_init_16 : decode b_Values_init 16 = .ok (.new 18, 3) := by decide +kernel
theorem d_Values_init_19 : decode b_Values_init 19 = .ok (.dup, 1) := by decide +kernel
theorem d_Values_init_20 : decode b_Values_init 20 = .ok (.bipush 64, 2) := by decide +kernel
theorem d_Values_init_22 : decode b_Values_init 22 = .ok (.invokespecial 20, 3) := by decide +kernel
theorem d_Values_init_25 : decode b_Values_init 25 = .ok (.putfield 23, 3) := by decide +kernel
theorem d_Values_init_28 : decode b_Values_init 28 = .ok (.aload_n 0, 1) := by decide +kernel
theorem d_Values_init_29 : decode b_Values_init 29 = .ok (.iconst 0, 1) := by decide +kernel
theorem d_Values_init_30 : decode b_Values_init 30 = .ok (.putfield 27, 3) := by decide +kernel
theorem d_Values_init_33 : decode b_Values_init 33 = .ok (.return_, 1) := by decide +kernel
def y_Der_init : MethodName := ⟨"SyntaxForge$Der", "<init>", "()V"⟩
abbrev b_Der_init : ByteArray := prog_4_method_1_code
abbrev cd_Der_init : Cond := .code y_Der_init b_Der_init 1 none
abbrev ws_Der_init : List Cond := cd_Der_init :: tw_tbl
theorem k_Der_init : cd_Der_init ∈ tw_tbl := tw_t2 (List.mem_of_getElem? (i := 155) rfl) rfl
theorem d_Der_init_0 : decode b_Der_init 0 = .ok (.aload_n 0, 1) := by decide +kernel
theorem d_Der_init_1 : decode b_Der_init 1 = .ok (.invokespecial 3, 3) := by decide +kernel
theorem d_Der_init_4 : decode b_Der_init 4 = .ok (.aload_n 0, 1) := by decide +kernel
theorem d_Der_init_5 : decode b_Der_init 5 = .ok (.bipush 16, 2) := by decide +kernel
theorem d_Der_init_7 : decode b_Der_init 7 = .ok (.anewarray 9, 3) := by decide +kernel
theorem d_Der_init_10 : decode b_Der_init 10 = .ok (.putfield 11, 3) := by decide +kernel
theorem d_Der_init_13 : decode b_Der_init 13 = .ok (.aload_n 0, 1) := by decide +kernel
theorem d_Der_init_14 : decode b_Der_init 14 = .ok (.bipush 16, 2) := by decide +kernel
theorem d_Der_init_16 : decode b_Der_init 16 = .ok (.anewarray 9, 3) := by decide +kernel
theorem d_Der_init_19 : decode b_Der_init 19 = .ok (.putfield 17, 3) := by decide +kernel
theorem d_Der_init_22 : decode b_Der_init 22 = .ok (.aload_n 0, 1) := by decide +kernel
theorem d_Der_init_23 : decode b_Der_init 23 = .ok (.bipush 16, 2) := by decide +kernel
theorem d_Der_init_25 : decode b_Der_init 25 = .ok (.newarray .int, 2) := by decide +kernel
theorem d_Der_init_27 : decode b_Der_init 27 = .ok (.putfield 20, 3) := by decide +kernel
theorem d_Der_init_30 : decode b_Der_init 30 = .ok (.return_, 1) := by decide +kernel
def y_Ber_init : MethodName := ⟨"SyntaxForge$BerReader", "<init>", "(LSyntaxForge$Values;LSyntaxForge$Der;)V"⟩
abbrev b_Ber_init : ByteArray := prog_2_method_1_code
abbrev cd_Ber_init : Cond := .code y_Ber_init b_Ber_init 3 none
abbrev ws_Ber_init : List Cond := cd_Ber_init :: tw_tbl
theorem k_Ber_init : cd_Ber_init ∈ tw_tbl := tw_t2 (List.mem_of_getElem? (i := 172) rfl) rfl
theorem d_Ber_init_0 : decode b_Ber_init 0 = .ok (.aload_n 0, 1) := by decide +kernel
theorem d_Ber_init_1 : decode b_Ber_init 1 = .ok (.invokespecial 3, 3) := by decide +kernel
theorem d_Ber_init_4 : decode b_Ber_init 4 = .ok (.aload_n 0, 1) := by decide +kernel
theorem d_Ber_init_5 : decode b_Ber_init 5 = .ok (.aload_n 1, 1) := by decide +kernel
theorem d_Ber_init_6 : decode b_Ber_init 6 = .ok (.putfield 9, 3) := by decide +kernel
theorem d_Ber_init_9 : decode b_Ber_init 9 = .ok (.aload_n 0, 1) := by decide +kernel
theorem d_Ber_init_10 : decode b_Ber_init 10 = .ok (.aload_n 2, 1) := by decide +kernel
theorem d_Ber_init_11 : decode b_Ber_init 11 = .ok (.putfield 15, 3) := by decide +kernel
theorem d_Ber_init_14 : decode b_Ber_init 14 = .ok (.aload_n 0, 1) := by decide +kernel
theorem d_Ber_init_15 : decode b_Ber_init 15 = .ok (.bipush 61, 2) := by decide +kernel
theorem d_Ber_init_17 : decode b_Ber_init 17 = .ok (.newarray .int, 2) := by decide +kernel
theorem d_Ber_init_19 : decode b_Ber_init 19 = .ok (.putfield 19, 3) := by decide +kernel
theorem d_Ber_init_22 : decode b_Ber_init 22 = .ok (.aload_n 0, 1) := by decide +kernel
theorem d_Ber_init_23 : decode b_Ber_init 23 = .ok (.bipush 61, 2) := by decide +kernel
theorem d_Ber_init_25 : decode b_Ber_init 25 = .ok (.newarray .int, 2) := by decide +kernel
theorem d_Ber_init_27 : decode b_Ber_init 27 = .ok (.putfield 23, 3) := by decide +kernel
theorem d_Ber_init_30 : decode b_Ber_init 30 = .ok (.return_, 1) := by decide +kernel
def y_PerW_init : MethodName := ⟨"SyntaxForge$PerWriter", "<init>", "()V"⟩
abbrev b_PerW_init : ByteArray := prog_8_method_1_code
abbrev cd_PerW_init : Cond := .code y_PerW_init b_PerW_init 1 none
abbrev ws_PerW_init : List Cond := cd_PerW_init :: tw_tbl
theorem k_PerW_init : cd_PerW_init ∈ tw_tbl := tw_t2 (List.mem_of_getElem? (i := 212) rfl) rfl
theorem d_PerW_init_0 : decode b_PerW_init 0 = .ok (.aload_n 0, 1) := by decide +kernel
theorem d_PerW_init_1 : decode b_PerW_init 1 = .ok (.invokespecial 3, 3) := by decide +kernel
theorem d_PerW_init_4 : decode b_PerW_init 4 = .ok (.return_, 1) := by decide +kernel
def y_PerR_init : MethodName := ⟨"SyntaxForge$PerReader", "<init>", "(LSyntaxForge$Values;)V"⟩
abbrev b_PerR_init : ByteArray := prog_7_method_1_code
abbrev cd_PerR_init : Cond := .code y_PerR_init b_PerR_init 2 none
abbrev ws_PerR_init : List Cond := cd_PerR_init :: tw_tbl
theorem k_PerR_init : cd_PerR_init ∈ tw_tbl := tw_t2 (List.mem_of_getElem? (i := 225) rfl) rfl
theorem d_PerR_init_0 : decode b_PerR_init 0 = .ok (.aload_n 0, 1) := by decide +kernel
theorem d_PerR_init_1 : decode b_PerR_init 1 = .ok (.invokespecial 3, 3) := by decide +kernel
theorem d_PerR_init_4 : decode b_PerR_init 4 = .ok (.aload_n 0, 1) := by decide +kernel
theorem d_PerR_init_5 : decode b_PerR_init 5 = .ok (.aload_n 1, 1) := by decide +kernel
theorem d_PerR_init_6 : decode b_PerR_init 6 = .ok (.putfield 9, 3) := by decide +kernel
theorem d_PerR_init_9 : decode b_PerR_init 9 = .ok (.return_, 1) := by decide +kernel
def y_Scanner_init : MethodName := ⟨"SyntaxForge$Scanner", "<init>", "()V"⟩
abbrev b_Scanner_init : ByteArray := prog_9_method_1_code
abbrev cd_Scanner_init : Cond := .code y_Scanner_init b_Scanner_init 1 none
abbrev ws_Scanner_init : List Cond := cd_Scanner_init :: tw_tbl
theorem k_Scanner_init : cd_Scanner_init ∈ tw_tbl := tw_t2 (List.mem_of_getElem? (i := 86) rfl) rfl
theorem d_Scanner_init_0 : decode b_Scanner_init 0 = .ok (.aload_n 0, 1) := by decide +kernel
theorem d_Scanner_init_1 : decode b_Scanner_init 1 = .ok (.invokespecial 1, 3) := by decide +kernel
theorem d_Scanner_init_4 : decode b_Scanner_init 4 = .ok (.aload_n 0, 1) := by decide +kernel
theorem d_Scanner_init_5 : decode b_Scanner_init 5 = .ok (.bipush 64, 2) := by decide +kernel
theorem d_Scanner_init_7 : decode b_Scanner_init 7 = .ok (.newarray .int, 2) := by decide +kernel
theorem d_Scanner_init_9 : decode b_Scanner_init 9 = .ok (.putfield 7, 3) := by decide +kernel
theorem d_Scanner_init_12 : decode b_Scanner_init 12 = .ok (.aload_n 0, 1) := by decide +kernel
theorem d_Scanner_init_13 : decode b_Scanner_init 13 = .ok (.bipush 64, 2) := by decide +kernel
theorem d_Scanner_init_15 : decode b_Scanner_init 15 = .ok (.newarray .int, 2) := by decide +kernel
theorem d_Scanner_init_17 : decode b_Scanner_init 17 = .ok (.putfield 13, 3) := by decide +kernel
theorem d_Scanner_init_20 : decode b_Scanner_init 20 = .ok (.aload_n 0, 1) := by decide +kernel
theorem d_Scanner_init_21 : decode b_Scanner_init 21 = .ok (.bipush 64, 2) := by decide +kernel
theorem d_Scanner_init_23 : decode b_Scanner_init 23 = .ok (.newarray .long, 2) := by decide +kernel
theorem d_Scanner_init_25 : decode b_Scanner_init 25 = .ok (.putfield 16, 3) := by decide +kernel
theorem d_Scanner_init_28 : decode b_Scanner_init 28 = .ok (.aload_n 0, 1) := by decide +kernel
theorem d_Scanner_init_29 : decode b_Scanner_init 29 = .ok (.iconst (-1), 1) := by decide +kernel
theorem d_Scanner_init_30 : decode b_Scanner_init 30 = .ok (.putfield 20, 3) := by decide +kernel
theorem d_Scanner_init_33 : decode b_Scanner_init 33 = .ok (.return_, 1) := by decide +kernel
def y_Parser_init : MethodName := ⟨"SyntaxForge$Parser", "<init>", "(LSyntaxForge$Scanner;)V"⟩
abbrev b_Parser_init : ByteArray := prog_6_method_1_code
abbrev cd_Parser_init : Cond := .code y_Parser_init b_Parser_init 2 none
abbrev ws_Parser_init : List Cond := cd_Parser_init :: tw_tbl
theorem k_Parser_init : cd_Parser_init ∈ tw_tbl := tw_t2 (List.mem_of_getElem? (i := 123) rfl) rfl
theorem d_Parser_init_0 : decode b_Parser_init 0 = .ok (.aload_n 0, 1) := by decide +kernel
theorem d_Parser_init_1 : decode b_Parser_init 1 = .ok (.invokespecial 3, 3) := by decide +kernel
theorem d_Parser_init_4 : decode b_Parser_init 4 = .ok (.aload_n 0, 1) := by decide +kernel
theorem d_Parser_init_5 : decode b_Parser_init 5 = .ok (.aload_n 1, 1) := by decide +kernel
theorem d_Parser_init_6 : decode b_Parser_init 6 = .ok (.putfield 9, 3) := by decide +kernel
theorem d_Parser_init_9 : decode b_Parser_init 9 = .ok (.aload_n 0, 1) := by decide +kernel
theorem d_Parser_init_10 : decode b_Parser_init 10 = .ok (.bipush 60, 2) := by decide +kernel
theorem d_Parser_init_12 : decode b_Parser_init 12 = .ok (.anewarray 15, 3) := by decide +kernel
theorem d_Parser_init_15 : decode b_Parser_init 15 = .ok (.putfield 17, 3) := by decide +kernel
theorem d_Parser_init_18 : decode b_Parser_init 18 = .ok (.return_, 1) := by decide +kernel
set_option maxHeartbeats 4000000 in
set_option maxRecDepth 100000 in
theorem c_Bytes_init (l : Launch) (dC : Nat → ClassId) (dI : Nat → Nat → Nat) (sz : Nat) (h0 : Nat) (n : Nat) (hn : n ≤ 65536) : Met l y_Bytes_init ws_Bytes_init ({ frames := 1, cells := 1, slots := n, locals := 12 }) (va_Pc [.ref h0, .int (nI n)] (fun U => U.heap.size = sz ∧ va_P (dC, dI) classes [(h0, .inr (0, [.null, .int 0]))] U.heap ∧ va_K (dC, dI) classes [] U ∧ va_D (fun _ => True) [(h0, .inr (0, [.null, .int 0]))])) (va_Qv (fun _ : Unit => True) (fun _ t => ∃ (qa : Nat) (ca : ClassId), va_P (dC, dI) classes [(h0, .inr (0, [.ref qa, .int 0])), (qa, .inl (ca, n, .inl ((fun _ => 0))))] t.heap ∧ va_K (dC, dI) classes [(ca, .byte)] t ∧ va_D (va_A [(h0, .inr (0, [.null, .int 0]))] sz) [(h0, .inr (0, [.ref qa, .int 0])), (qa, .inl (ca, n, .inl ((fun _ => 0))))]) (va_A [(h0, .inr (0, [.null, .int 0]))] sz)) 1 n (va_A [(h0, .inr (0, [.null, .int 0]))] sz) := by
  refine Met.ofW (cc := b_Bytes_init) (maxL := 2) (ret := none) (by decide) rfl ?_
  intro p e s m args below meth c s₁ B hml hv
  obtain ⟨rfl, hsz, hP, hK, hD0⟩ := hv
  have hx := B.exec
  have hb := B.bytes
  have hr := B.returns
  have hts := atoms_spec (ws := ws_Bytes_init) B.pre
  have htw : ∀ w ∈ tw_tbl, w.before [.ref h0, .int (nI n)].toArray s = true := fun w h => hts w (List.mem_cons_of_mem _ h)
  have hown : s.vm.findClass R_Bytes = some m.cls := findClass_of_methodNamed B.named
  have hlocks := B.notSynchronized
  have hin : meth.name = "<init>" := (name_of_methodNamed B.named B.method).1
  subst hsz
  have hD := hD0.self (sz := s.heap.size)
  generalize hAe : va_A [(h0, .inr (0, [.null, .int 0]))] s.heap.size = A at hD ⊢
  have hA : ∀ q : Nat, s.heap.size ≤ q → A q := fun q h => by rw [← hAe]; exact Or.inr h
  have hS : va_S A s.heap s.heap [] := va_S.rf
  have hP : va_P (dC, dI) classes [(h0, .inr (0, [.null, .int 0]))] s.heap := hP
  have hl := lv_entry ([.ref h0, .int (nI n)]) (n := 2) (Nat.le_of_ble_eq_true rfl)
  rw [lg_entry_eq]
  generalize (lg_sl ([.ref h0, .int (nI n)]) ++ List.replicate (2 - (lg_sl ([.ref h0, .int (nI n)])).length) Slot.unset).toArray = ls at hl ⊢
  have hl : lv_has ls 2 [(0, .ref h0), (1, .int (nI n))] := hl
  refine lv_aload_n hx hb d_Bytes_init_0 rfl (lv_at hl 0 rfl) ?_
  refine W.objInit hx hb hown (htw _ wd_1_58) (htw _ wd_1_51) (htw _ wd_1_52) rfl (by rw [hml]; exact hl.1) rfl d_Bytes_init_1 (Nat.le_of_ble_eq_true rfl) (Nat.le_of_ble_eq_true rfl) ?_
  refine W.eq (g2 := F0 m 4 ls []) rfl ?_
  refine lv_aload_n hx hb d_Bytes_init_4 rfl (lv_at hl 0 rfl) ?_
  refine lv_iload_n hx hb d_Bytes_init_5 rfl (lv_at hl 1 rfl) ?_
  have hc0 : 0 + 1 ≤ 1 := by omega
  have hs0 : 0 + n ≤ n := by omega
  refine va_newa (atype := .byte) (a0 := (n, .inl (fun _ => 0))) hx hb (htw _ wd_1_80) rfl hK hP hD hS hA (fun _ => rfl) (nI_pos (by omega)) (nI_clamp (by omega)) (by show _ * 1 ≤ _; omega) hc0 hs0 d_Bytes_init_6 (fun q1 cA2 H hK hP hD hS => ?_)
  have hP : va_P (dC, dI) classes [(h0, .inr (0, [.null, .int 0])), (q1, .inl (cA2, n, .inl ((fun _ => 0))))] H := hP
  have hD : va_D A [(h0, .inr (0, [.null, .int 0])), (q1, .inl (cA2, n, .inl ((fun _ => 0))))] := hD
  refine va_put (D := (dC, dI)) (ci := 0) (v := .ref q1) (ty := .array .byte) (C := R_Bytes) (T := F_Bytes) (N := 2) hx hb htw i_Bytes t_Bytes t_Bytes_ok n_Bytes hown hK hP hD hS 0 rfl rfl 0 (by decide) (htw _ wd_1_59) (fun _ h9 => h9) rfl (by decide +kernel) rfl rfl (Nat.le_of_ble_eq_true rfl) d_Bytes_init_8 (fun H locs hP hD hS => ?_)
  have hP : va_P (dC, dI) classes [(h0, .inr (0, [.ref q1, .int 0])), (q1, .inl (cA2, n, .inl ((fun _ => 0))))] H := hP
  have hD : va_D A [(h0, .inr (0, [.ref q1, .int 0])), (q1, .inl (cA2, n, .inl ((fun _ => 0))))] := hD
  refine lv_aload_n hx hb d_Bytes_init_11 rfl (lv_at hl 0 rfl) ?_
  refine lv_iconst (v := 0) hx hb d_Bytes_init_12 (by decide) ?_
  refine va_put (D := (dC, dI)) (ci := 0) (v := .int 0) (ty := .int) (C := R_Bytes) (T := F_Bytes) (N := 2) hx hb htw i_Bytes t_Bytes t_Bytes_ok n_Bytes hown hK hP hD hS 0 rfl rfl 1 (by decide) (htw _ wd_1_64) (fun _ h9 => h9) rfl (by decide +kernel) rfl rfl (Nat.le_of_ble_eq_true rfl) d_Bytes_init_13 (fun H locs hP hD hS => ?_)
  have hP : va_P (dC, dI) classes [(h0, .inr (0, [.ref q1, .int 0])), (q1, .inl (cA2, n, .inl ((fun _ => 0))))] H := hP
  have hD : va_D A [(h0, .inr (0, [.ref q1, .int 0])), (q1, .inl (cA2, n, .inl ((fun _ => 0))))] := hD
  have hP9 := hP.sub (ws' := [(h0, .inr (0, [.ref q1, .int 0])), (q1, .inl (cA2, n, .inl ((fun _ => 0))))]) [0, 1] rfl
  have hD9 := hD.sub (ws' := [(h0, .inr (0, [.ref q1, .int 0])), (q1, .inl (cA2, n, .inl ((fun _ => 0))))]) [0, 1] (by decide) rfl
  have hK9 := hK.sub (tys' := [(cA2, .byte)]) [0] rfl
  refine W.widen (k := 1) (n := n) (by omega) (by omega) ?_
  exact W.vret hx hb hr (fun t ht hW => ⟨⟨(), rfl, trivial, q1, cA2, by rw [ht]; exact hP9, va_K.moved hW.alike hK9, hD9⟩, hS.F ht⟩) hS.2.2 d_Bytes_init_16
set_option maxHeartbeats 4000000 in
set_option maxRecDepth 100000 in
theorem c_AbC_init (l : Launch) (dC : Nat → ClassId) (dI : Nat → Nat → Nat) (sz : Nat) (h0 : Nat) : Met l y_AbC_init ws_AbC_init ({ frames := 1, cells := 0, slots := 0, locals := 12 }) (va_Pc [.ref h0] (fun U => U.heap.size = sz ∧ va_P (dC, dI) classes [(h0, .inr (1, [.null, .int 0, .int 0]))] U.heap ∧ va_K (dC, dI) classes [] U ∧ va_D (fun _ => True) [(h0, .inr (1, [.null, .int 0, .int 0]))])) (va_Qv (fun _ : Unit => True) (fun _ t => va_P (dC, dI) classes [(h0, .inr (1, [.null, .int 0, .int 0]))] t.heap ∧ va_K (dC, dI) classes [] t ∧ va_D (va_A [(h0, .inr (1, [.null, .int 0, .int 0]))] sz) [(h0, .inr (1, [.null, .int 0, .int 0]))]) (va_A [(h0, .inr (1, [.null, .int 0, .int 0]))] sz)) 0 0 (va_A [(h0, .inr (1, [.null, .int 0, .int 0]))] sz) := by
  refine Met.ofW (cc := b_AbC_init) (maxL := 1) (ret := none) (by decide) rfl ?_
  intro p e s m args below meth c s₁ B hml hv
  obtain ⟨rfl, hsz, hP, hK, hD0⟩ := hv
  have hx := B.exec
  have hb := B.bytes
  have hr := B.returns
  have hts := atoms_spec (ws := ws_AbC_init) B.pre
  have htw : ∀ w ∈ tw_tbl, w.before [.ref h0].toArray s = true := fun w h => hts w (List.mem_cons_of_mem _ h)
  have hown : s.vm.findClass R_AbC = some m.cls := findClass_of_methodNamed B.named
  have hlocks := B.notSynchronized
  have hin : meth.name = "<init>" := (name_of_methodNamed B.named B.method).1
  subst hsz
  have hD := hD0.self (sz := s.heap.size)
  generalize hAe : va_A [(h0, .inr (1, [.null, .int 0, .int 0]))] s.heap.size = A at hD ⊢
  have hA : ∀ q : Nat, s.heap.size ≤ q → A q := fun q h => by rw [← hAe]; exact Or.inr h
  have hS : va_S A s.heap s.heap [] := va_S.rf
  have hP : va_P (dC, dI) classes [(h0, .inr (1, [.null, .int 0, .int 0]))] s.heap := hP
  have hl := lv_entry ([.ref h0]) (n := 1) (Nat.le_of_ble_eq_true rfl)
  rw [lg_entry_eq]
  generalize (lg_sl ([.ref h0]) ++ List.replicate (1 - (lg_sl ([.ref h0])).length) Slot.unset).toArray = ls at hl ⊢
  have hl : lv_has ls 1 [(0, .ref h0)] := hl
  refine lv_aload_n hx hb d_AbC_init_0 rfl (lv_at hl 0 rfl) ?_
  refine W.objInit hx hb hown (htw _ wd_1_98) (htw _ wd_1_51) (htw _ wd_1_52) rfl (by rw [hml]; exact hl.1) rfl d_AbC_init_1 (Nat.le_of_ble_eq_true rfl) (Nat.le_of_ble_eq_true rfl) ?_
  refine W.eq (g2 := F0 m 4 ls []) rfl ?_
  have hP9 := hP.sub (ws' := [(h0, .inr (1, [.null, .int 0, .int 0]))]) [0] rfl
  have hD9 := hD.sub (ws' := [(h0, .inr (1, [.null, .int 0, .int 0]))]) [0] (by decide) rfl
  have hK9 := hK.sub (tys' := []) [] rfl
  refine W.widen (k := 0) (n := 0) (by omega) (by omega) ?_
  exact W.vret hx hb hr (fun t ht hW => ⟨⟨(), rfl, trivial, by rw [ht]; exact hP9, va_K.moved hW.alike hK9, hD9⟩, hS.F ht⟩) hS.2.2 d_AbC_init_4
set_option maxHeartbeats 4000000 in
set_option maxRecDepth 100000 in
theorem c_AbL_init (l : Launch) (dC : Nat → ClassId) (dI : Nat → Nat → Nat) (sz : Nat) (h0 : Nat) : Met l y_AbL_init ws_AbL_init ({ frames := 2, cells := 0, slots := 0, locals := 32 }) (va_Pc [.ref h0] (fun U => U.heap.size = sz ∧ va_P (dC, dI) classes [(h0, .inr (1, [.null, .int 0, .int 0]))] U.heap ∧ va_K (dC, dI) classes [] U ∧ va_D (fun _ => True) [(h0, .inr (1, [.null, .int 0, .int 0]))])) (va_Qv (fun _ : Unit => True) (fun _ t => va_P (dC, dI) classes [(h0, .inr (1, [.null, .int 0, .int 0]))] t.heap ∧ va_K (dC, dI) classes [] t ∧ va_D (va_A [(h0, .inr (1, [.null, .int 0, .int 0]))] sz) [(h0, .inr (1, [.null, .int 0, .int 0]))]) (va_A [(h0, .inr (1, [.null, .int 0, .int 0]))] sz)) 0 0 (va_A [(h0, .inr (1, [.null, .int 0, .int 0]))] sz) := by
  refine Met.ofW (cc := b_AbL_init) (maxL := 1) (ret := none) (by decide) rfl ?_
  intro p e s m args below meth c s₁ B hml hv
  obtain ⟨rfl, hsz, hP, hK, hD0⟩ := hv
  have hx := B.exec
  have hb := B.bytes
  have hr := B.returns
  have hts := atoms_spec (ws := ws_AbL_init) B.pre
  have htw : ∀ w ∈ tw_tbl, w.before [.ref h0].toArray s = true := fun w h => hts w (List.mem_cons_of_mem _ h)
  have hown : s.vm.findClass R_AbL = some m.cls := findClass_of_methodNamed B.named
  have hlocks := B.notSynchronized
  have hin : meth.name = "<init>" := (name_of_methodNamed B.named B.method).1
  subst hsz
  have hD := hD0.self (sz := s.heap.size)
  generalize hAe : va_A [(h0, .inr (1, [.null, .int 0, .int 0]))] s.heap.size = A at hD ⊢
  have hA : ∀ q : Nat, s.heap.size ≤ q → A q := fun q h => by rw [← hAe]; exact Or.inr h
  have hS : va_S A s.heap s.heap [] := va_S.rf
  have hP : va_P (dC, dI) classes [(h0, .inr (1, [.null, .int 0, .int 0]))] s.heap := hP
  have hl := lv_entry ([.ref h0]) (n := 1) (Nat.le_of_ble_eq_true rfl)
  rw [lg_entry_eq]
  generalize (lg_sl ([.ref h0]) ++ List.replicate (1 - (lg_sl ([.ref h0])).length) Slot.unset).toArray = ls at hl ⊢
  have hl : lv_has ls 1 [(0, .ref h0)] := hl
  refine lv_aload_n hx hb d_AbL_init_0 rfl (lv_at hl 0 rfl) ?_
  have hc0 : 0 + 0 ≤ 0 := by omega
  have hs0 : 0 + 0 ≤ 0 := by omega
  have hPc := hP.sub (ws' := [(h0, .inr (1, [.null, .int 0, .int 0]))]) [0] rfl
  have hDc := hD.sub (ws' := [(h0, .inr (1, [.null, .int 0, .int 0]))]) [0] (by decide) rfl
  have hKc := hK.sub (tys' := []) [] rfl
  have hFc := va_free (wc := [(h0, .inr (1, [.null, .int 0, .int 0]))]) hD hS hA [0] rfl
  refine va_callv (va_runI (As := []) (rest := []) ⟨hx, hb, hml, hown, htw⟩ (c_AbC_init l dC dI s.heap.size h0) (cwI 0 htw (tw_inL k_AbC_init) rfl rfl rfl (htw _ wd_1_4) (htw _ wd_1_95) (htw _ wd_1_96) rfl (by decide +kernel) ⟨Nat.le_of_ble_eq_true rfl, Nat.le_of_ble_eq_true rfl⟩) ⟨fun a U g mk q => by obtain ⟨q0, q1, qP, qK, qD⟩ := q; exact ⟨q0, q1, qP, va_K.moved (u := U) (U := U.calling g mk a) (Vm.Alike.refl U.vm) qK, qD⟩, fun U hU hW => ⟨rfl, by rw [hU], by rw [hU]; exact hPc, va_K.moved hW.alike hKc, hDc.weaken (fun _ _ _ _ => trivial)⟩⟩ rfl rfl hl.1 rfl (lv_room (Nat.le_of_ble_eq_true rfl)) d_AbL_init_1 ⟨hc0, hs0⟩) hS (fun q _ h => hFc q h) hFc (fun u t H1 locs ht hvm hw hB hz1 hk1 hS => ?_)
  obtain ⟨hP1, hK1, hD1⟩ := hB
  rw [ht] at hP1
  have hK1 := va_K.moved hvm.symm hK1
  obtain ⟨hP, hD⟩ := va_join (wr := []) (w1 := [(h0, .inr (1, [.null, .int 0, .int 0]))]) hP hD [0] [] rfl rfl (by decide) (by decide) hk1 hFc hP1 hD1
  have hK := (hK.sub (tys' := []) [] rfl).app hK1
  generalize H1 = H at hP hS ⊢
  have hP : va_P (dC, dI) classes [(h0, .inr (1, [.null, .int 0, .int 0]))] H := hP
  have hD : va_D A [(h0, .inr (1, [.null, .int 0, .int 0]))] := hD
  have hK : va_K (dC, dI) classes [] s := hK
  refine lv_aload_n hx hb d_AbL_init_4 rfl (lv_at hl 0 rfl) ?_
  refine lv_iconst (v := 0) hx hb d_AbL_init_5 (by decide) ?_
  refine va_put (D := (dC, dI)) (ci := 1) (v := .int 0) (ty := .int) (C := R_AL) (T := F_AL) (N := 3) hx hb htw i_AL t_AL t_AL_ok n_AL hown hK hP hD hS 0 rfl rfl 2 (by decide) (htw _ wd_1_103) (fun _ h9 => h9) rfl (by decide +kernel) rfl rfl (Nat.le_of_ble_eq_true rfl) d_AbL_init_6 (fun H locs hP hD hS => ?_)
  have hP : va_P (dC, dI) classes [(h0, .inr (1, [.null, .int 0, .int 0]))] H := hP
  have hD : va_D A [(h0, .inr (1, [.null, .int 0, .int 0]))] := hD
  have hP9 := hP.sub (ws' := [(h0, .inr (1, [.null, .int 0, .int 0]))]) [0] rfl
  have hD9 := hD.sub (ws' := [(h0, .inr (1, [.null, .int 0, .int 0]))]) [0] (by decide) rfl
  have hK9 := hK.sub (tys' := []) [] rfl
  refine W.widen (k := 0) (n := 0) (by omega) (by omega) ?_
  exact W.vret hx hb hr (fun t ht hW => ⟨⟨(), rfl, trivial, by rw [ht]; exact hP9, va_K.moved hW.alike hK9, hD9⟩, hS.F ht⟩) hS.2.2 d_AbL_init_9
set_option maxHeartbeats 4000000 in
set_option maxRecDepth 100000 in
theorem c_AL_init (l : Launch) (dC : Nat → ClassId) (dI : Nat → Nat → Nat) (sz : Nat) (h0 : Nat) (dE : Nat) : Met l y_AL_init ws_AL_init ({ frames := 3, cells := 0, slots := 0, locals := 52 }) (va_Pc [.ref h0] (fun U => U.heap.size = sz ∧ va_P (dC, dI) classes [(h0, .inr (1, [.null, .int 0, .int 0]))] U.heap ∧ va_K (dC, dI) classes [] U ∧ va_D (fun _ => True) [(h0, .inr (1, [.null, .int 0, .int 0]))] ∧ va_Z "java/util/ArrayList" "DEFAULTCAPACITY_EMPTY_ELEMENTDATA" "[Ljava/lang/Object;" (.ref dE) (va_A [(h0, .inr (1, [.null, .int 0, .int 0]))] sz) U U.heap)) (va_Qv (fun _ : Unit => True) (fun _ t => va_P (dC, dI) classes [(h0, .inr (1, [.ref dE, .int 0, .int 0]))] t.heap ∧ va_K (dC, dI) classes [] t ∧ va_D (va_A [(h0, .inr (1, [.null, .int 0, .int 0]))] sz) [(h0, .inr (1, [.ref dE, .int 0, .int 0]))]) (va_A [(h0, .inr (1, [.null, .int 0, .int 0]))] sz)) 0 0 (va_A [(h0, .inr (1, [.null, .int 0, .int 0]))] sz) := by
  refine Met.ofW (cc := b_AL_init) (maxL := 1) (ret := none) (by decide) rfl ?_
  intro p e s m args below meth c s₁ B hml hv
  obtain ⟨rfl, hsz, hP, hK, hD0, hx0⟩ := hv
  have hx := B.exec
  have hb := B.bytes
  have hr := B.returns
  have hts := atoms_spec (ws := ws_AL_init) B.pre
  have htw : ∀ w ∈ tw_tbl, w.before [.ref h0].toArray s = true := fun w h => hts w (List.mem_cons_of_mem _ h)
  have hown : s.vm.findClass R_AL = some m.cls := findClass_of_methodNamed B.named
  have hlocks := B.notSynchronized
  have hin : meth.name = "<init>" := (name_of_methodNamed B.named B.method).1
  subst hsz
  have hD := hD0.self (sz := s.heap.size)
  generalize hAe : va_A [(h0, .inr (1, [.null, .int 0, .int 0]))] s.heap.size = A at hD hx0 ⊢
  have hA : ∀ q : Nat, s.heap.size ≤ q → A q := fun q h => by rw [← hAe]; exact Or.inr h
  have hS : va_S A s.heap s.heap [] := va_S.rf
  have hP : va_P (dC, dI) classes [(h0, .inr (1, [.null, .int 0, .int 0]))] s.heap := hP
  have hl := lv_entry ([.ref h0]) (n := 1) (Nat.le_of_ble_eq_true rfl)
  rw [lg_entry_eq]
  generalize (lg_sl ([.ref h0]) ++ List.replicate (1 - (lg_sl ([.ref h0])).length) Slot.unset).toArray = ls at hl ⊢
  have hl : lv_has ls 1 [(0, .ref h0)] := hl
  refine lv_aload_n hx hb d_AL_init_0 rfl (lv_at hl 0 rfl) ?_
  have hc0 : 0 + 0 ≤ 0 := by omega
  have hs0 : 0 + 0 ≤ 0 := by omega
  have hPc := hP.sub (ws' := [(h0, .inr (1, [.null, .int 0, .int 0]))]) [0] rfl
  have hDc := hD.sub (ws' := [(h0, .inr (1, [.null, .int 0, .int 0]))]) [0] (by decide) rfl
  have hKc := hK.sub (tys' := []) [] rfl
  have hFc := va_free (wc := [(h0, .inr (1, [.null, .int 0, .int 0]))]) hD hS hA [0] rfl
  refine va_callv (va_runI (As := []) (rest := []) ⟨hx, hb, hml, hown, htw⟩ (c_AbL_init l dC dI s.heap.size h0) (cwI 0 htw (tw_inL k_AbL_init) rfl rfl rfl (htw _ wd_1_5) (htw _ wd_1_92) (htw _ wd_1_93) rfl (by decide +kernel) ⟨Nat.le_of_ble_eq_true rfl, Nat.le_of_ble_eq_true rfl⟩) ⟨fun a U g mk q => by obtain ⟨q0, q1, qP, qK, qD⟩ := q; exact ⟨q0, q1, qP, va_K.moved (u := U) (U := U.calling g mk a) (Vm.Alike.refl U.vm) qK, qD⟩, fun U hU hW => ⟨rfl, by rw [hU], by rw [hU]; exact hPc, va_K.moved hW.alike hKc, hDc.weaken (fun _ _ _ _ => trivial)⟩⟩ rfl rfl hl.1 rfl (lv_room (Nat.le_of_ble_eq_true rfl)) d_AL_init_1 ⟨hc0, hs0⟩) hS (fun q _ h => hFc q h) hFc (fun u t H1 locs ht hvm hw hB hz1 hk1 hS => ?_)
  obtain ⟨hP1, hK1, hD1⟩ := hB
  rw [ht] at hP1
  have hK1 := va_K.moved hvm.symm hK1
  obtain ⟨hP, hD⟩ := va_join (wr := []) (w1 := [(h0, .inr (1, [.null, .int 0, .int 0]))]) hP hD [0] [] rfl rfl (by decide) (by decide) hk1 hFc hP1 hD1
  have hK := (hK.sub (tys' := []) [] rfl).app hK1
  generalize H1 = H at hP hS ⊢
  have hP : va_P (dC, dI) classes [(h0, .inr (1, [.null, .int 0, .int 0]))] H := hP
  have hD : va_D A [(h0, .inr (1, [.null, .int 0, .int 0]))] := hD
  have hK : va_K (dC, dI) classes [] s := hK
  refine lv_aload_n hx hb d_AL_init_4 rfl (lv_at hl 0 rfl) ?_
  refine va_gets hx hb hx0 hS hown (htw _ wd_1_99) (fun _ h9 => h9) d_AL_init_5 ?_
  refine va_put (D := (dC, dI)) (ci := 1) (v := .ref dE) (ty := .array (.object "java/lang/Object")) (C := R_AL) (T := F_AL) (N := 3) hx hb htw i_AL t_AL t_AL_ok n_AL hown hK hP hD hS 0 rfl rfl 0 (by decide) (htw _ wd_1_101) (fun _ h9 => h9) rfl (by decide +kernel) rfl rfl (Nat.le_of_ble_eq_true rfl) d_AL_init_8 (fun H locs hP hD hS => ?_)
  have hP : va_P (dC, dI) classes [(h0, .inr (1, [.ref dE, .int 0, .int 0]))] H := hP
  have hD : va_D A [(h0, .inr (1, [.ref dE, .int 0, .int 0]))] := hD
  have hP9 := hP.sub (ws' := [(h0, .inr (1, [.ref dE, .int 0, .int 0]))]) [0] rfl
  have hD9 := hD.sub (ws' := [(h0, .inr (1, [.ref dE, .int 0, .int 0]))]) [0] (by decide) rfl
  have hK9 := hK.sub (tys' := []) [] rfl
  refine W.widen (k := 0) (n := 0) (by omega) (by omega) ?_
  exact W.vret hx hb hr (fun t ht hW => ⟨⟨(), rfl, trivial, by rw [ht]; exact hP9, va_K.moved hW.alike hK9, hD9⟩, hS.F ht⟩) hS.2.2 d_AL_init_11
set_option maxHeartbeats 4000000 in
set_option maxRecDepth 100000 in
theorem c_Values_init (l : Launch) (dC : Nat → ClassId) (dI : Nat → Nat → Nat) (sz : Nat) (h0 : Nat) (dE : Nat) : Met l y_Values_init ws_Values_init ({ frames := 4, cells := 3, slots := 69, locals := 72 }) (va_Pc [.ref h0] (fun U => U.heap.size = sz ∧ va_P (dC, dI) classes [(h0, .inr (2, [.null, .null, .int 0]))] U.heap ∧ va_K (dC, dI) classes [] U ∧ va_D (fun _ => True) [(h0, .inr (2, [.null, .null, .int 0]))] ∧ va_Z "java/util/ArrayList" "DEFAULTCAPACITY_EMPTY_ELEMENTDATA" "[Ljava/lang/Object;" (.ref dE) (va_A [(h0, .inr (2, [.null, .null, .int 0]))] sz) U U.heap)) (va_Qv (fun _ : Unit => True) (fun _ t => ∃ (al : Nat) (vd : Nat) (va : Nat) (vc : ClassId), va_P (dC, dI) classes [(h0, .inr (2, [.ref al, .ref vd, .int 0])), (al, .inr (1, [.ref dE, .int 0, .int 0])), (vd, .inr (0, [.ref va, .int 0])), (va, .inl (vc, 64, .inl ((fun _ => 0))))] t.heap ∧ va_K (dC, dI) classes [(vc, .byte)] t ∧ va_D (va_A [(h0, .inr (2, [.null, .null, .int 0]))] sz) [(h0, .inr (2, [.ref al, .ref vd, .int 0])), (al, .inr (1, [.ref dE, .int 0, .int 0])), (vd, .inr (0, [.ref va, .int 0])), (va, .inl (vc, 64, .inl ((fun _ => 0))))]) (va_A [(h0, .inr (2, [.null, .null, .int 0]))] sz)) 3 69 (va_A [(h0, .inr (2, [.null, .null, .int 0]))] sz) := by
  refine Met.ofW (cc := b_Values_init) (maxL := 1) (ret := none) (by decide) rfl ?_
  intro p e s m args below meth c s₁ B hml hv
  obtain ⟨rfl, hsz, hP, hK, hD0, hx0⟩ := hv
  have hx := B.exec
  have hb := B.bytes
  have hr := B.returns
  have hts := atoms_spec (ws := ws_Values_init) B.pre
  have htw : ∀ w ∈ tw_tbl, w.before [.ref h0].toArray s = true := fun w h => hts w (List.mem_cons_of_mem _ h)
  have hown : s.vm.findClass R_Values = some m.cls := findClass_of_methodNamed B.named
  have hlocks := B.notSynchronized
  have hin : meth.name = "<init>" := (name_of_methodNamed B.named B.method).1
  subst hsz
  have hD := hD0.self (sz := s.heap.size)
  generalize hAe : va_A [(h0, .inr (2, [.null, .null, .int 0]))] s.heap.size = A at hD hx0 ⊢
  have hA : ∀ q : Nat, s.heap.size ≤ q → A q := fun q h => by rw [← hAe]; exact Or.inr h
  have hS : va_S A s.heap s.heap [] := va_S.rf
  have hP : va_P (dC, dI) classes [(h0, .inr (2, [.null, .null, .int 0]))] s.heap := hP
  have hl := lv_entry ([.ref h0]) (n := 1) (Nat.le_of_ble_eq_true rfl)
  rw [lg_entry_eq]
  generalize (lg_sl ([.ref h0]) ++ List.replicate (1 - (lg_sl ([.ref h0])).length) Slot.unset).toArray = ls at hl ⊢
  have hl : lv_has ls 1 [(0, .ref h0)] := hl
  refine lv_aload_n hx hb d_Values_init_0 rfl (lv_at hl 0 rfl) ?_
  refine W.objInit hx hb hown (htw _ wd_1_118) (htw _ wd_1_51) (htw _ wd_1_52) rfl (by rw [hml]; exact hl.1) rfl d_Values_init_1 (Nat.le_of_ble_eq_true rfl) (Nat.le_of_ble_eq_true rfl) ?_
  refine W.eq (g2 := F0 m 4 ls []) rfl ?_
  refine lv_aload_n hx hb d_Values_init_4 rfl (lv_at hl 0 rfl) ?_
  have hc0 : 0 + 1 ≤ 3 := by omega
  have hs0 : 0 + 3 ≤ 69 := by omega
  refine va_new (ci := 1) (fs := [.null, .int 0, .int 0]) (C := R_AL) (T := F_AL) (N := 3) hx hb htw i_AL t_AL t_AL_ok hown (htw _ wd_1_119) (htw _ wd_1_88) (htw _ wd_1_6) hK hP hD hS hA rfl (by decide) hc0 hs0 d_Values_init_5 (fun q1 H hP hD hS => ?_)
  have hP : va_P (dC, dI) classes [(h0, .inr (2, [.null, .null, .int 0])), (q1, .inr (1, [.null, .int 0, .int 0]))] H := hP
  have hD : va_D A [(h0, .inr (2, [.null, .null, .int 0])), (q1, .inr (1, [.null, .int 0, .int 0]))] := hD
  refine lv_dup hx hb d_Values_init_8 rfl ?_
  have hc0 : 1 + 0 ≤ 3 := by omega
  have hs0 : 3 + 0 ≤ 69 := by omega
  have hPc := hP.sub (ws' := [(q1, .inr (1, [.null, .int 0, .int 0]))]) [1] rfl
  have hDc := hD.sub (ws' := [(q1, .inr (1, [.null, .int 0, .int 0]))]) [1] (by decide) rfl
  have hKc := hK.sub (tys' := []) [] rfl
  have hFc := va_free (wc := [(q1, .inr (1, [.null, .int 0, .int 0]))]) hD hS hA [1] rfl
  refine va_callv (va_runI (As := []) (rest := [.ref q1, .ref h0]) ⟨hx, hb, hml, hown, htw⟩ (c_AL_init l dC dI H.size q1 dE) (cwI 0 htw (tw_inL k_AL_init) rfl rfl rfl (htw _ wd_1_6) (htw _ wd_1_120) (htw _ wd_1_90) rfl (by decide +kernel) ⟨Nat.le_of_ble_eq_true rfl, Nat.le_of_ble_eq_true rfl⟩) ⟨fun a U g mk q => by obtain ⟨q0, q1, qP, qK, qD, hq0⟩ := q; exact ⟨q0, q1, qP, va_K.moved (u := U) (U := U.calling g mk a) (Vm.Alike.refl U.vm) qK, qD, va_Z.moved (u := U) (U := U.calling g mk a) (Vm.Alike.refl U.vm) hq0⟩, fun U hU hW => ⟨rfl, by rw [hU], by rw [hU]; exact hPc, va_K.moved hW.alike hKc, hDc.weaken (fun _ _ _ _ => trivial), by rw [hU]; exact va_Z.moved hW.alike ((va_Z.kept hx0 hS.2.1).narrow hFc)⟩⟩ rfl rfl hl.1 rfl (lv_room (Nat.le_of_ble_eq_true rfl)) d_Values_init_9 ⟨hc0, hs0⟩) hS (fun q _ h => hFc q h) hFc (fun u t H1 locs ht hvm hw hB hz1 hk1 hS => ?_)
  obtain ⟨hP1, hK1, hD1⟩ := hB
  rw [ht] at hP1
  have hK1 := va_K.moved hvm.symm hK1
  obtain ⟨hP, hD⟩ := va_join (wr := [(h0, .inr (2, [.null, .null, .int 0]))]) (w1 := [(q1, .inr (1, [.ref dE, .int 0, .int 0]))]) hP hD [1] [0] rfl rfl (by decide) (by decide) hk1 hFc hP1 hD1
  have hK := (hK.sub (tys' := []) [] rfl).app hK1
  generalize H1 = H at hP hS ⊢
  have hP : va_P (dC, dI) classes [(h0, .inr (2, [.null, .null, .int 0])), (q1, .inr (1, [.ref dE, .int 0, .int 0]))] H := hP
  have hD : va_D A [(h0, .inr (2, [.null, .null, .int 0])), (q1, .inr (1, [.ref dE, .int 0, .int 0]))] := hD
  have hK : va_K (dC, dI) classes [] s := hK
  refine va_putF (D := (dC, dI)) (ci := 2) (v := .ref q1) (ty := .object "java/util/ArrayList") (C := R_Values) (T := F_Values) (N := 3) hx hb htw i_Values t_Values t_Values_ok n_Values hown hK hP hD hS 0 rfl rfl 0 (by decide) (htw _ wd_1_123) (fun _ h9 => h9) rfl hin rfl (by decide +kernel) rfl rfl (Nat.le_of_ble_eq_true rfl) d_Values_init_12 (fun H locs hP hD hS => ?_)
  have hP : va_P (dC, dI) classes [(h0, .inr (2, [.ref q1, .null, .int 0])), (q1, .inr (1, [.ref dE, .int 0, .int 0]))] H := hP
  have hD : va_D A [(h0, .inr (2, [.ref q1, .null, .int 0])), (q1, .inr (1, [.ref dE, .int 0, .int 0]))] := hD
  refine lv_aload_n hx hb d_Values_init_15 rfl (lv_at hl 0 rfl) ?_
  have hc0 : 1 + 1 ≤ 3 := by omega
  have hs0 : 3 + 2 ≤ 69 := by omega
  refine va_new (ci := 0) (fs := [.null, .int 0]) (C := R_Bytes) (T := F_Bytes) (N := 2) hx hb htw i_Bytes t_Bytes t_Bytes_ok hown (htw _ wd_1_121) (htw _ wd_1_54) (htw _ wd_1_2) hK hP hD hS hA rfl (by decide) hc0 hs0 d_Values_init_16 (fun q3 H hP hD hS => ?_)
  have hP : va_P (dC, dI) classes [(h0, .inr (2, [.ref q1, .null, .int 0])), (q1, .inr (1, [.ref dE, .int 0, .int 0])), (q3, .inr (0, [.null, .int 0]))] H := hP
  have hD : va_D A [(h0, .inr (2, [.ref q1, .null, .int 0])), (q1, .inr (1, [.ref dE, .int 0, .int 0])), (q3, .inr (0, [.null, .int 0]))] := hD
  refine lv_dup hx hb d_Values_init_19 rfl ?_
  refine lv_bipush (v := 64) hx hb d_Values_init_20 (by decide) ?_
  have hc0 : 2 + 1 ≤ 3 := by omega
  have hs0 : 5 + 64 ≤ 69 := by omega
  have hPc := hP.sub (ws' := [(q3, .inr (0, [.null, .int 0]))]) [2] rfl
  have hDc := hD.sub (ws' := [(q3, .inr (0, [.null, .int 0]))]) [2] (by decide) rfl
  have hKc := hK.sub (tys' := []) [] rfl
  have hFc := va_free (wc := [(q3, .inr (0, [.null, .int 0]))]) hD hS hA [2] rfl
  refine va_callv (va_runI (As := [.int 64]) (rest := [.ref q3, .ref h0]) ⟨hx, hb, hml, hown, htw⟩ (c_Bytes_init l dC dI H.size q3 64 (by first | omega | assumption)) (cwI 1 htw (tw_inL k_Bytes_init) rfl rfl rfl (htw _ wd_1_2) (htw _ wd_1_122) (htw _ wd_1_56) rfl (by decide +kernel) ⟨Nat.le_of_ble_eq_true rfl, Nat.le_of_ble_eq_true rfl⟩) ⟨fun a U g mk q => by obtain ⟨q0, q1, qP, qK, qD⟩ := q; exact ⟨q0, q1, qP, va_K.moved (u := U) (U := U.calling g mk a) (Vm.Alike.refl U.vm) qK, qD⟩, fun U hU hW => ⟨rfl, by rw [hU], by rw [hU]; exact hPc, va_K.moved hW.alike hKc, hDc.weaken (fun _ _ _ _ => trivial)⟩⟩ rfl rfl hl.1 rfl (lv_room (Nat.le_of_ble_eq_true rfl)) d_Values_init_22 ⟨hc0, hs0⟩) hS (fun q _ h => hFc q h) hFc (fun u t H1 locs ht hvm hw hB hz1 hk1 hS => ?_)
  obtain ⟨qa_5, ca_6, hP1, hK1, hD1⟩ := hB
  rw [ht] at hP1
  have hK1 := va_K.moved hvm.symm hK1
  obtain ⟨hP, hD⟩ := va_join (wr := [(h0, .inr (2, [.ref q1, .null, .int 0])), (q1, .inr (1, [.ref dE, .int 0, .int 0]))]) (w1 := [(q3, .inr (0, [.ref qa_5, .int 0])), (qa_5, .inl (ca_6, 64, .inl (fun _ => 0)))]) hP hD [2] [0, 1] rfl rfl (by decide) (by decide) hk1 hFc hP1 hD1
  have hK := (hK.sub (tys' := []) [] rfl).app hK1
  generalize H1 = H at hP hS ⊢
  have hP : va_P (dC, dI) classes [(h0, .inr (2, [.ref q1, .null, .int 0])), (q1, .inr (1, [.ref dE, .int 0, .int 0])), (q3, .inr (0, [.ref qa_5, .int 0])), (qa_5, .inl (ca_6, 64, .inl (fun _ => 0)))] H := hP
  have hD : va_D A [(h0, .inr (2, [.ref q1, .null, .int 0])), (q1, .inr (1, [.ref dE, .int 0, .int 0])), (q3, .inr (0, [.ref qa_5, .int 0])), (qa_5, .inl (ca_6, 64, .inl (fun _ => 0)))] := hD
  have hK : va_K (dC, dI) classes [(ca_6, .byte)] s := hK
  refine va_putF (D := (dC, dI)) (ci := 2) (v := .ref q3) (ty := .object "SyntaxForge$Bytes") (C := R_Values) (T := F_Values) (N := 3) hx hb htw i_Values t_Values t_Values_ok n_Values hown hK hP hD hS 0 rfl rfl 1 (by decide) (htw _ wd_1_126) (fun _ h9 => h9) rfl hin rfl (by decide +kernel) rfl rfl (Nat.le_of_ble_eq_true rfl) d_Values_init_25 (fun H locs hP hD hS => ?_)
  have hP : va_P (dC, dI) classes [(h0, .inr (2, [.ref q1, .ref q3, .int 0])), (q1, .inr (1, [.ref dE, .int 0, .int 0])), (q3, .inr (0, [.ref qa_5, .int 0])), (qa_5, .inl (ca_6, 64, .inl (fun _ => 0)))] H := hP
  have hD : va_D A [(h0, .inr (2, [.ref q1, .ref q3, .int 0])), (q1, .inr (1, [.ref dE, .int 0, .int 0])), (q3, .inr (0, [.ref qa_5, .int 0])), (qa_5, .inl (ca_6, 64, .inl (fun _ => 0)))] := hD
  refine lv_aload_n hx hb d_Values_init_28 rfl (lv_at hl 0 rfl) ?_
  refine lv_iconst (v := 0) hx hb d_Values_init_29 (by decide) ?_
  refine va_put (D := (dC, dI)) (ci := 2) (v := .int 0) (ty := .int) (C := R_Values) (T := F_Values) (N := 3) hx hb htw i_Values t_Values t_Values_ok n_Values hown hK hP hD hS 0 rfl rfl 2 (by decide) (htw _ wd_1_132) (fun _ h9 => h9) rfl (by decide +kernel) rfl rfl (Nat.le_of_ble_eq_true rfl) d_Values_init_30 (fun H locs hP hD hS => ?_)
  have hP : va_P (dC, dI) classes [(h0, .inr (2, [.ref q1, .ref q3, .int 0])), (q1, .inr (1, [.ref dE, .int 0, .int 0])), (q3, .inr (0, [.ref qa_5, .int 0])), (qa_5, .inl (ca_6, 64, .inl (fun _ => 0)))] H := hP
  have hD : va_D A [(h0, .inr (2, [.ref q1, .ref q3, .int 0])), (q1, .inr (1, [.ref dE, .int 0, .int 0])), (q3, .inr (0, [.ref qa_5, .int 0])), (qa_5, .inl (ca_6, 64, .inl (fun _ => 0)))] := hD
  have hP9 := hP.sub (ws' := [(h0, .inr (2, [.ref q1, .ref q3, .int 0])), (q1, .inr (1, [.ref dE, .int 0, .int 0])), (q3, .inr (0, [.ref qa_5, .int 0])), (qa_5, .inl (ca_6, 64, .inl (fun _ => 0)))]) [0, 1, 2, 3] rfl
  have hD9 := hD.sub (ws' := [(h0, .inr (2, [.ref q1, .ref q3, .int 0])), (q1, .inr (1, [.ref dE, .int 0, .int 0])), (q3, .inr (0, [.ref qa_5, .int 0])), (qa_5, .inl (ca_6, 64, .inl (fun _ => 0)))]) [0, 1, 2, 3] (by decide) rfl
  have hK9 := hK.sub (tys' := [(ca_6, .byte)]) [0] rfl
  refine W.widen (k := 3) (n := 69) (by omega) (by omega) ?_
  exact W.vret hx hb hr (fun t ht hW => ⟨⟨(), rfl, trivial, q1, q3, qa_5, ca_6, by rw [ht]; exact hP9, va_K.moved hW.alike hK9, hD9⟩, hS.F ht⟩) hS.2.2 d_Values_init_33
set_option maxHeartbeats 4000000 in
set_option maxRecDepth 100000 in
theorem c_Der_init (l : Launch) (dC : Nat → ClassId) (dI : Nat → Nat → Nat) (sz : Nat) (h0 : Nat) : Met l y_Der_init ws_Der_init ({ frames := 1, cells := 3, slots := 48, locals := 12 }) (va_Pc [.ref h0] (fun U => U.heap.size = sz ∧ va_P (dC, dI) classes [(h0, .inr (6, [.null, .null, .null]))] U.heap ∧ va_K (dC, dI) classes [] U ∧ va_D (fun _ => True) [(h0, .inr (6, [.null, .null, .null]))] ∧ va_AO "SyntaxForge$Value" U)) (va_Qv (fun _ : Unit => True) (fun _ t => ∃ (d1 : Nat) (d2 : Nat) (d3 : Nat), va_P (dC, dI) classes [(h0, .inr (6, [.ref d1, .ref d2, .ref d3]))] t.heap ∧ va_K (dC, dI) classes [] t ∧ va_D (va_A [(h0, .inr (6, [.null, .null, .null]))] sz) [(h0, .inr (6, [.ref d1, .ref d2, .ref d3]))]) (va_A [(h0, .inr (6, [.null, .null, .null]))] sz)) 3 48 (va_A [(h0, .inr (6, [.null, .null, .null]))] sz) := by
  refine Met.ofW (cc := b_Der_init) (maxL := 1) (ret := none) (by decide) rfl ?_
  intro p e s m args below meth c s₁ B hml hv
  obtain ⟨rfl, hsz, hP, hK, hD0, hx0⟩ := hv
  have hx := B.exec
  have hb := B.bytes
  have hr := B.returns
  have hts := atoms_spec (ws := ws_Der_init) B.pre
  have htw : ∀ w ∈ tw_tbl, w.before [.ref h0].toArray s = true := fun w h => hts w (List.mem_cons_of_mem _ h)
  have hown : s.vm.findClass R_Der = some m.cls := findClass_of_methodNamed B.named
  have hlocks := B.notSynchronized
  have hin : meth.name = "<init>" := (name_of_methodNamed B.named B.method).1
  subst hsz
  have hD := hD0.self (sz := s.heap.size)
  generalize hAe : va_A [(h0, .inr (6, [.null, .null, .null]))] s.heap.size = A at hD hx0 ⊢
  have hA : ∀ q : Nat, s.heap.size ≤ q → A q := fun q h => by rw [← hAe]; exact Or.inr h
  have hS : va_S A s.heap s.heap [] := va_S.rf
  have hP : va_P (dC, dI) classes [(h0, .inr (6, [.null, .null, .null]))] s.heap := hP
  have hl := lv_entry ([.ref h0]) (n := 1) (Nat.le_of_ble_eq_true rfl)
  rw [lg_entry_eq]
  generalize (lg_sl ([.ref h0]) ++ List.replicate (1 - (lg_sl ([.ref h0])).length) Slot.unset).toArray = ls at hl ⊢
  have hl : lv_has ls 1 [(0, .ref h0)] := hl
  refine lv_aload_n hx hb d_Der_init_0 rfl (lv_at hl 0 rfl) ?_
  refine W.objInit hx hb hown (htw _ wd_2_156) (htw _ wd_1_51) (htw _ wd_1_52) rfl (by rw [hml]; exact hl.1) rfl d_Der_init_1 (Nat.le_of_ble_eq_true rfl) (Nat.le_of_ble_eq_true rfl) ?_
  refine W.eq (g2 := F0 m 4 ls []) rfl ?_
  refine lv_aload_n hx hb d_Der_init_4 rfl (lv_at hl 0 rfl) ?_
  refine lv_bipush (v := 16) hx hb d_Der_init_5 (by decide) ?_
  have hc0 : 0 + 1 ≤ 3 := by omega
  have hs0 : 0 + 16 ≤ 48 := by omega
  refine va_newq (C := "SyntaxForge$Value") hx hb hown (htw _ wd_2_157) hx0 hK hP hD hS hA (by decide) (by decide) (by decide) hc0 hs0 d_Der_init_7 (fun q1 cA2 H hK hP hD hS => ?_)
  have hP : va_P (dC, dI) classes [(h0, .inr (6, [.null, .null, .null])), (q1, .inl (cA2, 16, .inr (.inr (.inr (.inr ((fun _ => none)))))))] H := hP
  have hD : va_D A [(h0, .inr (6, [.null, .null, .null])), (q1, .inl (cA2, 16, .inr (.inr (.inr (.inr ((fun _ => none)))))))] := hD
  refine va_put (D := (dC, dI)) (ci := 6) (v := .ref q1) (ty := .array (.object "SyntaxForge$Value")) (C := R_Der) (T := F_Der) (N := 3) hx hb htw i_Der t_Der t_Der_ok n_Der hown hK hP hD hS 0 rfl rfl 0 (by decide) (htw _ wd_2_158) (fun _ h9 => h9) rfl (by decide +kernel) rfl rfl (Nat.le_of_ble_eq_true rfl) d_Der_init_10 (fun H locs hP hD hS => ?_)
  have hP : va_P (dC, dI) classes [(h0, .inr (6, [.ref q1, .null, .null])), (q1, .inl (cA2, 16, .inr (.inr (.inr (.inr ((fun _ => none)))))))] H := hP
  have hD : va_D A [(h0, .inr (6, [.ref q1, .null, .null])), (q1, .inl (cA2, 16, .inr (.inr (.inr (.inr ((fun _ => none)))))))] := hD
  refine lv_aload_n hx hb d_Der_init_13 rfl (lv_at hl 0 rfl) ?_
  refine lv_bipush (v := 16) hx hb d_Der_init_14 (by decide) ?_
  have hc0 : 1 + 1 ≤ 3 := by omega
  have hs0 : 16 + 16 ≤ 48 := by omega
  refine va_newq (C := "SyntaxForge$Value") hx hb hown (htw _ wd_2_157) hx0 hK hP hD hS hA (by decide) (by decide) (by decide) hc0 hs0 d_Der_init_16 (fun q3 cA4 H hK hP hD hS => ?_)
  have hP : va_P (dC, dI) classes [(h0, .inr (6, [.ref q1, .null, .null])), (q1, .inl (cA2, 16, .inr (.inr (.inr (.inr ((fun _ => none))))))), (q3, .inl (cA4, 16, .inr (.inr (.inr (.inr ((fun _ => none)))))))] H := hP
  have hD : va_D A [(h0, .inr (6, [.ref q1, .null, .null])), (q1, .inl (cA2, 16, .inr (.inr (.inr (.inr ((fun _ => none))))))), (q3, .inl (cA4, 16, .inr (.inr (.inr (.inr ((fun _ => none)))))))] := hD
  refine va_put (D := (dC, dI)) (ci := 6) (v := .ref q3) (ty := .array (.object "SyntaxForge$Value")) (C := R_Der) (T := F_Der) (N := 3) hx hb htw i_Der t_Der t_Der_ok n_Der hown hK hP hD hS 0 rfl rfl 1 (by decide) (htw _ wd_2_159) (fun _ h9 => h9) rfl (by decide +kernel) rfl rfl (Nat.le_of_ble_eq_true rfl) d_Der_init_19 (fun H locs hP hD hS => ?_)
  have hP : va_P (dC, dI) classes [(h0, .inr (6, [.ref q1, .ref q3, .null])), (q1, .inl (cA2, 16, .inr (.inr (.inr (.inr ((fun _ => none))))))), (q3, .inl (cA4, 16, .inr (.inr (.inr (.inr ((fun _ => none)))))))] H := hP
  have hD : va_D A [(h0, .inr (6, [.ref q1, .ref q3, .null])), (q1, .inl (cA2, 16, .inr (.inr (.inr (.inr ((fun _ => none))))))), (q3, .inl (cA4, 16, .inr (.inr (.inr (.inr ((fun _ => none)))))))] := hD
  refine lv_aload_n hx hb d_Der_init_22 rfl (lv_at hl 0 rfl) ?_
  refine lv_bipush (v := 16) hx hb d_Der_init_23 (by decide) ?_
  have hc0 : 2 + 1 ≤ 3 := by omega
  have hs0 : 32 + 16 ≤ 48 := by omega
  refine va_newa (atype := .int) (a0 := (16, .inl (fun _ => 0))) hx hb (htw _ wd_2_80) rfl hK hP hD hS hA (fun _ => rfl) (by decide) (by decide) (by decide) hc0 hs0 d_Der_init_25 (fun q5 cA6 H hK hP hD hS => ?_)
  have hP : va_P (dC, dI) classes [(h0, .inr (6, [.ref q1, .ref q3, .null])), (q1, .inl (cA2, 16, .inr (.inr (.inr (.inr ((fun _ => none))))))), (q3, .inl (cA4, 16, .inr (.inr (.inr (.inr ((fun _ => none))))))), (q5, .inl (cA6, 16, .inl ((fun _ => 0))))] H := hP
  have hD : va_D A [(h0, .inr (6, [.ref q1, .ref q3, .null])), (q1, .inl (cA2, 16, .inr (.inr (.inr (.inr ((fun _ => none))))))), (q3, .inl (cA4, 16, .inr (.inr (.inr (.inr ((fun _ => none))))))), (q5, .inl (cA6, 16, .inl ((fun _ => 0))))] := hD
  refine va_put (D := (dC, dI)) (ci := 6) (v := .ref q5) (ty := .array .int) (C := R_Der) (T := F_Der) (N := 3) hx hb htw i_Der t_Der t_Der_ok n_Der hown hK hP hD hS 0 rfl rfl 2 (by decide) (htw _ wd_2_160) (fun _ h9 => h9) rfl (by decide +kernel) rfl rfl (Nat.le_of_ble_eq_true rfl) d_Der_init_27 (fun H locs hP hD hS => ?_)
  have hP : va_P (dC, dI) classes [(h0, .inr (6, [.ref q1, .ref q3, .ref q5])), (q1, .inl (cA2, 16, .inr (.inr (.inr (.inr ((fun _ => none))))))), (q3, .inl (cA4, 16, .inr (.inr (.inr (.inr ((fun _ => none))))))), (q5, .inl (cA6, 16, .inl ((fun _ => 0))))] H := hP
  have hD : va_D A [(h0, .inr (6, [.ref q1, .ref q3, .ref q5])), (q1, .inl (cA2, 16, .inr (.inr (.inr (.inr ((fun _ => none))))))), (q3, .inl (cA4, 16, .inr (.inr (.inr (.inr ((fun _ => none))))))), (q5, .inl (cA6, 16, .inl ((fun _ => 0))))] := hD
  have hP9 := hP.sub (ws' := [(h0, .inr (6, [.ref q1, .ref q3, .ref q5]))]) [0] rfl
  have hD9 := hD.sub (ws' := [(h0, .inr (6, [.ref q1, .ref q3, .ref q5]))]) [0] (by decide) rfl
  have hK9 := hK.sub (tys' := []) [] rfl
  refine W.widen (k := 3) (n := 48) (by omega) (by omega) ?_
  exact W.vret hx hb hr (fun t ht hW => ⟨⟨(), rfl, trivial, q1, q3, q5, by rw [ht]; exact hP9, va_K.moved hW.alike hK9, hD9⟩, hS.F ht⟩) hS.2.2 d_Der_init_30
set_option maxHeartbeats 4000000 in
set_option maxRecDepth 100000 in
theorem c_Ber_init (l : Launch) (dC : Nat → ClassId) (dI : Nat → Nat → Nat) (sz : Nat) (h0 : Nat) (v1 : Nat) (v2 : Nat) : Met l y_Ber_init ws_Ber_init ({ frames := 1, cells := 2, slots := 122, locals := 12 }) (va_Pc [.ref h0, .ref v1, .ref v2] (fun U => U.heap.size = sz ∧ va_P (dC, dI) classes [(h0, .inr (7, [.null, .null, .null, .null, .null, .null, .int 0, .int 0, .long 0, .int 0, .int 0]))] U.heap ∧ va_K (dC, dI) classes [] U ∧ va_D (fun _ => True) [(h0, .inr (7, [.null, .null, .null, .null, .null, .null, .int 0, .int 0, .long 0, .int 0, .int 0]))])) (va_Qv (fun _ : Unit => True) (fun _ t => ∃ (d1 : Nat) (d2 : Nat), va_P (dC, dI) classes [(h0, .inr (7, [.ref v1, .ref v2, .ref d1, .ref d2, .null, .null, .int 0, .int 0, .long 0, .int 0, .int 0]))] t.heap ∧ va_K (dC, dI) classes [] t ∧ va_D (va_A [(h0, .inr (7, [.null, .null, .null, .null, .null, .null, .int 0, .int 0, .long 0, .int 0, .int 0]))] sz) [(h0, .inr (7, [.ref v1, .ref v2, .ref d1, .ref d2, .null, .null, .int 0, .int 0, .long 0, .int 0, .int 0]))]) (va_A [(h0, .inr (7, [.null, .null, .null, .null, .null, .null, .int 0, .int 0, .long 0, .int 0, .int 0]))] sz)) 2 122 (va_A [(h0, .inr (7, [.null, .null, .null, .null, .null, .null, .int 0, .int 0, .long 0, .int 0, .int 0]))] sz) := by
  refine Met.ofW (cc := b_Ber_init) (maxL := 3) (ret := none) (by decide) rfl ?_
  intro p e s m args below meth c s₁ B hml hv
  obtain ⟨rfl, hsz, hP, hK, hD0⟩ := hv
  have hx := B.exec
  have hb := B.bytes
  have hr := B.returns
  have hts := atoms_spec (ws := ws_Ber_init) B.pre
  have htw : ∀ w ∈ tw_tbl, w.before [.ref h0, .ref v1, .ref v2].toArray s = true := fun w h => hts w (List.mem_cons_of_mem _ h)
  have hown : s.vm.findClass R_Ber = some m.cls := findClass_of_methodNamed B.named
  have hlocks := B.notSynchronized
  have hin : meth.name = "<init>" := (name_of_methodNamed B.named B.method).1
  subst hsz
  have hD := hD0.self (sz := s.heap.size)
  generalize hAe : va_A [(h0, .inr (7, [.null, .null, .null, .null, .null, .null, .int 0, .int 0, .long 0, .int 0, .int 0]))] s.heap.size = A at hD ⊢
  have hA : ∀ q : Nat, s.heap.size ≤ q → A q := fun q h => by rw [← hAe]; exact Or.inr h
  have hS : va_S A s.heap s.heap [] := va_S.rf
  have hP : va_P (dC, dI) classes [(h0, .inr (7, [.null, .null, .null, .null, .null, .null, .int 0, .int 0, .long 0, .int 0, .int 0]))] s.heap := hP
  have hl := lv_entry ([.ref h0, .ref v1, .ref v2]) (n := 3) (Nat.le_of_ble_eq_true rfl)
  rw [lg_entry_eq]
  generalize (lg_sl ([.ref h0, .ref v1, .ref v2]) ++ List.replicate (3 - (lg_sl ([.ref h0, .ref v1, .ref v2])).length) Slot.unset).toArray = ls at hl ⊢
  have hl : lv_has ls 3 [(0, .ref h0), (1, .ref v1), (2, .ref v2)] := hl
  refine lv_aload_n hx hb d_Ber_init_0 rfl (lv_at hl 0 rfl) ?_
  refine W.objInit hx hb hown (htw _ wd_2_173) (htw _ wd_1_51) (htw _ wd_1_52) rfl (by rw [hml]; exact hl.1) rfl d_Ber_init_1 (Nat.le_of_ble_eq_true rfl) (Nat.le_of_ble_eq_true rfl) ?_
  refine W.eq (g2 := F0 m 4 ls []) rfl ?_
  refine lv_aload_n hx hb d_Ber_init_4 rfl (lv_at hl 0 rfl) ?_
  refine lv_aload_n hx hb d_Ber_init_5 rfl (lv_at hl 1 rfl) ?_
  refine va_putF (D := (dC, dI)) (ci := 7) (v := .ref v1) (ty := .object "SyntaxForge$Values") (C := R_Ber) (T := F_Ber) (N := 11) hx hb htw i_Ber t_Ber t_Ber_ok n_Ber hown hK hP hD hS 0 rfl rfl 0 (by decide) (htw _ wd_2_174) (fun _ h9 => h9) rfl hin rfl (by decide +kernel) rfl rfl (Nat.le_of_ble_eq_true rfl) d_Ber_init_6 (fun H locs hP hD hS => ?_)
  have hP : va_P (dC, dI) classes [(h0, .inr (7, [.ref v1, .null, .null, .null, .null, .null, .int 0, .int 0, .long 0, .int 0, .int 0]))] H := hP
  have hD : va_D A [(h0, .inr (7, [.ref v1, .null, .null, .null, .null, .null, .int 0, .int 0, .long 0, .int 0, .int 0]))] := hD
  refine lv_aload_n hx hb d_Ber_init_9 rfl (lv_at hl 0 rfl) ?_
  refine lv_aload_n hx hb d_Ber_init_10 rfl (lv_at hl 2 rfl) ?_
  refine va_putF (D := (dC, dI)) (ci := 7) (v := .ref v2) (ty := .object "SyntaxForge$Der") (C := R_Ber) (T := F_Ber) (N := 11) hx hb htw i_Ber t_Ber t_Ber_ok n_Ber hown hK hP hD hS 0 rfl rfl 1 (by decide) (htw _ wd_2_175) (fun _ h9 => h9) rfl hin rfl (by decide +kernel) rfl rfl (Nat.le_of_ble_eq_true rfl) d_Ber_init_11 (fun H locs hP hD hS => ?_)
  have hP : va_P (dC, dI) classes [(h0, .inr (7, [.ref v1, .ref v2, .null, .null, .null, .null, .int 0, .int 0, .long 0, .int 0, .int 0]))] H := hP
  have hD : va_D A [(h0, .inr (7, [.ref v1, .ref v2, .null, .null, .null, .null, .int 0, .int 0, .long 0, .int 0, .int 0]))] := hD
  refine lv_aload_n hx hb d_Ber_init_14 rfl (lv_at hl 0 rfl) ?_
  refine lv_bipush (v := 61) hx hb d_Ber_init_15 (by decide) ?_
  have hc0 : 0 + 1 ≤ 2 := by omega
  have hs0 : 0 + 61 ≤ 122 := by omega
  refine va_newa (atype := .int) (a0 := (61, .inl (fun _ => 0))) hx hb (htw _ wd_2_80) rfl hK hP hD hS hA (fun _ => rfl) (by decide) (by decide) (by decide) hc0 hs0 d_Ber_init_17 (fun q1 cA2 H hK hP hD hS => ?_)
  have hP : va_P (dC, dI) classes [(h0, .inr (7, [.ref v1, .ref v2, .null, .null, .null, .null, .int 0, .int 0, .long 0, .int 0, .int 0])), (q1, .inl (cA2, 61, .inl ((fun _ => 0))))] H := hP
  have hD : va_D A [(h0, .inr (7, [.ref v1, .ref v2, .null, .null, .null, .null, .int 0, .int 0, .long 0, .int 0, .int 0])), (q1, .inl (cA2, 61, .inl ((fun _ => 0))))] := hD
  refine va_putF (D := (dC, dI)) (ci := 7) (v := .ref q1) (ty := .array .int) (C := R_Ber) (T := F_Ber) (N := 11) hx hb htw i_Ber t_Ber t_Ber_ok n_Ber hown hK hP hD hS 0 rfl rfl 2 (by decide) (htw _ wd_2_176) (fun _ h9 => h9) rfl hin rfl (by decide +kernel) rfl rfl (Nat.le_of_ble_eq_true rfl) d_Ber_init_19 (fun H locs hP hD hS => ?_)
  have hP : va_P (dC, dI) classes [(h0, .inr (7, [.ref v1, .ref v2, .ref q1, .null, .null, .null, .int 0, .int 0, .long 0, .int 0, .int 0])), (q1, .inl (cA2, 61, .inl ((fun _ => 0))))] H := hP
  have hD : va_D A [(h0, .inr (7, [.ref v1, .ref v2, .ref q1, .null, .null, .null, .int 0, .int 0, .long 0, .int 0, .int 0])), (q1, .inl (cA2, 61, .inl ((fun _ => 0))))] := hD
  refine lv_aload_n hx hb d_Ber_init_22 rfl (lv_at hl 0 rfl) ?_
  refine lv_bipush (v := 61) hx hb d_Ber_init_23 (by decide) ?_
  have hc0 : 1 + 1 ≤ 2 := by omega
  have hs0 : 61 + 61 ≤ 122 := by omega
  refine va_newa (atype := .int) (a0 := (61, .inl (fun _ => 0))) hx hb (htw _ wd_2_80) rfl hK hP hD hS hA (fun _ => rfl) (by decide) (by decide) (by decide) hc0 hs0 d_Ber_init_25 (fun q3 cA4 H hK hP hD hS => ?_)
  have hP : va_P (dC, dI) classes [(h0, .inr (7, [.ref v1, .ref v2, .ref q1, .null, .null, .null, .int 0, .int 0, .long 0, .int 0, .int 0])), (q1, .inl (cA2, 61, .inl ((fun _ => 0)))), (q3, .inl (cA4, 61, .inl ((fun _ => 0))))] H := hP
  have hD : va_D A [(h0, .inr (7, [.ref v1, .ref v2, .ref q1, .null, .null, .null, .int 0, .int 0, .long 0, .int 0, .int 0])), (q1, .inl (cA2, 61, .inl ((fun _ => 0)))), (q3, .inl (cA4, 61, .inl ((fun _ => 0))))] := hD
  refine va_putF (D := (dC, dI)) (ci := 7) (v := .ref q3) (ty := .array .int) (C := R_Ber) (T := F_Ber) (N := 11) hx hb htw i_Ber t_Ber t_Ber_ok n_Ber hown hK hP hD hS 0 rfl rfl 3 (by decide) (htw _ wd_2_177) (fun _ h9 => h9) rfl hin rfl (by decide +kernel) rfl rfl (Nat.le_of_ble_eq_true rfl) d_Ber_init_27 (fun H locs hP hD hS => ?_)
  have hP : va_P (dC, dI) classes [(h0, .inr (7, [.ref v1, .ref v2, .ref q1, .ref q3, .null, .null, .int 0, .int 0, .long 0, .int 0, .int 0])), (q1, .inl (cA2, 61, .inl ((fun _ => 0)))), (q3, .inl (cA4, 61, .inl ((fun _ => 0))))] H := hP
  have hD : va_D A [(h0, .inr (7, [.ref v1, .ref v2, .ref q1, .ref q3, .null, .null, .int 0, .int 0, .long 0, .int 0, .int 0])), (q1, .inl (cA2, 61, .inl ((fun _ => 0)))), (q3, .inl (cA4, 61, .inl ((fun _ => 0))))] := hD
  have hP9 := hP.sub (ws' := [(h0, .inr (7, [.ref v1, .ref v2, .ref q1, .ref q3, .null, .null, .int 0, .int 0, .long 0, .int 0, .int 0]))]) [0] rfl
  have hD9 := hD.sub (ws' := [(h0, .inr (7, [.ref v1, .ref v2, .ref q1, .ref q3, .null, .null, .int 0, .int 0, .long 0, .int 0, .int 0]))]) [0] (by decide) rfl
  have hK9 := hK.sub (tys' := []) [] rfl
  refine W.widen (k := 2) (n := 122) (by omega) (by omega) ?_
  exact W.vret hx hb hr (fun t ht hW => ⟨⟨(), rfl, trivial, q1, q3, by rw [ht]; exact hP9, va_K.moved hW.alike hK9, hD9⟩, hS.F ht⟩) hS.2.2 d_Ber_init_30
set_option maxHeartbeats 4000000 in
set_option maxRecDepth 100000 in
theorem c_PerW_init (l : Launch) (dC : Nat → ClassId) (dI : Nat → Nat → Nat) (sz : Nat) (h0 : Nat) : Met l y_PerW_init ws_PerW_init ({ frames := 1, cells := 0, slots := 0, locals := 12 }) (va_Pc [.ref h0] (fun U => U.heap.size = sz ∧ va_P (dC, dI) classes [(h0, .inr (8, [.null, .int 0]))] U.heap ∧ va_K (dC, dI) classes [] U ∧ va_D (fun _ => True) [(h0, .inr (8, [.null, .int 0]))])) (va_Qv (fun _ : Unit => True) (fun _ t => va_P (dC, dI) classes [(h0, .inr (8, [.null, .int 0]))] t.heap ∧ va_K (dC, dI) classes [] t ∧ va_D (va_A [(h0, .inr (8, [.null, .int 0]))] sz) [(h0, .inr (8, [.null, .int 0]))]) (va_A [(h0, .inr (8, [.null, .int 0]))] sz)) 0 0 (va_A [(h0, .inr (8, [.null, .int 0]))] sz) := by
  refine Met.ofW (cc := b_PerW_init) (maxL := 1) (ret := none) (by decide) rfl ?_
  intro p e s m args below meth c s₁ B hml hv
  obtain ⟨rfl, hsz, hP, hK, hD0⟩ := hv
  have hx := B.exec
  have hb := B.bytes
  have hr := B.returns
  have hts := atoms_spec (ws := ws_PerW_init) B.pre
  have htw : ∀ w ∈ tw_tbl, w.before [.ref h0].toArray s = true := fun w h => hts w (List.mem_cons_of_mem _ h)
  have hown : s.vm.findClass R_PerW = some m.cls := findClass_of_methodNamed B.named
  have hlocks := B.notSynchronized
  have hin : meth.name = "<init>" := (name_of_methodNamed B.named B.method).1
  subst hsz
  have hD := hD0.self (sz := s.heap.size)
  generalize hAe : va_A [(h0, .inr (8, [.null, .int 0]))] s.heap.size = A at hD ⊢
  have hA : ∀ q : Nat, s.heap.size ≤ q → A q := fun q h => by rw [← hAe]; exact Or.inr h
  have hS : va_S A s.heap s.heap [] := va_S.rf
  have hP : va_P (dC, dI) classes [(h0, .inr (8, [.null, .int 0]))] s.heap := hP
  have hl := lv_entry ([.ref h0]) (n := 1) (Nat.le_of_ble_eq_true rfl)
  rw [lg_entry_eq]
  generalize (lg_sl ([.ref h0]) ++ List.replicate (1 - (lg_sl ([.ref h0])).length) Slot.unset).toArray = ls at hl ⊢
  have hl : lv_has ls 1 [(0, .ref h0)] := hl
  refine lv_aload_n hx hb d_PerW_init_0 rfl (lv_at hl 0 rfl) ?_
  refine W.objInit hx hb hown (htw _ wd_2_213) (htw _ wd_1_51) (htw _ wd_1_52) rfl (by rw [hml]; exact hl.1) rfl d_PerW_init_1 (Nat.le_of_ble_eq_true rfl) (Nat.le_of_ble_eq_true rfl) ?_
  refine W.eq (g2 := F0 m 4 ls []) rfl ?_
  have hP9 := hP.sub (ws' := [(h0, .inr (8, [.null, .int 0]))]) [0] rfl
  have hD9 := hD.sub (ws' := [(h0, .inr (8, [.null, .int 0]))]) [0] (by decide) rfl
  have hK9 := hK.sub (tys' := []) [] rfl
  refine W.widen (k := 0) (n := 0) (by omega) (by omega) ?_
  exact W.vret hx hb hr (fun t ht hW => ⟨⟨(), rfl, trivial, by rw [ht]; exact hP9, va_K.moved hW.alike hK9, hD9⟩, hS.F ht⟩) hS.2.2 d_PerW_init_4
set_option maxHeartbeats 4000000 in
set_option maxRecDepth 100000 in
theorem c_PerR_init (l : Launch) (dC : Nat → ClassId) (dI : Nat → Nat → Nat) (sz : Nat) (h0 : Nat) (v1 : Nat) : Met l y_PerR_init ws_PerR_init ({ frames := 1, cells := 0, slots := 0, locals := 12 }) (va_Pc [.ref h0, .ref v1] (fun U => U.heap.size = sz ∧ va_P (dC, dI) classes [(h0, .inr (9, [.null, .null, .int 0, .int 0, .int 0, .int 0]))] U.heap ∧ va_K (dC, dI) classes [] U ∧ va_D (fun _ => True) [(h0, .inr (9, [.null, .null, .int 0, .int 0, .int 0, .int 0]))])) (va_Qv (fun _ : Unit => True) (fun _ t => va_P (dC, dI) classes [(h0, .inr (9, [.ref v1, .null, .int 0, .int 0, .int 0, .int 0]))] t.heap ∧ va_K (dC, dI) classes [] t ∧ va_D (va_A [(h0, .inr (9, [.null, .null, .int 0, .int 0, .int 0, .int 0]))] sz) [(h0, .inr (9, [.ref v1, .null, .int 0, .int 0, .int 0, .int 0]))]) (va_A [(h0, .inr (9, [.null, .null, .int 0, .int 0, .int 0, .int 0]))] sz)) 0 0 (va_A [(h0, .inr (9, [.null, .null, .int 0, .int 0, .int 0, .int 0]))] sz) := by
  refine Met.ofW (cc := b_PerR_init) (maxL := 2) (ret := none) (by decide) rfl ?_
  intro p e s m args below meth c s₁ B hml hv
  obtain ⟨rfl, hsz, hP, hK, hD0⟩ := hv
  have hx := B.exec
  have hb := B.bytes
  have hr := B.returns
  have hts := atoms_spec (ws := ws_PerR_init) B.pre
  have htw : ∀ w ∈ tw_tbl, w.before [.ref h0, .ref v1].toArray s = true := fun w h => hts w (List.mem_cons_of_mem _ h)
  have hown : s.vm.findClass R_PerR = some m.cls := findClass_of_methodNamed B.named
  have hlocks := B.notSynchronized
  have hin : meth.name = "<init>" := (name_of_methodNamed B.named B.method).1
  subst hsz
  have hD := hD0.self (sz := s.heap.size)
  generalize hAe : va_A [(h0, .inr (9, [.null, .null, .int 0, .int 0, .int 0, .int 0]))] s.heap.size = A at hD ⊢
  have hA : ∀ q : Nat, s.heap.size ≤ q → A q := fun q h => by rw [← hAe]; exact Or.inr h
  have hS : va_S A s.heap s.heap [] := va_S.rf
  have hP : va_P (dC, dI) classes [(h0, .inr (9, [.null, .null, .int 0, .int 0, .int 0, .int 0]))] s.heap := hP
  have hl := lv_entry ([.ref h0, .ref v1]) (n := 2) (Nat.le_of_ble_eq_true rfl)
  rw [lg_entry_eq]
  generalize (lg_sl ([.ref h0, .ref v1]) ++ List.replicate (2 - (lg_sl ([.ref h0, .ref v1])).length) Slot.unset).toArray = ls at hl ⊢
  have hl : lv_has ls 2 [(0, .ref h0), (1, .ref v1)] := hl
  refine lv_aload_n hx hb d_PerR_init_0 rfl (lv_at hl 0 rfl) ?_
  refine W.objInit hx hb hown (htw _ wd_2_226) (htw _ wd_1_51) (htw _ wd_1_52) rfl (by rw [hml]; exact hl.1) rfl d_PerR_init_1 (Nat.le_of_ble_eq_true rfl) (Nat.le_of_ble_eq_true rfl) ?_
  refine W.eq (g2 := F0 m 4 ls []) rfl ?_
  refine lv_aload_n hx hb d_PerR_init_4 rfl (lv_at hl 0 rfl) ?_
  refine lv_aload_n hx hb d_PerR_init_5 rfl (lv_at hl 1 rfl) ?_
  refine va_putF (D := (dC, dI)) (ci := 9) (v := .ref v1) (ty := .object "SyntaxForge$Values") (C := R_PerR) (T := F_PerR) (N := 6) hx hb htw i_PerR t_PerR t_PerR_ok n_PerR hown hK hP hD hS 0 rfl rfl 0 (by decide) (htw _ wd_2_227) (fun _ h9 => h9) rfl hin rfl (by decide +kernel) rfl rfl (Nat.le_of_ble_eq_true rfl) d_PerR_init_6 (fun H locs hP hD hS => ?_)
  have hP : va_P (dC, dI) classes [(h0, .inr (9, [.ref v1, .null, .int 0, .int 0, .int 0, .int 0]))] H := hP
  have hD : va_D A [(h0, .inr (9, [.ref v1, .null, .int 0, .int 0, .int 0, .int 0]))] := hD
  have hP9 := hP.sub (ws' := [(h0, .inr (9, [.ref v1, .null, .int 0, .int 0, .int 0, .int 0]))]) [0] rfl
  have hD9 := hD.sub (ws' := [(h0, .inr (9, [.ref v1, .null, .int 0, .int 0, .int 0, .int 0]))]) [0] (by decide) rfl
  have hK9 := hK.sub (tys' := []) [] rfl
  refine W.widen (k := 0) (n := 0) (by omega) (by omega) ?_
  exact W.vret hx hb hr (fun t ht hW => ⟨⟨(), rfl, trivial, by rw [ht]; exact hP9, va_K.moved hW.alike hK9, hD9⟩, hS.F ht⟩) hS.2.2 d_PerR_init_9
set_option maxHeartbeats 4000000 in
set_option maxRecDepth 100000 in
theorem c_Scanner_init (l : Launch) (dC : Nat → ClassId) (dI : Nat → Nat → Nat) (sz : Nat) (h0 : Nat) : Met l y_Scanner_init ws_Scanner_init ({ frames := 1, cells := 3, slots := 192, locals := 12 }) (va_Pc [.ref h0] (fun U => U.heap.size = sz ∧ va_P (dC, dI) classes [(h0, .inr (4, [.null, .null, .null, .int 0, .int 0, .null, .null, .int 0]))] U.heap ∧ va_K (dC, dI) classes [] U ∧ va_D (fun _ => True) [(h0, .inr (4, [.null, .null, .null, .int 0, .int 0, .null, .null, .int 0]))])) (va_Qv (fun _ : Unit => True) (fun _ t => ∃ (k1 : Nat) (k2 : Nat) (k3 : Nat) (c1 : ClassId) (c2 : ClassId) (c3 : ClassId), va_P (dC, dI) classes [(h0, .inr (4, [.ref k1, .ref k2, .ref k3, .int 0, .int ((-1)), .null, .null, .int 0])), (k1, .inl (c1, 64, .inl ((fun _ => 0)))), (k2, .inl (c2, 64, .inl ((fun _ => 0)))), (k3, .inl (c3, 64, .inr (.inl ((fun _ => 0)))))] t.heap ∧ va_K (dC, dI) classes [(c1, .int), (c2, .int), (c3, .long)] t ∧ va_D (va_A [(h0, .inr (4, [.null, .null, .null, .int 0, .int 0, .null, .null, .int 0]))] sz) [(h0, .inr (4, [.ref k1, .ref k2, .ref k3, .int 0, .int ((-1)), .null, .null, .int 0])), (k1, .inl (c1, 64, .inl ((fun _ => 0)))), (k2, .inl (c2, 64, .inl ((fun _ => 0)))), (k3, .inl (c3, 64, .inr (.inl ((fun _ => 0)))))]) (va_A [(h0, .inr (4, [.null, .null, .null, .int 0, .int 0, .null, .null, .int 0]))] sz)) 3 192 (va_A [(h0, .inr (4, [.null, .null, .null, .int 0, .int 0, .null, .null, .int 0]))] sz) := by
  refine Met.ofW (cc := b_Scanner_init) (maxL := 1) (ret := none) (by decide) rfl ?_
  intro p e s m args below meth c s₁ B hml hv
  obtain ⟨rfl, hsz, hP, hK, hD0⟩ := hv
  have hx := B.exec
  have hb := B.bytes
  have hr := B.returns
  have hts := atoms_spec (ws := ws_Scanner_init) B.pre
  have htw : ∀ w ∈ tw_tbl, w.before [.ref h0].toArray s = true := fun w h => hts w (List.mem_cons_of_mem _ h)
  have hown : s.vm.findClass R_Scanner = some m.cls := findClass_of_methodNamed B.named
  have hlocks := B.notSynchronized
  have hin : meth.name = "<init>" := (name_of_methodNamed B.named B.method).1
  subst hsz
  have hD := hD0.self (sz := s.heap.size)
  generalize hAe : va_A [(h0, .inr (4, [.null, .null, .null, .int 0, .int 0, .null, .null, .int 0]))] s.heap.size = A at hD ⊢
  have hA : ∀ q : Nat, s.heap.size ≤ q → A q := fun q h => by rw [← hAe]; exact Or.inr h
  have hS : va_S A s.heap s.heap [] := va_S.rf
  have hP : va_P (dC, dI) classes [(h0, .inr (4, [.null, .null, .null, .int 0, .int 0, .null, .null, .int 0]))] s.heap := hP
  have hl := lv_entry ([.ref h0]) (n := 1) (Nat.le_of_ble_eq_true rfl)
  rw [lg_entry_eq]
  generalize (lg_sl ([.ref h0]) ++ List.replicate (1 - (lg_sl ([.ref h0])).length) Slot.unset).toArray = ls at hl ⊢
  have hl : lv_has ls 1 [(0, .ref h0)] := hl
  refine lv_aload_n hx hb d_Scanner_init_0 rfl (lv_at hl 0 rfl) ?_
  refine W.objInit hx hb hown (htw _ wd_2_87) (htw _ wd_1_51) (htw _ wd_1_52) rfl (by rw [hml]; exact hl.1) rfl d_Scanner_init_1 (Nat.le_of_ble_eq_true rfl) (Nat.le_of_ble_eq_true rfl) ?_
  refine W.eq (g2 := F0 m 4 ls []) rfl ?_
  refine lv_aload_n hx hb d_Scanner_init_4 rfl (lv_at hl 0 rfl) ?_
  refine lv_bipush (v := 64) hx hb d_Scanner_init_5 (by decide) ?_
  have hc0 : 0 + 1 ≤ 3 := by omega
  have hs0 : 0 + 64 ≤ 192 := by omega
  refine va_newa (atype := .int) (a0 := (64, .inl (fun _ => 0))) hx hb (htw _ wd_2_80) rfl hK hP hD hS hA (fun _ => rfl) (by decide) (by decide) (by decide) hc0 hs0 d_Scanner_init_7 (fun q1 cA2 H hK hP hD hS => ?_)
  have hP : va_P (dC, dI) classes [(h0, .inr (4, [.null, .null, .null, .int 0, .int 0, .null, .null, .int 0])), (q1, .inl (cA2, 64, .inl ((fun _ => 0))))] H := hP
  have hD : va_D A [(h0, .inr (4, [.null, .null, .null, .int 0, .int 0, .null, .null, .int 0])), (q1, .inl (cA2, 64, .inl ((fun _ => 0))))] := hD
  refine va_put (D := (dC, dI)) (ci := 4) (v := .ref q1) (ty := .array .int) (C := R_Scanner) (T := F_Scanner) (N := 8) hx hb htw i_Scanner t_Scanner t_Scanner_ok n_Scanner hown hK hP hD hS 0 rfl rfl 0 (by decide) (htw _ wd_2_88) (fun _ h9 => h9) rfl (by decide +kernel) rfl rfl (Nat.le_of_ble_eq_true rfl) d_Scanner_init_9 (fun H locs hP hD hS => ?_)
  have hP : va_P (dC, dI) classes [(h0, .inr (4, [.ref q1, .null, .null, .int 0, .int 0, .null, .null, .int 0])), (q1, .inl (cA2, 64, .inl ((fun _ => 0))))] H := hP
  have hD : va_D A [(h0, .inr (4, [.ref q1, .null, .null, .int 0, .int 0, .null, .null, .int 0])), (q1, .inl (cA2, 64, .inl ((fun _ => 0))))] := hD
  refine lv_aload_n hx hb d_Scanner_init_12 rfl (lv_at hl 0 rfl) ?_
  refine lv_bipush (v := 64) hx hb d_Scanner_init_13 (by decide) ?_
  have hc0 : 1 + 1 ≤ 3 := by omega
  have hs0 : 64 + 64 ≤ 192 := by omega
  refine va_newa (atype := .int) (a0 := (64, .inl (fun _ => 0))) hx hb (htw _ wd_2_80) rfl hK hP hD hS hA (fun _ => rfl) (by decide) (by decide) (by decide) hc0 hs0 d_Scanner_init_15 (fun q3 cA4 H hK hP hD hS => ?_)
  have hP : va_P (dC, dI) classes [(h0, .inr (4, [.ref q1, .null, .null, .int 0, .int 0, .null, .null, .int 0])), (q1, .inl (cA2, 64, .inl ((fun _ => 0)))), (q3, .inl (cA4, 64, .inl ((fun _ => 0))))] H := hP
  have hD : va_D A [(h0, .inr (4, [.ref q1, .null, .null, .int 0, .int 0, .null, .null, .int 0])), (q1, .inl (cA2, 64, .inl ((fun _ => 0)))), (q3, .inl (cA4, 64, .inl ((fun _ => 0))))] := hD
  refine va_put (D := (dC, dI)) (ci := 4) (v := .ref q3) (ty := .array .int) (C := R_Scanner) (T := F_Scanner) (N := 8) hx hb htw i_Scanner t_Scanner t_Scanner_ok n_Scanner hown hK hP hD hS 0 rfl rfl 1 (by decide) (htw _ wd_2_90) (fun _ h9 => h9) rfl (by decide +kernel) rfl rfl (Nat.le_of_ble_eq_true rfl) d_Scanner_init_17 (fun H locs hP hD hS => ?_)
  have hP : va_P (dC, dI) classes [(h0, .inr (4, [.ref q1, .ref q3, .null, .int 0, .int 0, .null, .null, .int 0])), (q1, .inl (cA2, 64, .inl ((fun _ => 0)))), (q3, .inl (cA4, 64, .inl ((fun _ => 0))))] H := hP
  have hD : va_D A [(h0, .inr (4, [.ref q1, .ref q3, .null, .int 0, .int 0, .null, .null, .int 0])), (q1, .inl (cA2, 64, .inl ((fun _ => 0)))), (q3, .inl (cA4, 64, .inl ((fun _ => 0))))] := hD
  refine lv_aload_n hx hb d_Scanner_init_20 rfl (lv_at hl 0 rfl) ?_
  refine lv_bipush (v := 64) hx hb d_Scanner_init_21 (by decide) ?_
  have hc0 : 2 + 1 ≤ 3 := by omega
  have hs0 : 128 + 64 ≤ 192 := by omega
  refine va_newa (atype := .long) (a0 := (64, .inr (.inl (fun _ => 0)))) hx hb (htw _ wd_2_81) rfl hK hP hD hS hA (fun _ => rfl) (by decide) (by decide) (by decide) hc0 hs0 d_Scanner_init_23 (fun q5 cA6 H hK hP hD hS => ?_)
  have hP : va_P (dC, dI) classes [(h0, .inr (4, [.ref q1, .ref q3, .null, .int 0, .int 0, .null, .null, .int 0])), (q1, .inl (cA2, 64, .inl ((fun _ => 0)))), (q3, .inl (cA4, 64, .inl ((fun _ => 0)))), (q5, .inl (cA6, 64, .inr (.inl ((fun _ => 0)))))] H := hP
  have hD : va_D A [(h0, .inr (4, [.ref q1, .ref q3, .null, .int 0, .int 0, .null, .null, .int 0])), (q1, .inl (cA2, 64, .inl ((fun _ => 0)))), (q3, .inl (cA4, 64, .inl ((fun _ => 0)))), (q5, .inl (cA6, 64, .inr (.inl ((fun _ => 0)))))] := hD
  refine va_put (D := (dC, dI)) (ci := 4) (v := .ref q5) (ty := .array .long) (C := R_Scanner) (T := F_Scanner) (N := 8) hx hb htw i_Scanner t_Scanner t_Scanner_ok n_Scanner hown hK hP hD hS 0 rfl rfl 2 (by decide) (htw _ wd_2_92) (fun _ h9 => h9) rfl (by decide +kernel) rfl rfl (Nat.le_of_ble_eq_true rfl) d_Scanner_init_25 (fun H locs hP hD hS => ?_)
  have hP : va_P (dC, dI) classes [(h0, .inr (4, [.ref q1, .ref q3, .ref q5, .int 0, .int 0, .null, .null, .int 0])), (q1, .inl (cA2, 64, .inl ((fun _ => 0)))), (q3, .inl (cA4, 64, .inl ((fun _ => 0)))), (q5, .inl (cA6, 64, .inr (.inl ((fun _ => 0)))))] H := hP
  have hD : va_D A [(h0, .inr (4, [.ref q1, .ref q3, .ref q5, .int 0, .int 0, .null, .null, .int 0])), (q1, .inl (cA2, 64, .inl ((fun _ => 0)))), (q3, .inl (cA4, 64, .inl ((fun _ => 0)))), (q5, .inl (cA6, 64, .inr (.inl ((fun _ => 0)))))] := hD
  refine lv_aload_n hx hb d_Scanner_init_28 rfl (lv_at hl 0 rfl) ?_
  refine lv_iconst (v := (-1)) hx hb d_Scanner_init_29 (by decide) ?_
  refine va_put (D := (dC, dI)) (ci := 4) (v := .int ((-1))) (ty := .int) (C := R_Scanner) (T := F_Scanner) (N := 8) hx hb htw i_Scanner t_Scanner t_Scanner_ok n_Scanner hown hK hP hD hS 0 rfl rfl 4 (by decide) (htw _ wd_2_96) (fun _ h9 => h9) rfl (by decide +kernel) rfl rfl (Nat.le_of_ble_eq_true rfl) d_Scanner_init_30 (fun H locs hP hD hS => ?_)
  have hP : va_P (dC, dI) classes [(h0, .inr (4, [.ref q1, .ref q3, .ref q5, .int 0, .int ((-1)), .null, .null, .int 0])), (q1, .inl (cA2, 64, .inl ((fun _ => 0)))), (q3, .inl (cA4, 64, .inl ((fun _ => 0)))), (q5, .inl (cA6, 64, .inr (.inl ((fun _ => 0)))))] H := hP
  have hD : va_D A [(h0, .inr (4, [.ref q1, .ref q3, .ref q5, .int 0, .int ((-1)), .null, .null, .int 0])), (q1, .inl (cA2, 64, .inl ((fun _ => 0)))), (q3, .inl (cA4, 64, .inl ((fun _ => 0)))), (q5, .inl (cA6, 64, .inr (.inl ((fun _ => 0)))))] := hD
  have hP9 := hP.sub (ws' := [(h0, .inr (4, [.ref q1, .ref q3, .ref q5, .int 0, .int ((-1)), .null, .null, .int 0])), (q1, .inl (cA2, 64, .inl ((fun _ => 0)))), (q3, .inl (cA4, 64, .inl ((fun _ => 0)))), (q5, .inl (cA6, 64, .inr (.inl ((fun _ => 0)))))]) [0, 1, 2, 3] rfl
  have hD9 := hD.sub (ws' := [(h0, .inr (4, [.ref q1, .ref q3, .ref q5, .int 0, .int ((-1)), .null, .null, .int 0])), (q1, .inl (cA2, 64, .inl ((fun _ => 0)))), (q3, .inl (cA4, 64, .inl ((fun _ => 0)))), (q5, .inl (cA6, 64, .inr (.inl ((fun _ => 0)))))]) [0, 1, 2, 3] (by decide) rfl
  have hK9 := hK.sub (tys' := [(cA2, .int), (cA4, .int), (cA6, .long)]) [0, 1, 2] rfl
  refine W.widen (k := 3) (n := 192) (by omega) (by omega) ?_
  exact W.vret hx hb hr (fun t ht hW => ⟨⟨(), rfl, trivial, q1, q3, q5, cA2, cA4, cA6, by rw [ht]; exact hP9, va_K.moved hW.alike hK9, hD9⟩, hS.F ht⟩) hS.2.2 d_Scanner_init_33
set_option maxHeartbeats 4000000 in
set_option maxRecDepth 100000 in
theorem c_Parser_init (l : Launch) (dC : Nat → ClassId) (dI : Nat → Nat → Nat) (sz : Nat) (h0 : Nat) (v1 : Nat) : Met l y_Parser_init ws_Parser_init ({ frames := 1, cells := 1, slots := 60, locals := 12 }) (va_Pc [.ref h0, .ref v1] (fun U => U.heap.size = sz ∧ va_P (dC, dI) classes [(h0, .inr (5, [.null, .null, .null, .null, .null, .int 0, .int 0]))] U.heap ∧ va_K (dC, dI) classes [] U ∧ va_D (fun _ => True) [(h0, .inr (5, [.null, .null, .null, .null, .null, .int 0, .int 0]))] ∧ va_AO "SyntaxForge$Value" U)) (va_Qv (fun _ : Unit => True) (fun _ t => ∃ (d1 : Nat), va_P (dC, dI) classes [(h0, .inr (5, [.ref v1, .ref d1, .null, .null, .null, .int 0, .int 0]))] t.heap ∧ va_K (dC, dI) classes [] t ∧ va_D (va_A [(h0, .inr (5, [.null, .null, .null, .null, .null, .int 0, .int 0]))] sz) [(h0, .inr (5, [.ref v1, .ref d1, .null, .null, .null, .int 0, .int 0]))]) (va_A [(h0, .inr (5, [.null, .null, .null, .null, .null, .int 0, .int 0]))] sz)) 1 60 (va_A [(h0, .inr (5, [.null, .null, .null, .null, .null, .int 0, .int 0]))] sz) := by
  refine Met.ofW (cc := b_Parser_init) (maxL := 2) (ret := none) (by decide) rfl ?_
  intro p e s m args below meth c s₁ B hml hv
  obtain ⟨rfl, hsz, hP, hK, hD0, hx0⟩ := hv
  have hx := B.exec
  have hb := B.bytes
  have hr := B.returns
  have hts := atoms_spec (ws := ws_Parser_init) B.pre
  have htw : ∀ w ∈ tw_tbl, w.before [.ref h0, .ref v1].toArray s = true := fun w h => hts w (List.mem_cons_of_mem _ h)
  have hown : s.vm.findClass R_Parser = some m.cls := findClass_of_methodNamed B.named
  have hlocks := B.notSynchronized
  have hin : meth.name = "<init>" := (name_of_methodNamed B.named B.method).1
  subst hsz
  have hD := hD0.self (sz := s.heap.size)
  generalize hAe : va_A [(h0, .inr (5, [.null, .null, .null, .null, .null, .int 0, .int 0]))] s.heap.size = A at hD hx0 ⊢
  have hA : ∀ q : Nat, s.heap.size ≤ q → A q := fun q h => by rw [← hAe]; exact Or.inr h
  have hS : va_S A s.heap s.heap [] := va_S.rf
  have hP : va_P (dC, dI) classes [(h0, .inr (5, [.null, .null, .null, .null, .null, .int 0, .int 0]))] s.heap := hP
  have hl := lv_entry ([.ref h0, .ref v1]) (n := 2) (Nat.le_of_ble_eq_true rfl)
  rw [lg_entry_eq]
  generalize (lg_sl ([.ref h0, .ref v1]) ++ List.replicate (2 - (lg_sl ([.ref h0, .ref v1])).length) Slot.unset).toArray = ls at hl ⊢
  have hl : lv_has ls 2 [(0, .ref h0), (1, .ref v1)] := hl
  refine lv_aload_n hx hb d_Parser_init_0 rfl (lv_at hl 0 rfl) ?_
  refine W.objInit hx hb hown (htw _ wd_2_124) (htw _ wd_1_51) (htw _ wd_1_52) rfl (by rw [hml]; exact hl.1) rfl d_Parser_init_1 (Nat.le_of_ble_eq_true rfl) (Nat.le_of_ble_eq_true rfl) ?_
  refine W.eq (g2 := F0 m 4 ls []) rfl ?_
  refine lv_aload_n hx hb d_Parser_init_4 rfl (lv_at hl 0 rfl) ?_
  refine lv_aload_n hx hb d_Parser_init_5 rfl (lv_at hl 1 rfl) ?_
  refine va_putF (D := (dC, dI)) (ci := 5) (v := .ref v1) (ty := .object "SyntaxForge$Scanner") (C := R_Parser) (T := F_Parser) (N := 7) hx hb htw i_Parser t_Parser t_Parser_ok n_Parser hown hK hP hD hS 0 rfl rfl 0 (by decide) (htw _ wd_2_127) (fun _ h9 => h9) rfl hin rfl (by decide +kernel) rfl rfl (Nat.le_of_ble_eq_true rfl) d_Parser_init_6 (fun H locs hP hD hS => ?_)
  have hP : va_P (dC, dI) classes [(h0, .inr (5, [.ref v1, .null, .null, .null, .null, .int 0, .int 0]))] H := hP
  have hD : va_D A [(h0, .inr (5, [.ref v1, .null, .null, .null, .null, .int 0, .int 0]))] := hD
  refine lv_aload_n hx hb d_Parser_init_9 rfl (lv_at hl 0 rfl) ?_
  refine lv_bipush (v := 60) hx hb d_Parser_init_10 (by decide) ?_
  have hc0 : 0 + 1 ≤ 1 := by omega
  have hs0 : 0 + 60 ≤ 60 := by omega
  refine va_newq (C := "SyntaxForge$Value") hx hb hown (htw _ wd_2_125) hx0 hK hP hD hS hA (by decide) (by decide) (by decide) hc0 hs0 d_Parser_init_12 (fun q1 cA2 H hK hP hD hS => ?_)
  have hP : va_P (dC, dI) classes [(h0, .inr (5, [.ref v1, .null, .null, .null, .null, .int 0, .int 0])), (q1, .inl (cA2, 60, .inr (.inr (.inr (.inr ((fun _ => none)))))))] H := hP
  have hD : va_D A [(h0, .inr (5, [.ref v1, .null, .null, .null, .null, .int 0, .int 0])), (q1, .inl (cA2, 60, .inr (.inr (.inr (.inr ((fun _ => none)))))))] := hD
  refine va_putF (D := (dC, dI)) (ci := 5) (v := .ref q1) (ty := .array (.object "SyntaxForge$Value")) (C := R_Parser) (T := F_Parser) (N := 7) hx hb htw i_Parser t_Parser t_Parser_ok n_Parser hown hK hP hD hS 0 rfl rfl 1 (by decide) (htw _ wd_2_128) (fun _ h9 => h9) rfl hin rfl (by decide +kernel) rfl rfl (Nat.le_of_ble_eq_true rfl) d_Parser_init_15 (fun H locs hP hD hS => ?_)
  have hP : va_P (dC, dI) classes [(h0, .inr (5, [.ref v1, .ref q1, .null, .null, .null, .int 0, .int 0])), (q1, .inl (cA2, 60, .inr (.inr (.inr (.inr ((fun _ => none)))))))] H := hP
  have hD : va_D A [(h0, .inr (5, [.ref v1, .ref q1, .null, .null, .null, .int 0, .int 0])), (q1, .inl (cA2, 60, .inr (.inr (.inr (.inr ((fun _ => none)))))))] := hD
  have hP9 := hP.sub (ws' := [(h0, .inr (5, [.ref v1, .ref q1, .null, .null, .null, .int 0, .int 0]))]) [0] rfl
  have hD9 := hD.sub (ws' := [(h0, .inr (5, [.ref v1, .ref q1, .null, .null, .null, .int 0, .int 0]))]) [0] (by decide) rfl
  have hK9 := hK.sub (tys' := []) [] rfl
  refine W.widen (k := 1) (n := 60) (by omega) (by omega) ?_
  exact W.vret hx hb hr (fun t ht hW => ⟨⟨(), rfl, trivial, q1, by rw [ht]; exact hP9, va_K.moved hW.alike hK9, hD9⟩, hS.F ht⟩) hS.2.2 d_Parser_init_18
end
section
/-! by program (wip/p1) -/
theorem wd_1_105 : Cond.sameField "java/util/ArrayList" "java/util/AbstractList" "modCount" "I" ∈ tw_tbl := tw_t1 (List.mem_of_getElem? (i := 105) rfl) rfl
theorem wd_1_104 : Cond.fieldLink "java/util/ArrayList" 63 "java/util/ArrayList" "modCount" "I" ∈ tw_tbl := tw_t1 (List.mem_of_getElem? (i := 104) rfl) rfl
theorem wd_1_102 : Cond.fieldLink "java/util/ArrayList" 48 "java/util/ArrayList" "size" "I" ∈ tw_tbl := tw_t1 (List.mem_of_getElem? (i := 102) rfl) rfl
theorem wd_1_66 : Cond.fieldLink "SyntaxForge$Values" 31 "SyntaxForge$Bytes" "length" "I" ∈ tw_tbl := tw_t1 (List.mem_of_getElem? (i := 66) rfl) rfl
def y_Bytes_put : MethodName := ⟨"SyntaxForge$Bytes", "put", "(I)V"⟩
abbrev b_Bytes_put : ByteArray := prog_3_method_2_code
abbrev cd_Bytes_put : Cond := .code y_Bytes_put b_Bytes_put 2 none
abbrev ws_Bytes_put : List Cond := cd_Bytes_put :: tw_tbl
theorem k_Bytes_put : cd_Bytes_put ∈ tw_tbl := tw_t1 (List.mem_of_getElem? (i := 199) rfl) rfl
theorem d_Bytes_put_0 : decode b_Bytes_put 0 = .ok (.aload_n 0, 1) := by decide +kernel
theorem d_Bytes_put_1 : decode b_Bytes_put 1 = .ok (.getfield 15, 3) := by decide +kernel
theorem d_Bytes_put_4 : decode b_Bytes_put 4 = .ok (.aload_n 0, 1) := by decide +kernel
theorem d_Bytes_put_5 : decode b_Bytes_put 5 = .ok (.getfield 9, 3) := by decide +kernel
theorem d_Bytes_put_8 : decode b_Bytes_put 8 = .ok (.arraylength, 1) := by decide +kernel
theorem d_Bytes_put_9 : decode b_Bytes_put 9 = .ok (.if_icmp .lt 24, 3) := by decide +kernel
theorem d_Bytes_put_12 : decode b_Bytes_put 12 = .ok (.aload_n 0, 1) := by decide +kernel
theorem d_Bytes_put_13 : decode b_Bytes_put 13 = .ok (.aload_n 0, 1) := by decide +kernel
theorem d_Bytes_put_14 : decode b_Bytes_put 14 = .ok (.getfield 9, 3) := by decide +kernel
theorem d_Bytes_put_17 : decode b_Bytes_put 17 = .ok (.iconst 2, 1) := by decide +kernel
theorem d_Bytes_put_18 : decode b_Bytes_put 18 = .ok (.aload_n 0, 1) := by decide +kernel
theorem d_Bytes_put_19 : decode b_Bytes_put 19 = .ok (.getfield 9, 3) := by decide +kernel
theorem d_Bytes_put_22 : decode b_Bytes_put 22 = .ok (.arraylength, 1) := by decide +kernel
theorem d_Bytes_put_23 : decode b_Bytes_put 23 = .ok (.imul, 1) := by decide +kernel
theorem d_Bytes_put_24 : decode b_Bytes_put 24 = .ok (.bipush 16, 2) := by decide +kernel
theorem d_Bytes_put_26 : decode b_Bytes_put 26 = .ok (.iadd, 1) := by decide +kernel
theorem d_Bytes_put_27 : decode b_Bytes_put 27 = .ok (.invokestatic 19, 3) := by decide +kernel
theorem d_Bytes_put_30 : decode b_Bytes_put 30 = .ok (.putfield 9, 3) := by decide +kernel
theorem d_Bytes_put_33 : decode b_Bytes_put 33 = .ok (.aload_n 0, 1) := by decide +kernel
theorem d_Bytes_put_34 : decode b_Bytes_put 34 = .ok (.getfield 9, 3) := by decide +kernel
theorem d_Bytes_put_37 : decode b_Bytes_put 37 = .ok (.aload_n 0, 1) := by decide +kernel
theorem d_Bytes_put_38 : decode b_Bytes_put 38 = .ok (.getfield 15, 3) := by decide +kernel
theorem d_Bytes_put_41 : decode b_Bytes_put 41 = .ok (.iload_n 1, 1) := by decide +kernel
theorem d_Bytes_put_42 : decode b_Bytes_put 42 = .ok (.i2b, 1) := by decide +kernel
theorem d_Bytes_put_43 : decode b_Bytes_put 43 = .ok (.bastore, 1) := by decide +kernel
theorem d_Bytes_put_44 : decode b_Bytes_put 44 = .ok (.aload_n 0, 1) := by decide +kernel
theorem d_Bytes_put_45 : decode b_Bytes_put 45 = .ok (.dup, 1) := by decide +kernel
theorem d_Bytes_put_46 : decode b_Bytes_put 46 = .ok (.getfield 15, 3) := by decide +kernel
theorem d_Bytes_put_49 : decode b_Bytes_put 49 = .ok (.iconst 1, 1) := by decide +kernel
theorem d_Bytes_put_50 : decode b_Bytes_put 50 = .ok (.iadd, 1) := by decide +kernel
theorem d_Bytes_put_51 : decode b_Bytes_put 51 = .ok (.putfield 15, 3) := by decide +kernel
theorem d_Bytes_put_54 : decode b_Bytes_put 54 = .ok (.return_, 1) := by decide +kernel
def y_Bytes_get : MethodName := ⟨"SyntaxForge$Bytes", "get", "(I)I"⟩
abbrev b_Bytes_get : ByteArray := prog_3_method_6_code
abbrev cd_Bytes_get : Cond := .code y_Bytes_get b_Bytes_get 2 (some .int)
abbrev ws_Bytes_get : List Cond := cd_Bytes_get :: tw_tbl
theorem k_Bytes_get : cd_Bytes_get ∈ tw_tbl := tw_t1 (List.mem_of_getElem? (i := 238) rfl) rfl
theorem d_Bytes_get_0 : decode b_Bytes_get 0 = .ok (.iload_n 1, 1) := by decide +kernel
theorem d_Bytes_get_1 : decode b_Bytes_get 1 = .ok (.ifCond .lt 33, 3) := by decide +kernel
theorem d_Bytes_get_4 : decode b_Bytes_get 4 = .ok (.iload_n 1, 1) := by decide +kernel
theorem d_Bytes_get_5 : decode b_Bytes_get 5 = .ok (.aload_n 0, 1) := by decide +kernel
theorem d_Bytes_get_6 : decode b_Bytes_get 6 = .ok (.getfield 15, 3) := by decide +kernel
theorem d_Bytes_get_9 : decode b_Bytes_get 9 = .ok (.if_icmp .ge 25, 3) := by decide +kernel
theorem d_Bytes_get_12 : decode b_Bytes_get 12 = .ok (.iload_n 1, 1) := by decide +kernel
theorem d_Bytes_get_13 : decode b_Bytes_get 13 = .ok (.aload_n 0, 1) := by decide +kernel
theorem d_Bytes_get_14 : decode b_Bytes_get 14 = .ok (.getfield 9, 3) := by decide +kernel
theorem d_Bytes_get_17 : decode b_Bytes_get 17 = .ok (.arraylength, 1) := by decide +kernel
theorem d_Bytes_get_18 : decode b_Bytes_get 18 = .ok (.if_icmp .ge 16, 3) := by decide +kernel
theorem d_Bytes_get_21 : decode b_Bytes_get 21 = .ok (.aload_n 0, 1) := by decide +kernel
theorem d_Bytes_get_22 : decode b_Bytes_get 22 = .ok (.getfield 9, 3) := by decide +kernel
theorem d_Bytes_get_25 : decode b_Bytes_get 25 = .ok (.iload_n 1, 1) := by decide +kernel
theorem d_Bytes_get_26 : decode b_Bytes_get 26 = .ok (.baload, 1) := by decide +kernel
theorem d_Bytes_get_27 : decode b_Bytes_get 27 = .ok (.sipush 255, 3) := by decide +kernel
theorem d_Bytes_get_30 : decode b_Bytes_get 30 = .ok (.iand, 1) := by decide +kernel
theorem d_Bytes_get_31 : decode b_Bytes_get 31 = .ok (.goto 4, 3) := by decide +kernel
theorem d_Bytes_get_34 : decode b_Bytes_get 34 = .ok (.iconst (-1), 1) := by decide +kernel
theorem d_Bytes_get_35 : decode b_Bytes_get 35 = .ok (.ireturn, 1) := by decide +kernel
def y_AL_clear : MethodName := ⟨"java/util/ArrayList", "clear", "()V"⟩
abbrev b_AL_clear : ByteArray := prog_44_method_40_code
abbrev cd_AL_clear : Cond := .code y_AL_clear b_AL_clear 4 none
abbrev ws_AL_clear : List Cond := cd_AL_clear :: tw_tbl
theorem k_AL_clear : cd_AL_clear ∈ tw_tbl := tw_t1 (List.mem_of_getElem? (i := 223) rfl) rfl
theorem d_AL_clear_0 : decode b_AL_clear 0 = .ok (.aload_n 0, 1) := by decide +kernel
theorem d_AL_clear_1 : decode b_AL_clear 1 = .ok (.dup, 1) := by decide +kernel
theorem d_AL_clear_2 : decode b_AL_clear 2 = .ok (.getfield 63, 3) := by decide +kernel
theorem d_AL_clear_5 : decode b_AL_clear 5 = .ok (.iconst 1, 1) := by decide +kernel
theorem d_AL_clear_6 : decode b_AL_clear 6 = .ok (.iadd, 1) := by decide +kernel
theorem d_AL_clear_7 : decode b_AL_clear 7 = .ok (.putfield 63, 3) := by decide +kernel
theorem d_AL_clear_10 : decode b_AL_clear 10 = .ok (.aload_n 0, 1) := by decide +kernel
theorem d_AL_clear_11 : decode b_AL_clear 11 = .ok (.getfield 9, 3) := by decide +kernel
theorem d_AL_clear_14 : decode b_AL_clear 14 = .ok (.astore_n 1, 1) := by decide +kernel
theorem d_AL_clear_15 : decode b_AL_clear 15 = .ok (.aload_n 0, 1) := by decide +kernel
theorem d_AL_clear_16 : decode b_AL_clear 16 = .ok (.getfield 48, 3) := by decide +kernel
theorem d_AL_clear_19 : decode b_AL_clear 19 = .ok (.istore_n 2, 1) := by decide +kernel
theorem d_AL_clear_20 : decode b_AL_clear 20 = .ok (.aload_n 0, 1) := by decide +kernel
theorem d_AL_clear_21 : decode b_AL_clear 21 = .ok (.iconst 0, 1) := by decide +kernel
theorem d_AL_clear_22 : decode b_AL_clear 22 = .ok (.dup_x1, 1) := by decide +kernel
theorem d_AL_clear_23 : decode b_AL_clear 23 = .ok (.putfield 48, 3) := by decide +kernel
theorem d_AL_clear_26 : decode b_AL_clear 26 = .ok (.istore_n 3, 1) := by decide +kernel
theorem d_AL_clear_27 : decode b_AL_clear 27 = .ok (.iload_n 3, 1) := by decide +kernel
theorem d_AL_clear_28 : decode b_AL_clear 28 = .ok (.iload_n 2, 1) := by decide +kernel
theorem d_AL_clear_29 : decode b_AL_clear 29 = .ok (.if_icmp .ge 13, 3) := by decide +kernel
theorem d_AL_clear_32 : decode b_AL_clear 32 = .ok (.aload_n 1, 1) := by decide +kernel
theorem d_AL_clear_33 : decode b_AL_clear 33 = .ok (.iload_n 3, 1) := by decide +kernel
theorem d_AL_clear_34 : decode b_AL_clear 34 = .ok (.aconst_null, 1) := by decide +kernel
theorem d_AL_clear_35 : decode b_AL_clear 35 = .ok (.aastore, 1) := by decide +kernel
theorem d_AL_clear_36 : decode b_AL_clear 36 = .ok (.iinc 3 1, 3) := by decide +kernel
theorem d_AL_clear_39 : decode b_AL_clear 39 = .ok (.goto (-12), 3) := by decide +kernel
theorem d_AL_clear_42 : decode b_AL_clear 42 = .ok (.return_, 1) := by decide +kernel
def y_Values_clear : MethodName := ⟨"SyntaxForge$Values", "clear", "()V"⟩
abbrev b_Values_clear : ByteArray := prog_13_method_2_code
abbrev cd_Values_clear : Cond := .code y_Values_clear b_Values_clear 1 none
abbrev ws_Values_clear : List Cond := cd_Values_clear :: tw_tbl
theorem k_Values_clear : cd_Values_clear ∈ tw_tbl := tw_t1 (List.mem_of_getElem? (i := 227) rfl) rfl
theorem d_Values_clear_0 : decode b_Values_clear 0 = .ok (.aload_n 0, 1) := by decide +kernel
theorem d_Values_clear_1 : decode b_Values_clear 1 = .ok (.iconst 0, 1) := by decide +kernel
theorem d_Values_clear_2 : decode b_Values_clear 2 = .ok (.putfield 27, 3) := by decide +kernel
theorem d_Values_clear_5 : decode b_Values_clear 5 = .ok (.aload_n 0, 1) := by decide +kernel
theorem d_Values_clear_6 : decode b_Values_clear 6 = .ok (.getfield 23, 3) := by decide +kernel
theorem d_Values_clear_9 : decode b_Values_clear 9 = .ok (.iconst 0, 1) := by decide +kernel
theorem d_Values_clear_10 : decode b_Values_clear 10 = .ok (.putfield 31, 3) := by decide +kernel
theorem d_Values_clear_13 : decode b_Values_clear 13 = .ok (.return_, 1) := by decide +kernel
def y_Arrs_fill : MethodName := ⟨"java/util/Arrays", "fill", "([II)V"⟩
abbrev b_Arrs_fill : ByteArray := prog_45_method_103_code
abbrev cd_Arrs_fill : Cond := .code y_Arrs_fill b_Arrs_fill 4 none
abbrev ws_Arrs_fill : List Cond := cd_Arrs_fill :: tw_tbl
theorem k_Arrs_fill : cd_Arrs_fill ∈ tw_tbl := tw_t1 (List.mem_of_getElem? (i := 234) rfl) rfl
theorem d_Arrs_fill_0 : decode b_Arrs_fill 0 = .ok (.iconst 0, 1) := by decide +kernel
theorem d_Arrs_fill_1 : decode b_Arrs_fill 1 = .ok (.istore_n 2, 1) := by decide +kernel
theorem d_Arrs_fill_2 : decode b_Arrs_fill 2 = .ok (.aload_n 0, 1) := by decide +kernel
theorem d_Arrs_fill_3 : decode b_Arrs_fill 3 = .ok (.arraylength, 1) := by decide +kernel
theorem d_Arrs_fill_4 : decode b_Arrs_fill 4 = .ok (.istore_n 3, 1) := by decide +kernel
theorem d_Arrs_fill_5 : decode b_Arrs_fill 5 = .ok (.iload_n 2, 1) := by decide +kernel
theorem d_Arrs_fill_6 : decode b_Arrs_fill 6 = .ok (.iload_n 3, 1) := by decide +kernel
theorem d_Arrs_fill_7 : decode b_Arrs_fill 7 = .ok (.if_icmp .ge 13, 3) := by decide +kernel
theorem d_Arrs_fill_10 : decode b_Arrs_fill 10 = .ok (.aload_n 0, 1) := by decide +kernel
theorem d_Arrs_fill_11 : decode b_Arrs_fill 11 = .ok (.iload_n 2, 1) := by decide +kernel
theorem d_Arrs_fill_12 : decode b_Arrs_fill 12 = .ok (.iload_n 1, 1) := by decide +kernel
theorem d_Arrs_fill_13 : decode b_Arrs_fill 13 = .ok (.iastore, 1) := by decide +kernel
theorem d_Arrs_fill_14 : decode b_Arrs_fill 14 = .ok (.iinc 2 1, 3) := by decide +kernel
theorem d_Arrs_fill_17 : decode b_Arrs_fill 17 = .ok (.goto (-12), 3) := by decide +kernel
theorem d_Arrs_fill_20 : decode b_Arrs_fill 20 = .ok (.return_, 1) := by decide +kernel
set_option maxHeartbeats 4000000 in
set_option maxRecDepth 100000 in
theorem c_Bytes_put (l : Launch) (dC : Nat → ClassId) (dI : Nat → Nat → Nat) (sz : Nat) (h0 : Nat) (qa : Nat) (ca : ClassId) (n : Nat) (f : Nat → Int32) (k : Nat) (x : Int32) (hk : k < n) (hn : n ≤ 65536) : Met l y_Bytes_put ws_Bytes_put ({ frames := 0, cells := 0, slots := 0, locals := 0 }) (va_Pc [.ref h0, .int x] (fun U => U.heap.size = sz ∧ va_P (dC, dI) classes [(h0, .inr (0, [.ref qa, .int (nI k)])), (qa, .inl (ca, n, .inl f))] U.heap ∧ va_K (dC, dI) classes [(ca, .byte)] U ∧ va_D (fun _ => True) [(h0, .inr (0, [.ref qa, .int (nI k)])), (qa, .inl (ca, n, .inl f))])) (va_Qv (fun _ : Unit => True) (fun _ t => va_P (dC, dI) classes [(h0, .inr (0, [.ref qa, .int (nI (k + 1))])), (qa, .inl (ca, n, .inl (upd f (nI k).toNatClampNeg (vp_nar .byte ((x : Int32).toInt8.toInt32)))))] t.heap ∧ va_K (dC, dI) classes [(ca, .byte)] t ∧ va_D (va_A [(h0, .inr (0, [.ref qa, .int (nI k)])), (qa, .inl (ca, n, .inl f))] sz) [(h0, .inr (0, [.ref qa, .int (nI (k + 1))])), (qa, .inl (ca, n, .inl (upd f (nI k).toNatClampNeg (vp_nar .byte ((x : Int32).toInt8.toInt32)))))]) (va_A [(h0, .inr (0, [.ref qa, .int (nI k)])), (qa, .inl (ca, n, .inl f))] sz)) 0 0 (va_A [(h0, .inr (0, [.ref qa, .int (nI k)])), (qa, .inl (ca, n, .inl f))] sz) := by
  refine Met.ofW (cc := b_Bytes_put) (maxL := 2) (ret := none) (by decide) rfl ?_
  intro p e s m args below meth c s₁ B hml hv
  obtain ⟨rfl, hsz, hP, hK, hD0⟩ := hv
  have hx := B.exec
  have hb := B.bytes
  have hr := B.returns
  have hts := atoms_spec (ws := ws_Bytes_put) B.pre
  have htw : ∀ w ∈ tw_tbl, w.before [.ref h0, .int x].toArray s = true := fun w h => hts w (List.mem_cons_of_mem _ h)
  have hown : s.vm.findClass R_Bytes = some m.cls := findClass_of_methodNamed B.named
  have hlocks := B.notSynchronized
  have hin : meth.name = "put" := (name_of_methodNamed B.named B.method).1
  subst hsz
  have hD := hD0.self (sz := s.heap.size)
  generalize hAe : va_A [(h0, .inr (0, [.ref qa, .int (nI k)])), (qa, .inl (ca, n, .inl f))] s.heap.size = A at hD ⊢
  have hA : ∀ q : Nat, s.heap.size ≤ q → A q := fun q h => by rw [← hAe]; exact Or.inr h
  have hS : va_S A s.heap s.heap [] := va_S.rf
  have hP : va_P (dC, dI) classes [(h0, .inr (0, [.ref qa, .int (nI k)])), (qa, .inl (ca, n, .inl f))] s.heap := hP
  have hl := lv_entry ([.ref h0, .int x]) (n := 2) (Nat.le_of_ble_eq_true rfl)
  rw [lg_entry_eq]
  generalize (lg_sl ([.ref h0, .int x]) ++ List.replicate (2 - (lg_sl ([.ref h0, .int x])).length) Slot.unset).toArray = ls at hl ⊢
  have hl : lv_has ls 2 [(0, .ref h0), (1, .int x)] := hl
  refine lv_aload_n hx hb d_Bytes_put_0 rfl (lv_at hl 0 rfl) ?_
  refine va_get (D := (dC, dI)) (ci := 0) (v := .int (nI k)) (C := R_Bytes) (T := F_Bytes) (N := 2) hx hb htw i_Bytes hown hK hP 0 rfl rfl 1 (by decide) (htw _ wd_1_64) (fun _ h9 => h9) rfl d_Bytes_put_1 ?_
  refine lv_aload_n hx hb d_Bytes_put_4 rfl (lv_at hl 0 rfl) ?_
  refine va_get (D := (dC, dI)) (ci := 0) (v := .ref qa) (C := R_Bytes) (T := F_Bytes) (N := 2) hx hb htw i_Bytes hown hK hP 0 rfl rfl 0 (by decide) (htw _ wd_1_59) (fun _ h9 => h9) rfl d_Bytes_put_5 ?_
  refine va_alen (v := nI n) hx hb hK hP 1 0 rfl rfl rfl d_Bytes_put_8 ?_
  refine lv_icmp_lt (tgt := 33) hx hb d_Bytes_put_9 rfl (fun _ => ?_) (fun hn => absurd ((nI_ltI (by omega) (by omega)).mpr hk) hn)
  refine lv_aload_n hx hb d_Bytes_put_33 rfl (lv_at hl 0 rfl) ?_
  refine va_get (D := (dC, dI)) (ci := 0) (v := .ref qa) (C := R_Bytes) (T := F_Bytes) (N := 2) hx hb htw i_Bytes hown hK hP 0 rfl rfl 0 (by decide) (htw _ wd_1_59) (fun _ h9 => h9) rfl d_Bytes_put_34 ?_
  refine lv_aload_n hx hb d_Bytes_put_37 rfl (lv_at hl 0 rfl) ?_
  refine va_get (D := (dC, dI)) (ci := 0) (v := .int (nI k)) (C := R_Bytes) (T := F_Bytes) (N := 2) hx hb htw i_Bytes hown hK hP 0 rfl rfl 1 (by decide) (htw _ wd_1_64) (fun _ h9 => h9) rfl d_Bytes_put_38 ?_
  refine lv_iload_n hx hb d_Bytes_put_41 rfl (lv_at hl 1 rfl) ?_
  refine lv_i2b hx hb d_Bytes_put_42 rfl ?_
  refine va_bast hx hb hK hP hD hS 1 0 rfl rfl (vp_in_nI hk (by omega)) d_Bytes_put_43 (fun H locs hP hD hS => ?_)
  have hP : va_P (dC, dI) classes [(h0, .inr (0, [.ref qa, .int (nI k)])), (qa, .inl (ca, n, .inl (upd f (nI k).toNatClampNeg (vp_nar .byte ((x : Int32).toInt8.toInt32)))))] H := hP
  have hD : va_D A [(h0, .inr (0, [.ref qa, .int (nI k)])), (qa, .inl (ca, n, .inl (upd f (nI k).toNatClampNeg (vp_nar .byte ((x : Int32).toInt8.toInt32)))))] := hD
  refine lv_aload_n hx hb d_Bytes_put_44 rfl (lv_at hl 0 rfl) ?_
  refine lv_dup hx hb d_Bytes_put_45 rfl ?_
  refine va_get (D := (dC, dI)) (ci := 0) (v := .int (nI k)) (C := R_Bytes) (T := F_Bytes) (N := 2) hx hb htw i_Bytes hown hK hP 0 rfl rfl 1 (by decide) (htw _ wd_1_64) (fun _ h9 => h9) rfl d_Bytes_put_46 ?_
  refine lv_iconst (v := 1) hx hb d_Bytes_put_49 (by decide) ?_
  refine lv_iadd hx hb d_Bytes_put_50 ?_
  refine lv_topi (fun z9 e9 => ?_)
  have e9 : z9 = nI (k + 1) := e9.trans (nI_1 k)
  subst e9
  refine va_put (D := (dC, dI)) (ci := 0) (v := .int (nI (k + 1))) (ty := .int) (C := R_Bytes) (T := F_Bytes) (N := 2) hx hb htw i_Bytes t_Bytes t_Bytes_ok n_Bytes hown hK hP hD hS 0 rfl rfl 1 (by decide) (htw _ wd_1_64) (fun _ h9 => h9) rfl (by decide +kernel) rfl rfl (Nat.le_of_ble_eq_true rfl) d_Bytes_put_51 (fun H locs hP hD hS => ?_)
  have hP : va_P (dC, dI) classes [(h0, .inr (0, [.ref qa, .int (nI (k + 1))])), (qa, .inl (ca, n, .inl (upd f (nI k).toNatClampNeg (vp_nar .byte ((x : Int32).toInt8.toInt32)))))] H := hP
  have hD : va_D A [(h0, .inr (0, [.ref qa, .int (nI (k + 1))])), (qa, .inl (ca, n, .inl (upd f (nI k).toNatClampNeg (vp_nar .byte ((x : Int32).toInt8.toInt32)))))] := hD
  have hP9 := hP.sub (ws' := [(h0, .inr (0, [.ref qa, .int (nI (k + 1))])), (qa, .inl (ca, n, .inl (upd f (nI k).toNatClampNeg (vp_nar .byte ((x : Int32).toInt8.toInt32)))))]) [0, 1] rfl
  have hD9 := hD.sub (ws' := [(h0, .inr (0, [.ref qa, .int (nI (k + 1))])), (qa, .inl (ca, n, .inl (upd f (nI k).toNatClampNeg (vp_nar .byte ((x : Int32).toInt8.toInt32)))))]) [0, 1] (by decide) rfl
  have hK9 := hK.sub (tys' := [(ca, .byte)]) [0] rfl
  refine W.widen (k := 0) (n := 0) (by omega) (by omega) ?_
  exact W.vret hx hb hr (fun t ht hW => ⟨⟨(), rfl, trivial, by rw [ht]; exact hP9, va_K.moved hW.alike hK9, hD9⟩, hS.F ht⟩) hS.2.2 d_Bytes_put_54
set_option maxHeartbeats 4000000 in
set_option maxRecDepth 100000 in
theorem c_Bytes_get (l : Launch) (dC : Nat → ClassId) (dI : Nat → Nat → Nat) (sz : Nat) (h0 : Nat) (qa : Nat) (ca : ClassId) (n : Nat) (f : Nat → Int32) (k : Int32) (i : Int32) (hn : n ≤ 65536) : Met l y_Bytes_get ws_Bytes_get ({ frames := 0, cells := 0, slots := 0, locals := 0 }) (va_Pc [.ref h0, .int i] (fun U => U.heap.size = sz ∧ va_P (dC, dI) classes [(h0, .inr (0, [.ref qa, .int k])), (qa, .inl (ca, n, .inl f))] U.heap ∧ va_K (dC, dI) classes [(ca, .byte)] U ∧ va_D (fun _ => True) [(h0, .inr (0, [.ref qa, .int k])), (qa, .inl (ca, n, .inl f))])) (va_Qi (fun (r : Int32) (_ : Unit) => r = tz_gb n f k i) (fun _ t => va_P (dC, dI) classes [(h0, .inr (0, [.ref qa, .int k])), (qa, .inl (ca, n, .inl f))] t.heap ∧ va_K (dC, dI) classes [(ca, .byte)] t ∧ va_D (va_A [(h0, .inr (0, [.ref qa, .int k])), (qa, .inl (ca, n, .inl f))] sz) [(h0, .inr (0, [.ref qa, .int k])), (qa, .inl (ca, n, .inl f))]) (va_A [(h0, .inr (0, [.ref qa, .int k])), (qa, .inl (ca, n, .inl f))] sz)) 0 0 (va_A [(h0, .inr (0, [.ref qa, .int k])), (qa, .inl (ca, n, .inl f))] sz) := by
  refine Met.ofW (cc := b_Bytes_get) (maxL := 2) (ret := (some .int)) (by decide) rfl ?_
  intro p e s m args below meth c s₁ B hml hv
  obtain ⟨rfl, hsz, hP, hK, hD0⟩ := hv
  have hx := B.exec
  have hb := B.bytes
  have hr := B.returns
  have hts := atoms_spec (ws := ws_Bytes_get) B.pre
  have htw : ∀ w ∈ tw_tbl, w.before [.ref h0, .int i].toArray s = true := fun w h => hts w (List.mem_cons_of_mem _ h)
  have hown : s.vm.findClass R_Bytes = some m.cls := findClass_of_methodNamed B.named
  have hlocks := B.notSynchronized
  have hin : meth.name = "get" := (name_of_methodNamed B.named B.method).1
  subst hsz
  have hD := hD0.self (sz := s.heap.size)
  generalize hAe : va_A [(h0, .inr (0, [.ref qa, .int k])), (qa, .inl (ca, n, .inl f))] s.heap.size = A at hD ⊢
  have hA : ∀ q : Nat, s.heap.size ≤ q → A q := fun q h => by rw [← hAe]; exact Or.inr h
  have hS : va_S A s.heap s.heap [] := va_S.rf
  have hP : va_P (dC, dI) classes [(h0, .inr (0, [.ref qa, .int k])), (qa, .inl (ca, n, .inl f))] s.heap := hP
  have hl := lv_entry ([.ref h0, .int i]) (n := 2) (Nat.le_of_ble_eq_true rfl)
  rw [lg_entry_eq]
  generalize (lg_sl ([.ref h0, .int i]) ++ List.replicate (2 - (lg_sl ([.ref h0, .int i])).length) Slot.unset).toArray = ls at hl ⊢
  have hl : lv_has ls 2 [(0, .ref h0), (1, .int i)] := hl
  refine lv_iload_n hx hb d_Bytes_get_0 rfl (lv_at hl 1 rfl) ?_
  refine lv_if_lt (tgt := 34) hx hb d_Bytes_get_1 rfl (fun h1 => ?_) (fun h1 => ?_)
  · refine lv_iconst (v := (-1)) hx hb d_Bytes_get_34 (by decide) ?_
    have hP9 := hP.sub (ws' := [(h0, .inr (0, [.ref qa, .int k])), (qa, .inl (ca, n, .inl f))]) [0, 1] rfl
    have hD9 := hD.sub (ws' := [(h0, .inr (0, [.ref qa, .int k])), (qa, .inl (ca, n, .inl f))]) [0, 1] (by decide) rfl
    have hK9 := hK.sub (tys' := [(ca, .byte)]) [0] rfl
    refine W.widen (k := 0) (n := 0) (by omega) (by omega) ?_
    exact W.iret (v := (-1)) hx hb hr (fun t ht hW => ⟨⟨(-1), (), rfl, (if_neg (fun q => q.1 h1)).symm, by rw [ht]; exact hP9, va_K.moved hW.alike hK9, hD9⟩, hS.F ht⟩) hS.2.2 d_Bytes_get_35
  · refine lv_iload_n hx hb d_Bytes_get_4 rfl (lv_at hl 1 rfl) ?_
    refine lv_aload_n hx hb d_Bytes_get_5 rfl (lv_at hl 0 rfl) ?_
    refine va_get (D := (dC, dI)) (ci := 0) (v := .int k) (C := R_Bytes) (T := F_Bytes) (N := 2) hx hb htw i_Bytes hown hK hP 0 rfl rfl 1 (by decide) (htw _ wd_1_64) (fun _ h9 => h9) rfl d_Bytes_get_6 ?_
    refine lv_icmp_ge (tgt := 34) hx hb d_Bytes_get_9 rfl (fun h2 => ?_) (fun h2 => ?_)
    · refine lv_iconst (v := (-1)) hx hb d_Bytes_get_34 (by decide) ?_
      have hP9 := hP.sub (ws' := [(h0, .inr (0, [.ref qa, .int k])), (qa, .inl (ca, n, .inl f))]) [0, 1] rfl
      have hD9 := hD.sub (ws' := [(h0, .inr (0, [.ref qa, .int k])), (qa, .inl (ca, n, .inl f))]) [0, 1] (by decide) rfl
      have hK9 := hK.sub (tys' := [(ca, .byte)]) [0] rfl
      refine W.widen (k := 0) (n := 0) (by omega) (by omega) ?_
      exact W.iret (v := (-1)) hx hb hr (fun t ht hW => ⟨⟨(-1), (), rfl, (if_neg (fun q => q.2.1 h2)).symm, by rw [ht]; exact hP9, va_K.moved hW.alike hK9, hD9⟩, hS.F ht⟩) hS.2.2 d_Bytes_get_35
    · refine lv_iload_n hx hb d_Bytes_get_12 rfl (lv_at hl 1 rfl) ?_
      refine lv_aload_n hx hb d_Bytes_get_13 rfl (lv_at hl 0 rfl) ?_
      refine va_get (D := (dC, dI)) (ci := 0) (v := .ref qa) (C := R_Bytes) (T := F_Bytes) (N := 2) hx hb htw i_Bytes hown hK hP 0 rfl rfl 0 (by decide) (htw _ wd_1_59) (fun _ h9 => h9) rfl d_Bytes_get_14 ?_
      refine va_alen (v := nI n) hx hb hK hP 1 0 rfl rfl rfl d_Bytes_get_17 ?_
      refine lv_icmp_ge (tgt := 34) hx hb d_Bytes_get_18 rfl (fun h3 => ?_) (fun h3 => ?_)
      · refine lv_iconst (v := (-1)) hx hb d_Bytes_get_34 (by decide) ?_
        have hP9 := hP.sub (ws' := [(h0, .inr (0, [.ref qa, .int k])), (qa, .inl (ca, n, .inl f))]) [0, 1] rfl
        have hD9 := hD.sub (ws' := [(h0, .inr (0, [.ref qa, .int k])), (qa, .inl (ca, n, .inl f))]) [0, 1] (by decide) rfl
        have hK9 := hK.sub (tys' := [(ca, .byte)]) [0] rfl
        refine W.widen (k := 0) (n := 0) (by omega) (by omega) ?_
        exact W.iret (v := (-1)) hx hb hr (fun t ht hW => ⟨⟨(-1), (), rfl, (if_neg (fun q => q.2.2 h3)).symm, by rw [ht]; exact hP9, va_K.moved hW.alike hK9, hD9⟩, hS.F ht⟩) hS.2.2 d_Bytes_get_35
      · refine lv_aload_n hx hb d_Bytes_get_21 rfl (lv_at hl 0 rfl) ?_
        refine va_get (D := (dC, dI)) (ci := 0) (v := .ref qa) (C := R_Bytes) (T := F_Bytes) (N := 2) hx hb htw i_Bytes hown hK hP 0 rfl rfl 0 (by decide) (htw _ wd_1_59) (fun _ h9 => h9) rfl d_Bytes_get_22 ?_
        refine lv_iload_n hx hb d_Bytes_get_25 rfl (lv_at hl 1 rfl) ?_
        refine va_bald hx hb hK hP 1 0 rfl rfl (tz_in h1 h3 (by omega)) d_Bytes_get_26 ?_
        refine lv_sipush (v := 255) hx hb d_Bytes_get_27 (by decide) ?_
        refine lv_iand hx hb d_Bytes_get_30 ?_
        refine lv_goto (tgt := 35) hx hb d_Bytes_get_31 rfl ?_
        have hP9 := hP.sub (ws' := [(h0, .inr (0, [.ref qa, .int k])), (qa, .inl (ca, n, .inl f))]) [0, 1] rfl
        have hD9 := hD.sub (ws' := [(h0, .inr (0, [.ref qa, .int k])), (qa, .inl (ca, n, .inl f))]) [0, 1] (by decide) rfl
        have hK9 := hK.sub (tys' := [(ca, .byte)]) [0] rfl
        refine W.widen (k := 0) (n := 0) (by omega) (by omega) ?_
        exact W.iret (v := (f (i).toNatClampNeg) &&& 255) hx hb hr (fun t ht hW => ⟨⟨(f (i).toNatClampNeg) &&& 255, (), rfl, (if_pos ⟨h1, h2, h3⟩).symm, by rw [ht]; exact hP9, va_K.moved hW.alike hK9, hD9⟩, hS.F ht⟩) hS.2.2 d_Bytes_get_35
set_option maxHeartbeats 4000000 in
set_option maxRecDepth 100000 in
theorem c_AL_clear (l : Launch) (dC : Nat → ClassId) (dI : Nat → Nat → Nat) (sz : Nat) (h0 : Nat) (dE : Nat) (mo : Int32) : Met l y_AL_clear ws_AL_clear ({ frames := 0, cells := 0, slots := 0, locals := 0 }) (va_Pc [.ref h0] (fun U => U.heap.size = sz ∧ va_P (dC, dI) classes [(h0, .inr (1, [.ref dE, .int 0, .int mo]))] U.heap ∧ va_K (dC, dI) classes [] U ∧ va_D (fun _ => True) [(h0, .inr (1, [.ref dE, .int 0, .int mo]))])) (va_Qv (fun _ : Unit => True) (fun _ t => va_P (dC, dI) classes [(h0, .inr (1, [.ref dE, .int 0, .int (mo + 1)]))] t.heap ∧ va_K (dC, dI) classes [] t ∧ va_D (va_A [(h0, .inr (1, [.ref dE, .int 0, .int mo]))] sz) [(h0, .inr (1, [.ref dE, .int 0, .int (mo + 1)]))]) (va_A [(h0, .inr (1, [.ref dE, .int 0, .int mo]))] sz)) 0 0 (va_A [(h0, .inr (1, [.ref dE, .int 0, .int mo]))] sz) := by
  refine Met.ofW (cc := b_AL_clear) (maxL := 4) (ret := none) (by decide) rfl ?_
  intro p e s m args below meth c s₁ B hml hv
  obtain ⟨rfl, hsz, hP, hK, hD0⟩ := hv
  have hx := B.exec
  have hb := B.bytes
  have hr := B.returns
  have hts := atoms_spec (ws := ws_AL_clear) B.pre
  have htw : ∀ w ∈ tw_tbl, w.before [.ref h0].toArray s = true := fun w h => hts w (List.mem_cons_of_mem _ h)
  have hown : s.vm.findClass R_AL = some m.cls := findClass_of_methodNamed B.named
  have hlocks := B.notSynchronized
  have hin : meth.name = "clear" := (name_of_methodNamed B.named B.method).1
  subst hsz
  have hD := hD0.self (sz := s.heap.size)
  generalize hAe : va_A [(h0, .inr (1, [.ref dE, .int 0, .int mo]))] s.heap.size = A at hD ⊢
  have hA : ∀ q : Nat, s.heap.size ≤ q → A q := fun q h => by rw [← hAe]; exact Or.inr h
  have hS : va_S A s.heap s.heap [] := va_S.rf
  have hP : va_P (dC, dI) classes [(h0, .inr (1, [.ref dE, .int 0, .int mo]))] s.heap := hP
  have hl := lv_entry ([.ref h0]) (n := 4) (Nat.le_of_ble_eq_true rfl)
  rw [lg_entry_eq]
  generalize (lg_sl ([.ref h0]) ++ List.replicate (4 - (lg_sl ([.ref h0])).length) Slot.unset).toArray = ls at hl ⊢
  have hl : lv_has ls 4 [(0, .ref h0)] := hl
  refine lv_aload_n hx hb d_AL_clear_0 rfl (lv_at hl 0 rfl) ?_
  refine lv_dup hx hb d_AL_clear_1 rfl ?_
  refine va_get (D := (dC, dI)) (ci := 1) (v := .int mo) (C := R_AL) (T := F_AL) (N := 3) hx hb htw i_AL hown hK hP 0 rfl rfl 2 (by decide) (htw _ wd_1_104) (u_same (htw _ wd_1_105)) rfl d_AL_clear_2 ?_
  refine lv_iconst (v := 1) hx hb d_AL_clear_5 (by decide) ?_
  refine lv_iadd hx hb d_AL_clear_6 ?_
  refine va_put (D := (dC, dI)) (ci := 1) (v := .int (mo + 1)) (ty := .int) (C := R_AL) (T := F_AL) (N := 3) hx hb htw i_AL t_AL t_AL_ok n_AL hown hK hP hD hS 0 rfl rfl 2 (by decide) (htw _ wd_1_104) (u_same (htw _ wd_1_105)) rfl (by decide +kernel) rfl rfl (Nat.le_of_ble_eq_true rfl) d_AL_clear_7 (fun H locs hP hD hS => ?_)
  have hP : va_P (dC, dI) classes [(h0, .inr (1, [.ref dE, .int 0, .int (mo + 1)]))] H := hP
  have hD : va_D A [(h0, .inr (1, [.ref dE, .int 0, .int (mo + 1)]))] := hD
  refine lv_aload_n hx hb d_AL_clear_10 rfl (lv_at hl 0 rfl) ?_
  refine va_get (D := (dC, dI)) (ci := 1) (v := .ref dE) (C := R_AL) (T := F_AL) (N := 3) hx hb htw i_AL hown hK hP 0 rfl rfl 0 (by decide) (htw _ wd_1_101) (fun _ h9 => h9) rfl d_AL_clear_11 ?_
  refine lv_astore_n hx hb d_AL_clear_14 rfl hl (by decide) rfl (fun ls hl => ?_)
  have hl : lv_has ls 4 [(1, .ref dE), (0, .ref h0)] := hl
  refine lv_aload_n hx hb d_AL_clear_15 rfl (lv_at hl 1 rfl) ?_
  refine va_get (D := (dC, dI)) (ci := 1) (v := .int 0) (C := R_AL) (T := F_AL) (N := 3) hx hb htw i_AL hown hK hP 0 rfl rfl 1 (by decide) (htw _ wd_1_102) (fun _ h9 => h9) rfl d_AL_clear_16 ?_
  refine lv_istore_n hx hb d_AL_clear_19 rfl hl (by decide) rfl (fun ls hl => ?_)
  have hl : lv_has ls 4 [(2, .int 0), (1, .ref dE), (0, .ref h0)] := hl
  refine lv_aload_n hx hb d_AL_clear_20 rfl (lv_at hl 2 rfl) ?_
  refine lv_iconst (v := 0) hx hb d_AL_clear_21 (by decide) ?_
  refine lv_dup_x1 hx hb d_AL_clear_22 rfl rfl ?_
  refine va_put (D := (dC, dI)) (ci := 1) (v := .int 0) (ty := .int) (C := R_AL) (T := F_AL) (N := 3) hx hb htw i_AL t_AL t_AL_ok n_AL hown hK hP hD hS 0 rfl rfl 1 (by decide) (htw _ wd_1_102) (fun _ h9 => h9) rfl (by decide +kernel) rfl rfl (Nat.le_of_ble_eq_true rfl) d_AL_clear_23 (fun H locs hP hD hS => ?_)
  have hP : va_P (dC, dI) classes [(h0, .inr (1, [.ref dE, .int 0, .int (mo + 1)]))] H := hP
  have hD : va_D A [(h0, .inr (1, [.ref dE, .int 0, .int (mo + 1)]))] := hD
  refine lv_istore_n hx hb d_AL_clear_26 rfl hl (by decide) rfl (fun ls hl => ?_)
  have hl : lv_has ls 4 [(3, .int 0), (2, .int 0), (1, .ref dE), (0, .ref h0)] := hl
  refine lv_iload_n hx hb d_AL_clear_27 rfl (lv_at hl 0 rfl) ?_
  refine lv_iload_n hx hb d_AL_clear_28 rfl (lv_at hl 1 rfl) ?_
  refine lv_icmp_ge (tgt := 42) hx hb d_AL_clear_29 rfl (fun _ => ?_) (fun hn => absurd (by decide) hn)
  have hP9 := hP.sub (ws' := [(h0, .inr (1, [.ref dE, .int 0, .int (mo + 1)]))]) [0] rfl
  have hD9 := hD.sub (ws' := [(h0, .inr (1, [.ref dE, .int 0, .int (mo + 1)]))]) [0] (by decide) rfl
  have hK9 := hK.sub (tys' := []) [] rfl
  refine W.widen (k := 0) (n := 0) (by omega) (by omega) ?_
  exact W.vret hx hb hr (fun t ht hW => ⟨⟨(), rfl, trivial, by rw [ht]; exact hP9, va_K.moved hW.alike hK9, hD9⟩, hS.F ht⟩) hS.2.2 d_AL_clear_42
set_option maxHeartbeats 4000000 in
set_option maxRecDepth 100000 in
theorem c_Values_clear (l : Launch) (dC : Nat → ClassId) (dI : Nat → Nat → Nat) (sz : Nat) (h0 : Nat) (al : Nat) (vd : Nat) (va : Nat) (u : Int32) (k : Int32) : Met l y_Values_clear ws_Values_clear ({ frames := 0, cells := 0, slots := 0, locals := 0 }) (va_Pc [.ref h0] (fun U => U.heap.size = sz ∧ va_P (dC, dI) classes [(h0, .inr (2, [.ref al, .ref vd, .int u])), (vd, .inr (0, [.ref va, .int k]))] U.heap ∧ va_K (dC, dI) classes [] U ∧ va_D (fun _ => True) [(h0, .inr (2, [.ref al, .ref vd, .int u])), (vd, .inr (0, [.ref va, .int k]))])) (va_Qv (fun _ : Unit => True) (fun _ t => va_P (dC, dI) classes [(h0, .inr (2, [.ref al, .ref vd, .int 0])), (vd, .inr (0, [.ref va, .int 0]))] t.heap ∧ va_K (dC, dI) classes [] t ∧ va_D (va_A [(h0, .inr (2, [.ref al, .ref vd, .int u])), (vd, .inr (0, [.ref va, .int k]))] sz) [(h0, .inr (2, [.ref al, .ref vd, .int 0])), (vd, .inr (0, [.ref va, .int 0]))]) (va_A [(h0, .inr (2, [.ref al, .ref vd, .int u])), (vd, .inr (0, [.ref va, .int k]))] sz)) 0 0 (va_A [(h0, .inr (2, [.ref al, .ref vd, .int u])), (vd, .inr (0, [.ref va, .int k]))] sz) := by
  refine Met.ofW (cc := b_Values_clear) (maxL := 1) (ret := none) (by decide) rfl ?_
  intro p e s m args below meth c s₁ B hml hv
  obtain ⟨rfl, hsz, hP, hK, hD0⟩ := hv
  have hx := B.exec
  have hb := B.bytes
  have hr := B.returns
  have hts := atoms_spec (ws := ws_Values_clear) B.pre
  have htw : ∀ w ∈ tw_tbl, w.before [.ref h0].toArray s = true := fun w h => hts w (List.mem_cons_of_mem _ h)
  have hown : s.vm.findClass R_Values = some m.cls := findClass_of_methodNamed B.named
  have hlocks := B.notSynchronized
  have hin : meth.name = "clear" := (name_of_methodNamed B.named B.method).1
  subst hsz
  have hD := hD0.self (sz := s.heap.size)
  generalize hAe : va_A [(h0, .inr (2, [.ref al, .ref vd, .int u])), (vd, .inr (0, [.ref va, .int k]))] s.heap.size = A at hD ⊢
  have hA : ∀ q : Nat, s.heap.size ≤ q → A q := fun q h => by rw [← hAe]; exact Or.inr h
  have hS : va_S A s.heap s.heap [] := va_S.rf
  have hP : va_P (dC, dI) classes [(h0, .inr (2, [.ref al, .ref vd, .int u])), (vd, .inr (0, [.ref va, .int k]))] s.heap := hP
  have hl := lv_entry ([.ref h0]) (n := 1) (Nat.le_of_ble_eq_true rfl)
  rw [lg_entry_eq]
  generalize (lg_sl ([.ref h0]) ++ List.replicate (1 - (lg_sl ([.ref h0])).length) Slot.unset).toArray = ls at hl ⊢
  have hl : lv_has ls 1 [(0, .ref h0)] := hl
  refine lv_aload_n hx hb d_Values_clear_0 rfl (lv_at hl 0 rfl) ?_
  refine lv_iconst (v := 0) hx hb d_Values_clear_1 (by decide) ?_
  refine va_put (D := (dC, dI)) (ci := 2) (v := .int 0) (ty := .int) (C := R_Values) (T := F_Values) (N := 3) hx hb htw i_Values t_Values t_Values_ok n_Values hown hK hP hD hS 0 rfl rfl 2 (by decide) (htw _ wd_1_132) (fun _ h9 => h9) rfl (by decide +kernel) rfl rfl (Nat.le_of_ble_eq_true rfl) d_Values_clear_2 (fun H locs hP hD hS => ?_)
  have hP : va_P (dC, dI) classes [(h0, .inr (2, [.ref al, .ref vd, .int 0])), (vd, .inr (0, [.ref va, .int k]))] H := hP
  have hD : va_D A [(h0, .inr (2, [.ref al, .ref vd, .int 0])), (vd, .inr (0, [.ref va, .int k]))] := hD
  refine lv_aload_n hx hb d_Values_clear_5 rfl (lv_at hl 0 rfl) ?_
  refine va_get (D := (dC, dI)) (ci := 2) (v := .ref vd) (C := R_Values) (T := F_Values) (N := 3) hx hb htw i_Values hown hK hP 0 rfl rfl 1 (by decide) (htw _ wd_1_126) (fun _ h9 => h9) rfl d_Values_clear_6 ?_
  refine lv_iconst (v := 0) hx hb d_Values_clear_9 (by decide) ?_
  refine va_put (D := (dC, dI)) (ci := 0) (v := .int 0) (ty := .int) (C := R_Bytes) (T := F_Bytes) (N := 2) hx hb htw i_Bytes t_Bytes t_Bytes_ok n_Bytes hown hK hP hD hS 1 rfl rfl 1 (by decide) (htw _ wd_1_66) (fun _ h9 => h9) rfl (by decide +kernel) rfl rfl (Nat.le_of_ble_eq_true rfl) d_Values_clear_10 (fun H locs hP hD hS => ?_)
  have hP : va_P (dC, dI) classes [(h0, .inr (2, [.ref al, .ref vd, .int 0])), (vd, .inr (0, [.ref va, .int 0]))] H := hP
  have hD : va_D A [(h0, .inr (2, [.ref al, .ref vd, .int 0])), (vd, .inr (0, [.ref va, .int 0]))] := hD
  have hP9 := hP.sub (ws' := [(h0, .inr (2, [.ref al, .ref vd, .int 0])), (vd, .inr (0, [.ref va, .int 0]))]) [0, 1] rfl
  have hD9 := hD.sub (ws' := [(h0, .inr (2, [.ref al, .ref vd, .int 0])), (vd, .inr (0, [.ref va, .int 0]))]) [0, 1] (by decide) rfl
  have hK9 := hK.sub (tys' := []) [] rfl
  refine W.widen (k := 0) (n := 0) (by omega) (by omega) ?_
  exact W.vret hx hb hr (fun t ht hW => ⟨⟨(), rfl, trivial, by rw [ht]; exact hP9, va_K.moved hW.alike hK9, hD9⟩, hS.F ht⟩) hS.2.2 d_Values_clear_13
set_option maxHeartbeats 4000000 in
set_option maxRecDepth 100000 in
theorem c_Arrs_fill (l : Launch) (dC : Nat → ClassId) (dI : Nat → Nat → Nat) (sz : Nat) (qa : Nat) (ca : ClassId) (n : Nat) (f : Nat → Int32) (x : Int32) (hn : n ≤ 65536) : Met l y_Arrs_fill ws_Arrs_fill ({ frames := 0, cells := 0, slots := 0, locals := 0 }) (va_Pc [.ref qa, .int x] (fun U => U.heap.size = sz ∧ va_P (dC, dI) classes [(qa, .inl (ca, n, .inl f))] U.heap ∧ va_K (dC, dI) classes [(ca, .int)] U ∧ va_D (fun _ => True) [(qa, .inl (ca, n, .inl f))])) (va_Qv (fun _ : Unit => True) (fun _ t => ∃ (g2 : Nat → Int32), (∀ j, j < n → g2 j = x) ∧ va_P (dC, dI) classes [(qa, .inl (ca, n, .inl g2))] t.heap ∧ va_K (dC, dI) classes [(ca, .int)] t ∧ va_D (va_A [(qa, .inl (ca, n, .inl f))] sz) [(qa, .inl (ca, n, .inl g2))]) (va_A [(qa, .inl (ca, n, .inl f))] sz)) 0 0 (va_A [(qa, .inl (ca, n, .inl f))] sz) := by
  refine Met.ofW (cc := b_Arrs_fill) (maxL := 4) (ret := none) (by decide) rfl ?_
  intro p e s m args below meth c s₁ B hml hv
  obtain ⟨rfl, hsz, hP, hK, hD0⟩ := hv
  have hx := B.exec
  have hb := B.bytes
  have hr := B.returns
  have hts := atoms_spec (ws := ws_Arrs_fill) B.pre
  have htw : ∀ w ∈ tw_tbl, w.before [.ref qa, .int x].toArray s = true := fun w h => hts w (List.mem_cons_of_mem _ h)
  have hown : s.vm.findClass R_Arrs = some m.cls := findClass_of_methodNamed B.named
  have hlocks := B.notSynchronized
  have hin : meth.name = "fill" := (name_of_methodNamed B.named B.method).1
  subst hsz
  have hD := hD0.self (sz := s.heap.size)
  generalize hAe : va_A [(qa, .inl (ca, n, .inl f))] s.heap.size = A at hD ⊢
  have hA : ∀ q : Nat, s.heap.size ≤ q → A q := fun q h => by rw [← hAe]; exact Or.inr h
  have hS : va_S A s.heap s.heap [] := va_S.rf
  have hP : va_P (dC, dI) classes [(qa, .inl (ca, n, .inl f))] s.heap := hP
  have hl := lv_entry ([.ref qa, .int x]) (n := 4) (Nat.le_of_ble_eq_true rfl)
  rw [lg_entry_eq]
  generalize (lg_sl ([.ref qa, .int x]) ++ List.replicate (4 - (lg_sl ([.ref qa, .int x])).length) Slot.unset).toArray = ls at hl ⊢
  have hl : lv_has ls 4 [(0, .ref qa), (1, .int x)] := hl
  refine lv_iconst (v := 0) hx hb d_Arrs_fill_0 (by decide) ?_
  refine lv_istore_n hx hb d_Arrs_fill_1 rfl hl (by decide) rfl (fun ls hl => ?_)
  have hl : lv_has ls 4 [(2, .int 0), (0, .ref qa), (1, .int x)] := hl
  refine lv_aload_n hx hb d_Arrs_fill_2 rfl (lv_at hl 1 rfl) ?_
  refine va_alen (v := nI n) hx hb hK hP 0 0 rfl rfl rfl d_Arrs_fill_3 ?_
  refine lv_istore_n hx hb d_Arrs_fill_4 rfl hl (by decide) rfl (fun ls hl => ?_)
  have hl : lv_has ls 4 [(3, .int (nI n)), (2, .int 0), (0, .ref qa), (1, .int x)] := hl
  have lp : ∀ (fuel : Nat) (i : Nat) (g : Nat → Int32) (H : Heap) (locs : List Loc) (ls : Array Slot), i ≤ n → (∀ j, j < i → g j = x) → n - i < fuel → lv_has ls 4 [(2, .int (nI i)), (3, .int (nI n)), (0, .ref qa), (1, .int x)] → va_P (dC, dI) classes [(qa, .inl (ca, n, .inl g))] H → va_D A [(qa, .inl (ca, n, .inl g))] → va_S A s.heap H locs → W p l e (headSpec ws_Arrs_fill ({ frames := 0, cells := 0, slots := 0, locals := 0 })).room s m [.ref qa, .int x].toArray below meth c H locs 0 0 (MQ below (va_Qv (fun _ : Unit => True) (fun _ t => ∃ (g2 : Nat → Int32), (∀ j, j < n → g2 j = x) ∧ va_P (dC, dI) classes [(qa, .inl (ca, n, .inl g2))] t.heap ∧ va_K (dC, dI) classes [(ca, .int)] t ∧ va_D A [(qa, .inl (ca, n, .inl g2))]) A) [.ref qa, .int x].toArray s 0 0 A) (F0 m 5 ls []) := by
    intro fuel
    induction fuel with
    | zero => intro i g H locs ls hi hg hm; omega
    | succ fuel ih =>
      intro i g H locs ls hi hg hm hl hP hD hS
      refine lv_iload_n hx hb d_Arrs_fill_5 rfl (lv_at hl 0 rfl) ?_
      refine lv_iload_n hx hb d_Arrs_fill_6 rfl (lv_at hl 1 rfl) ?_
      refine lv_icmp_ge (tgt := 20) hx hb d_Arrs_fill_7 rfl (fun h1 => ?_) (fun h1 => ?_)
      · have hP9 := hP.sub (ws' := [(qa, .inl (ca, n, .inl g))]) [0] rfl
        have hD9 := hD.sub (ws' := [(qa, .inl (ca, n, .inl g))]) [0] (by decide) rfl
        have hK9 := hK.sub (tys' := [(ca, .int)]) [0] rfl
        refine W.widen (k := 0) (n := 0) (by omega) (by omega) ?_
        exact W.vret hx hb hr (fun t ht hW => ⟨⟨(), rfl, trivial, g, (fun j hj => hg j (by have := (nI_leI (by omega) (by omega)).mp h1; omega)), by rw [ht]; exact hP9, va_K.moved hW.alike hK9, hD9⟩, hS.F ht⟩) hS.2.2 d_Arrs_fill_20
      · refine lv_aload_n hx hb d_Arrs_fill_10 rfl (lv_at hl 2 rfl) ?_
        refine lv_iload_n hx hb d_Arrs_fill_11 rfl (lv_at hl 0 rfl) ?_
        refine lv_iload_n hx hb d_Arrs_fill_12 rfl (lv_at hl 3 rfl) ?_
        refine va_iast hx hb hK hP hD hS 0 0 rfl rfl (tz_in (nI_pos (by omega)) h1 (by omega)) d_Arrs_fill_13 (fun H locs hP hD hS => ?_)
        have hP : va_P (dC, dI) classes [(qa, .inl (ca, n, .inl (upd g (nI i).toNatClampNeg x)))] H := hP
        have hD : va_D A [(qa, .inl (ca, n, .inl (upd g (nI i).toNatClampNeg x)))] := hD
        refine lv_iinc (k := 0) (v := nI (i + 1)) hx hb d_Arrs_fill_14 hl rfl (nI_1 i) (by decide) rfl (fun ls hl => ?_)
        have hl : lv_has ls 4 [(2, .int (nI (i + 1))), (3, .int (nI n)), (0, .ref qa), (1, .int x)] := hl
        refine lv_goto (tgt := 5) hx hb d_Arrs_fill_17 rfl ?_
        have h2 : i < n := by have := (not_congr (nI_leI (by omega) (by omega))).mp h1; omega
        exact ih ((i + 1)) ((upd g (nI i).toNatClampNeg x)) _ _ _ (by omega) (tz_fill (by omega) hg) (by omega) (lv_sub hl [0, 1, 2, 3] rfl) (hP.sub [0] rfl) (hD.sub [0] (by decide) rfl) hS
  exact lp ((n - 0) + 1) 0 f _ _ _ (by omega) (fun j hj => absurd hj (Nat.not_lt_zero j)) (Nat.lt_succ_self _) (lv_sub hl [1, 0, 2, 3] rfl) (hP.sub [0] rfl) (hD.sub [0] (by decide) rfl) hS
end
section
/-! by program (wip/p1) -/
theorem wd_2_33 : Cond.fieldLink "SyntaxForge$Schema" 68 "SyntaxForge$Schema" "lengths" "[I" ∈ tw_tbl := tw_t2 (List.mem_of_getElem? (i := 33) rfl) rfl
theorem wd_2_30 : Cond.fieldLink "SyntaxForge$Schema" 58 "SyntaxForge$Schema" "letters" "LSyntaxForge$Bytes;" ∈ tw_tbl := tw_t2 (List.mem_of_getElem? (i := 30) rfl) rfl
theorem wd_2_32 : Cond.fieldLink "SyntaxForge$Schema" 65 "SyntaxForge$Schema" "starts" "[I" ∈ tw_tbl := tw_t2 (List.mem_of_getElem? (i := 32) rfl) rfl
theorem wd_1_235 : Cond.methodLink "SyntaxForge$Schema" 115 ⟨"SyntaxForge$Bytes", "get", "(I)I"⟩ ∈ tw_tbl := tw_t1 (List.mem_of_getElem? (i := 235) rfl) rfl
theorem wd_1_236 : Cond.instanceMethod ⟨"SyntaxForge$Bytes", "get", "(I)I"⟩ ∈ tw_tbl := tw_t1 (List.mem_of_getElem? (i := 236) rfl) rfl
theorem wd_1_237 : Cond.selects "SyntaxForge$Bytes" ⟨"SyntaxForge$Bytes", "get", "(I)I"⟩ ⟨"SyntaxForge$Bytes", "get", "(I)I"⟩ ∈ tw_tbl := tw_t1 (List.mem_of_getElem? (i := 237) rfl) rfl
theorem wd_2_36 : Cond.fieldLink "SyntaxForge$Schema" 112 "SyntaxForge$Schema" "symbols" "I" ∈ tw_tbl := tw_t2 (List.mem_of_getElem? (i := 36) rfl) rfl
theorem wd_1_70 : Cond.fieldLink "SyntaxForge$Schema" 109 "SyntaxForge$Bytes" "length" "I" ∈ tw_tbl := tw_t1 (List.mem_of_getElem? (i := 70) rfl) rfl
theorem wd_2_34 : Cond.fieldLink "SyntaxForge$Schema" 71 "SyntaxForge$Schema" "nexts" "[I" ∈ tw_tbl := tw_t2 (List.mem_of_getElem? (i := 34) rfl) rfl
theorem wd_2_31 : Cond.fieldLink "SyntaxForge$Schema" 61 "SyntaxForge$Schema" "buckets" "[I" ∈ tw_tbl := tw_t2 (List.mem_of_getElem? (i := 31) rfl) rfl
theorem wd_2_35 : Cond.fieldLink "SyntaxForge$Schema" 74 "SyntaxForge$Schema" "owners" "[I" ∈ tw_tbl := tw_t2 (List.mem_of_getElem? (i := 35) rfl) rfl
theorem wd_1_196 : Cond.methodLink "SyntaxForge$Schema" 55 ⟨"SyntaxForge$Bytes", "put", "(I)V"⟩ ∈ tw_tbl := tw_t1 (List.mem_of_getElem? (i := 196) rfl) rfl
theorem wd_1_197 : Cond.instanceMethod ⟨"SyntaxForge$Bytes", "put", "(I)V"⟩ ∈ tw_tbl := tw_t1 (List.mem_of_getElem? (i := 197) rfl) rfl
theorem wd_1_198 : Cond.selects "SyntaxForge$Bytes" ⟨"SyntaxForge$Bytes", "put", "(I)V"⟩ ⟨"SyntaxForge$Bytes", "put", "(I)V"⟩ ∈ tw_tbl := tw_t1 (List.mem_of_getElem? (i := 198) rfl) rfl
def y_Schema_isName : MethodName := ⟨"SyntaxForge$Schema", "isName", "(ILSyntaxForge$Bytes;I)Z"⟩
abbrev b_Schema_isName : ByteArray := prog_10_method_6_code
abbrev cd_Schema_isName : Cond := .code y_Schema_isName b_Schema_isName 5 (some .boolean)
abbrev ws_Schema_isName : List Cond := cd_Schema_isName :: tw_tbl
theorem k_Schema_isName : cd_Schema_isName ∈ tw_tbl := tw_t2 (List.mem_of_getElem? (i := 6) rfl) rfl
theorem d_Schema_isName_0 : decode b_Schema_isName 0 = .ok (.iconst 0, 1) := by decide +kernel
theorem d_Schema_isName_1 : decode b_Schema_isName 1 = .ok (.istore 4, 2) := by decide +kernel
theorem d_Schema_isName_3 : decode b_Schema_isName 3 = .ok (.iload 4, 2) := by decide +kernel
theorem d_Schema_isName_5 : decode b_Schema_isName 5 = .ok (.aload_n 0, 1) := by decide +kernel
theorem d_Schema_isName_6 : decode b_Schema_isName 6 = .ok (.getfield 68, 3) := by decide +kernel
theorem d_Schema_isName_9 : decode b_Schema_isName 9 = .ok (.iload_n 1, 1) := by decide +kernel
theorem d_Schema_isName_10 : decode b_Schema_isName 10 = .ok (.iaload, 1) := by decide +kernel
theorem d_Schema_isName_11 : decode b_Schema_isName 11 = .ok (.if_icmp .ge 38, 3) := by decide +kernel
theorem d_Schema_isName_14 : decode b_Schema_isName 14 = .ok (.aload_n 0, 1) := by decide +kernel
theorem d_Schema_isName_15 : decode b_Schema_isName 15 = .ok (.getfield 58, 3) := by decide +kernel
theorem d_Schema_isName_18 : decode b_Schema_isName 18 = .ok (.aload_n 0, 1) := by decide +kernel
theorem d_Schema_isName_19 : decode b_Schema_isName 19 = .ok (.getfield 65, 3) := by decide +kernel
theorem d_Schema_isName_22 : decode b_Schema_isName 22 = .ok (.iload_n 1, 1) := by decide +kernel
theorem d_Schema_isName_23 : decode b_Schema_isName 23 = .ok (.iaload, 1) := by decide +kernel
theorem d_Schema_isName_24 : decode b_Schema_isName 24 = .ok (.iload 4, 2) := by decide +kernel
theorem d_Schema_isName_26 : decode b_Schema_isName 26 = .ok (.iadd, 1) := by decide +kernel
theorem d_Schema_isName_27 : decode b_Schema_isName 27 = .ok (.invokevirtual 115, 3) := by decide +kernel
theorem d_Schema_isName_30 : decode b_Schema_isName 30 = .ok (.aload_n 2, 1) := by decide +kernel
theorem d_Schema_isName_31 : decode b_Schema_isName 31 = .ok (.iload_n 3, 1) := by decide +kernel
theorem d_Schema_isName_32 : decode b_Schema_isName 32 = .ok (.iload 4, 2) := by decide +kernel
theorem d_Schema_isName_34 : decode b_Schema_isName 34 = .ok (.iadd, 1) := by decide +kernel
theorem d_Schema_isName_35 : decode b_Schema_isName 35 = .ok (.invokevirtual 115, 3) := by decide +kernel
theorem d_Schema_isName_38 : decode b_Schema_isName 38 = .ok (.if_icmp .eq 5, 3) := by decide +kernel
theorem d_Schema_isName_41 : decode b_Schema_isName 41 = .ok (.iconst 0, 1) := by decide +kernel
theorem d_Schema_isName_42 : decode b_Schema_isName 42 = .ok (.ireturn, 1) := by decide +kernel
theorem d_Schema_isName_43 : decode b_Schema_isName 43 = .ok (.iinc 4 1, 3) := by decide +kernel
theorem d_Schema_isName_46 : decode b_Schema_isName 46 = .ok (.goto (-43), 3) := by decide +kernel
theorem d_Schema_isName_49 : decode b_Schema_isName 49 = .ok (.iconst 1, 1) := by decide +kernel
theorem d_Schema_isName_50 : decode b_Schema_isName 50 = .ok (.ireturn, 1) := by decide +kernel
def y_Schema_added : MethodName := ⟨"SyntaxForge$Schema", "added", "(LSyntaxForge$Bytes;III)I"⟩
abbrev b_Schema_added : ByteArray := prog_10_method_7_code
abbrev cd_Schema_added : Cond := .code y_Schema_added b_Schema_added 6 (some .int)
abbrev ws_Schema_added : List Cond := cd_Schema_added :: tw_tbl
theorem k_Schema_added : cd_Schema_added ∈ tw_tbl := tw_t2 (List.mem_of_getElem? (i := 10) rfl) rfl
theorem d_Schema_added_0 : decode b_Schema_added 0 = .ok (.aload_n 0, 1) := by decide +kernel
theorem d_Schema_added_1 : decode b_Schema_added 1 = .ok (.getfield 112, 3) := by decide +kernel
theorem d_Schema_added_4 : decode b_Schema_added 4 = .ok (.aload_n 0, 1) := by decide +kernel
theorem d_Schema_added_5 : decode b_Schema_added 5 = .ok (.getfield 65, 3) := by decide +kernel
theorem d_Schema_added_8 : decode b_Schema_added 8 = .ok (.arraylength, 1) := by decide +kernel
theorem d_Schema_added_9 : decode b_Schema_added 9 = .ok (.if_icmp .lt 71, 3) := by decide +kernel
theorem d_Schema_added_12 : decode b_Schema_added 12 = .ok (.aload_n 0, 1) := by decide +kernel
theorem d_Schema_added_13 : decode b_Schema_added 13 = .ok (.aload_n 0, 1) := by decide +kernel
theorem d_Schema_added_14 : decode b_Schema_added 14 = .ok (.getfield 65, 3) := by decide +kernel
theorem d_Schema_added_17 : decode b_Schema_added 17 = .ok (.iconst 2, 1) := by decide +kernel
theorem d_Schema_added_18 : decode b_Schema_added 18 = .ok (.aload_n 0, 1) := by decide +kernel
theorem d_Schema_added_19 : decode b_Schema_added 19 = .ok (.getfield 112, 3) := by decide +kernel
theorem d_Schema_added_22 : decode b_Schema_added 22 = .ok (.imul, 1) := by decide +kernel
theorem d_Schema_added_23 : decode b_Schema_added 23 = .ok (.invokestatic 131, 3) := by decide +kernel
theorem d_Schema_added_26 : decode b_Schema_added 26 = .ok (.putfield 65, 3) := by decide +kernel
theorem d_Schema_added_29 : decode b_Schema_added 29 = .ok (.aload_n 0, 1) := by decide +kernel
theorem d_Schema_added_30 : decode b_Schema_added 30 = .ok (.aload_n 0, 1) := by decide +kernel
theorem d_Schema_added_31 : decode b_Schema_added 31 = .ok (.getfield 68, 3) := by decide +kernel
theorem d_Schema_added_34 : decode b_Schema_added 34 = .ok (.iconst 2, 1) := by decide +kernel
theorem d_Schema_added_35 : decode b_Schema_added 35 = .ok (.aload_n 0, 1) := by decide +kernel
theorem d_Schema_added_36 : decode b_Schema_added 36 = .ok (.getfield 112, 3) := by decide +kernel
theorem d_Schema_added_39 : decode b_Schema_added 39 = .ok (.imul, 1) := by decide +kernel
theorem d_Schema_added_40 : decode b_Schema_added 40 = .ok (.invokestatic 131, 3) := by decide +kernel
theorem d_Schema_added_43 : decode b_Schema_added 43 = .ok (.putfield 68, 3) := by decide +kernel
theorem d_Schema_added_46 : decode b_Schema_added 46 = .ok (.aload_n 0, 1) := by decide +kernel
theorem d_Schema_added_47 : decode b_Schema_added 47 = .ok (.aload_n 0, 1) := by decide +kernel
theorem d_Schema_added_48 : decode b_Schema_added 48 = .ok (.getfield 71, 3) := by decide +kernel
theorem d_Schema_added_51 : decode b_Schema_added 51 = .ok (.iconst 2, 1) := by decide +kernel
theorem d_Schema_added_52 : decode b_Schema_added 52 = .ok (.aload_n 0, 1) := by decide +kernel
theorem d_Schema_added_53 : decode b_Schema_added 53 = .ok (.getfield 112, 3) := by decide +kernel
theorem d_Schema_added_56 : decode b_Schema_added 56 = .ok (.imul, 1) := by decide +kernel
theorem d_Schema_added_57 : decode b_Schema_added 57 = .ok (.invokestatic 131, 3) := by decide +kernel
theorem d_Schema_added_60 : decode b_Schema_added 60 = .ok (.putfield 71, 3) := by decide +kernel
theorem d_Schema_added_63 : decode b_Schema_added 63 = .ok (.aload_n 0, 1) := by decide +kernel
theorem d_Schema_added_64 : decode b_Schema_added 64 = .ok (.aload_n 0, 1) := by decide +kernel
theorem d_Schema_added_65 : decode b_Schema_added 65 = .ok (.getfield 74, 3) := by decide +kernel
theorem d_Schema_added_68 : decode b_Schema_added 68 = .ok (.iconst 2, 1) := by decide +kernel
theorem d_Schema_added_69 : decode b_Schema_added 69 = .ok (.aload_n 0, 1) := by decide +kernel
theorem d_Schema_added_70 : decode b_Schema_added 70 = .ok (.getfield 112, 3) := by decide +kernel
theorem d_Schema_added_73 : decode b_Schema_added 73 = .ok (.imul, 1) := by decide +kernel
theorem d_Schema_added_74 : decode b_Schema_added 74 = .ok (.invokestatic 131, 3) := by decide +kernel
theorem d_Schema_added_77 : decode b_Schema_added 77 = .ok (.putfield 74, 3) := by decide +kernel
theorem d_Schema_added_80 : decode b_Schema_added 80 = .ok (.aload_n 0, 1) := by decide +kernel
theorem d_Schema_added_81 : decode b_Schema_added 81 = .ok (.getfield 65, 3) := by decide +kernel
theorem d_Schema_added_84 : decode b_Schema_added 84 = .ok (.aload_n 0, 1) := by decide +kernel
theorem d_Schema_added_85 : decode b_Schema_added 85 = .ok (.getfield 112, 3) := by decide +kernel
theorem d_Schema_added_88 : decode b_Schema_added 88 = .ok (.aload_n 0, 1) := by decide +kernel
theorem d_Schema_added_89 : decode b_Schema_added 89 = .ok (.getfield 58, 3) := by decide +kernel
theorem d_Schema_added_92 : decode b_Schema_added 92 = .ok (.getfield 109, 3) := by decide +kernel
theorem d_Schema_added_95 : decode b_Schema_added 95 = .ok (.iastore, 1) := by decide +kernel
theorem d_Schema_added_96 : decode b_Schema_added 96 = .ok (.aload_n 0, 1) := by decide +kernel
theorem d_Schema_added_97 : decode b_Schema_added 97 = .ok (.getfield 68, 3) := by decide +kernel
theorem d_Schema_added_100 : decode b_Schema_added 100 = .ok (.aload_n 0, 1) := by decide +kernel
theorem d_Schema_added_101 : decode b_Schema_added 101 = .ok (.getfield 112, 3) := by decide +kernel
theorem d_Schema_added_104 : decode b_Schema_added 104 = .ok (.iload_n 3, 1) := by decide +kernel
theorem d_Schema_added_105 : decode b_Schema_added 105 = .ok (.iastore, 1) := by decide +kernel
theorem d_Schema_added_106 : decode b_Schema_added 106 = .ok (.aload_n 0, 1) := by decide +kernel
theorem d_Schema_added_107 : decode b_Schema_added 107 = .ok (.getfield 71, 3) := by decide +kernel
theorem d_Schema_added_110 : decode b_Schema_added 110 = .ok (.aload_n 0, 1) := by decide +kernel
theorem d_Schema_added_111 : decode b_Schema_added 111 = .ok (.getfield 112, 3) := by decide +kernel
theorem d_Schema_added_114 : decode b_Schema_added 114 = .ok (.aload_n 0, 1) := by decide +kernel
theorem d_Schema_added_115 : decode b_Schema_added 115 = .ok (.getfield 61, 3) := by decide +kernel
theorem d_Schema_added_118 : decode b_Schema_added 118 = .ok (.iload 4, 2) := by decide +kernel
theorem d_Schema_added_120 : decode b_Schema_added 120 = .ok (.iaload, 1) := by decide +kernel
theorem d_Schema_added_121 : decode b_Schema_added 121 = .ok (.iastore, 1) := by decide +kernel
theorem d_Schema_added_122 : decode b_Schema_added 122 = .ok (.aload_n 0, 1) := by decide +kernel
theorem d_Schema_added_123 : decode b_Schema_added 123 = .ok (.getfield 74, 3) := by decide +kernel
theorem d_Schema_added_126 : decode b_Schema_added 126 = .ok (.aload_n 0, 1) := by decide +kernel
theorem d_Schema_added_127 : decode b_Schema_added 127 = .ok (.getfield 112, 3) := by decide +kernel
theorem d_Schema_added_130 : decode b_Schema_added 130 = .ok (.iconst (-1), 1) := by decide +kernel
theorem d_Schema_added_131 : decode b_Schema_added 131 = .ok (.iastore, 1) := by decide +kernel
theorem d_Schema_added_132 : decode b_Schema_added 132 = .ok (.aload_n 0, 1) := by decide +kernel
theorem d_Schema_added_133 : decode b_Schema_added 133 = .ok (.getfield 61, 3) := by decide +kernel
theorem d_Schema_added_136 : decode b_Schema_added 136 = .ok (.iload 4, 2) := by decide +kernel
theorem d_Schema_added_138 : decode b_Schema_added 138 = .ok (.aload_n 0, 1) := by decide +kernel
theorem d_Schema_added_139 : decode b_Schema_added 139 = .ok (.getfield 112, 3) := by decide +kernel
theorem d_Schema_added_142 : decode b_Schema_added 142 = .ok (.iastore, 1) := by decide +kernel
theorem d_Schema_added_143 : decode b_Schema_added 143 = .ok (.iconst 0, 1) := by decide +kernel
theorem d_Schema_added_144 : decode b_Schema_added 144 = .ok (.istore 5, 2) := by decide +kernel
theorem d_Schema_added_146 : decode b_Schema_added 146 = .ok (.iload 5, 2) := by decide +kernel
theorem d_Schema_added_148 : decode b_Schema_added 148 = .ok (.iload_n 3, 1) := by decide +kernel
theorem d_Schema_added_149 : decode b_Schema_added 149 = .ok (.if_icmp .ge 24, 3) := by decide +kernel
theorem d_Schema_added_152 : decode b_Schema_added 152 = .ok (.aload_n 0, 1) := by decide +kernel
theorem d_Schema_added_153 : decode b_Schema_added 153 = .ok (.getfield 58, 3) := by decide +kernel
theorem d_Schema_added_156 : decode b_Schema_added 156 = .ok (.aload_n 1, 1) := by decide +kernel
theorem d_Schema_added_157 : decode b_Schema_added 157 = .ok (.iload_n 2, 1) := by decide +kernel
theorem d_Schema_added_158 : decode b_Schema_added 158 = .ok (.iload 5, 2) := by decide +kernel
theorem d_Schema_added_160 : decode b_Schema_added 160 = .ok (.iadd, 1) := by decide +kernel
theorem d_Schema_added_161 : decode b_Schema_added 161 = .ok (.invokevirtual 115, 3) := by decide +kernel
theorem d_Schema_added_164 : decode b_Schema_added 164 = .ok (.invokevirtual 55, 3) := by decide +kernel
theorem d_Schema_added_167 : decode b_Schema_added 167 = .ok (.iinc 5 1, 3) := by decide +kernel
theorem d_Schema_added_170 : decode b_Schema_added 170 = .ok (.goto (-24), 3) := by decide +kernel
theorem d_Schema_added_173 : decode b_Schema_added 173 = .ok (.aload_n 0, 1) := by decide +kernel
theorem d_Schema_added_174 : decode b_Schema_added 174 = .ok (.dup, 1) := by decide +kernel
theorem d_Schema_added_175 : decode b_Schema_added 175 = .ok (.getfield 112, 3) := by decide +kernel
theorem d_Schema_added_178 : decode b_Schema_added 178 = .ok (.iconst 1, 1) := by decide +kernel
theorem d_Schema_added_179 : decode b_Schema_added 179 = .ok (.iadd, 1) := by decide +kernel
theorem d_Schema_added_180 : decode b_Schema_added 180 = .ok (.putfield 112, 3) := by decide +kernel
theorem d_Schema_added_183 : decode b_Schema_added 183 = .ok (.aload_n 0, 1) := by decide +kernel
theorem d_Schema_added_184 : decode b_Schema_added 184 = .ok (.getfield 112, 3) := by decide +kernel
theorem d_Schema_added_187 : decode b_Schema_added 187 = .ok (.iconst 1, 1) := by decide +kernel
theorem d_Schema_added_188 : decode b_Schema_added 188 = .ok (.isub, 1) := by decide +kernel
theorem d_Schema_added_189 : decode b_Schema_added 189 = .ok (.ireturn, 1) := by decide +kernel
set_option maxHeartbeats 4000000 in
set_option maxRecDepth 100000 in
theorem c_Schema_isName (l : Launch) (dC : Nat → ClassId) (dI : Nat → Nat → Nat) (sz : Nat) (h0 : Nat) (a1 : Nat) (dv : Nat) (md : Int32) (bk : Int32) (a2 : Nat) (a3 : Nat) (a4 : Nat) (wd : Nat) (lt : Nat) (bu : Nat) (st : Nat) (le : Nat) (nx : Nat) (ow : Nat) (sy : Int32) (sp : Nat) (ky : Nat) (sm : Nat) (sk : Int32) (cle : ClassId) (lef : Nat → Int32) (cst : ClassId) (stf : Nat → Int32) (lta : Nat) (clt : ClassId) (ltf : Nat → Int32) (ltk : Int32) (tx : Nat) (txa : Nat) (ctx : ClassId) (txn : Nat) (txf : Nat → Int32) (txk : Int32) (j : Nat) (fr : Int32) (hj : j < 64) (hn : txn ≤ 65536) : Met l y_Schema_isName ws_Schema_isName ({ frames := 1, cells := 0, slots := 0, locals := 21 }) (va_Pc [.ref h0, .int (nI j), .ref tx, .int fr] (fun U => U.heap.size = sz ∧ va_P (dC, dI) classes [(h0, .inr (3, [.ref a1, .ref dv, .int md, .int bk, .ref a2, .ref a3, .ref a4, .ref wd, .ref lt, .ref bu, .ref st, .ref le, .ref nx, .ref ow, .int sy, .ref sp, .ref ky, .ref sm, .int sk])), (le, .inl (cle, 64, .inl lef)), (st, .inl (cst, 64, .inl stf)), (lt, .inr (0, [.ref lta, .int ltk])), (lta, .inl (clt, 512, .inl ltf)), (tx, .inr (0, [.ref txa, .int txk])), (txa, .inl (ctx, txn, .inl txf))] U.heap ∧ va_K (dC, dI) classes [(cle, .int), (cst, .int), (clt, .byte), (ctx, .byte)] U ∧ va_D (fun _ => True) [(h0, .inr (3, [.ref a1, .ref dv, .int md, .int bk, .ref a2, .ref a3, .ref a4, .ref wd, .ref lt, .ref bu, .ref st, .ref le, .ref nx, .ref ow, .int sy, .ref sp, .ref ky, .ref sm, .int sk])), (le, .inl (cle, 64, .inl lef)), (st, .inl (cst, 64, .inl stf)), (lt, .inr (0, [.ref lta, .int ltk])), (lta, .inl (clt, 512, .inl ltf)), (tx, .inr (0, [.ref txa, .int txk])), (txa, .inl (ctx, txn, .inl txf))])) (va_Qi (fun (r : Int32) (_ : Unit) => True) (fun _ t => va_P (dC, dI) classes [(h0, .inr (3, [.ref a1, .ref dv, .int md, .int bk, .ref a2, .ref a3, .ref a4, .ref wd, .ref lt, .ref bu, .ref st, .ref le, .ref nx, .ref ow, .int sy, .ref sp, .ref ky, .ref sm, .int sk])), (le, .inl (cle, 64, .inl lef)), (st, .inl (cst, 64, .inl stf)), (lt, .inr (0, [.ref lta, .int ltk])), (lta, .inl (clt, 512, .inl ltf)), (tx, .inr (0, [.ref txa, .int txk])), (txa, .inl (ctx, txn, .inl txf))] t.heap ∧ va_K (dC, dI) classes [(cle, .int), (cst, .int), (clt, .byte), (ctx, .byte)] t ∧ va_D (va_A [(h0, .inr (3, [.ref a1, .ref dv, .int md, .int bk, .ref a2, .ref a3, .ref a4, .ref wd, .ref lt, .ref bu, .ref st, .ref le, .ref nx, .ref ow, .int sy, .ref sp, .ref ky, .ref sm, .int sk])), (le, .inl (cle, 64, .inl lef)), (st, .inl (cst, 64, .inl stf)), (lt, .inr (0, [.ref lta, .int ltk])), (lta, .inl (clt, 512, .inl ltf)), (tx, .inr (0, [.ref txa, .int txk])), (txa, .inl (ctx, txn, .inl txf))] sz) [(h0, .inr (3, [.ref a1, .ref dv, .int md, .int bk, .ref a2, .ref a3, .ref a4, .ref wd, .ref lt, .ref bu, .ref st, .ref le, .ref nx, .ref ow, .int sy, .ref sp, .ref ky, .ref sm, .int sk])), (le, .inl (cle, 64, .inl lef)), (st, .inl (cst, 64, .inl stf)), (lt, .inr (0, [.ref lta, .int ltk])), (lta, .inl (clt, 512, .inl ltf)), (tx, .inr (0, [.ref txa, .int txk])), (txa, .inl (ctx, txn, .inl txf))]) (va_A [(h0, .inr (3, [.ref a1, .ref dv, .int md, .int bk, .ref a2, .ref a3, .ref a4, .ref wd, .ref lt, .ref bu, .ref st, .ref le, .ref nx, .ref ow, .int sy, .ref sp, .ref ky, .ref sm, .int sk])), (le, .inl (cle, 64, .inl lef)), (st, .inl (cst, 64, .inl stf)), (lt, .inr (0, [.ref lta, .int ltk])), (lta, .inl (clt, 512, .inl ltf)), (tx, .inr (0, [.ref txa, .int txk])), (txa, .inl (ctx, txn, .inl txf))] sz)) 0 0 (va_A [(h0, .inr (3, [.ref a1, .ref dv, .int md, .int bk, .ref a2, .ref a3, .ref a4, .ref wd, .ref lt, .ref bu, .ref st, .ref le, .ref nx, .ref ow, .int sy, .ref sp, .ref ky, .ref sm, .int sk])), (le, .inl (cle, 64, .inl lef)), (st, .inl (cst, 64, .inl stf)), (lt, .inr (0, [.ref lta, .int ltk])), (lta, .inl (clt, 512, .inl ltf)), (tx, .inr (0, [.ref txa, .int txk])), (txa, .inl (ctx, txn, .inl txf))] sz) := by
  refine Met.ofW (cc := b_Schema_isName) (maxL := 5) (ret := (some .boolean)) (by decide) rfl ?_
  intro p e s m args below meth c s₁ B hml hv
  obtain ⟨rfl, hsz, hP, hK, hD0⟩ := hv
  have hx := B.exec
  have hb := B.bytes
  have hr := B.returns
  have hts := atoms_spec (ws := ws_Schema_isName) B.pre
  have htw : ∀ w ∈ tw_tbl, w.before [.ref h0, .int (nI j), .ref tx, .int fr].toArray s = true := fun w h => hts w (List.mem_cons_of_mem _ h)
  have hown : s.vm.findClass R_Schema = some m.cls := findClass_of_methodNamed B.named
  have hlocks := B.notSynchronized
  have hin : meth.name = "isName" := (name_of_methodNamed B.named B.method).1
  subst hsz
  have hD := hD0.self (sz := s.heap.size)
  generalize hAe : va_A [(h0, .inr (3, [.ref a1, .ref dv, .int md, .int bk, .ref a2, .ref a3, .ref a4, .ref wd, .ref lt, .ref bu, .ref st, .ref le, .ref nx, .ref ow, .int sy, .ref sp, .ref ky, .ref sm, .int sk])), (le, .inl (cle, 64, .inl lef)), (st, .inl (cst, 64, .inl stf)), (lt, .inr (0, [.ref lta, .int ltk])), (lta, .inl (clt, 512, .inl ltf)), (tx, .inr (0, [.ref txa, .int txk])), (txa, .inl (ctx, txn, .inl txf))] s.heap.size = A at hD ⊢
  have hA : ∀ q : Nat, s.heap.size ≤ q → A q := fun q h => by rw [← hAe]; exact Or.inr h
  have hS : va_S A s.heap s.heap [] := va_S.rf
  have hP : va_P (dC, dI) classes [(h0, .inr (3, [.ref a1, .ref dv, .int md, .int bk, .ref a2, .ref a3, .ref a4, .ref wd, .ref lt, .ref bu, .ref st, .ref le, .ref nx, .ref ow, .int sy, .ref sp, .ref ky, .ref sm, .int sk])), (le, .inl (cle, 64, .inl lef)), (st, .inl (cst, 64, .inl stf)), (lt, .inr (0, [.ref lta, .int ltk])), (lta, .inl (clt, 512, .inl ltf)), (tx, .inr (0, [.ref txa, .int txk])), (txa, .inl (ctx, txn, .inl txf))] s.heap := hP
  have hl := lv_entry ([.ref h0, .int (nI j), .ref tx, .int fr]) (n := 5) (Nat.le_of_ble_eq_true rfl)
  rw [lg_entry_eq]
  generalize (lg_sl ([.ref h0, .int (nI j), .ref tx, .int fr]) ++ List.replicate (5 - (lg_sl ([.ref h0, .int (nI j), .ref tx, .int fr])).length) Slot.unset).toArray = ls at hl ⊢
  have hl : lv_has ls 5 [(0, .ref h0), (1, .int (nI j)), (2, .ref tx), (3, .int fr)] := hl
  refine lv_iconst (v := 0) hx hb d_Schema_isName_0 (by decide) ?_
  refine lv_istore hx hb d_Schema_isName_1 hl (by decide) rfl (fun ls hl => ?_)
  have hl : lv_has ls 5 [(4, .int 0), (0, .ref h0), (1, .int (nI j)), (2, .ref tx), (3, .int fr)] := hl
  have lp : ∀ (fuel : Nat) (i : Nat) (H : Heap) (locs : List Loc) (ls : Array Slot), i < 2 ^ 31 → 2 ^ 31 - i < fuel → lv_has ls 5 [(4, .int (nI i)), (0, .ref h0), (1, .int (nI j)), (2, .ref tx), (3, .int fr)] → va_P (dC, dI) classes [(h0, .inr (3, [.ref a1, .ref dv, .int md, .int bk, .ref a2, .ref a3, .ref a4, .ref wd, .ref lt, .ref bu, .ref st, .ref le, .ref nx, .ref ow, .int sy, .ref sp, .ref ky, .ref sm, .int sk])), (le, .inl (cle, 64, .inl lef)), (st, .inl (cst, 64, .inl stf)), (lt, .inr (0, [.ref lta, .int ltk])), (lta, .inl (clt, 512, .inl ltf)), (tx, .inr (0, [.ref txa, .int txk])), (txa, .inl (ctx, txn, .inl txf))] H → va_D A [(h0, .inr (3, [.ref a1, .ref dv, .int md, .int bk, .ref a2, .ref a3, .ref a4, .ref wd, .ref lt, .ref bu, .ref st, .ref le, .ref nx, .ref ow, .int sy, .ref sp, .ref ky, .ref sm, .int sk])), (le, .inl (cle, 64, .inl lef)), (st, .inl (cst, 64, .inl stf)), (lt, .inr (0, [.ref lta, .int ltk])), (lta, .inl (clt, 512, .inl ltf)), (tx, .inr (0, [.ref txa, .int txk])), (txa, .inl (ctx, txn, .inl txf))] → va_S A s.heap H locs → W p l e (headSpec ws_Schema_isName ({ frames := 1, cells := 0, slots := 0, locals := 21 })).room s m [.ref h0, .int (nI j), .ref tx, .int fr].toArray below meth c H locs 0 0 (MQ below (va_Qi (fun (r : Int32) (_ : Unit) => True) (fun _ t => va_P (dC, dI) classes [(h0, .inr (3, [.ref a1, .ref dv, .int md, .int bk, .ref a2, .ref a3, .ref a4, .ref wd, .ref lt, .ref bu, .ref st, .ref le, .ref nx, .ref ow, .int sy, .ref sp, .ref ky, .ref sm, .int sk])), (le, .inl (cle, 64, .inl lef)), (st, .inl (cst, 64, .inl stf)), (lt, .inr (0, [.ref lta, .int ltk])), (lta, .inl (clt, 512, .inl ltf)), (tx, .inr (0, [.ref txa, .int txk])), (txa, .inl (ctx, txn, .inl txf))] t.heap ∧ va_K (dC, dI) classes [(cle, .int), (cst, .int), (clt, .byte), (ctx, .byte)] t ∧ va_D A [(h0, .inr (3, [.ref a1, .ref dv, .int md, .int bk, .ref a2, .ref a3, .ref a4, .ref wd, .ref lt, .ref bu, .ref st, .ref le, .ref nx, .ref ow, .int sy, .ref sp, .ref ky, .ref sm, .int sk])), (le, .inl (cle, 64, .inl lef)), (st, .inl (cst, 64, .inl stf)), (lt, .inr (0, [.ref lta, .int ltk])), (lta, .inl (clt, 512, .inl ltf)), (tx, .inr (0, [.ref txa, .int txk])), (txa, .inl (ctx, txn, .inl txf))]) A) [.ref h0, .int (nI j), .ref tx, .int fr].toArray s 0 0 A) (F0 m 3 ls []) := by
    intro fuel
    induction fuel with
    | zero => intro i H locs ls hi hm; omega
    | succ fuel ih =>
      intro i H locs ls hi hm hl hP hD hS
      refine lv_iload hx hb d_Schema_isName_3 (lv_at hl 0 rfl) ?_
      refine lv_aload_n hx hb d_Schema_isName_5 rfl (lv_at hl 1 rfl) ?_
      refine va_get (D := (dC, dI)) (ci := 3) (v := .ref le) (C := R_Schema) (T := F_Schema) (N := 19) hx hb htw i_Schema hown hK hP 0 rfl rfl 11 (by decide) (htw _ wd_2_33) (fun _ h9 => h9) rfl d_Schema_isName_6 ?_
      refine lv_iload_n hx hb d_Schema_isName_9 rfl (lv_at hl 2 rfl) ?_
      refine va_iald hx hb hK hP 1 0 rfl rfl (vp_in_nI hj (by decide)) d_Schema_isName_10 ?_
      refine lv_icmp_ge (tgt := 49) hx hb d_Schema_isName_11 rfl (fun h1 => ?_) (fun h1 => ?_)
      · refine lv_iconst (v := 1) hx hb d_Schema_isName_49 (by decide) ?_
        have hP9 := hP.sub (ws' := [(h0, .inr (3, [.ref a1, .ref dv, .int md, .int bk, .ref a2, .ref a3, .ref a4, .ref wd, .ref lt, .ref bu, .ref st, .ref le, .ref nx, .ref ow, .int sy, .ref sp, .ref ky, .ref sm, .int sk])), (le, .inl (cle, 64, .inl lef)), (st, .inl (cst, 64, .inl stf)), (lt, .inr (0, [.ref lta, .int ltk])), (lta, .inl (clt, 512, .inl ltf)), (tx, .inr (0, [.ref txa, .int txk])), (txa, .inl (ctx, txn, .inl txf))]) [0, 1, 2, 3, 4, 5, 6] rfl
        have hD9 := hD.sub (ws' := [(h0, .inr (3, [.ref a1, .ref dv, .int md, .int bk, .ref a2, .ref a3, .ref a4, .ref wd, .ref lt, .ref bu, .ref st, .ref le, .ref nx, .ref ow, .int sy, .ref sp, .ref ky, .ref sm, .int sk])), (le, .inl (cle, 64, .inl lef)), (st, .inl (cst, 64, .inl stf)), (lt, .inr (0, [.ref lta, .int ltk])), (lta, .inl (clt, 512, .inl ltf)), (tx, .inr (0, [.ref txa, .int txk])), (txa, .inl (ctx, txn, .inl txf))]) [0, 1, 2, 3, 4, 5, 6] (by decide) rfl
        have hK9 := hK.sub (tys' := [(cle, .int), (cst, .int), (clt, .byte), (ctx, .byte)]) [0, 1, 2, 3] rfl
        refine W.widen (k := 0) (n := 0) (by omega) (by omega) ?_
        exact W.zret (v := 1) hx hb hr (rfl) (fun t ht hW => ⟨⟨1, (), rfl, trivial, by rw [ht]; exact hP9, va_K.moved hW.alike hK9, hD9⟩, hS.F ht⟩) hS.2.2 d_Schema_isName_50
      · refine lv_aload_n hx hb d_Schema_isName_14 rfl (lv_at hl 1 rfl) ?_
        refine va_get (D := (dC, dI)) (ci := 3) (v := .ref lt) (C := R_Schema) (T := F_Schema) (N := 19) hx hb htw i_Schema hown hK hP 0 rfl rfl 8 (by decide) (htw _ wd_2_30) (fun _ h9 => h9) rfl d_Schema_isName_15 ?_
        refine lv_aload_n hx hb d_Schema_isName_18 rfl (lv_at hl 1 rfl) ?_
        refine va_get (D := (dC, dI)) (ci := 3) (v := .ref st) (C := R_Schema) (T := F_Schema) (N := 19) hx hb htw i_Schema hown hK hP 0 rfl rfl 10 (by decide) (htw _ wd_2_32) (fun _ h9 => h9) rfl d_Schema_isName_19 ?_
        refine lv_iload_n hx hb d_Schema_isName_22 rfl (lv_at hl 2 rfl) ?_
        refine va_iald hx hb hK hP 2 1 rfl rfl (vp_in_nI hj (by decide)) d_Schema_isName_23 ?_
        refine lv_iload hx hb d_Schema_isName_24 (lv_at hl 0 rfl) ?_
        refine lv_iadd hx hb d_Schema_isName_26 ?_
        have hc0 : 0 + 0 ≤ 0 := by omega
        have hs0 : 0 + 0 ≤ 0 := by omega
        have hPc := hP.sub (ws' := [(lt, .inr (0, [.ref lta, .int ltk])), (lta, .inl (clt, 512, .inl ltf))]) [3, 4] rfl
        have hDc := hD.sub (ws' := [(lt, .inr (0, [.ref lta, .int ltk])), (lta, .inl (clt, 512, .inl ltf))]) [3, 4] (by decide) rfl
        have hKc := hK.sub (tys' := [(clt, .byte)]) [2] rfl
        have hFc := va_free (wc := [(lt, .inr (0, [.ref lta, .int ltk])), (lta, .inl (clt, 512, .inl ltf))]) hD hS hA [3, 4] rfl
        refine va_calli (va_runV (As := [.int ((stf (nI j).toNatClampNeg) + (nI i))]) (rest := []) ⟨hx, hb, hml, hown, htw⟩ (c_Bytes_get l dC dI H.size lt lta clt 512 ltf ltk ((stf (nI j).toNatClampNeg) + (nI i)) (by first | omega | assumption)) (cwV 1 htw (tw_V wd_1_235 wd_1_236 wd_1_237 wd_1_2 k_Bytes_get) rfl rfl rfl (by decide +kernel) ⟨Nat.le_of_ble_eq_true rfl, Nat.le_of_ble_eq_true rfl⟩) ⟨fun a U g mk q => by obtain ⟨q0, q1, qP, qK, qD⟩ := q; exact ⟨q0, q1, qP, va_K.moved (u := U) (U := U.calling g mk a) (Vm.Alike.refl U.vm) qK, qD⟩, va_recv hK hP (q := (R_Bytes, F_Bytes, 2)) (ci := 0) (q0 := 3) rfl rfl, fun U hU hW => ⟨rfl, by rw [hU], by rw [hU]; exact hPc, va_K.moved hW.alike hKc, hDc.weaken (fun _ _ _ _ => trivial)⟩⟩ rfl rfl hl.1 rfl (lv_room (Nat.le_of_ble_eq_true rfl)) d_Schema_isName_27 ⟨hc0, hs0⟩) hS (fun q _ h => hFc q h) hFc (fun r1 u t H1 locs ht hvm hw hB hz1 hk1 hS => ?_)
        obtain ⟨hP1, hK1, hD1⟩ := hB
        rw [ht] at hP1
        have hK1 := va_K.moved hvm.symm hK1
        obtain ⟨hP, hD⟩ := va_join (wr := [(h0, .inr (3, [.ref a1, .ref dv, .int md, .int bk, .ref a2, .ref a3, .ref a4, .ref wd, .ref lt, .ref bu, .ref st, .ref le, .ref nx, .ref ow, .int sy, .ref sp, .ref ky, .ref sm, .int sk])), (le, .inl (cle, 64, .inl lef)), (st, .inl (cst, 64, .inl stf)), (tx, .inr (0, [.ref txa, .int txk])), (txa, .inl (ctx, txn, .inl txf))]) (w1 := [(lt, .inr (0, [.ref lta, .int ltk])), (lta, .inl (clt, 512, .inl ltf))]) hP hD [3, 4] [0, 1, 2, 5, 6] rfl rfl (by decide) (by decide) hk1 hFc hP1 hD1
        have hK := (hK.sub (tys' := [(cle, .int), (cst, .int), (ctx, .byte)]) [0, 1, 3] rfl).app hK1
        generalize H1 = H at hP hS ⊢
        have hP : va_P (dC, dI) classes [(h0, .inr (3, [.ref a1, .ref dv, .int md, .int bk, .ref a2, .ref a3, .ref a4, .ref wd, .ref lt, .ref bu, .ref st, .ref le, .ref nx, .ref ow, .int sy, .ref sp, .ref ky, .ref sm, .int sk])), (le, .inl (cle, 64, .inl lef)), (st, .inl (cst, 64, .inl stf)), (tx, .inr (0, [.ref txa, .int txk])), (txa, .inl (ctx, txn, .inl txf)), (lt, .inr (0, [.ref lta, .int ltk])), (lta, .inl (clt, 512, .inl ltf))] H := hP
        have hD : va_D A [(h0, .inr (3, [.ref a1, .ref dv, .int md, .int bk, .ref a2, .ref a3, .ref a4, .ref wd, .ref lt, .ref bu, .ref st, .ref le, .ref nx, .ref ow, .int sy, .ref sp, .ref ky, .ref sm, .int sk])), (le, .inl (cle, 64, .inl lef)), (st, .inl (cst, 64, .inl stf)), (tx, .inr (0, [.ref txa, .int txk])), (txa, .inl (ctx, txn, .inl txf)), (lt, .inr (0, [.ref lta, .int ltk])), (lta, .inl (clt, 512, .inl ltf))] := hD
        have hK : va_K (dC, dI) classes [(cle, .int), (cst, .int), (ctx, .byte), (clt, .byte)] s := hK
        subst hw
        refine lv_aload_n hx hb d_Schema_isName_30 rfl (lv_at hl 3 rfl) ?_
        refine lv_iload_n hx hb d_Schema_isName_31 rfl (lv_at hl 4 rfl) ?_
        refine lv_iload hx hb d_Schema_isName_32 (lv_at hl 0 rfl) ?_
        refine lv_iadd hx hb d_Schema_isName_34 ?_
        have hc0 : 0 + 0 ≤ 0 := by omega
        have hs0 : 0 + 0 ≤ 0 := by omega
        have hPc := hP.sub (ws' := [(tx, .inr (0, [.ref txa, .int txk])), (txa, .inl (ctx, txn, .inl txf))]) [3, 4] rfl
        have hDc := hD.sub (ws' := [(tx, .inr (0, [.ref txa, .int txk])), (txa, .inl (ctx, txn, .inl txf))]) [3, 4] (by decide) rfl
        have hKc := hK.sub (tys' := [(ctx, .byte)]) [2] rfl
        have hFc := va_free (wc := [(tx, .inr (0, [.ref txa, .int txk])), (txa, .inl (ctx, txn, .inl txf))]) hD hS hA [3, 4] rfl
        refine va_calli (va_runV (As := [.int (fr + (nI i))]) (rest := [.int (tz_gb 512 ltf ltk ((stf (nI j).toNatClampNeg) + (nI i)))]) ⟨hx, hb, hml, hown, htw⟩ (c_Bytes_get l dC dI H.size tx txa ctx txn txf txk (fr + (nI i)) (by first | omega | assumption)) (cwV 1 htw (tw_V wd_1_235 wd_1_236 wd_1_237 wd_1_2 k_Bytes_get) rfl rfl rfl (by decide +kernel) ⟨Nat.le_of_ble_eq_true rfl, Nat.le_of_ble_eq_true rfl⟩) ⟨fun a U g mk q => by obtain ⟨q0, q1, qP, qK, qD⟩ := q; exact ⟨q0, q1, qP, va_K.moved (u := U) (U := U.calling g mk a) (Vm.Alike.refl U.vm) qK, qD⟩, va_recv hK hP (q := (R_Bytes, F_Bytes, 2)) (ci := 0) (q0 := 3) rfl rfl, fun U hU hW => ⟨rfl, by rw [hU], by rw [hU]; exact hPc, va_K.moved hW.alike hKc, hDc.weaken (fun _ _ _ _ => trivial)⟩⟩ rfl rfl hl.1 rfl (lv_room (Nat.le_of_ble_eq_true rfl)) d_Schema_isName_35 ⟨hc0, hs0⟩) hS (fun q _ h => hFc q h) hFc (fun r2 u t H1 locs ht hvm hw hB hz1 hk1 hS => ?_)
        obtain ⟨hP1, hK1, hD1⟩ := hB
        rw [ht] at hP1
        have hK1 := va_K.moved hvm.symm hK1
        obtain ⟨hP, hD⟩ := va_join (wr := [(h0, .inr (3, [.ref a1, .ref dv, .int md, .int bk, .ref a2, .ref a3, .ref a4, .ref wd, .ref lt, .ref bu, .ref st, .ref le, .ref nx, .ref ow, .int sy, .ref sp, .ref ky, .ref sm, .int sk])), (le, .inl (cle, 64, .inl lef)), (st, .inl (cst, 64, .inl stf)), (lt, .inr (0, [.ref lta, .int ltk])), (lta, .inl (clt, 512, .inl ltf))]) (w1 := [(tx, .inr (0, [.ref txa, .int txk])), (txa, .inl (ctx, txn, .inl txf))]) hP hD [3, 4] [0, 1, 2, 5, 6] rfl rfl (by decide) (by decide) hk1 hFc hP1 hD1
        have hK := (hK.sub (tys' := [(cle, .int), (cst, .int), (clt, .byte)]) [0, 1, 3] rfl).app hK1
        generalize H1 = H at hP hS ⊢
        have hP : va_P (dC, dI) classes [(h0, .inr (3, [.ref a1, .ref dv, .int md, .int bk, .ref a2, .ref a3, .ref a4, .ref wd, .ref lt, .ref bu, .ref st, .ref le, .ref nx, .ref ow, .int sy, .ref sp, .ref ky, .ref sm, .int sk])), (le, .inl (cle, 64, .inl lef)), (st, .inl (cst, 64, .inl stf)), (lt, .inr (0, [.ref lta, .int ltk])), (lta, .inl (clt, 512, .inl ltf)), (tx, .inr (0, [.ref txa, .int txk])), (txa, .inl (ctx, txn, .inl txf))] H := hP
        have hD : va_D A [(h0, .inr (3, [.ref a1, .ref dv, .int md, .int bk, .ref a2, .ref a3, .ref a4, .ref wd, .ref lt, .ref bu, .ref st, .ref le, .ref nx, .ref ow, .int sy, .ref sp, .ref ky, .ref sm, .int sk])), (le, .inl (cle, 64, .inl lef)), (st, .inl (cst, 64, .inl stf)), (lt, .inr (0, [.ref lta, .int ltk])), (lta, .inl (clt, 512, .inl ltf)), (tx, .inr (0, [.ref txa, .int txk])), (txa, .inl (ctx, txn, .inl txf))] := hD
        have hK : va_K (dC, dI) classes [(cle, .int), (cst, .int), (clt, .byte), (ctx, .byte)] s := hK
        subst hw
        refine lv_icmp_eq (tgt := 43) hx hb d_Schema_isName_38 rfl (fun h2 => ?_) (fun h2 => ?_)
        · refine lv_iinc (k := 0) (v := nI (i + 1)) hx hb d_Schema_isName_43 hl rfl (nI_1 i) (by decide) rfl (fun ls hl => ?_)
          have hl : lv_has ls 5 [(4, .int (nI (i + 1))), (0, .ref h0), (1, .int (nI j)), (2, .ref tx), (3, .int fr)] := hl
          refine lv_goto (tgt := 3) hx hb d_Schema_isName_46 rfl ?_
          exact ih ((i + 1)) _ _ _ (tz_inc hi h1) (by omega) (lv_sub hl [0, 1, 2, 3, 4] rfl) (hP.sub [0, 1, 2, 3, 4, 5, 6] rfl) (hD.sub [0, 1, 2, 3, 4, 5, 6] (by decide) rfl) hS
        · refine lv_iconst (v := 0) hx hb d_Schema_isName_41 (by decide) ?_
          have hP9 := hP.sub (ws' := [(h0, .inr (3, [.ref a1, .ref dv, .int md, .int bk, .ref a2, .ref a3, .ref a4, .ref wd, .ref lt, .ref bu, .ref st, .ref le, .ref nx, .ref ow, .int sy, .ref sp, .ref ky, .ref sm, .int sk])), (le, .inl (cle, 64, .inl lef)), (st, .inl (cst, 64, .inl stf)), (lt, .inr (0, [.ref lta, .int ltk])), (lta, .inl (clt, 512, .inl ltf)), (tx, .inr (0, [.ref txa, .int txk])), (txa, .inl (ctx, txn, .inl txf))]) [0, 1, 2, 3, 4, 5, 6] rfl
          have hD9 := hD.sub (ws' := [(h0, .inr (3, [.ref a1, .ref dv, .int md, .int bk, .ref a2, .ref a3, .ref a4, .ref wd, .ref lt, .ref bu, .ref st, .ref le, .ref nx, .ref ow, .int sy, .ref sp, .ref ky, .ref sm, .int sk])), (le, .inl (cle, 64, .inl lef)), (st, .inl (cst, 64, .inl stf)), (lt, .inr (0, [.ref lta, .int ltk])), (lta, .inl (clt, 512, .inl ltf)), (tx, .inr (0, [.ref txa, .int txk])), (txa, .inl (ctx, txn, .inl txf))]) [0, 1, 2, 3, 4, 5, 6] (by decide) rfl
          have hK9 := hK.sub (tys' := [(cle, .int), (cst, .int), (clt, .byte), (ctx, .byte)]) [0, 1, 2, 3] rfl
          refine W.widen (k := 0) (n := 0) (by omega) (by omega) ?_
          exact W.zret (v := 0) hx hb hr (rfl) (fun t ht hW => ⟨⟨0, (), rfl, trivial, by rw [ht]; exact hP9, va_K.moved hW.alike hK9, hD9⟩, hS.F ht⟩) hS.2.2 d_Schema_isName_42
  exact lp ((2 ^ 31 - 0) + 1) 0 _ _ _ (by decide) (Nat.lt_succ_self _) (lv_sub hl [0, 1, 2, 3, 4] rfl) (hP.sub [0, 1, 2, 3, 4, 5, 6] rfl) (hD.sub [0, 1, 2, 3, 4, 5, 6] (by decide) rfl) hS
set_option maxHeartbeats 4000000 in
set_option maxRecDepth 100000 in
theorem c_Schema_added (l : Launch) (dC : Nat → ClassId) (dI : Nat → Nat → Nat) (sz : Nat) (h0 : Nat) (a1 : Nat) (dv : Nat) (md : Int32) (bk : Int32) (a2 : Nat) (a3 : Nat) (a4 : Nat) (wd : Nat) (lt : Nat) (bu : Nat) (st : Nat) (le : Nat) (nx : Nat) (ow : Nat) (sp : Nat) (ky : Nat) (sm : Nat) (sk : Int32) (cst : ClassId) (stf : Nat → Int32) (cle : ClassId) (lef : Nat → Int32) (cnx : ClassId) (nxf : Nat → Int32) (cow : ClassId) (owf : Nat → Int32) (cbu : ClassId) (buf : Nat → Int32) (lta : Nat) (clt : ClassId) (ltf : Nat → Int32) (tx : Nat) (txa : Nat) (ctx : ClassId) (txn : Nat) (txf : Nat → Int32) (txk : Int32) (sn : Nat) (lk : Nat) (ln : Nat) (b : Nat) (fr : Int32) (hs : sn < 64) (hb8 : b < 256) (hlk : lk + ln ≤ 512) (hn : txn ≤ 65536) : Met l y_Schema_added ws_Schema_added ({ frames := 1, cells := 0, slots := 0, locals := 21 }) (va_Pc [.ref h0, .ref tx, .int fr, .int (nI ln), .int (nI b)] (fun U => U.heap.size = sz ∧ va_P (dC, dI) classes [(h0, .inr (3, [.ref a1, .ref dv, .int md, .int bk, .ref a2, .ref a3, .ref a4, .ref wd, .ref lt, .ref bu, .ref st, .ref le, .ref nx, .ref ow, .int (nI sn), .ref sp, .ref ky, .ref sm, .int sk])), (st, .inl (cst, 64, .inl stf)), (le, .inl (cle, 64, .inl lef)), (nx, .inl (cnx, 64, .inl nxf)), (ow, .inl (cow, 64, .inl owf)), (bu, .inl (cbu, 256, .inl buf)), (lt, .inr (0, [.ref lta, .int (nI lk)])), (lta, .inl (clt, 512, .inl ltf)), (tx, .inr (0, [.ref txa, .int txk])), (txa, .inl (ctx, txn, .inl txf))] U.heap ∧ va_K (dC, dI) classes [(cst, .int), (cle, .int), (cnx, .int), (cow, .int), (cbu, .int), (clt, .byte), (ctx, .byte)] U ∧ va_D (fun _ => True) [(h0, .inr (3, [.ref a1, .ref dv, .int md, .int bk, .ref a2, .ref a3, .ref a4, .ref wd, .ref lt, .ref bu, .ref st, .ref le, .ref nx, .ref ow, .int (nI sn), .ref sp, .ref ky, .ref sm, .int sk])), (st, .inl (cst, 64, .inl stf)), (le, .inl (cle, 64, .inl lef)), (nx, .inl (cnx, 64, .inl nxf)), (ow, .inl (cow, 64, .inl owf)), (bu, .inl (cbu, 256, .inl buf)), (lt, .inr (0, [.ref lta, .int (nI lk)])), (lta, .inl (clt, 512, .inl ltf)), (tx, .inr (0, [.ref txa, .int txk])), (txa, .inl (ctx, txn, .inl txf))])) (va_Qi (fun (r : Int32) (_ : Unit) => r = nI sn) (fun _ t => ∃ (g2 : Nat → Int32), va_P (dC, dI) classes [(h0, .inr (3, [.ref a1, .ref dv, .int md, .int bk, .ref a2, .ref a3, .ref a4, .ref wd, .ref lt, .ref bu, .ref st, .ref le, .ref nx, .ref ow, .int (nI (sn + 1)), .ref sp, .ref ky, .ref sm, .int sk])), (st, .inl (cst, 64, .inl (upd stf (nI sn).toNatClampNeg (nI lk)))), (le, .inl (cle, 64, .inl (upd lef (nI sn).toNatClampNeg (nI ln)))), (nx, .inl (cnx, 64, .inl (upd nxf (nI sn).toNatClampNeg (buf (nI b).toNatClampNeg)))), (ow, .inl (cow, 64, .inl (upd owf (nI sn).toNatClampNeg (-1)))), (bu, .inl (cbu, 256, .inl (upd buf (nI b).toNatClampNeg (nI sn)))), (lt, .inr (0, [.ref lta, .int (nI (lk + ln))])), (lta, .inl (clt, 512, .inl g2)), (tx, .inr (0, [.ref txa, .int txk])), (txa, .inl (ctx, txn, .inl txf))] t.heap ∧ va_K (dC, dI) classes [(cst, .int), (cle, .int), (cnx, .int), (cow, .int), (cbu, .int), (clt, .byte), (ctx, .byte)] t ∧ va_D (va_A [(h0, .inr (3, [.ref a1, .ref dv, .int md, .int bk, .ref a2, .ref a3, .ref a4, .ref wd, .ref lt, .ref bu, .ref st, .ref le, .ref nx, .ref ow, .int (nI sn), .ref sp, .ref ky, .ref sm, .int sk])), (st, .inl (cst, 64, .inl stf)), (le, .inl (cle, 64, .inl lef)), (nx, .inl (cnx, 64, .inl nxf)), (ow, .inl (cow, 64, .inl owf)), (bu, .inl (cbu, 256, .inl buf)), (lt, .inr (0, [.ref lta, .int (nI lk)])), (lta, .inl (clt, 512, .inl ltf)), (tx, .inr (0, [.ref txa, .int txk])), (txa, .inl (ctx, txn, .inl txf))] sz) [(h0, .inr (3, [.ref a1, .ref dv, .int md, .int bk, .ref a2, .ref a3, .ref a4, .ref wd, .ref lt, .ref bu, .ref st, .ref le, .ref nx, .ref ow, .int (nI (sn + 1)), .ref sp, .ref ky, .ref sm, .int sk])), (st, .inl (cst, 64, .inl (upd stf (nI sn).toNatClampNeg (nI lk)))), (le, .inl (cle, 64, .inl (upd lef (nI sn).toNatClampNeg (nI ln)))), (nx, .inl (cnx, 64, .inl (upd nxf (nI sn).toNatClampNeg (buf (nI b).toNatClampNeg)))), (ow, .inl (cow, 64, .inl (upd owf (nI sn).toNatClampNeg (-1)))), (bu, .inl (cbu, 256, .inl (upd buf (nI b).toNatClampNeg (nI sn)))), (lt, .inr (0, [.ref lta, .int (nI (lk + ln))])), (lta, .inl (clt, 512, .inl g2)), (tx, .inr (0, [.ref txa, .int txk])), (txa, .inl (ctx, txn, .inl txf))]) (va_A [(h0, .inr (3, [.ref a1, .ref dv, .int md, .int bk, .ref a2, .ref a3, .ref a4, .ref wd, .ref lt, .ref bu, .ref st, .ref le, .ref nx, .ref ow, .int (nI sn), .ref sp, .ref ky, .ref sm, .int sk])), (st, .inl (cst, 64, .inl stf)), (le, .inl (cle, 64, .inl lef)), (nx, .inl (cnx, 64, .inl nxf)), (ow, .inl (cow, 64, .inl owf)), (bu, .inl (cbu, 256, .inl buf)), (lt, .inr (0, [.ref lta, .int (nI lk)])), (lta, .inl (clt, 512, .inl ltf)), (tx, .inr (0, [.ref txa, .int txk])), (txa, .inl (ctx, txn, .inl txf))] sz)) 0 0 (va_A [(h0, .inr (3, [.ref a1, .ref dv, .int md, .int bk, .ref a2, .ref a3, .ref a4, .ref wd, .ref lt, .ref bu, .ref st, .ref le, .ref nx, .ref ow, .int (nI sn), .ref sp, .ref ky, .ref sm, .int sk])), (st, .inl (cst, 64, .inl stf)), (le, .inl (cle, 64, .inl lef)), (nx, .inl (cnx, 64, .inl nxf)), (ow, .inl (cow, 64, .inl owf)), (bu, .inl (cbu, 256, .inl buf)), (lt, .inr (0, [.ref lta, .int (nI lk)])), (lta, .inl (clt, 512, .inl ltf)), (tx, .inr (0, [.ref txa, .int txk])), (txa, .inl (ctx, txn, .inl txf))] sz) := by
  refine Met.ofW (cc := b_Schema_added) (maxL := 6) (ret := (some .int)) (by decide) rfl ?_
  intro p e s m args below meth c s₁ B hml hv
  obtain ⟨rfl, hsz, hP, hK, hD0⟩ := hv
  have hx := B.exec
  have hb := B.bytes
  have hr := B.returns
  have hts := atoms_spec (ws := ws_Schema_added) B.pre
  have htw : ∀ w ∈ tw_tbl, w.before [.ref h0, .ref tx, .int fr, .int (nI ln), .int (nI b)].toArray s = true := fun w h => hts w (List.mem_cons_of_mem _ h)
  have hown : s.vm.findClass R_Schema = some m.cls := findClass_of_methodNamed B.named
  have hlocks := B.notSynchronized
  have hin : meth.name = "added" := (name_of_methodNamed B.named B.method).1
  subst hsz
  have hD := hD0.self (sz := s.heap.size)
  generalize hAe : va_A [(h0, .inr (3, [.ref a1, .ref dv, .int md, .int bk, .ref a2, .ref a3, .ref a4, .ref wd, .ref lt, .ref bu, .ref st, .ref le, .ref nx, .ref ow, .int (nI sn), .ref sp, .ref ky, .ref sm, .int sk])), (st, .inl (cst, 64, .inl stf)), (le, .inl (cle, 64, .inl lef)), (nx, .inl (cnx, 64, .inl nxf)), (ow, .inl (cow, 64, .inl owf)), (bu, .inl (cbu, 256, .inl buf)), (lt, .inr (0, [.ref lta, .int (nI lk)])), (lta, .inl (clt, 512, .inl ltf)), (tx, .inr (0, [.ref txa, .int txk])), (txa, .inl (ctx, txn, .inl txf))] s.heap.size = A at hD ⊢
  have hA : ∀ q : Nat, s.heap.size ≤ q → A q := fun q h => by rw [← hAe]; exact Or.inr h
  have hS : va_S A s.heap s.heap [] := va_S.rf
  have hP : va_P (dC, dI) classes [(h0, .inr (3, [.ref a1, .ref dv, .int md, .int bk, .ref a2, .ref a3, .ref a4, .ref wd, .ref lt, .ref bu, .ref st, .ref le, .ref nx, .ref ow, .int (nI sn), .ref sp, .ref ky, .ref sm, .int sk])), (st, .inl (cst, 64, .inl stf)), (le, .inl (cle, 64, .inl lef)), (nx, .inl (cnx, 64, .inl nxf)), (ow, .inl (cow, 64, .inl owf)), (bu, .inl (cbu, 256, .inl buf)), (lt, .inr (0, [.ref lta, .int (nI lk)])), (lta, .inl (clt, 512, .inl ltf)), (tx, .inr (0, [.ref txa, .int txk])), (txa, .inl (ctx, txn, .inl txf))] s.heap := hP
  have hl := lv_entry ([.ref h0, .ref tx, .int fr, .int (nI ln), .int (nI b)]) (n := 6) (Nat.le_of_ble_eq_true rfl)
  rw [lg_entry_eq]
  generalize (lg_sl ([.ref h0, .ref tx, .int fr, .int (nI ln), .int (nI b)]) ++ List.replicate (6 - (lg_sl ([.ref h0, .ref tx, .int fr, .int (nI ln), .int (nI b)])).length) Slot.unset).toArray = ls at hl ⊢
  have hl : lv_has ls 6 [(0, .ref h0), (1, .ref tx), (2, .int fr), (3, .int (nI ln)), (4, .int (nI b))] := hl
  refine lv_aload_n hx hb d_Schema_added_0 rfl (lv_at hl 0 rfl) ?_
  refine va_get (D := (dC, dI)) (ci := 3) (v := .int (nI sn)) (C := R_Schema) (T := F_Schema) (N := 19) hx hb htw i_Schema hown hK hP 0 rfl rfl 14 (by decide) (htw _ wd_2_36) (fun _ h9 => h9) rfl d_Schema_added_1 ?_
  refine lv_aload_n hx hb d_Schema_added_4 rfl (lv_at hl 0 rfl) ?_
  refine va_get (D := (dC, dI)) (ci := 3) (v := .ref st) (C := R_Schema) (T := F_Schema) (N := 19) hx hb htw i_Schema hown hK hP 0 rfl rfl 10 (by decide) (htw _ wd_2_32) (fun _ h9 => h9) rfl d_Schema_added_5 ?_
  refine va_alen (v := 64) hx hb hK hP 1 0 rfl rfl rfl d_Schema_added_8 ?_
  refine lv_icmp_lt (tgt := 80) hx hb d_Schema_added_9 rfl (fun _ => ?_) (fun hn => absurd ((nI_ltI (a := sn) (b := 64) (by omega) (by omega)).mpr hs) hn)
  refine lv_aload_n hx hb d_Schema_added_80 rfl (lv_at hl 0 rfl) ?_
  refine va_get (D := (dC, dI)) (ci := 3) (v := .ref st) (C := R_Schema) (T := F_Schema) (N := 19) hx hb htw i_Schema hown hK hP 0 rfl rfl 10 (by decide) (htw _ wd_2_32) (fun _ h9 => h9) rfl d_Schema_added_81 ?_
  refine lv_aload_n hx hb d_Schema_added_84 rfl (lv_at hl 0 rfl) ?_
  refine va_get (D := (dC, dI)) (ci := 3) (v := .int (nI sn)) (C := R_Schema) (T := F_Schema) (N := 19) hx hb htw i_Schema hown hK hP 0 rfl rfl 14 (by decide) (htw _ wd_2_36) (fun _ h9 => h9) rfl d_Schema_added_85 ?_
  refine lv_aload_n hx hb d_Schema_added_88 rfl (lv_at hl 0 rfl) ?_
  refine va_get (D := (dC, dI)) (ci := 3) (v := .ref lt) (C := R_Schema) (T := F_Schema) (N := 19) hx hb htw i_Schema hown hK hP 0 rfl rfl 8 (by decide) (htw _ wd_2_30) (fun _ h9 => h9) rfl d_Schema_added_89 ?_
  refine va_get (D := (dC, dI)) (ci := 0) (v := .int (nI lk)) (C := R_Bytes) (T := F_Bytes) (N := 2) hx hb htw i_Bytes hown hK hP 6 rfl rfl 1 (by decide) (htw _ wd_1_70) (fun _ h9 => h9) rfl d_Schema_added_92 ?_
  refine va_iast hx hb hK hP hD hS 1 0 rfl rfl (vp_in_nI hs (by decide)) d_Schema_added_95 (fun H locs hP hD hS => ?_)
  have hP : va_P (dC, dI) classes [(h0, .inr (3, [.ref a1, .ref dv, .int md, .int bk, .ref a2, .ref a3, .ref a4, .ref wd, .ref lt, .ref bu, .ref st, .ref le, .ref nx, .ref ow, .int (nI sn), .ref sp, .ref ky, .ref sm, .int sk])), (st, .inl (cst, 64, .inl (upd stf (nI sn).toNatClampNeg (nI lk)))), (le, .inl (cle, 64, .inl lef)), (nx, .inl (cnx, 64, .inl nxf)), (ow, .inl (cow, 64, .inl owf)), (bu, .inl (cbu, 256, .inl buf)), (lt, .inr (0, [.ref lta, .int (nI lk)])), (lta, .inl (clt, 512, .inl ltf)), (tx, .inr (0, [.ref txa, .int txk])), (txa, .inl (ctx, txn, .inl txf))] H := hP
  have hD : va_D A [(h0, .inr (3, [.ref a1, .ref dv, .int md, .int bk, .ref a2, .ref a3, .ref a4, .ref wd, .ref lt, .ref bu, .ref st, .ref le, .ref nx, .ref ow, .int (nI sn), .ref sp, .ref ky, .ref sm, .int sk])), (st, .inl (cst, 64, .inl (upd stf (nI sn).toNatClampNeg (nI lk)))), (le, .inl (cle, 64, .inl lef)), (nx, .inl (cnx, 64, .inl nxf)), (ow, .inl (cow, 64, .inl owf)), (bu, .inl (cbu, 256, .inl buf)), (lt, .inr (0, [.ref lta, .int (nI lk)])), (lta, .inl (clt, 512, .inl ltf)), (tx, .inr (0, [.ref txa, .int txk])), (txa, .inl (ctx, txn, .inl txf))] := hD
  refine lv_aload_n hx hb d_Schema_added_96 rfl (lv_at hl 0 rfl) ?_
  refine va_get (D := (dC, dI)) (ci := 3) (v := .ref le) (C := R_Schema) (T := F_Schema) (N := 19) hx hb htw i_Schema hown hK hP 0 rfl rfl 11 (by decide) (htw _ wd_2_33) (fun _ h9 => h9) rfl d_Schema_added_97 ?_
  refine lv_aload_n hx hb d_Schema_added_100 rfl (lv_at hl 0 rfl) ?_
  refine va_get (D := (dC, dI)) (ci := 3) (v := .int (nI sn)) (C := R_Schema) (T := F_Schema) (N := 19) hx hb htw i_Schema hown hK hP 0 rfl rfl 14 (by decide) (htw _ wd_2_36) (fun _ h9 => h9) rfl d_Schema_added_101 ?_
  refine lv_iload_n hx hb d_Schema_added_104 rfl (lv_at hl 3 rfl) ?_
  refine va_iast hx hb hK hP hD hS 2 1 rfl rfl (vp_in_nI hs (by decide)) d_Schema_added_105 (fun H locs hP hD hS => ?_)
  have hP : va_P (dC, dI) classes [(h0, .inr (3, [.ref a1, .ref dv, .int md, .int bk, .ref a2, .ref a3, .ref a4, .ref wd, .ref lt, .ref bu, .ref st, .ref le, .ref nx, .ref ow, .int (nI sn), .ref sp, .ref ky, .ref sm, .int sk])), (st, .inl (cst, 64, .inl (upd stf (nI sn).toNatClampNeg (nI lk)))), (le, .inl (cle, 64, .inl (upd lef (nI sn).toNatClampNeg (nI ln)))), (nx, .inl (cnx, 64, .inl nxf)), (ow, .inl (cow, 64, .inl owf)), (bu, .inl (cbu, 256, .inl buf)), (lt, .inr (0, [.ref lta, .int (nI lk)])), (lta, .inl (clt, 512, .inl ltf)), (tx, .inr (0, [.ref txa, .int txk])), (txa, .inl (ctx, txn, .inl txf))] H := hP
  have hD : va_D A [(h0, .inr (3, [.ref a1, .ref dv, .int md, .int bk, .ref a2, .ref a3, .ref a4, .ref wd, .ref lt, .ref bu, .ref st, .ref le, .ref nx, .ref ow, .int (nI sn), .ref sp, .ref ky, .ref sm, .int sk])), (st, .inl (cst, 64, .inl (upd stf (nI sn).toNatClampNeg (nI lk)))), (le, .inl (cle, 64, .inl (upd lef (nI sn).toNatClampNeg (nI ln)))), (nx, .inl (cnx, 64, .inl nxf)), (ow, .inl (cow, 64, .inl owf)), (bu, .inl (cbu, 256, .inl buf)), (lt, .inr (0, [.ref lta, .int (nI lk)])), (lta, .inl (clt, 512, .inl ltf)), (tx, .inr (0, [.ref txa, .int txk])), (txa, .inl (ctx, txn, .inl txf))] := hD
  refine lv_aload_n hx hb d_Schema_added_106 rfl (lv_at hl 0 rfl) ?_
  refine va_get (D := (dC, dI)) (ci := 3) (v := .ref nx) (C := R_Schema) (T := F_Schema) (N := 19) hx hb htw i_Schema hown hK hP 0 rfl rfl 12 (by decide) (htw _ wd_2_34) (fun _ h9 => h9) rfl d_Schema_added_107 ?_
  refine lv_aload_n hx hb d_Schema_added_110 rfl (lv_at hl 0 rfl) ?_
  refine va_get (D := (dC, dI)) (ci := 3) (v := .int (nI sn)) (C := R_Schema) (T := F_Schema) (N := 19) hx hb htw i_Schema hown hK hP 0 rfl rfl 14 (by decide) (htw _ wd_2_36) (fun _ h9 => h9) rfl d_Schema_added_111 ?_
  refine lv_aload_n hx hb d_Schema_added_114 rfl (lv_at hl 0 rfl) ?_
  refine va_get (D := (dC, dI)) (ci := 3) (v := .ref bu) (C := R_Schema) (T := F_Schema) (N := 19) hx hb htw i_Schema hown hK hP 0 rfl rfl 9 (by decide) (htw _ wd_2_31) (fun _ h9 => h9) rfl d_Schema_added_115 ?_
  refine lv_iload hx hb d_Schema_added_118 (lv_at hl 4 rfl) ?_
  refine va_iald hx hb hK hP 5 4 rfl rfl (vp_in_nI hb8 (by decide)) d_Schema_added_120 ?_
  refine va_iast hx hb hK hP hD hS 3 2 rfl rfl (vp_in_nI hs (by decide)) d_Schema_added_121 (fun H locs hP hD hS => ?_)
  have hP : va_P (dC, dI) classes [(h0, .inr (3, [.ref a1, .ref dv, .int md, .int bk, .ref a2, .ref a3, .ref a4, .ref wd, .ref lt, .ref bu, .ref st, .ref le, .ref nx, .ref ow, .int (nI sn), .ref sp, .ref ky, .ref sm, .int sk])), (st, .inl (cst, 64, .inl (upd stf (nI sn).toNatClampNeg (nI lk)))), (le, .inl (cle, 64, .inl (upd lef (nI sn).toNatClampNeg (nI ln)))), (nx, .inl (cnx, 64, .inl (upd nxf (nI sn).toNatClampNeg (buf (nI b).toNatClampNeg)))), (ow, .inl (cow, 64, .inl owf)), (bu, .inl (cbu, 256, .inl buf)), (lt, .inr (0, [.ref lta, .int (nI lk)])), (lta, .inl (clt, 512, .inl ltf)), (tx, .inr (0, [.ref txa, .int txk])), (txa, .inl (ctx, txn, .inl txf))] H := hP
  have hD : va_D A [(h0, .inr (3, [.ref a1, .ref dv, .int md, .int bk, .ref a2, .ref a3, .ref a4, .ref wd, .ref lt, .ref bu, .ref st, .ref le, .ref nx, .ref ow, .int (nI sn), .ref sp, .ref ky, .ref sm, .int sk])), (st, .inl (cst, 64, .inl (upd stf (nI sn).toNatClampNeg (nI lk)))), (le, .inl (cle, 64, .inl (upd lef (nI sn).toNatClampNeg (nI ln)))), (nx, .inl (cnx, 64, .inl (upd nxf (nI sn).toNatClampNeg (buf (nI b).toNatClampNeg)))), (ow, .inl (cow, 64, .inl owf)), (bu, .inl (cbu, 256, .inl buf)), (lt, .inr (0, [.ref lta, .int (nI lk)])), (lta, .inl (clt, 512, .inl ltf)), (tx, .inr (0, [.ref txa, .int txk])), (txa, .inl (ctx, txn, .inl txf))] := hD
  refine lv_aload_n hx hb d_Schema_added_122 rfl (lv_at hl 0 rfl) ?_
  refine va_get (D := (dC, dI)) (ci := 3) (v := .ref ow) (C := R_Schema) (T := F_Schema) (N := 19) hx hb htw i_Schema hown hK hP 0 rfl rfl 13 (by decide) (htw _ wd_2_35) (fun _ h9 => h9) rfl d_Schema_added_123 ?_
  refine lv_aload_n hx hb d_Schema_added_126 rfl (lv_at hl 0 rfl) ?_
  refine va_get (D := (dC, dI)) (ci := 3) (v := .int (nI sn)) (C := R_Schema) (T := F_Schema) (N := 19) hx hb htw i_Schema hown hK hP 0 rfl rfl 14 (by decide) (htw _ wd_2_36) (fun _ h9 => h9) rfl d_Schema_added_127 ?_
  refine lv_iconst (v := (-1)) hx hb d_Schema_added_130 (by decide) ?_
  refine va_iast hx hb hK hP hD hS 4 3 rfl rfl (vp_in_nI hs (by decide)) d_Schema_added_131 (fun H locs hP hD hS => ?_)
  have hP : va_P (dC, dI) classes [(h0, .inr (3, [.ref a1, .ref dv, .int md, .int bk, .ref a2, .ref a3, .ref a4, .ref wd, .ref lt, .ref bu, .ref st, .ref le, .ref nx, .ref ow, .int (nI sn), .ref sp, .ref ky, .ref sm, .int sk])), (st, .inl (cst, 64, .inl (upd stf (nI sn).toNatClampNeg (nI lk)))), (le, .inl (cle, 64, .inl (upd lef (nI sn).toNatClampNeg (nI ln)))), (nx, .inl (cnx, 64, .inl (upd nxf (nI sn).toNatClampNeg (buf (nI b).toNatClampNeg)))), (ow, .inl (cow, 64, .inl (upd owf (nI sn).toNatClampNeg ((-1))))), (bu, .inl (cbu, 256, .inl buf)), (lt, .inr (0, [.ref lta, .int (nI lk)])), (lta, .inl (clt, 512, .inl ltf)), (tx, .inr (0, [.ref txa, .int txk])), (txa, .inl (ctx, txn, .inl txf))] H := hP
  have hD : va_D A [(h0, .inr (3, [.ref a1, .ref dv, .int md, .int bk, .ref a2, .ref a3, .ref a4, .ref wd, .ref lt, .ref bu, .ref st, .ref le, .ref nx, .ref ow, .int (nI sn), .ref sp, .ref ky, .ref sm, .int sk])), (st, .inl (cst, 64, .inl (upd stf (nI sn).toNatClampNeg (nI lk)))), (le, .inl (cle, 64, .inl (upd lef (nI sn).toNatClampNeg (nI ln)))), (nx, .inl (cnx, 64, .inl (upd nxf (nI sn).toNatClampNeg (buf (nI b).toNatClampNeg)))), (ow, .inl (cow, 64, .inl (upd owf (nI sn).toNatClampNeg ((-1))))), (bu, .inl (cbu, 256, .inl buf)), (lt, .inr (0, [.ref lta, .int (nI lk)])), (lta, .inl (clt, 512, .inl ltf)), (tx, .inr (0, [.ref txa, .int txk])), (txa, .inl (ctx, txn, .inl txf))] := hD
  refine lv_aload_n hx hb d_Schema_added_132 rfl (lv_at hl 0 rfl) ?_
  refine va_get (D := (dC, dI)) (ci := 3) (v := .ref bu) (C := R_Schema) (T := F_Schema) (N := 19) hx hb htw i_Schema hown hK hP 0 rfl rfl 9 (by decide) (htw _ wd_2_31) (fun _ h9 => h9) rfl d_Schema_added_133 ?_
  refine lv_iload hx hb d_Schema_added_136 (lv_at hl 4 rfl) ?_
  refine lv_aload_n hx hb d_Schema_added_138 rfl (lv_at hl 0 rfl) ?_
  refine va_get (D := (dC, dI)) (ci := 3) (v := .int (nI sn)) (C := R_Schema) (T := F_Schema) (N := 19) hx hb htw i_Schema hown hK hP 0 rfl rfl 14 (by decide) (htw _ wd_2_36) (fun _ h9 => h9) rfl d_Schema_added_139 ?_
  refine va_iast hx hb hK hP hD hS 5 4 rfl rfl (vp_in_nI hb8 (by decide)) d_Schema_added_142 (fun H locs hP hD hS => ?_)
  have hP : va_P (dC, dI) classes [(h0, .inr (3, [.ref a1, .ref dv, .int md, .int bk, .ref a2, .ref a3, .ref a4, .ref wd, .ref lt, .ref bu, .ref st, .ref le, .ref nx, .ref ow, .int (nI sn), .ref sp, .ref ky, .ref sm, .int sk])), (st, .inl (cst, 64, .inl (upd stf (nI sn).toNatClampNeg (nI lk)))), (le, .inl (cle, 64, .inl (upd lef (nI sn).toNatClampNeg (nI ln)))), (nx, .inl (cnx, 64, .inl (upd nxf (nI sn).toNatClampNeg (buf (nI b).toNatClampNeg)))), (ow, .inl (cow, 64, .inl (upd owf (nI sn).toNatClampNeg ((-1))))), (bu, .inl (cbu, 256, .inl (upd buf (nI b).toNatClampNeg (nI sn)))), (lt, .inr (0, [.ref lta, .int (nI lk)])), (lta, .inl (clt, 512, .inl ltf)), (tx, .inr (0, [.ref txa, .int txk])), (txa, .inl (ctx, txn, .inl txf))] H := hP
  have hD : va_D A [(h0, .inr (3, [.ref a1, .ref dv, .int md, .int bk, .ref a2, .ref a3, .ref a4, .ref wd, .ref lt, .ref bu, .ref st, .ref le, .ref nx, .ref ow, .int (nI sn), .ref sp, .ref ky, .ref sm, .int sk])), (st, .inl (cst, 64, .inl (upd stf (nI sn).toNatClampNeg (nI lk)))), (le, .inl (cle, 64, .inl (upd lef (nI sn).toNatClampNeg (nI ln)))), (nx, .inl (cnx, 64, .inl (upd nxf (nI sn).toNatClampNeg (buf (nI b).toNatClampNeg)))), (ow, .inl (cow, 64, .inl (upd owf (nI sn).toNatClampNeg ((-1))))), (bu, .inl (cbu, 256, .inl (upd buf (nI b).toNatClampNeg (nI sn)))), (lt, .inr (0, [.ref lta, .int (nI lk)])), (lta, .inl (clt, 512, .inl ltf)), (tx, .inr (0, [.ref txa, .int txk])), (txa, .inl (ctx, txn, .inl txf))] := hD
  refine lv_iconst (v := 0) hx hb d_Schema_added_143 (by decide) ?_
  refine lv_istore hx hb d_Schema_added_144 hl (by decide) rfl (fun ls hl => ?_)
  have hl : lv_has ls 6 [(5, .int 0), (0, .ref h0), (1, .ref tx), (2, .int fr), (3, .int (nI ln)), (4, .int (nI b))] := hl
  have lp : ∀ (fuel : Nat) (i : Nat) (g : Nat → Int32) (H : Heap) (locs : List Loc) (ls : Array Slot), i ≤ ln → ln - i < fuel → lv_has ls 6 [(5, .int (nI i)), (0, .ref h0), (1, .ref tx), (2, .int fr), (3, .int (nI ln)), (4, .int (nI b))] → va_P (dC, dI) classes [(h0, .inr (3, [.ref a1, .ref dv, .int md, .int bk, .ref a2, .ref a3, .ref a4, .ref wd, .ref lt, .ref bu, .ref st, .ref le, .ref nx, .ref ow, .int (nI sn), .ref sp, .ref ky, .ref sm, .int sk])), (st, .inl (cst, 64, .inl (upd stf (nI sn).toNatClampNeg (nI lk)))), (le, .inl (cle, 64, .inl (upd lef (nI sn).toNatClampNeg (nI ln)))), (nx, .inl (cnx, 64, .inl (upd nxf (nI sn).toNatClampNeg (buf (nI b).toNatClampNeg)))), (ow, .inl (cow, 64, .inl (upd owf (nI sn).toNatClampNeg ((-1))))), (bu, .inl (cbu, 256, .inl (upd buf (nI b).toNatClampNeg (nI sn)))), (lt, .inr (0, [.ref lta, .int (nI (lk + i))])), (lta, .inl (clt, 512, .inl g)), (tx, .inr (0, [.ref txa, .int txk])), (txa, .inl (ctx, txn, .inl txf))] H → va_D A [(h0, .inr (3, [.ref a1, .ref dv, .int md, .int bk, .ref a2, .ref a3, .ref a4, .ref wd, .ref lt, .ref bu, .ref st, .ref le, .ref nx, .ref ow, .int (nI sn), .ref sp, .ref ky, .ref sm, .int sk])), (st, .inl (cst, 64, .inl (upd stf (nI sn).toNatClampNeg (nI lk)))), (le, .inl (cle, 64, .inl (upd lef (nI sn).toNatClampNeg (nI ln)))), (nx, .inl (cnx, 64, .inl (upd nxf (nI sn).toNatClampNeg (buf (nI b).toNatClampNeg)))), (ow, .inl (cow, 64, .inl (upd owf (nI sn).toNatClampNeg ((-1))))), (bu, .inl (cbu, 256, .inl (upd buf (nI b).toNatClampNeg (nI sn)))), (lt, .inr (0, [.ref lta, .int (nI (lk + i))])), (lta, .inl (clt, 512, .inl g)), (tx, .inr (0, [.ref txa, .int txk])), (txa, .inl (ctx, txn, .inl txf))] → va_S A s.heap H locs → W p l e (headSpec ws_Schema_added ({ frames := 1, cells := 0, slots := 0, locals := 21 })).room s m [.ref h0, .ref tx, .int fr, .int (nI ln), .int (nI b)].toArray below meth c H locs 0 0 (MQ below (va_Qi (fun (r : Int32) (_ : Unit) => r = nI sn) (fun _ t => ∃ (g2 : Nat → Int32), va_P (dC, dI) classes [(h0, .inr (3, [.ref a1, .ref dv, .int md, .int bk, .ref a2, .ref a3, .ref a4, .ref wd, .ref lt, .ref bu, .ref st, .ref le, .ref nx, .ref ow, .int (nI (sn + 1)), .ref sp, .ref ky, .ref sm, .int sk])), (st, .inl (cst, 64, .inl (upd stf (nI sn).toNatClampNeg (nI lk)))), (le, .inl (cle, 64, .inl (upd lef (nI sn).toNatClampNeg (nI ln)))), (nx, .inl (cnx, 64, .inl (upd nxf (nI sn).toNatClampNeg (buf (nI b).toNatClampNeg)))), (ow, .inl (cow, 64, .inl (upd owf (nI sn).toNatClampNeg (-1)))), (bu, .inl (cbu, 256, .inl (upd buf (nI b).toNatClampNeg (nI sn)))), (lt, .inr (0, [.ref lta, .int (nI (lk + ln))])), (lta, .inl (clt, 512, .inl g2)), (tx, .inr (0, [.ref txa, .int txk])), (txa, .inl (ctx, txn, .inl txf))] t.heap ∧ va_K (dC, dI) classes [(cst, .int), (cle, .int), (cnx, .int), (cow, .int), (cbu, .int), (clt, .byte), (ctx, .byte)] t ∧ va_D A [(h0, .inr (3, [.ref a1, .ref dv, .int md, .int bk, .ref a2, .ref a3, .ref a4, .ref wd, .ref lt, .ref bu, .ref st, .ref le, .ref nx, .ref ow, .int (nI (sn + 1)), .ref sp, .ref ky, .ref sm, .int sk])), (st, .inl (cst, 64, .inl (upd stf (nI sn).toNatClampNeg (nI lk)))), (le, .inl (cle, 64, .inl (upd lef (nI sn).toNatClampNeg (nI ln)))), (nx, .inl (cnx, 64, .inl (upd nxf (nI sn).toNatClampNeg (buf (nI b).toNatClampNeg)))), (ow, .inl (cow, 64, .inl (upd owf (nI sn).toNatClampNeg (-1)))), (bu, .inl (cbu, 256, .inl (upd buf (nI b).toNatClampNeg (nI sn)))), (lt, .inr (0, [.ref lta, .int (nI (lk + ln))])), (lta, .inl (clt, 512, .inl g2)), (tx, .inr (0, [.ref txa, .int txk])), (txa, .inl (ctx, txn, .inl txf))]) A) [.ref h0, .ref tx, .int fr, .int (nI ln), .int (nI b)].toArray s 0 0 A) (F0 m 146 ls []) := by
    intro fuel
    induction fuel with
    | zero => intro i g H locs ls hi hm; omega
    | succ fuel ih =>
      intro i g H locs ls hi hm hl hP hD hS
      refine lv_iload hx hb d_Schema_added_146 (lv_at hl 0 rfl) ?_
      refine lv_iload_n hx hb d_Schema_added_148 rfl (lv_at hl 4 rfl) ?_
      refine lv_icmp_ge (tgt := 173) hx hb d_Schema_added_149 rfl (fun h1 => ?_) (fun h1 => ?_)
      · have h2 : ln = i := by have := (nI_leI (by omega) (by omega)).mp h1; omega
        subst h2
        refine lv_aload_n hx hb d_Schema_added_173 rfl (lv_at hl 1 rfl) ?_
        refine lv_dup hx hb d_Schema_added_174 rfl ?_
        refine va_get (D := (dC, dI)) (ci := 3) (v := .int (nI sn)) (C := R_Schema) (T := F_Schema) (N := 19) hx hb htw i_Schema hown hK hP 0 rfl rfl 14 (by decide) (htw _ wd_2_36) (fun _ h9 => h9) rfl d_Schema_added_175 ?_
        refine lv_iconst (v := 1) hx hb d_Schema_added_178 (by decide) ?_
        refine lv_iadd hx hb d_Schema_added_179 ?_
        refine lv_topi (fun z9 e9 => ?_)
        have e9 : z9 = nI (sn + 1) := e9.trans (nI_1 sn)
        subst e9
        refine va_put (D := (dC, dI)) (ci := 3) (v := .int (nI (sn + 1))) (ty := .int) (C := R_Schema) (T := F_Schema) (N := 19) hx hb htw i_Schema t_Schema t_Schema_ok n_Schema hown hK hP hD hS 0 rfl rfl 14 (by decide) (htw _ wd_2_36) (fun _ h9 => h9) rfl (by decide +kernel) rfl rfl (Nat.le_of_ble_eq_true rfl) d_Schema_added_180 (fun H locs hP hD hS => ?_)
        have hP : va_P (dC, dI) classes [(h0, .inr (3, [.ref a1, .ref dv, .int md, .int bk, .ref a2, .ref a3, .ref a4, .ref wd, .ref lt, .ref bu, .ref st, .ref le, .ref nx, .ref ow, .int (nI (sn + 1)), .ref sp, .ref ky, .ref sm, .int sk])), (st, .inl (cst, 64, .inl (upd stf (nI sn).toNatClampNeg (nI lk)))), (le, .inl (cle, 64, .inl (upd lef (nI sn).toNatClampNeg (nI ln)))), (nx, .inl (cnx, 64, .inl (upd nxf (nI sn).toNatClampNeg (buf (nI b).toNatClampNeg)))), (ow, .inl (cow, 64, .inl (upd owf (nI sn).toNatClampNeg ((-1))))), (bu, .inl (cbu, 256, .inl (upd buf (nI b).toNatClampNeg (nI sn)))), (lt, .inr (0, [.ref lta, .int (nI (lk + ln))])), (lta, .inl (clt, 512, .inl g)), (tx, .inr (0, [.ref txa, .int txk])), (txa, .inl (ctx, txn, .inl txf))] H := hP
        have hD : va_D A [(h0, .inr (3, [.ref a1, .ref dv, .int md, .int bk, .ref a2, .ref a3, .ref a4, .ref wd, .ref lt, .ref bu, .ref st, .ref le, .ref nx, .ref ow, .int (nI (sn + 1)), .ref sp, .ref ky, .ref sm, .int sk])), (st, .inl (cst, 64, .inl (upd stf (nI sn).toNatClampNeg (nI lk)))), (le, .inl (cle, 64, .inl (upd lef (nI sn).toNatClampNeg (nI ln)))), (nx, .inl (cnx, 64, .inl (upd nxf (nI sn).toNatClampNeg (buf (nI b).toNatClampNeg)))), (ow, .inl (cow, 64, .inl (upd owf (nI sn).toNatClampNeg ((-1))))), (bu, .inl (cbu, 256, .inl (upd buf (nI b).toNatClampNeg (nI sn)))), (lt, .inr (0, [.ref lta, .int (nI (lk + ln))])), (lta, .inl (clt, 512, .inl g)), (tx, .inr (0, [.ref txa, .int txk])), (txa, .inl (ctx, txn, .inl txf))] := hD
        refine lv_aload_n hx hb d_Schema_added_183 rfl (lv_at hl 1 rfl) ?_
        refine va_get (D := (dC, dI)) (ci := 3) (v := .int (nI (sn + 1))) (C := R_Schema) (T := F_Schema) (N := 19) hx hb htw i_Schema hown hK hP 0 rfl rfl 14 (by decide) (htw _ wd_2_36) (fun _ h9 => h9) rfl d_Schema_added_184 ?_
        refine lv_iconst (v := 1) hx hb d_Schema_added_187 (by decide) ?_
        refine lv_isub hx hb d_Schema_added_188 ?_
        refine lv_topi (fun z9 e9 => ?_)
        have e9 : z9 = nI sn := e9.trans (nI_pred sn)
        subst e9
        have hP9 := hP.sub (ws' := [(h0, .inr (3, [.ref a1, .ref dv, .int md, .int bk, .ref a2, .ref a3, .ref a4, .ref wd, .ref lt, .ref bu, .ref st, .ref le, .ref nx, .ref ow, .int (nI (sn + 1)), .ref sp, .ref ky, .ref sm, .int sk])), (st, .inl (cst, 64, .inl (upd stf (nI sn).toNatClampNeg (nI lk)))), (le, .inl (cle, 64, .inl (upd lef (nI sn).toNatClampNeg (nI ln)))), (nx, .inl (cnx, 64, .inl (upd nxf (nI sn).toNatClampNeg (buf (nI b).toNatClampNeg)))), (ow, .inl (cow, 64, .inl (upd owf (nI sn).toNatClampNeg ((-1))))), (bu, .inl (cbu, 256, .inl (upd buf (nI b).toNatClampNeg (nI sn)))), (lt, .inr (0, [.ref lta, .int (nI (lk + ln))])), (lta, .inl (clt, 512, .inl g)), (tx, .inr (0, [.ref txa, .int txk])), (txa, .inl (ctx, txn, .inl txf))]) [0, 1, 2, 3, 4, 5, 6, 7, 8, 9] rfl
        have hD9 := hD.sub (ws' := [(h0, .inr (3, [.ref a1, .ref dv, .int md, .int bk, .ref a2, .ref a3, .ref a4, .ref wd, .ref lt, .ref bu, .ref st, .ref le, .ref nx, .ref ow, .int (nI (sn + 1)), .ref sp, .ref ky, .ref sm, .int sk])), (st, .inl (cst, 64, .inl (upd stf (nI sn).toNatClampNeg (nI lk)))), (le, .inl (cle, 64, .inl (upd lef (nI sn).toNatClampNeg (nI ln)))), (nx, .inl (cnx, 64, .inl (upd nxf (nI sn).toNatClampNeg (buf (nI b).toNatClampNeg)))), (ow, .inl (cow, 64, .inl (upd owf (nI sn).toNatClampNeg ((-1))))), (bu, .inl (cbu, 256, .inl (upd buf (nI b).toNatClampNeg (nI sn)))), (lt, .inr (0, [.ref lta, .int (nI (lk + ln))])), (lta, .inl (clt, 512, .inl g)), (tx, .inr (0, [.ref txa, .int txk])), (txa, .inl (ctx, txn, .inl txf))]) [0, 1, 2, 3, 4, 5, 6, 7, 8, 9] (by decide) rfl
        have hK9 := hK.sub (tys' := [(cst, .int), (cle, .int), (cnx, .int), (cow, .int), (cbu, .int), (clt, .byte), (ctx, .byte)]) [0, 1, 2, 3, 4, 5, 6] rfl
        refine W.widen (k := 0) (n := 0) (by omega) (by omega) ?_
        exact W.iret (v := nI sn) hx hb hr (fun t ht hW => ⟨⟨nI sn, (), rfl, rfl, g, by rw [ht]; exact hP9, va_K.moved hW.alike hK9, hD9⟩, hS.F ht⟩) hS.2.2 d_Schema_added_189
      · have h2 : i < ln := by have := (not_congr (nI_leI (by omega) (by omega))).mp h1; omega
        refine lv_aload_n hx hb d_Schema_added_152 rfl (lv_at hl 1 rfl) ?_
        refine va_get (D := (dC, dI)) (ci := 3) (v := .ref lt) (C := R_Schema) (T := F_Schema) (N := 19) hx hb htw i_Schema hown hK hP 0 rfl rfl 8 (by decide) (htw _ wd_2_30) (fun _ h9 => h9) rfl d_Schema_added_153 ?_
        refine lv_aload_n hx hb d_Schema_added_156 rfl (lv_at hl 2 rfl) ?_
        refine lv_iload_n hx hb d_Schema_added_157 rfl (lv_at hl 3 rfl) ?_
        refine lv_iload hx hb d_Schema_added_158 (lv_at hl 0 rfl) ?_
        refine lv_iadd hx hb d_Schema_added_160 ?_
        have hc0 : 0 + 0 ≤ 0 := by omega
        have hs0 : 0 + 0 ≤ 0 := by omega
        have hPc := hP.sub (ws' := [(tx, .inr (0, [.ref txa, .int txk])), (txa, .inl (ctx, txn, .inl txf))]) [8, 9] rfl
        have hDc := hD.sub (ws' := [(tx, .inr (0, [.ref txa, .int txk])), (txa, .inl (ctx, txn, .inl txf))]) [8, 9] (by decide) rfl
        have hKc := hK.sub (tys' := [(ctx, .byte)]) [6] rfl
        have hFc := va_free (wc := [(tx, .inr (0, [.ref txa, .int txk])), (txa, .inl (ctx, txn, .inl txf))]) hD hS hA [8, 9] rfl
        refine va_calli (va_runV (As := [.int (fr + (nI i))]) (rest := [.ref lt]) ⟨hx, hb, hml, hown, htw⟩ (c_Bytes_get l dC dI H.size tx txa ctx txn txf txk (fr + (nI i)) (by first | omega | assumption)) (cwV 1 htw (tw_V wd_1_235 wd_1_236 wd_1_237 wd_1_2 k_Bytes_get) rfl rfl rfl (by decide +kernel) ⟨Nat.le_of_ble_eq_true rfl, Nat.le_of_ble_eq_true rfl⟩) ⟨fun a U g mk q => by obtain ⟨q0, q1, qP, qK, qD⟩ := q; exact ⟨q0, q1, qP, va_K.moved (u := U) (U := U.calling g mk a) (Vm.Alike.refl U.vm) qK, qD⟩, va_recv hK hP (q := (R_Bytes, F_Bytes, 2)) (ci := 0) (q0 := 8) rfl rfl, fun U hU hW => ⟨rfl, by rw [hU], by rw [hU]; exact hPc, va_K.moved hW.alike hKc, hDc.weaken (fun _ _ _ _ => trivial)⟩⟩ rfl rfl hl.1 rfl (lv_room (Nat.le_of_ble_eq_true rfl)) d_Schema_added_161 ⟨hc0, hs0⟩) hS (fun q _ h => hFc q h) hFc (fun r1 u t H1 locs ht hvm hw hB hz1 hk1 hS => ?_)
        obtain ⟨hP1, hK1, hD1⟩ := hB
        rw [ht] at hP1
        have hK1 := va_K.moved hvm.symm hK1
        obtain ⟨hP, hD⟩ := va_join (wr := [(h0, .inr (3, [.ref a1, .ref dv, .int md, .int bk, .ref a2, .ref a3, .ref a4, .ref wd, .ref lt, .ref bu, .ref st, .ref le, .ref nx, .ref ow, .int (nI sn), .ref sp, .ref ky, .ref sm, .int sk])), (st, .inl (cst, 64, .inl (upd stf (nI sn).toNatClampNeg (nI lk)))), (le, .inl (cle, 64, .inl (upd lef (nI sn).toNatClampNeg (nI ln)))), (nx, .inl (cnx, 64, .inl (upd nxf (nI sn).toNatClampNeg (buf (nI b).toNatClampNeg)))), (ow, .inl (cow, 64, .inl (upd owf (nI sn).toNatClampNeg ((-1))))), (bu, .inl (cbu, 256, .inl (upd buf (nI b).toNatClampNeg (nI sn)))), (lt, .inr (0, [.ref lta, .int (nI (lk + i))])), (lta, .inl (clt, 512, .inl g))]) (w1 := [(tx, .inr (0, [.ref txa, .int txk])), (txa, .inl (ctx, txn, .inl txf))]) hP hD [8, 9] [0, 1, 2, 3, 4, 5, 6, 7] rfl rfl (by decide) (by decide) hk1 hFc hP1 hD1
        have hK := (hK.sub (tys' := [(cst, .int), (cle, .int), (cnx, .int), (cow, .int), (cbu, .int), (clt, .byte)]) [0, 1, 2, 3, 4, 5] rfl).app hK1
        generalize H1 = H at hP hS ⊢
        have hP : va_P (dC, dI) classes [(h0, .inr (3, [.ref a1, .ref dv, .int md, .int bk, .ref a2, .ref a3, .ref a4, .ref wd, .ref lt, .ref bu, .ref st, .ref le, .ref nx, .ref ow, .int (nI sn), .ref sp, .ref ky, .ref sm, .int sk])), (st, .inl (cst, 64, .inl (upd stf (nI sn).toNatClampNeg (nI lk)))), (le, .inl (cle, 64, .inl (upd lef (nI sn).toNatClampNeg (nI ln)))), (nx, .inl (cnx, 64, .inl (upd nxf (nI sn).toNatClampNeg (buf (nI b).toNatClampNeg)))), (ow, .inl (cow, 64, .inl (upd owf (nI sn).toNatClampNeg ((-1))))), (bu, .inl (cbu, 256, .inl (upd buf (nI b).toNatClampNeg (nI sn)))), (lt, .inr (0, [.ref lta, .int (nI (lk + i))])), (lta, .inl (clt, 512, .inl g)), (tx, .inr (0, [.ref txa, .int txk])), (txa, .inl (ctx, txn, .inl txf))] H := hP
        have hD : va_D A [(h0, .inr (3, [.ref a1, .ref dv, .int md, .int bk, .ref a2, .ref a3, .ref a4, .ref wd, .ref lt, .ref bu, .ref st, .ref le, .ref nx, .ref ow, .int (nI sn), .ref sp, .ref ky, .ref sm, .int sk])), (st, .inl (cst, 64, .inl (upd stf (nI sn).toNatClampNeg (nI lk)))), (le, .inl (cle, 64, .inl (upd lef (nI sn).toNatClampNeg (nI ln)))), (nx, .inl (cnx, 64, .inl (upd nxf (nI sn).toNatClampNeg (buf (nI b).toNatClampNeg)))), (ow, .inl (cow, 64, .inl (upd owf (nI sn).toNatClampNeg ((-1))))), (bu, .inl (cbu, 256, .inl (upd buf (nI b).toNatClampNeg (nI sn)))), (lt, .inr (0, [.ref lta, .int (nI (lk + i))])), (lta, .inl (clt, 512, .inl g)), (tx, .inr (0, [.ref txa, .int txk])), (txa, .inl (ctx, txn, .inl txf))] := hD
        have hK : va_K (dC, dI) classes [(cst, .int), (cle, .int), (cnx, .int), (cow, .int), (cbu, .int), (clt, .byte), (ctx, .byte)] s := hK
        subst hw
        have hc0 : 0 + 0 ≤ 0 := by omega
        have hs0 : 0 + 0 ≤ 0 := by omega
        have hPc := hP.sub (ws' := [(lt, .inr (0, [.ref lta, .int (nI (lk + i))])), (lta, .inl (clt, 512, .inl g))]) [6, 7] rfl
        have hDc := hD.sub (ws' := [(lt, .inr (0, [.ref lta, .int (nI (lk + i))])), (lta, .inl (clt, 512, .inl g))]) [6, 7] (by decide) rfl
        have hKc := hK.sub (tys' := [(clt, .byte)]) [5] rfl
        have hFc := va_free (wc := [(lt, .inr (0, [.ref lta, .int (nI (lk + i))])), (lta, .inl (clt, 512, .inl g))]) hD hS hA [6, 7] rfl
        refine va_callv (va_runV (As := [.int (tz_gb txn txf txk (fr + (nI i)))]) (rest := []) ⟨hx, hb, hml, hown, htw⟩ (c_Bytes_put l dC dI H.size lt lta clt 512 g ((lk + i)) (tz_gb txn txf txk (fr + (nI i))) (by first | omega | assumption) (by first | omega | assumption)) (cwV 1 htw (tw_V wd_1_196 wd_1_197 wd_1_198 wd_1_2 k_Bytes_put) rfl rfl rfl (by decide +kernel) ⟨Nat.le_of_ble_eq_true rfl, Nat.le_of_ble_eq_true rfl⟩) ⟨fun a U g mk q => by obtain ⟨q0, q1, qP, qK, qD⟩ := q; exact ⟨q0, q1, qP, va_K.moved (u := U) (U := U.calling g mk a) (Vm.Alike.refl U.vm) qK, qD⟩, va_recv hK hP (q := (R_Bytes, F_Bytes, 2)) (ci := 0) (q0 := 6) rfl rfl, fun U hU hW => ⟨rfl, by rw [hU], by rw [hU]; exact hPc, va_K.moved hW.alike hKc, hDc.weaken (fun _ _ _ _ => trivial)⟩⟩ rfl rfl hl.1 rfl (lv_room (Nat.le_of_ble_eq_true rfl)) d_Schema_added_164 ⟨hc0, hs0⟩) hS (fun q _ h => hFc q h) hFc (fun u t H1 locs ht hvm hw hB hz1 hk1 hS => ?_)
        obtain ⟨hP1, hK1, hD1⟩ := hB
        rw [ht] at hP1
        have hK1 := va_K.moved hvm.symm hK1
        obtain ⟨hP, hD⟩ := va_join (wr := [(h0, .inr (3, [.ref a1, .ref dv, .int md, .int bk, .ref a2, .ref a3, .ref a4, .ref wd, .ref lt, .ref bu, .ref st, .ref le, .ref nx, .ref ow, .int (nI sn), .ref sp, .ref ky, .ref sm, .int sk])), (st, .inl (cst, 64, .inl (upd stf (nI sn).toNatClampNeg (nI lk)))), (le, .inl (cle, 64, .inl (upd lef (nI sn).toNatClampNeg (nI ln)))), (nx, .inl (cnx, 64, .inl (upd nxf (nI sn).toNatClampNeg (buf (nI b).toNatClampNeg)))), (ow, .inl (cow, 64, .inl (upd owf (nI sn).toNatClampNeg ((-1))))), (bu, .inl (cbu, 256, .inl (upd buf (nI b).toNatClampNeg (nI sn)))), (tx, .inr (0, [.ref txa, .int txk])), (txa, .inl (ctx, txn, .inl txf))]) (w1 := [(lt, .inr (0, [.ref lta, .int (nI (((lk + i)) + 1))])), (lta, .inl (clt, 512, .inl (upd g (nI ((lk + i))).toNatClampNeg (vp_nar .byte (((tz_gb txn txf txk (fr + (nI i))) : Int32).toInt8.toInt32)))))]) hP hD [6, 7] [0, 1, 2, 3, 4, 5, 8, 9] rfl rfl (by decide) (by decide) hk1 hFc hP1 hD1
        have hK := (hK.sub (tys' := [(cst, .int), (cle, .int), (cnx, .int), (cow, .int), (cbu, .int), (ctx, .byte)]) [0, 1, 2, 3, 4, 6] rfl).app hK1
        generalize H1 = H at hP hS ⊢
        have hP : va_P (dC, dI) classes [(h0, .inr (3, [.ref a1, .ref dv, .int md, .int bk, .ref a2, .ref a3, .ref a4, .ref wd, .ref lt, .ref bu, .ref st, .ref le, .ref nx, .ref ow, .int (nI sn), .ref sp, .ref ky, .ref sm, .int sk])), (st, .inl (cst, 64, .inl (upd stf (nI sn).toNatClampNeg (nI lk)))), (le, .inl (cle, 64, .inl (upd lef (nI sn).toNatClampNeg (nI ln)))), (nx, .inl (cnx, 64, .inl (upd nxf (nI sn).toNatClampNeg (buf (nI b).toNatClampNeg)))), (ow, .inl (cow, 64, .inl (upd owf (nI sn).toNatClampNeg ((-1))))), (bu, .inl (cbu, 256, .inl (upd buf (nI b).toNatClampNeg (nI sn)))), (tx, .inr (0, [.ref txa, .int txk])), (txa, .inl (ctx, txn, .inl txf)), (lt, .inr (0, [.ref lta, .int (nI (((lk + i)) + 1))])), (lta, .inl (clt, 512, .inl (upd g (nI ((lk + i))).toNatClampNeg (vp_nar .byte (((tz_gb txn txf txk (fr + (nI i))) : Int32).toInt8.toInt32)))))] H := hP
        have hD : va_D A [(h0, .inr (3, [.ref a1, .ref dv, .int md, .int bk, .ref a2, .ref a3, .ref a4, .ref wd, .ref lt, .ref bu, .ref st, .ref le, .ref nx, .ref ow, .int (nI sn), .ref sp, .ref ky, .ref sm, .int sk])), (st, .inl (cst, 64, .inl (upd stf (nI sn).toNatClampNeg (nI lk)))), (le, .inl (cle, 64, .inl (upd lef (nI sn).toNatClampNeg (nI ln)))), (nx, .inl (cnx, 64, .inl (upd nxf (nI sn).toNatClampNeg (buf (nI b).toNatClampNeg)))), (ow, .inl (cow, 64, .inl (upd owf (nI sn).toNatClampNeg ((-1))))), (bu, .inl (cbu, 256, .inl (upd buf (nI b).toNatClampNeg (nI sn)))), (tx, .inr (0, [.ref txa, .int txk])), (txa, .inl (ctx, txn, .inl txf)), (lt, .inr (0, [.ref lta, .int (nI (((lk + i)) + 1))])), (lta, .inl (clt, 512, .inl (upd g (nI ((lk + i))).toNatClampNeg (vp_nar .byte (((tz_gb txn txf txk (fr + (nI i))) : Int32).toInt8.toInt32)))))] := hD
        have hK : va_K (dC, dI) classes [(cst, .int), (cle, .int), (cnx, .int), (cow, .int), (cbu, .int), (ctx, .byte), (clt, .byte)] s := hK
        refine lv_iinc (k := 0) (v := nI (i + 1)) hx hb d_Schema_added_167 hl rfl (nI_1 i) (by decide) rfl (fun ls hl => ?_)
        have hl : lv_has ls 6 [(5, .int (nI (i + 1))), (0, .ref h0), (1, .ref tx), (2, .int fr), (3, .int (nI ln)), (4, .int (nI b))] := hl
        refine lv_goto (tgt := 146) hx hb d_Schema_added_170 rfl ?_
        exact ih ((i + 1)) (upd g (nI ((lk + i))).toNatClampNeg (vp_nar .byte (((tz_gb txn txf txk (fr + (nI i))) : Int32).toInt8.toInt32))) _ _ _ (by omega) (by omega) (lv_sub hl [0, 1, 2, 3, 4, 5] rfl) (hP.sub [0, 1, 2, 3, 4, 5, 8, 9, 6, 7] rfl) (hD.sub [0, 1, 2, 3, 4, 5, 8, 9, 6, 7] (by decide) rfl) hS
  exact lp ((ln - 0) + 1) 0 ltf _ _ _ (by omega) (Nat.lt_succ_self _) (lv_sub hl [0, 1, 2, 3, 4, 5] rfl) (hP.sub [0, 1, 2, 3, 4, 5, 6, 7, 8, 9] rfl) (hD.sub [0, 1, 2, 3, 4, 5, 6, 7, 8, 9] (by decide) rfl) hS
end
section
/-! by program (wip/p1) -/
theorem wd_1_3 : Cond.initialized "SyntaxForge$Schema" ∈ tw_tbl := tw_t1 (List.mem_of_getElem? (i := 3) rfl) rfl
theorem wd_2_7 : Cond.methodLink "SyntaxForge$Schema" 127 ⟨"SyntaxForge$Schema", "added", "(LSyntaxForge$Bytes;III)I"⟩ ∈ tw_tbl := tw_t2 (List.mem_of_getElem? (i := 7) rfl) rfl
theorem wd_2_9 : Cond.instanceMethod ⟨"SyntaxForge$Schema", "added", "(LSyntaxForge$Bytes;III)I"⟩ ∈ tw_tbl := tw_t2 (List.mem_of_getElem? (i := 9) rfl) rfl
theorem wp_1_2 : Cond.selects "SyntaxForge$Schema" ⟨"SyntaxForge$Schema", "added", "(LSyntaxForge$Bytes;III)I"⟩ ⟨"SyntaxForge$Schema", "added", "(LSyntaxForge$Bytes;III)I"⟩ ∈ tw_tbl := tw_p1 (q := (⟨"SyntaxForge$Schema", "added", "(LSyntaxForge$Bytes;III)I"⟩, 19)) (List.mem_of_getElem? (i := 2) rfl)
theorem wd_2_3 : Cond.methodLink "SyntaxForge$Schema" 123 ⟨"SyntaxForge$Schema", "isName", "(ILSyntaxForge$Bytes;I)Z"⟩ ∈ tw_tbl := tw_t2 (List.mem_of_getElem? (i := 3) rfl) rfl
theorem wd_2_5 : Cond.instanceMethod ⟨"SyntaxForge$Schema", "isName", "(ILSyntaxForge$Bytes;I)Z"⟩ ∈ tw_tbl := tw_t2 (List.mem_of_getElem? (i := 5) rfl) rfl
theorem wp_1_1 : Cond.selects "SyntaxForge$Schema" ⟨"SyntaxForge$Schema", "isName", "(ILSyntaxForge$Bytes;I)Z"⟩ ⟨"SyntaxForge$Schema", "isName", "(ILSyntaxForge$Bytes;I)Z"⟩ ∈ tw_tbl := tw_p1 (q := (⟨"SyntaxForge$Schema", "isName", "(ILSyntaxForge$Bytes;I)Z"⟩, 19)) (List.mem_of_getElem? (i := 1) rfl)
def y_Schema_symbol : MethodName := ⟨"SyntaxForge$Schema", "symbol", "(LSyntaxForge$Bytes;IIZ)I"⟩
abbrev b_Schema_symbol : ByteArray := prog_10_method_5_code
abbrev cd_Schema_symbol : Cond := .code y_Schema_symbol b_Schema_symbol 8 (some .int)
abbrev ws_Schema_symbol : List Cond := cd_Schema_symbol :: tw_tbl
theorem k_Schema_symbol : cd_Schema_symbol ∈ tw_tbl := tw_t2 (List.mem_of_getElem? (i := 2) rfl) rfl
theorem d_Schema_symbol_0 : decode b_Schema_symbol 0 = .ok (.iload_n 3, 1) := by decide +kernel
theorem d_Schema_symbol_1 : decode b_Schema_symbol 1 = .ok (.istore 5, 2) := by decide +kernel
theorem d_Schema_symbol_3 : decode b_Schema_symbol 3 = .ok (.iconst 0, 1) := by decide +kernel
theorem d_Schema_symbol_4 : decode b_Schema_symbol 4 = .ok (.istore 6, 2) := by decide +kernel
theorem d_Schema_symbol_6 : decode b_Schema_symbol 6 = .ok (.iload 6, 2) := by decide +kernel
theorem d_Schema_symbol_8 : decode b_Schema_symbol 8 = .ok (.iload_n 3, 1) := by decide +kernel
theorem d_Schema_symbol_9 : decode b_Schema_symbol 9 = .ok (.if_icmp .ge 25, 3) := by decide +kernel
theorem d_Schema_symbol_12 : decode b_Schema_symbol 12 = .ok (.bipush 31, 2) := by decide +kernel
theorem d_Schema_symbol_14 : decode b_Schema_symbol 14 = .ok (.iload 5, 2) := by decide +kernel
theorem d_Schema_symbol_16 : decode b_Schema_symbol 16 = .ok (.imul, 1) := by decide +kernel
theorem d_Schema_symbol_17 : decode b_Schema_symbol 17 = .ok (.aload_n 1, 1) := by decide +kernel
theorem d_Schema_symbol_18 : decode b_Schema_symbol 18 = .ok (.iload_n 2, 1) := by decide +kernel
theorem d_Schema_symbol_19 : decode b_Schema_symbol 19 = .ok (.iload 6, 2) := by decide +kernel
theorem d_Schema_symbol_21 : decode b_Schema_symbol 21 = .ok (.iadd, 1) := by decide +kernel
theorem d_Schema_symbol_22 : decode b_Schema_symbol 22 = .ok (.invokevirtual 115, 3) := by decide +kernel
theorem d_Schema_symbol_25 : decode b_Schema_symbol 25 = .ok (.iadd, 1) := by decide +kernel
theorem d_Schema_symbol_26 : decode b_Schema_symbol 26 = .ok (.istore 5, 2) := by decide +kernel
theorem d_Schema_symbol_28 : decode b_Schema_symbol 28 = .ok (.iinc 6 1, 3) := by decide +kernel
theorem d_Schema_symbol_31 : decode b_Schema_symbol 31 = .ok (.goto (-25), 3) := by decide +kernel
theorem d_Schema_symbol_34 : decode b_Schema_symbol 34 = .ok (.iload 5, 2) := by decide +kernel
theorem d_Schema_symbol_36 : decode b_Schema_symbol 36 = .ok (.iload 5, 2) := by decide +kernel
theorem d_Schema_symbol_38 : decode b_Schema_symbol 38 = .ok (.bipush 8, 2) := by decide +kernel
theorem d_Schema_symbol_40 : decode b_Schema_symbol 40 = .ok (.iushr, 1) := by decide +kernel
theorem d_Schema_symbol_41 : decode b_Schema_symbol 41 = .ok (.ixor, 1) := by decide +kernel
theorem d_Schema_symbol_42 : decode b_Schema_symbol 42 = .ok (.sipush 255, 3) := by decide +kernel
theorem d_Schema_symbol_45 : decode b_Schema_symbol 45 = .ok (.iand, 1) := by decide +kernel
theorem d_Schema_symbol_46 : decode b_Schema_symbol 46 = .ok (.istore 6, 2) := by decide +kernel
theorem d_Schema_symbol_48 : decode b_Schema_symbol 48 = .ok (.aload_n 0, 1) := by decide +kernel
theorem d_Schema_symbol_49 : decode b_Schema_symbol 49 = .ok (.getfield 61, 3) := by decide +kernel
theorem d_Schema_symbol_52 : decode b_Schema_symbol 52 = .ok (.iload 6, 2) := by decide +kernel
theorem d_Schema_symbol_54 : decode b_Schema_symbol 54 = .ok (.iaload, 1) := by decide +kernel
theorem d_Schema_symbol_55 : decode b_Schema_symbol 55 = .ok (.istore 7, 2) := by decide +kernel
theorem d_Schema_symbol_57 : decode b_Schema_symbol 57 = .ok (.iload 7, 2) := by decide +kernel
theorem d_Schema_symbol_59 : decode b_Schema_symbol 59 = .ok (.ifCond .lt 40, 3) := by decide +kernel
theorem d_Schema_symbol_62 : decode b_Schema_symbol 62 = .ok (.aload_n 0, 1) := by decide +kernel
theorem d_Schema_symbol_63 : decode b_Schema_symbol 63 = .ok (.getfield 68, 3) := by decide +kernel
theorem d_Schema_symbol_66 : decode b_Schema_symbol 66 = .ok (.iload 7, 2) := by decide +kernel
theorem d_Schema_symbol_68 : decode b_Schema_symbol 68 = .ok (.iaload, 1) := by decide +kernel
theorem d_Schema_symbol_69 : decode b_Schema_symbol 69 = .ok (.iload_n 3, 1) := by decide +kernel
theorem d_Schema_symbol_70 : decode b_Schema_symbol 70 = .ok (.if_icmp .ne 17, 3) := by decide +kernel
theorem d_Schema_symbol_73 : decode b_Schema_symbol 73 = .ok (.aload_n 0, 1) := by decide +kernel
theorem d_Schema_symbol_74 : decode b_Schema_symbol 74 = .ok (.iload 7, 2) := by decide +kernel
theorem d_Schema_symbol_76 : decode b_Schema_symbol 76 = .ok (.aload_n 1, 1) := by decide +kernel
theorem d_Schema_symbol_77 : decode b_Schema_symbol 77 = .ok (.iload_n 2, 1) := by decide +kernel
theorem d_Schema_symbol_78 : decode b_Schema_symbol 78 = .ok (.invokevirtual 123, 3) := by decide +kernel
theorem d_Schema_symbol_81 : decode b_Schema_symbol 81 = .ok (.ifCond .eq 6, 3) := by decide +kernel
theorem d_Schema_symbol_84 : decode b_Schema_symbol 84 = .ok (.iload 7, 2) := by decide +kernel
theorem d_Schema_symbol_86 : decode b_Schema_symbol 86 = .ok (.ireturn, 1) := by decide +kernel
theorem d_Schema_symbol_87 : decode b_Schema_symbol 87 = .ok (.aload_n 0, 1) := by decide +kernel
theorem d_Schema_symbol_88 : decode b_Schema_symbol 88 = .ok (.getfield 71, 3) := by decide +kernel
theorem d_Schema_symbol_91 : decode b_Schema_symbol 91 = .ok (.iload 7, 2) := by decide +kernel
theorem d_Schema_symbol_93 : decode b_Schema_symbol 93 = .ok (.iaload, 1) := by decide +kernel
theorem d_Schema_symbol_94 : decode b_Schema_symbol 94 = .ok (.istore 7, 2) := by decide +kernel
theorem d_Schema_symbol_96 : decode b_Schema_symbol 96 = .ok (.goto (-39), 3) := by decide +kernel
theorem d_Schema_symbol_99 : decode b_Schema_symbol 99 = .ok (.iload 4, 2) := by decide +kernel
theorem d_Schema_symbol_101 : decode b_Schema_symbol 101 = .ok (.ifCond .eq 15, 3) := by decide +kernel
theorem d_Schema_symbol_104 : decode b_Schema_symbol 104 = .ok (.aload_n 0, 1) := by decide +kernel
theorem d_Schema_symbol_105 : decode b_Schema_symbol 105 = .ok (.aload_n 1, 1) := by decide +kernel
theorem d_Schema_symbol_106 : decode b_Schema_symbol 106 = .ok (.iload_n 2, 1) := by decide +kernel
theorem d_Schema_symbol_107 : decode b_Schema_symbol 107 = .ok (.iload_n 3, 1) := by decide +kernel
theorem d_Schema_symbol_108 : decode b_Schema_symbol 108 = .ok (.iload 6, 2) := by decide +kernel
theorem d_Schema_symbol_110 : decode b_Schema_symbol 110 = .ok (.invokevirtual 127, 3) := by decide +kernel
theorem d_Schema_symbol_113 : decode b_Schema_symbol 113 = .ok (.goto 4, 3) := by decide +kernel
theorem d_Schema_symbol_116 : decode b_Schema_symbol 116 = .ok (.iconst (-1), 1) := by decide +kernel
theorem d_Schema_symbol_117 : decode b_Schema_symbol 117 = .ok (.ireturn, 1) := by decide +kernel
set_option maxHeartbeats 4000000 in
set_option maxRecDepth 100000 in
theorem c_Schema_symbol (l : Launch) (dC : Nat → ClassId) (dI : Nat → Nat → Nat) (sz : Nat) (h0 : Nat) (a1 : Nat) (dv : Nat) (md : Int32) (bk : Int32) (a2 : Nat) (a3 : Nat) (a4 : Nat) (wd : Nat) (lt : Nat) (bu : Nat) (st : Nat) (le : Nat) (nx : Nat) (ow : Nat) (sp : Nat) (ky : Nat) (sm : Nat) (sk : Int32) (cst : ClassId) (stf : Nat → Int32) (cle : ClassId) (lef : Nat → Int32) (cnx : ClassId) (nxf : Nat → Int32) (cow : ClassId) (owf : Nat → Int32) (cbu : ClassId) (buf : Nat → Int32) (lta : Nat) (clt : ClassId) (ltf : Nat → Int32) (tx : Nat) (txa : Nat) (ctx : ClassId) (txn : Nat) (txf : Nat → Int32) (txk : Int32) (sn : Nat) (lk : Nat) (ln : Nat) (fr : Int32) (hsn : sn < 64) (hlk : lk + ln ≤ 512) (hn : txn ≤ 65536) (hinv : tz_inv sn nxf buf) : Met l y_Schema_symbol ws_Schema_symbol ({ frames := 2, cells := 0, slots := 0, locals := 46 }) (va_Pc [.ref h0, .ref tx, .int fr, .int (nI ln), .int 1] (fun U => U.heap.size = sz ∧ va_P (dC, dI) classes [(h0, .inr (3, [.ref a1, .ref dv, .int md, .int bk, .ref a2, .ref a3, .ref a4, .ref wd, .ref lt, .ref bu, .ref st, .ref le, .ref nx, .ref ow, .int (nI sn), .ref sp, .ref ky, .ref sm, .int sk])), (st, .inl (cst, 64, .inl stf)), (le, .inl (cle, 64, .inl lef)), (nx, .inl (cnx, 64, .inl nxf)), (ow, .inl (cow, 64, .inl owf)), (bu, .inl (cbu, 256, .inl buf)), (lt, .inr (0, [.ref lta, .int (nI lk)])), (lta, .inl (clt, 512, .inl ltf)), (tx, .inr (0, [.ref txa, .int txk])), (txa, .inl (ctx, txn, .inl txf))] U.heap ∧ va_K (dC, dI) classes [(cst, .int), (cle, .int), (cnx, .int), (cow, .int), (cbu, .int), (clt, .byte), (ctx, .byte)] U ∧ va_D (fun _ => True) [(h0, .inr (3, [.ref a1, .ref dv, .int md, .int bk, .ref a2, .ref a3, .ref a4, .ref wd, .ref lt, .ref bu, .ref st, .ref le, .ref nx, .ref ow, .int (nI sn), .ref sp, .ref ky, .ref sm, .int sk])), (st, .inl (cst, 64, .inl stf)), (le, .inl (cle, 64, .inl lef)), (nx, .inl (cnx, 64, .inl nxf)), (ow, .inl (cow, 64, .inl owf)), (bu, .inl (cbu, 256, .inl buf)), (lt, .inr (0, [.ref lta, .int (nI lk)])), (lta, .inl (clt, 512, .inl ltf)), (tx, .inr (0, [.ref txa, .int txk])), (txa, .inl (ctx, txn, .inl txf))])) (va_Qi (fun (r : Int32) (_ : Unit) => True) (fun _ t => ∃ (s2 : Nat) (k2 : Nat) (g1 : Nat → Int32) (g2 : Nat → Int32) (g3 : Nat → Int32) (g4 : Nat → Int32) (g5 : Nat → Int32) (g6 : Nat → Int32), s2 ≤ sn + 1 ∧ k2 ≤ lk + ln ∧ tz_inv s2 g3 g5 ∧ va_P (dC, dI) classes [(h0, .inr (3, [.ref a1, .ref dv, .int md, .int bk, .ref a2, .ref a3, .ref a4, .ref wd, .ref lt, .ref bu, .ref st, .ref le, .ref nx, .ref ow, .int (nI s2), .ref sp, .ref ky, .ref sm, .int sk])), (st, .inl (cst, 64, .inl g1)), (le, .inl (cle, 64, .inl g2)), (nx, .inl (cnx, 64, .inl g3)), (ow, .inl (cow, 64, .inl g4)), (bu, .inl (cbu, 256, .inl g5)), (lt, .inr (0, [.ref lta, .int (nI k2)])), (lta, .inl (clt, 512, .inl g6)), (tx, .inr (0, [.ref txa, .int txk])), (txa, .inl (ctx, txn, .inl txf))] t.heap ∧ va_K (dC, dI) classes [(cst, .int), (cle, .int), (cnx, .int), (cow, .int), (cbu, .int), (clt, .byte), (ctx, .byte)] t ∧ va_D (va_A [(h0, .inr (3, [.ref a1, .ref dv, .int md, .int bk, .ref a2, .ref a3, .ref a4, .ref wd, .ref lt, .ref bu, .ref st, .ref le, .ref nx, .ref ow, .int (nI sn), .ref sp, .ref ky, .ref sm, .int sk])), (st, .inl (cst, 64, .inl stf)), (le, .inl (cle, 64, .inl lef)), (nx, .inl (cnx, 64, .inl nxf)), (ow, .inl (cow, 64, .inl owf)), (bu, .inl (cbu, 256, .inl buf)), (lt, .inr (0, [.ref lta, .int (nI lk)])), (lta, .inl (clt, 512, .inl ltf)), (tx, .inr (0, [.ref txa, .int txk])), (txa, .inl (ctx, txn, .inl txf))] sz) [(h0, .inr (3, [.ref a1, .ref dv, .int md, .int bk, .ref a2, .ref a3, .ref a4, .ref wd, .ref lt, .ref bu, .ref st, .ref le, .ref nx, .ref ow, .int (nI s2), .ref sp, .ref ky, .ref sm, .int sk])), (st, .inl (cst, 64, .inl g1)), (le, .inl (cle, 64, .inl g2)), (nx, .inl (cnx, 64, .inl g3)), (ow, .inl (cow, 64, .inl g4)), (bu, .inl (cbu, 256, .inl g5)), (lt, .inr (0, [.ref lta, .int (nI k2)])), (lta, .inl (clt, 512, .inl g6)), (tx, .inr (0, [.ref txa, .int txk])), (txa, .inl (ctx, txn, .inl txf))]) (va_A [(h0, .inr (3, [.ref a1, .ref dv, .int md, .int bk, .ref a2, .ref a3, .ref a4, .ref wd, .ref lt, .ref bu, .ref st, .ref le, .ref nx, .ref ow, .int (nI sn), .ref sp, .ref ky, .ref sm, .int sk])), (st, .inl (cst, 64, .inl stf)), (le, .inl (cle, 64, .inl lef)), (nx, .inl (cnx, 64, .inl nxf)), (ow, .inl (cow, 64, .inl owf)), (bu, .inl (cbu, 256, .inl buf)), (lt, .inr (0, [.ref lta, .int (nI lk)])), (lta, .inl (clt, 512, .inl ltf)), (tx, .inr (0, [.ref txa, .int txk])), (txa, .inl (ctx, txn, .inl txf))] sz)) 0 0 (va_A [(h0, .inr (3, [.ref a1, .ref dv, .int md, .int bk, .ref a2, .ref a3, .ref a4, .ref wd, .ref lt, .ref bu, .ref st, .ref le, .ref nx, .ref ow, .int (nI sn), .ref sp, .ref ky, .ref sm, .int sk])), (st, .inl (cst, 64, .inl stf)), (le, .inl (cle, 64, .inl lef)), (nx, .inl (cnx, 64, .inl nxf)), (ow, .inl (cow, 64, .inl owf)), (bu, .inl (cbu, 256, .inl buf)), (lt, .inr (0, [.ref lta, .int (nI lk)])), (lta, .inl (clt, 512, .inl ltf)), (tx, .inr (0, [.ref txa, .int txk])), (txa, .inl (ctx, txn, .inl txf))] sz) := by
  refine Met.ofW (cc := b_Schema_symbol) (maxL := 8) (ret := (some .int)) (by decide) rfl ?_
  intro p e s m args below meth c s₁ B hml hv
  obtain ⟨rfl, hsz, hP, hK, hD0⟩ := hv
  have hx := B.exec
  have hb := B.bytes
  have hr := B.returns
  have hts := atoms_spec (ws := ws_Schema_symbol) B.pre
  have htw : ∀ w ∈ tw_tbl, w.before [.ref h0, .ref tx, .int fr, .int (nI ln), .int 1].toArray s = true := fun w h => hts w (List.mem_cons_of_mem _ h)
  have hown : s.vm.findClass R_Schema = some m.cls := findClass_of_methodNamed B.named
  have hlocks := B.notSynchronized
  have hin : meth.name = "symbol" := (name_of_methodNamed B.named B.method).1
  subst hsz
  have hD := hD0.self (sz := s.heap.size)
  generalize hAe : va_A [(h0, .inr (3, [.ref a1, .ref dv, .int md, .int bk, .ref a2, .ref a3, .ref a4, .ref wd, .ref lt, .ref bu, .ref st, .ref le, .ref nx, .ref ow, .int (nI sn), .ref sp, .ref ky, .ref sm, .int sk])), (st, .inl (cst, 64, .inl stf)), (le, .inl (cle, 64, .inl lef)), (nx, .inl (cnx, 64, .inl nxf)), (ow, .inl (cow, 64, .inl owf)), (bu, .inl (cbu, 256, .inl buf)), (lt, .inr (0, [.ref lta, .int (nI lk)])), (lta, .inl (clt, 512, .inl ltf)), (tx, .inr (0, [.ref txa, .int txk])), (txa, .inl (ctx, txn, .inl txf))] s.heap.size = A at hD ⊢
  have hA : ∀ q : Nat, s.heap.size ≤ q → A q := fun q h => by rw [← hAe]; exact Or.inr h
  have hS : va_S A s.heap s.heap [] := va_S.rf
  have hP : va_P (dC, dI) classes [(h0, .inr (3, [.ref a1, .ref dv, .int md, .int bk, .ref a2, .ref a3, .ref a4, .ref wd, .ref lt, .ref bu, .ref st, .ref le, .ref nx, .ref ow, .int (nI sn), .ref sp, .ref ky, .ref sm, .int sk])), (st, .inl (cst, 64, .inl stf)), (le, .inl (cle, 64, .inl lef)), (nx, .inl (cnx, 64, .inl nxf)), (ow, .inl (cow, 64, .inl owf)), (bu, .inl (cbu, 256, .inl buf)), (lt, .inr (0, [.ref lta, .int (nI lk)])), (lta, .inl (clt, 512, .inl ltf)), (tx, .inr (0, [.ref txa, .int txk])), (txa, .inl (ctx, txn, .inl txf))] s.heap := hP
  have hl := lv_entry ([.ref h0, .ref tx, .int fr, .int (nI ln), .int 1]) (n := 8) (Nat.le_of_ble_eq_true rfl)
  rw [lg_entry_eq]
  generalize (lg_sl ([.ref h0, .ref tx, .int fr, .int (nI ln), .int 1]) ++ List.replicate (8 - (lg_sl ([.ref h0, .ref tx, .int fr, .int (nI ln), .int 1])).length) Slot.unset).toArray = ls at hl ⊢
  have hl : lv_has ls 8 [(0, .ref h0), (1, .ref tx), (2, .int fr), (3, .int (nI ln)), (4, .int 1)] := hl
  refine lv_iload_n hx hb d_Schema_symbol_0 rfl (lv_at hl 3 rfl) ?_
  refine lv_istore hx hb d_Schema_symbol_1 hl (by decide) rfl (fun ls hl => ?_)
  have hl : lv_has ls 8 [(5, .int (nI ln)), (0, .ref h0), (1, .ref tx), (2, .int fr), (3, .int (nI ln)), (4, .int 1)] := hl
  refine lv_iconst (v := 0) hx hb d_Schema_symbol_3 (by decide) ?_
  refine lv_istore hx hb d_Schema_symbol_4 hl (by decide) rfl (fun ls hl => ?_)
  have hl : lv_has ls 8 [(6, .int 0), (5, .int (nI ln)), (0, .ref h0), (1, .ref tx), (2, .int fr), (3, .int (nI ln)), (4, .int 1)] := hl
  have lp : ∀ (fuel : Nat) (i : Nat) (hs : Int32) (H : Heap) (locs : List Loc) (ls : Array Slot), i ≤ ln → ln - i < fuel → lv_has ls 8 [(6, .int (nI i)), (5, .int hs), (0, .ref h0), (1, .ref tx), (2, .int fr), (3, .int (nI ln)), (4, .int 1)] → va_P (dC, dI) classes [(h0, .inr (3, [.ref a1, .ref dv, .int md, .int bk, .ref a2, .ref a3, .ref a4, .ref wd, .ref lt, .ref bu, .ref st, .ref le, .ref nx, .ref ow, .int (nI sn), .ref sp, .ref ky, .ref sm, .int sk])), (st, .inl (cst, 64, .inl stf)), (le, .inl (cle, 64, .inl lef)), (nx, .inl (cnx, 64, .inl nxf)), (ow, .inl (cow, 64, .inl owf)), (bu, .inl (cbu, 256, .inl buf)), (lt, .inr (0, [.ref lta, .int (nI lk)])), (lta, .inl (clt, 512, .inl ltf)), (tx, .inr (0, [.ref txa, .int txk])), (txa, .inl (ctx, txn, .inl txf))] H → va_D A [(h0, .inr (3, [.ref a1, .ref dv, .int md, .int bk, .ref a2, .ref a3, .ref a4, .ref wd, .ref lt, .ref bu, .ref st, .ref le, .ref nx, .ref ow, .int (nI sn), .ref sp, .ref ky, .ref sm, .int sk])), (st, .inl (cst, 64, .inl stf)), (le, .inl (cle, 64, .inl lef)), (nx, .inl (cnx, 64, .inl nxf)), (ow, .inl (cow, 64, .inl owf)), (bu, .inl (cbu, 256, .inl buf)), (lt, .inr (0, [.ref lta, .int (nI lk)])), (lta, .inl (clt, 512, .inl ltf)), (tx, .inr (0, [.ref txa, .int txk])), (txa, .inl (ctx, txn, .inl txf))] → va_S A s.heap H locs → W p l e (headSpec ws_Schema_symbol ({ frames := 2, cells := 0, slots := 0, locals := 46 })).room s m [.ref h0, .ref tx, .int fr, .int (nI ln), .int 1].toArray below meth c H locs 0 0 (MQ below (va_Qi (fun (r : Int32) (_ : Unit) => True) (fun _ t => ∃ (s2 : Nat) (k2 : Nat) (g1 : Nat → Int32) (g2 : Nat → Int32) (g3 : Nat → Int32) (g4 : Nat → Int32) (g5 : Nat → Int32) (g6 : Nat → Int32), s2 ≤ sn + 1 ∧ k2 ≤ lk + ln ∧ tz_inv s2 g3 g5 ∧ va_P (dC, dI) classes [(h0, .inr (3, [.ref a1, .ref dv, .int md, .int bk, .ref a2, .ref a3, .ref a4, .ref wd, .ref lt, .ref bu, .ref st, .ref le, .ref nx, .ref ow, .int (nI s2), .ref sp, .ref ky, .ref sm, .int sk])), (st, .inl (cst, 64, .inl g1)), (le, .inl (cle, 64, .inl g2)), (nx, .inl (cnx, 64, .inl g3)), (ow, .inl (cow, 64, .inl g4)), (bu, .inl (cbu, 256, .inl g5)), (lt, .inr (0, [.ref lta, .int (nI k2)])), (lta, .inl (clt, 512, .inl g6)), (tx, .inr (0, [.ref txa, .int txk])), (txa, .inl (ctx, txn, .inl txf))] t.heap ∧ va_K (dC, dI) classes [(cst, .int), (cle, .int), (cnx, .int), (cow, .int), (cbu, .int), (clt, .byte), (ctx, .byte)] t ∧ va_D A [(h0, .inr (3, [.ref a1, .ref dv, .int md, .int bk, .ref a2, .ref a3, .ref a4, .ref wd, .ref lt, .ref bu, .ref st, .ref le, .ref nx, .ref ow, .int (nI s2), .ref sp, .ref ky, .ref sm, .int sk])), (st, .inl (cst, 64, .inl g1)), (le, .inl (cle, 64, .inl g2)), (nx, .inl (cnx, 64, .inl g3)), (ow, .inl (cow, 64, .inl g4)), (bu, .inl (cbu, 256, .inl g5)), (lt, .inr (0, [.ref lta, .int (nI k2)])), (lta, .inl (clt, 512, .inl g6)), (tx, .inr (0, [.ref txa, .int txk])), (txa, .inl (ctx, txn, .inl txf))]) A) [.ref h0, .ref tx, .int fr, .int (nI ln), .int 1].toArray s 0 0 A) (F0 m 6 ls []) := by
    intro fuel
    induction fuel with
    | zero => intro i hs H locs ls hi hm; omega
    | succ fuel ih =>
      intro i hs H locs ls hi hm hl hP hD hS
      refine lv_iload hx hb d_Schema_symbol_6 (lv_at hl 0 rfl) ?_
      refine lv_iload_n hx hb d_Schema_symbol_8 rfl (lv_at hl 5 rfl) ?_
      refine lv_icmp_ge (tgt := 34) hx hb d_Schema_symbol_9 rfl (fun h1 => ?_) (fun h1 => ?_)
      · refine lv_iload hx hb d_Schema_symbol_34 (lv_at hl 1 rfl) ?_
        refine lv_iload hx hb d_Schema_symbol_36 (lv_at hl 1 rfl) ?_
        refine lv_bipush (v := 8) hx hb d_Schema_symbol_38 (by decide) ?_
        refine lv_iushr hx hb d_Schema_symbol_40 rfl ?_
        refine lv_ixor hx hb d_Schema_symbol_41 ?_
        refine lv_sipush (v := 255) hx hb d_Schema_symbol_42 (by decide) ?_
        refine lv_iand hx hb d_Schema_symbol_45 ?_
        obtain ⟨b, hb8, eb⟩ : ∃ b : Nat, b < 2 ^ 8 ∧ (hs ^^^ (((hs : Int32).toUInt32 >>> ((8 : Int32).toUInt32 &&& Int32.toUInt32 31)).toInt32)) &&& 255 = nI b := pk_andE _ 8 (by decide)
        refine lv_topi (fun z9 e9 => ?_)
        have e9 : z9 = nI b := e9.trans (eb)
        subst e9
        refine lv_istore hx hb d_Schema_symbol_46 hl (by decide) rfl (fun ls hl => ?_)
        have hl : lv_has ls 8 [(6, .int (nI b)), (5, .int hs), (0, .ref h0), (1, .ref tx), (2, .int fr), (3, .int (nI ln)), (4, .int 1)] := hl
        refine lv_aload_n hx hb d_Schema_symbol_48 rfl (lv_at hl 2 rfl) ?_
        refine va_get (D := (dC, dI)) (ci := 3) (v := .ref bu) (C := R_Schema) (T := F_Schema) (N := 19) hx hb htw i_Schema hown hK hP 0 rfl rfl 9 (by decide) (htw _ wd_2_31) (fun _ h9 => h9) rfl d_Schema_symbol_49 ?_
        refine lv_iload hx hb d_Schema_symbol_52 (lv_at hl 0 rfl) ?_
        refine va_iald hx hb hK hP 5 4 rfl rfl (vp_in_nI hb8 (by decide)) d_Schema_symbol_54 ?_
        obtain ⟨q, hq, eq1⟩ := hinv.2 b hb8
        refine lv_topi (fun z9 e9 => ?_)
        have e9 : z9 = nI q - 1 := e9.trans (by rw [nI_clamp (by omega)]; exact eq1)
        subst e9
        refine lv_istore hx hb d_Schema_symbol_55 hl (by decide) rfl (fun ls hl => ?_)
        have hl : lv_has ls 8 [(7, .int (nI q - 1)), (6, .int (nI b)), (5, .int hs), (0, .ref h0), (1, .ref tx), (2, .int fr), (3, .int (nI ln)), (4, .int 1)] := hl
        have lp2 : ∀ (fuel : Nat) (q : Nat) (H : Heap) (locs : List Loc) (ls : Array Slot), q ≤ sn → q < fuel → lv_has ls 8 [(7, .int (nI q - 1)), (6, .int (nI b)), (0, .ref h0), (1, .ref tx), (2, .int fr), (3, .int (nI ln)), (4, .int 1)] → va_P (dC, dI) classes [(h0, .inr (3, [.ref a1, .ref dv, .int md, .int bk, .ref a2, .ref a3, .ref a4, .ref wd, .ref lt, .ref bu, .ref st, .ref le, .ref nx, .ref ow, .int (nI sn), .ref sp, .ref ky, .ref sm, .int sk])), (st, .inl (cst, 64, .inl stf)), (le, .inl (cle, 64, .inl lef)), (nx, .inl (cnx, 64, .inl nxf)), (ow, .inl (cow, 64, .inl owf)), (bu, .inl (cbu, 256, .inl buf)), (lt, .inr (0, [.ref lta, .int (nI lk)])), (lta, .inl (clt, 512, .inl ltf)), (tx, .inr (0, [.ref txa, .int txk])), (txa, .inl (ctx, txn, .inl txf))] H → va_D A [(h0, .inr (3, [.ref a1, .ref dv, .int md, .int bk, .ref a2, .ref a3, .ref a4, .ref wd, .ref lt, .ref bu, .ref st, .ref le, .ref nx, .ref ow, .int (nI sn), .ref sp, .ref ky, .ref sm, .int sk])), (st, .inl (cst, 64, .inl stf)), (le, .inl (cle, 64, .inl lef)), (nx, .inl (cnx, 64, .inl nxf)), (ow, .inl (cow, 64, .inl owf)), (bu, .inl (cbu, 256, .inl buf)), (lt, .inr (0, [.ref lta, .int (nI lk)])), (lta, .inl (clt, 512, .inl ltf)), (tx, .inr (0, [.ref txa, .int txk])), (txa, .inl (ctx, txn, .inl txf))] → va_S A s.heap H locs → W p l e (headSpec ws_Schema_symbol ({ frames := 2, cells := 0, slots := 0, locals := 46 })).room s m [.ref h0, .ref tx, .int fr, .int (nI ln), .int 1].toArray below meth c H locs 0 0 (MQ below (va_Qi (fun (r : Int32) (_ : Unit) => True) (fun _ t => ∃ (s2 : Nat) (k2 : Nat) (g1 : Nat → Int32) (g2 : Nat → Int32) (g3 : Nat → Int32) (g4 : Nat → Int32) (g5 : Nat → Int32) (g6 : Nat → Int32), s2 ≤ sn + 1 ∧ k2 ≤ lk + ln ∧ tz_inv s2 g3 g5 ∧ va_P (dC, dI) classes [(h0, .inr (3, [.ref a1, .ref dv, .int md, .int bk, .ref a2, .ref a3, .ref a4, .ref wd, .ref lt, .ref bu, .ref st, .ref le, .ref nx, .ref ow, .int (nI s2), .ref sp, .ref ky, .ref sm, .int sk])), (st, .inl (cst, 64, .inl g1)), (le, .inl (cle, 64, .inl g2)), (nx, .inl (cnx, 64, .inl g3)), (ow, .inl (cow, 64, .inl g4)), (bu, .inl (cbu, 256, .inl g5)), (lt, .inr (0, [.ref lta, .int (nI k2)])), (lta, .inl (clt, 512, .inl g6)), (tx, .inr (0, [.ref txa, .int txk])), (txa, .inl (ctx, txn, .inl txf))] t.heap ∧ va_K (dC, dI) classes [(cst, .int), (cle, .int), (cnx, .int), (cow, .int), (cbu, .int), (clt, .byte), (ctx, .byte)] t ∧ va_D A [(h0, .inr (3, [.ref a1, .ref dv, .int md, .int bk, .ref a2, .ref a3, .ref a4, .ref wd, .ref lt, .ref bu, .ref st, .ref le, .ref nx, .ref ow, .int (nI s2), .ref sp, .ref ky, .ref sm, .int sk])), (st, .inl (cst, 64, .inl g1)), (le, .inl (cle, 64, .inl g2)), (nx, .inl (cnx, 64, .inl g3)), (ow, .inl (cow, 64, .inl g4)), (bu, .inl (cbu, 256, .inl g5)), (lt, .inr (0, [.ref lta, .int (nI k2)])), (lta, .inl (clt, 512, .inl g6)), (tx, .inr (0, [.ref txa, .int txk])), (txa, .inl (ctx, txn, .inl txf))]) A) [.ref h0, .ref tx, .int fr, .int (nI ln), .int 1].toArray s 0 0 A) (F0 m 57 ls []) := by
          intro fuel
          induction fuel with
          | zero => intro q H locs ls hq hm; omega
          | succ fuel ih =>
            intro q H locs ls hq hm hl hP hD hS
            refine lv_iload hx hb d_Schema_symbol_57 (lv_at hl 0 rfl) ?_
            refine lv_if_lt (tgt := 99) hx hb d_Schema_symbol_59 rfl (fun h3 => ?_) (fun h3 => ?_)
            · refine lv_iload hx hb d_Schema_symbol_99 (lv_at hl 6 rfl) ?_
              refine lv_if_eq (tgt := 116) hx hb d_Schema_symbol_101 rfl (fun ht => absurd ht (by decide)) (fun _ => ?_)
              refine lv_aload_n hx hb d_Schema_symbol_104 rfl (lv_at hl 2 rfl) ?_
              refine lv_aload_n hx hb d_Schema_symbol_105 rfl (lv_at hl 3 rfl) ?_
              refine lv_iload_n hx hb d_Schema_symbol_106 rfl (lv_at hl 4 rfl) ?_
              refine lv_iload_n hx hb d_Schema_symbol_107 rfl (lv_at hl 5 rfl) ?_
              refine lv_iload hx hb d_Schema_symbol_108 (lv_at hl 1 rfl) ?_
              have hc0 : 0 + 0 ≤ 0 := by omega
              have hs0 : 0 + 0 ≤ 0 := by omega
              have hPc := hP.sub (ws' := [(h0, .inr (3, [.ref a1, .ref dv, .int md, .int bk, .ref a2, .ref a3, .ref a4, .ref wd, .ref lt, .ref bu, .ref st, .ref le, .ref nx, .ref ow, .int (nI sn), .ref sp, .ref ky, .ref sm, .int sk])), (st, .inl (cst, 64, .inl stf)), (le, .inl (cle, 64, .inl lef)), (nx, .inl (cnx, 64, .inl nxf)), (ow, .inl (cow, 64, .inl owf)), (bu, .inl (cbu, 256, .inl buf)), (lt, .inr (0, [.ref lta, .int (nI lk)])), (lta, .inl (clt, 512, .inl ltf)), (tx, .inr (0, [.ref txa, .int txk])), (txa, .inl (ctx, txn, .inl txf))]) [0, 1, 2, 3, 4, 5, 6, 7, 8, 9] rfl
              have hDc := hD.sub (ws' := [(h0, .inr (3, [.ref a1, .ref dv, .int md, .int bk, .ref a2, .ref a3, .ref a4, .ref wd, .ref lt, .ref bu, .ref st, .ref le, .ref nx, .ref ow, .int (nI sn), .ref sp, .ref ky, .ref sm, .int sk])), (st, .inl (cst, 64, .inl stf)), (le, .inl (cle, 64, .inl lef)), (nx, .inl (cnx, 64, .inl nxf)), (ow, .inl (cow, 64, .inl owf)), (bu, .inl (cbu, 256, .inl buf)), (lt, .inr (0, [.ref lta, .int (nI lk)])), (lta, .inl (clt, 512, .inl ltf)), (tx, .inr (0, [.ref txa, .int txk])), (txa, .inl (ctx, txn, .inl txf))]) [0, 1, 2, 3, 4, 5, 6, 7, 8, 9] (by decide) rfl
              have hKc := hK.sub (tys' := [(cst, .int), (cle, .int), (cnx, .int), (cow, .int), (cbu, .int), (clt, .byte), (ctx, .byte)]) [0, 1, 2, 3, 4, 5, 6] rfl
              have hFc := va_free (wc := [(h0, .inr (3, [.ref a1, .ref dv, .int md, .int bk, .ref a2, .ref a3, .ref a4, .ref wd, .ref lt, .ref bu, .ref st, .ref le, .ref nx, .ref ow, .int (nI sn), .ref sp, .ref ky, .ref sm, .int sk])), (st, .inl (cst, 64, .inl stf)), (le, .inl (cle, 64, .inl lef)), (nx, .inl (cnx, 64, .inl nxf)), (ow, .inl (cow, 64, .inl owf)), (bu, .inl (cbu, 256, .inl buf)), (lt, .inr (0, [.ref lta, .int (nI lk)])), (lta, .inl (clt, 512, .inl ltf)), (tx, .inr (0, [.ref txa, .int txk])), (txa, .inl (ctx, txn, .inl txf))]) hD hS hA [0, 1, 2, 3, 4, 5, 6, 7, 8, 9] rfl
              refine va_calli (va_runV (As := [.ref tx, .int fr, .int (nI ln), .int (nI b)]) (rest := []) ⟨hx, hb, hml, hown, htw⟩ (c_Schema_added l dC dI H.size h0 a1 dv md bk a2 a3 a4 wd lt bu st le nx ow sp ky sm sk cst stf cle lef cnx nxf cow owf cbu buf lta clt ltf tx txa ctx txn txf txk sn lk ln b fr (by first | omega | assumption) (by first | omega | assumption) (by first | omega | assumption) (by first | omega | assumption)) (cwV 4 htw (tw_V wd_2_7 wd_2_9 wp_1_2 wd_1_3 k_Schema_added) rfl rfl rfl (by decide +kernel) ⟨Nat.le_of_ble_eq_true rfl, Nat.le_of_ble_eq_true rfl⟩) ⟨fun a U g mk q => by obtain ⟨q0, q1, qP, qK, qD⟩ := q; exact ⟨q0, q1, qP, va_K.moved (u := U) (U := U.calling g mk a) (Vm.Alike.refl U.vm) qK, qD⟩, va_recv hK hP (q := (R_Schema, F_Schema, 19)) (ci := 3) (q0 := 0) rfl rfl, fun U hU hW => ⟨rfl, by rw [hU], by rw [hU]; exact hPc, va_K.moved hW.alike hKc, hDc.weaken (fun _ _ _ _ => trivial)⟩⟩ rfl rfl hl.1 rfl (lv_room (Nat.le_of_ble_eq_true rfl)) d_Schema_symbol_110 ⟨hc0, hs0⟩) hS (fun q _ h => hFc q h) hFc (fun r1 u t H1 locs ht hvm hw hB hz1 hk1 hS => ?_)
              obtain ⟨g2_2, hP1, hK1, hD1⟩ := hB
              rw [ht] at hP1
              have hK1 := va_K.moved hvm.symm hK1
              obtain ⟨hP, hD⟩ := va_join (wr := []) (w1 := [(h0, .inr (3, [.ref a1, .ref dv, .int md, .int bk, .ref a2, .ref a3, .ref a4, .ref wd, .ref lt, .ref bu, .ref st, .ref le, .ref nx, .ref ow, .int (nI (sn + 1)), .ref sp, .ref ky, .ref sm, .int sk])), (st, .inl (cst, 64, .inl (upd stf (nI sn).toNatClampNeg (nI lk)))), (le, .inl (cle, 64, .inl (upd lef (nI sn).toNatClampNeg (nI ln)))), (nx, .inl (cnx, 64, .inl (upd nxf (nI sn).toNatClampNeg (buf (nI b).toNatClampNeg)))), (ow, .inl (cow, 64, .inl (upd owf (nI sn).toNatClampNeg (-1)))), (bu, .inl (cbu, 256, .inl (upd buf (nI b).toNatClampNeg (nI sn)))), (lt, .inr (0, [.ref lta, .int (nI (lk + ln))])), (lta, .inl (clt, 512, .inl g2_2)), (tx, .inr (0, [.ref txa, .int txk])), (txa, .inl (ctx, txn, .inl txf))]) hP hD [0, 1, 2, 3, 4, 5, 6, 7, 8, 9] [] rfl rfl (by decide) (by decide) hk1 hFc hP1 hD1
              have hK := (hK.sub (tys' := []) [] rfl).app hK1
              generalize H1 = H at hP hS ⊢
              have hP : va_P (dC, dI) classes [(h0, .inr (3, [.ref a1, .ref dv, .int md, .int bk, .ref a2, .ref a3, .ref a4, .ref wd, .ref lt, .ref bu, .ref st, .ref le, .ref nx, .ref ow, .int (nI (sn + 1)), .ref sp, .ref ky, .ref sm, .int sk])), (st, .inl (cst, 64, .inl (upd stf (nI sn).toNatClampNeg (nI lk)))), (le, .inl (cle, 64, .inl (upd lef (nI sn).toNatClampNeg (nI ln)))), (nx, .inl (cnx, 64, .inl (upd nxf (nI sn).toNatClampNeg (buf (nI b).toNatClampNeg)))), (ow, .inl (cow, 64, .inl (upd owf (nI sn).toNatClampNeg (-1)))), (bu, .inl (cbu, 256, .inl (upd buf (nI b).toNatClampNeg (nI sn)))), (lt, .inr (0, [.ref lta, .int (nI (lk + ln))])), (lta, .inl (clt, 512, .inl g2_2)), (tx, .inr (0, [.ref txa, .int txk])), (txa, .inl (ctx, txn, .inl txf))] H := hP
              have hD : va_D A [(h0, .inr (3, [.ref a1, .ref dv, .int md, .int bk, .ref a2, .ref a3, .ref a4, .ref wd, .ref lt, .ref bu, .ref st, .ref le, .ref nx, .ref ow, .int (nI (sn + 1)), .ref sp, .ref ky, .ref sm, .int sk])), (st, .inl (cst, 64, .inl (upd stf (nI sn).toNatClampNeg (nI lk)))), (le, .inl (cle, 64, .inl (upd lef (nI sn).toNatClampNeg (nI ln)))), (nx, .inl (cnx, 64, .inl (upd nxf (nI sn).toNatClampNeg (buf (nI b).toNatClampNeg)))), (ow, .inl (cow, 64, .inl (upd owf (nI sn).toNatClampNeg (-1)))), (bu, .inl (cbu, 256, .inl (upd buf (nI b).toNatClampNeg (nI sn)))), (lt, .inr (0, [.ref lta, .int (nI (lk + ln))])), (lta, .inl (clt, 512, .inl g2_2)), (tx, .inr (0, [.ref txa, .int txk])), (txa, .inl (ctx, txn, .inl txf))] := hD
              have hK : va_K (dC, dI) classes [(cst, .int), (cle, .int), (cnx, .int), (cow, .int), (cbu, .int), (clt, .byte), (ctx, .byte)] s := hK
              subst hw
              refine lv_goto (tgt := 117) hx hb d_Schema_symbol_113 rfl ?_
              have hP9 := hP.sub (ws' := [(h0, .inr (3, [.ref a1, .ref dv, .int md, .int bk, .ref a2, .ref a3, .ref a4, .ref wd, .ref lt, .ref bu, .ref st, .ref le, .ref nx, .ref ow, .int (nI (sn + 1)), .ref sp, .ref ky, .ref sm, .int sk])), (st, .inl (cst, 64, .inl (upd stf (nI sn).toNatClampNeg (nI lk)))), (le, .inl (cle, 64, .inl (upd lef (nI sn).toNatClampNeg (nI ln)))), (nx, .inl (cnx, 64, .inl (upd nxf (nI sn).toNatClampNeg (buf (nI b).toNatClampNeg)))), (ow, .inl (cow, 64, .inl (upd owf (nI sn).toNatClampNeg (-1)))), (bu, .inl (cbu, 256, .inl (upd buf (nI b).toNatClampNeg (nI sn)))), (lt, .inr (0, [.ref lta, .int (nI (lk + ln))])), (lta, .inl (clt, 512, .inl g2_2)), (tx, .inr (0, [.ref txa, .int txk])), (txa, .inl (ctx, txn, .inl txf))]) [0, 1, 2, 3, 4, 5, 6, 7, 8, 9] rfl
              have hD9 := hD.sub (ws' := [(h0, .inr (3, [.ref a1, .ref dv, .int md, .int bk, .ref a2, .ref a3, .ref a4, .ref wd, .ref lt, .ref bu, .ref st, .ref le, .ref nx, .ref ow, .int (nI (sn + 1)), .ref sp, .ref ky, .ref sm, .int sk])), (st, .inl (cst, 64, .inl (upd stf (nI sn).toNatClampNeg (nI lk)))), (le, .inl (cle, 64, .inl (upd lef (nI sn).toNatClampNeg (nI ln)))), (nx, .inl (cnx, 64, .inl (upd nxf (nI sn).toNatClampNeg (buf (nI b).toNatClampNeg)))), (ow, .inl (cow, 64, .inl (upd owf (nI sn).toNatClampNeg (-1)))), (bu, .inl (cbu, 256, .inl (upd buf (nI b).toNatClampNeg (nI sn)))), (lt, .inr (0, [.ref lta, .int (nI (lk + ln))])), (lta, .inl (clt, 512, .inl g2_2)), (tx, .inr (0, [.ref txa, .int txk])), (txa, .inl (ctx, txn, .inl txf))]) [0, 1, 2, 3, 4, 5, 6, 7, 8, 9] (by decide) rfl
              have hK9 := hK.sub (tys' := [(cst, .int), (cle, .int), (cnx, .int), (cow, .int), (cbu, .int), (clt, .byte), (ctx, .byte)]) [0, 1, 2, 3, 4, 5, 6] rfl
              refine W.widen (k := 0) (n := 0) (by omega) (by omega) ?_
              exact W.iret (v := nI sn) hx hb hr (fun t ht hW => ⟨⟨nI sn, (), rfl, trivial, ((sn + 1)), ((lk + ln)), (upd stf (nI sn).toNatClampNeg (nI lk)), (upd lef (nI sn).toNatClampNeg (nI ln)), (upd nxf (nI sn).toNatClampNeg (buf (nI b).toNatClampNeg)), (upd owf (nI sn).toNatClampNeg (-1)), (upd buf (nI b).toNatClampNeg (nI sn)), g2_2, by omega, by omega, tz_inv_add hsn hb8 hinv, by rw [ht]; exact hP9, va_K.moved hW.alike hK9, hD9⟩, hS.F ht⟩) hS.2.2 d_Schema_symbol_117
            · obtain ⟨j, rfl⟩ : ∃ j, q = j + 1 := tz_q h3
              rw [nI_pred j] at hl
              have hl : lv_has ls 8 [(7, .int (nI j)), (6, .int (nI b)), (0, .ref h0), (1, .ref tx), (2, .int fr), (3, .int (nI ln)), (4, .int 1)] := hl
              refine lv_aload_n hx hb d_Schema_symbol_62 rfl (lv_at hl 2 rfl) ?_
              refine va_get (D := (dC, dI)) (ci := 3) (v := .ref le) (C := R_Schema) (T := F_Schema) (N := 19) hx hb htw i_Schema hown hK hP 0 rfl rfl 11 (by decide) (htw _ wd_2_33) (fun _ h9 => h9) rfl d_Schema_symbol_63 ?_
              refine lv_iload hx hb d_Schema_symbol_66 (lv_at hl 0 rfl) ?_
              refine va_iald hx hb hK hP 2 1 rfl rfl (vp_in_nI (by omega) (by decide)) d_Schema_symbol_68 ?_
              refine lv_iload_n hx hb d_Schema_symbol_69 rfl (lv_at hl 5 rfl) ?_
              refine lv_icmp_ne (tgt := 87) hx hb d_Schema_symbol_70 rfl (fun h4 => ?_) (fun h4 => ?_)
              · refine lv_aload_n hx hb d_Schema_symbol_87 rfl (lv_at hl 2 rfl) ?_
                refine va_get (D := (dC, dI)) (ci := 3) (v := .ref nx) (C := R_Schema) (T := F_Schema) (N := 19) hx hb htw i_Schema hown hK hP 0 rfl rfl 12 (by decide) (htw _ wd_2_34) (fun _ h9 => h9) rfl d_Schema_symbol_88 ?_
                refine lv_iload hx hb d_Schema_symbol_91 (lv_at hl 0 rfl) ?_
                refine va_iald hx hb hK hP 3 2 rfl rfl (vp_in_nI (by omega) (by decide)) d_Schema_symbol_93 ?_
                obtain ⟨q2, hq2, eq2⟩ := hinv.1 j (by omega)
                refine lv_topi (fun z9 e9 => ?_)
                have e9 : z9 = nI q2 - 1 := e9.trans (by rw [nI_clamp (by omega)]; exact eq2)
                subst e9
                refine lv_istore hx hb d_Schema_symbol_94 hl (by decide) rfl (fun ls hl => ?_)
                have hl : lv_has ls 8 [(7, .int (nI q2 - 1)), (6, .int (nI b)), (0, .ref h0), (1, .ref tx), (2, .int fr), (3, .int (nI ln)), (4, .int 1)] := hl
                refine lv_goto (tgt := 57) hx hb d_Schema_symbol_96 rfl ?_
                exact ih q2 _ _ _ (by omega) (by omega) (lv_sub hl [0, 1, 2, 3, 4, 5, 6] rfl) (hP.sub [0, 1, 2, 3, 4, 5, 6, 7, 8, 9] rfl) (hD.sub [0, 1, 2, 3, 4, 5, 6, 7, 8, 9] (by decide) rfl) hS
              · refine lv_aload_n hx hb d_Schema_symbol_73 rfl (lv_at hl 2 rfl) ?_
                refine lv_iload hx hb d_Schema_symbol_74 (lv_at hl 0 rfl) ?_
                refine lv_aload_n hx hb d_Schema_symbol_76 rfl (lv_at hl 3 rfl) ?_
                refine lv_iload_n hx hb d_Schema_symbol_77 rfl (lv_at hl 4 rfl) ?_
                have hc0 : 0 + 0 ≤ 0 := by omega
                have hs0 : 0 + 0 ≤ 0 := by omega
                have hPc := hP.sub (ws' := [(h0, .inr (3, [.ref a1, .ref dv, .int md, .int bk, .ref a2, .ref a3, .ref a4, .ref wd, .ref lt, .ref bu, .ref st, .ref le, .ref nx, .ref ow, .int (nI sn), .ref sp, .ref ky, .ref sm, .int sk])), (le, .inl (cle, 64, .inl lef)), (st, .inl (cst, 64, .inl stf)), (lt, .inr (0, [.ref lta, .int (nI lk)])), (lta, .inl (clt, 512, .inl ltf)), (tx, .inr (0, [.ref txa, .int txk])), (txa, .inl (ctx, txn, .inl txf))]) [0, 2, 1, 6, 7, 8, 9] rfl
                have hDc := hD.sub (ws' := [(h0, .inr (3, [.ref a1, .ref dv, .int md, .int bk, .ref a2, .ref a3, .ref a4, .ref wd, .ref lt, .ref bu, .ref st, .ref le, .ref nx, .ref ow, .int (nI sn), .ref sp, .ref ky, .ref sm, .int sk])), (le, .inl (cle, 64, .inl lef)), (st, .inl (cst, 64, .inl stf)), (lt, .inr (0, [.ref lta, .int (nI lk)])), (lta, .inl (clt, 512, .inl ltf)), (tx, .inr (0, [.ref txa, .int txk])), (txa, .inl (ctx, txn, .inl txf))]) [0, 2, 1, 6, 7, 8, 9] (by decide) rfl
                have hKc := hK.sub (tys' := [(cle, .int), (cst, .int), (clt, .byte), (ctx, .byte)]) [1, 0, 5, 6] rfl
                have hFc := va_free (wc := [(h0, .inr (3, [.ref a1, .ref dv, .int md, .int bk, .ref a2, .ref a3, .ref a4, .ref wd, .ref lt, .ref bu, .ref st, .ref le, .ref nx, .ref ow, .int (nI sn), .ref sp, .ref ky, .ref sm, .int sk])), (le, .inl (cle, 64, .inl lef)), (st, .inl (cst, 64, .inl stf)), (lt, .inr (0, [.ref lta, .int (nI lk)])), (lta, .inl (clt, 512, .inl ltf)), (tx, .inr (0, [.ref txa, .int txk])), (txa, .inl (ctx, txn, .inl txf))]) hD hS hA [0, 2, 1, 6, 7, 8, 9] rfl
                refine va_calli (va_runV (As := [.int (nI j), .ref tx, .int fr]) (rest := []) ⟨hx, hb, hml, hown, htw⟩ (c_Schema_isName l dC dI H.size h0 a1 dv md bk a2 a3 a4 wd lt bu st le nx ow (nI sn) sp ky sm sk cle lef cst stf lta clt ltf (nI lk) tx txa ctx txn txf txk j fr (by first | omega | assumption) (by first | omega | assumption)) (cwV 3 htw (tw_V wd_2_3 wd_2_5 wp_1_1 wd_1_3 k_Schema_isName) rfl rfl rfl (by decide +kernel) ⟨Nat.le_of_ble_eq_true rfl, Nat.le_of_ble_eq_true rfl⟩) ⟨fun a U g mk q => by obtain ⟨q0, q1, qP, qK, qD⟩ := q; exact ⟨q0, q1, qP, va_K.moved (u := U) (U := U.calling g mk a) (Vm.Alike.refl U.vm) qK, qD⟩, va_recv hK hP (q := (R_Schema, F_Schema, 19)) (ci := 3) (q0 := 0) rfl rfl, fun U hU hW => ⟨rfl, by rw [hU], by rw [hU]; exact hPc, va_K.moved hW.alike hKc, hDc.weaken (fun _ _ _ _ => trivial)⟩⟩ rfl rfl hl.1 rfl (lv_room (Nat.le_of_ble_eq_true rfl)) d_Schema_symbol_78 ⟨hc0, hs0⟩) hS (fun q _ h => hFc q h) hFc (fun r3 u t H1 locs ht hvm hw hB hz1 hk1 hS => ?_)
                obtain ⟨hP1, hK1, hD1⟩ := hB
                rw [ht] at hP1
                have hK1 := va_K.moved hvm.symm hK1
                obtain ⟨hP, hD⟩ := va_join (wr := [(nx, .inl (cnx, 64, .inl nxf)), (ow, .inl (cow, 64, .inl owf)), (bu, .inl (cbu, 256, .inl buf))]) (w1 := [(h0, .inr (3, [.ref a1, .ref dv, .int md, .int bk, .ref a2, .ref a3, .ref a4, .ref wd, .ref lt, .ref bu, .ref st, .ref le, .ref nx, .ref ow, .int (nI sn), .ref sp, .ref ky, .ref sm, .int sk])), (le, .inl (cle, 64, .inl lef)), (st, .inl (cst, 64, .inl stf)), (lt, .inr (0, [.ref lta, .int (nI lk)])), (lta, .inl (clt, 512, .inl ltf)), (tx, .inr (0, [.ref txa, .int txk])), (txa, .inl (ctx, txn, .inl txf))]) hP hD [0, 2, 1, 6, 7, 8, 9] [3, 4, 5] rfl rfl (by decide) (by decide) hk1 hFc hP1 hD1
                have hK := (hK.sub (tys' := [(cnx, .int), (cow, .int), (cbu, .int)]) [2, 3, 4] rfl).app hK1
                generalize H1 = H at hP hS ⊢
                have hP : va_P (dC, dI) classes [(nx, .inl (cnx, 64, .inl nxf)), (ow, .inl (cow, 64, .inl owf)), (bu, .inl (cbu, 256, .inl buf)), (h0, .inr (3, [.ref a1, .ref dv, .int md, .int bk, .ref a2, .ref a3, .ref a4, .ref wd, .ref lt, .ref bu, .ref st, .ref le, .ref nx, .ref ow, .int (nI sn), .ref sp, .ref ky, .ref sm, .int sk])), (le, .inl (cle, 64, .inl lef)), (st, .inl (cst, 64, .inl stf)), (lt, .inr (0, [.ref lta, .int (nI lk)])), (lta, .inl (clt, 512, .inl ltf)), (tx, .inr (0, [.ref txa, .int txk])), (txa, .inl (ctx, txn, .inl txf))] H := hP
                have hD : va_D A [(nx, .inl (cnx, 64, .inl nxf)), (ow, .inl (cow, 64, .inl owf)), (bu, .inl (cbu, 256, .inl buf)), (h0, .inr (3, [.ref a1, .ref dv, .int md, .int bk, .ref a2, .ref a3, .ref a4, .ref wd, .ref lt, .ref bu, .ref st, .ref le, .ref nx, .ref ow, .int (nI sn), .ref sp, .ref ky, .ref sm, .int sk])), (le, .inl (cle, 64, .inl lef)), (st, .inl (cst, 64, .inl stf)), (lt, .inr (0, [.ref lta, .int (nI lk)])), (lta, .inl (clt, 512, .inl ltf)), (tx, .inr (0, [.ref txa, .int txk])), (txa, .inl (ctx, txn, .inl txf))] := hD
                have hK : va_K (dC, dI) classes [(cnx, .int), (cow, .int), (cbu, .int), (cle, .int), (cst, .int), (clt, .byte), (ctx, .byte)] s := hK
                have hw_r3 := hw
                refine lv_if_eq (tgt := 87) hx hb d_Schema_symbol_81 rfl (fun h5 => ?_) (fun h5 => ?_)
                · refine lv_aload_n hx hb d_Schema_symbol_87 rfl (lv_at hl 2 rfl) ?_
                  refine va_get (D := (dC, dI)) (ci := 3) (v := .ref nx) (C := R_Schema) (T := F_Schema) (N := 19) hx hb htw i_Schema hown hK hP 3 rfl rfl 12 (by decide) (htw _ wd_2_34) (fun _ h9 => h9) rfl d_Schema_symbol_88 ?_
                  refine lv_iload hx hb d_Schema_symbol_91 (lv_at hl 0 rfl) ?_
                  refine va_iald hx hb hK hP 0 0 rfl rfl (vp_in_nI (by omega) (by decide)) d_Schema_symbol_93 ?_
                  obtain ⟨q2, hq2, eq2⟩ := hinv.1 j (by omega)
                  refine lv_topi (fun z9 e9 => ?_)
                  have e9 : z9 = nI q2 - 1 := e9.trans (by rw [nI_clamp (by omega)]; exact eq2)
                  subst e9
                  refine lv_istore hx hb d_Schema_symbol_94 hl (by decide) rfl (fun ls hl => ?_)
                  have hl : lv_has ls 8 [(7, .int (nI q2 - 1)), (6, .int (nI b)), (0, .ref h0), (1, .ref tx), (2, .int fr), (3, .int (nI ln)), (4, .int 1)] := hl
                  refine lv_goto (tgt := 57) hx hb d_Schema_symbol_96 rfl ?_
                  exact ih q2 _ _ _ (by omega) (by omega) (lv_sub hl [0, 1, 2, 3, 4, 5, 6] rfl) (hP.sub [3, 5, 4, 0, 1, 2, 6, 7, 8, 9] rfl) (hD.sub [3, 5, 4, 0, 1, 2, 6, 7, 8, 9] (by decide) rfl) hS
                · refine lv_iload hx hb d_Schema_symbol_84 (lv_at hl 0 rfl) ?_
                  have hP9 := hP.sub (ws' := [(h0, .inr (3, [.ref a1, .ref dv, .int md, .int bk, .ref a2, .ref a3, .ref a4, .ref wd, .ref lt, .ref bu, .ref st, .ref le, .ref nx, .ref ow, .int (nI sn), .ref sp, .ref ky, .ref sm, .int sk])), (st, .inl (cst, 64, .inl stf)), (le, .inl (cle, 64, .inl lef)), (nx, .inl (cnx, 64, .inl nxf)), (ow, .inl (cow, 64, .inl owf)), (bu, .inl (cbu, 256, .inl buf)), (lt, .inr (0, [.ref lta, .int (nI lk)])), (lta, .inl (clt, 512, .inl ltf)), (tx, .inr (0, [.ref txa, .int txk])), (txa, .inl (ctx, txn, .inl txf))]) [3, 5, 4, 0, 1, 2, 6, 7, 8, 9] rfl
                  have hD9 := hD.sub (ws' := [(h0, .inr (3, [.ref a1, .ref dv, .int md, .int bk, .ref a2, .ref a3, .ref a4, .ref wd, .ref lt, .ref bu, .ref st, .ref le, .ref nx, .ref ow, .int (nI sn), .ref sp, .ref ky, .ref sm, .int sk])), (st, .inl (cst, 64, .inl stf)), (le, .inl (cle, 64, .inl lef)), (nx, .inl (cnx, 64, .inl nxf)), (ow, .inl (cow, 64, .inl owf)), (bu, .inl (cbu, 256, .inl buf)), (lt, .inr (0, [.ref lta, .int (nI lk)])), (lta, .inl (clt, 512, .inl ltf)), (tx, .inr (0, [.ref txa, .int txk])), (txa, .inl (ctx, txn, .inl txf))]) [3, 5, 4, 0, 1, 2, 6, 7, 8, 9] (by decide) rfl
                  have hK9 := hK.sub (tys' := [(cst, .int), (cle, .int), (cnx, .int), (cow, .int), (cbu, .int), (clt, .byte), (ctx, .byte)]) [4, 3, 0, 1, 2, 5, 6] rfl
                  refine W.widen (k := 0) (n := 0) (by omega) (by omega) ?_
                  exact W.iret (v := nI j) hx hb hr (fun t ht hW => ⟨⟨nI j, (), rfl, trivial, sn, lk, stf, lef, nxf, owf, buf, ltf, by omega, by omega, hinv, by rw [ht]; exact hP9, va_K.moved hW.alike hK9, hD9⟩, hS.F ht⟩) hS.2.2 d_Schema_symbol_86
        exact lp2 (q + 1) q _ _ _ hq (Nat.lt_succ_self _) (lv_sub hl [0, 1, 3, 4, 5, 6, 7] rfl) (hP.sub [0, 1, 2, 3, 4, 5, 6, 7, 8, 9] rfl) (hD.sub [0, 1, 2, 3, 4, 5, 6, 7, 8, 9] (by decide) rfl) hS
      · have h2 : i < ln := by have := (not_congr (nI_leI (by omega) (by omega))).mp h1; omega
        refine lv_bipush (v := 31) hx hb d_Schema_symbol_12 (by decide) ?_
        refine lv_iload hx hb d_Schema_symbol_14 (lv_at hl 1 rfl) ?_
        refine lv_imul hx hb d_Schema_symbol_16 ?_
        refine lv_aload_n hx hb d_Schema_symbol_17 rfl (lv_at hl 3 rfl) ?_
        refine lv_iload_n hx hb d_Schema_symbol_18 rfl (lv_at hl 4 rfl) ?_
        refine lv_iload hx hb d_Schema_symbol_19 (lv_at hl 0 rfl) ?_
        refine lv_iadd hx hb d_Schema_symbol_21 ?_
        have hc0 : 0 + 0 ≤ 0 := by omega
        have hs0 : 0 + 0 ≤ 0 := by omega
        have hPc := hP.sub (ws' := [(tx, .inr (0, [.ref txa, .int txk])), (txa, .inl (ctx, txn, .inl txf))]) [8, 9] rfl
        have hDc := hD.sub (ws' := [(tx, .inr (0, [.ref txa, .int txk])), (txa, .inl (ctx, txn, .inl txf))]) [8, 9] (by decide) rfl
        have hKc := hK.sub (tys' := [(ctx, .byte)]) [6] rfl
        have hFc := va_free (wc := [(tx, .inr (0, [.ref txa, .int txk])), (txa, .inl (ctx, txn, .inl txf))]) hD hS hA [8, 9] rfl
        refine va_calli (va_runV (As := [.int (fr + (nI i))]) (rest := [.int (31 * hs)]) ⟨hx, hb, hml, hown, htw⟩ (c_Bytes_get l dC dI H.size tx txa ctx txn txf txk (fr + (nI i)) (by first | omega | assumption)) (cwV 1 htw (tw_V wd_1_235 wd_1_236 wd_1_237 wd_1_2 k_Bytes_get) rfl rfl rfl (by decide +kernel) ⟨Nat.le_of_ble_eq_true rfl, Nat.le_of_ble_eq_true rfl⟩) ⟨fun a U g mk q => by obtain ⟨q0, q1, qP, qK, qD⟩ := q; exact ⟨q0, q1, qP, va_K.moved (u := U) (U := U.calling g mk a) (Vm.Alike.refl U.vm) qK, qD⟩, va_recv hK hP (q := (R_Bytes, F_Bytes, 2)) (ci := 0) (q0 := 8) rfl rfl, fun U hU hW => ⟨rfl, by rw [hU], by rw [hU]; exact hPc, va_K.moved hW.alike hKc, hDc.weaken (fun _ _ _ _ => trivial)⟩⟩ rfl rfl hl.1 rfl (lv_room (Nat.le_of_ble_eq_true rfl)) d_Schema_symbol_22 ⟨hc0, hs0⟩) hS (fun q _ h => hFc q h) hFc (fun r4 u t H1 locs ht hvm hw hB hz1 hk1 hS => ?_)
        obtain ⟨hP1, hK1, hD1⟩ := hB
        rw [ht] at hP1
        have hK1 := va_K.moved hvm.symm hK1
        obtain ⟨hP, hD⟩ := va_join (wr := [(h0, .inr (3, [.ref a1, .ref dv, .int md, .int bk, .ref a2, .ref a3, .ref a4, .ref wd, .ref lt, .ref bu, .ref st, .ref le, .ref nx, .ref ow, .int (nI sn), .ref sp, .ref ky, .ref sm, .int sk])), (st, .inl (cst, 64, .inl stf)), (le, .inl (cle, 64, .inl lef)), (nx, .inl (cnx, 64, .inl nxf)), (ow, .inl (cow, 64, .inl owf)), (bu, .inl (cbu, 256, .inl buf)), (lt, .inr (0, [.ref lta, .int (nI lk)])), (lta, .inl (clt, 512, .inl ltf))]) (w1 := [(tx, .inr (0, [.ref txa, .int txk])), (txa, .inl (ctx, txn, .inl txf))]) hP hD [8, 9] [0, 1, 2, 3, 4, 5, 6, 7] rfl rfl (by decide) (by decide) hk1 hFc hP1 hD1
        have hK := (hK.sub (tys' := [(cst, .int), (cle, .int), (cnx, .int), (cow, .int), (cbu, .int), (clt, .byte)]) [0, 1, 2, 3, 4, 5] rfl).app hK1
        generalize H1 = H at hP hS ⊢
        have hP : va_P (dC, dI) classes [(h0, .inr (3, [.ref a1, .ref dv, .int md, .int bk, .ref a2, .ref a3, .ref a4, .ref wd, .ref lt, .ref bu, .ref st, .ref le, .ref nx, .ref ow, .int (nI sn), .ref sp, .ref ky, .ref sm, .int sk])), (st, .inl (cst, 64, .inl stf)), (le, .inl (cle, 64, .inl lef)), (nx, .inl (cnx, 64, .inl nxf)), (ow, .inl (cow, 64, .inl owf)), (bu, .inl (cbu, 256, .inl buf)), (lt, .inr (0, [.ref lta, .int (nI lk)])), (lta, .inl (clt, 512, .inl ltf)), (tx, .inr (0, [.ref txa, .int txk])), (txa, .inl (ctx, txn, .inl txf))] H := hP
        have hD : va_D A [(h0, .inr (3, [.ref a1, .ref dv, .int md, .int bk, .ref a2, .ref a3, .ref a4, .ref wd, .ref lt, .ref bu, .ref st, .ref le, .ref nx, .ref ow, .int (nI sn), .ref sp, .ref ky, .ref sm, .int sk])), (st, .inl (cst, 64, .inl stf)), (le, .inl (cle, 64, .inl lef)), (nx, .inl (cnx, 64, .inl nxf)), (ow, .inl (cow, 64, .inl owf)), (bu, .inl (cbu, 256, .inl buf)), (lt, .inr (0, [.ref lta, .int (nI lk)])), (lta, .inl (clt, 512, .inl ltf)), (tx, .inr (0, [.ref txa, .int txk])), (txa, .inl (ctx, txn, .inl txf))] := hD
        have hK : va_K (dC, dI) classes [(cst, .int), (cle, .int), (cnx, .int), (cow, .int), (cbu, .int), (clt, .byte), (ctx, .byte)] s := hK
        subst hw
        refine lv_iadd hx hb d_Schema_symbol_25 ?_
        refine lv_istore hx hb d_Schema_symbol_26 hl (by decide) rfl (fun ls hl => ?_)
        have hl : lv_has ls 8 [(5, .int ((31 * hs) + (tz_gb txn txf txk (fr + (nI i))))), (6, .int (nI i)), (0, .ref h0), (1, .ref tx), (2, .int fr), (3, .int (nI ln)), (4, .int 1)] := hl
        refine lv_iinc (k := 1) (v := nI (i + 1)) hx hb d_Schema_symbol_28 hl rfl (nI_1 i) (by decide) rfl (fun ls hl => ?_)
        have hl : lv_has ls 8 [(6, .int (nI (i + 1))), (5, .int ((31 * hs) + (tz_gb txn txf txk (fr + (nI i))))), (0, .ref h0), (1, .ref tx), (2, .int fr), (3, .int (nI ln)), (4, .int 1)] := hl
        refine lv_goto (tgt := 6) hx hb d_Schema_symbol_31 rfl ?_
        exact ih ((i + 1)) ((31 * hs) + (tz_gb txn txf txk (fr + (nI i)))) _ _ _ (by omega) (by omega) (lv_sub hl [0, 1, 2, 3, 4, 5, 6] rfl) (hP.sub [0, 1, 2, 3, 4, 5, 6, 7, 8, 9] rfl) (hD.sub [0, 1, 2, 3, 4, 5, 6, 7, 8, 9] (by decide) rfl) hS
  exact lp ((ln - 0) + 1) 0 ((nI ln)) _ _ _ (by omega) (Nat.lt_succ_self _) (lv_sub hl [0, 1, 2, 3, 4, 5, 6] rfl) (hP.sub [0, 1, 2, 3, 4, 5, 6, 7, 8, 9] rfl) (hD.sub [0, 1, 2, 3, 4, 5, 6, 7, 8, 9] (by decide) rfl) hS
end
section
/-! by program (wip/p1) -/
theorem wd_1_12 : Cond.initialized "java/util/Arrays" ∈ tw_tbl := tw_t1 (List.mem_of_getElem? (i := 12) rfl) rfl
theorem wd_1_232 : Cond.methodLink "SyntaxForge$Schema" 103 ⟨"java/util/Arrays", "fill", "([II)V"⟩ ∈ tw_tbl := tw_t1 (List.mem_of_getElem? (i := 232) rfl) rfl
theorem wd_1_233 : Cond.static ⟨"java/util/Arrays", "fill", "([II)V"⟩ ∈ tw_tbl := tw_t1 (List.mem_of_getElem? (i := 233) rfl) rfl
theorem wd_2_29 : Cond.fieldLink "SyntaxForge$Schema" 47 "SyntaxForge$Schema" "words" "LSyntaxForge$Bytes;" ∈ tw_tbl := tw_t2 (List.mem_of_getElem? (i := 29) rfl) rfl
theorem wd_1_239 : Cond.methodLink "SyntaxForge$Schema" 119 ⟨"SyntaxForge$Schema", "symbol", "(LSyntaxForge$Bytes;IIZ)I"⟩ ∈ tw_tbl := tw_t1 (List.mem_of_getElem? (i := 239) rfl) rfl
theorem wd_2_0 : Cond.instanceMethod ⟨"SyntaxForge$Schema", "symbol", "(LSyntaxForge$Bytes;IIZ)I"⟩ ∈ tw_tbl := tw_t2 (List.mem_of_getElem? (i := 0) rfl) rfl
theorem wd_2_1 : Cond.selects "SyntaxForge$Schema" ⟨"SyntaxForge$Schema", "symbol", "(LSyntaxForge$Bytes;IIZ)I"⟩ ⟨"SyntaxForge$Schema", "symbol", "(LSyntaxForge$Bytes;IIZ)I"⟩ ∈ tw_tbl := tw_t2 (List.mem_of_getElem? (i := 1) rfl) rfl
def y_Schema_keepWords : MethodName := ⟨"SyntaxForge$Schema", "keepWords", "()V"⟩
abbrev b_Schema_keepWords : ByteArray := prog_10_method_4_code
abbrev cd_Schema_keepWords : Cond := .code y_Schema_keepWords b_Schema_keepWords 3 none
abbrev ws_Schema_keepWords : List Cond := cd_Schema_keepWords :: tw_tbl
theorem k_Schema_keepWords : cd_Schema_keepWords ∈ tw_tbl := tw_t1 (List.mem_of_getElem? (i := 231) rfl) rfl
theorem d_Schema_keepWords_0 : decode b_Schema_keepWords 0 = .ok (.aload_n 0, 1) := by decide +kernel
theorem d_Schema_keepWords_1 : decode b_Schema_keepWords 1 = .ok (.getfield 61, 3) := by decide +kernel
theorem d_Schema_keepWords_4 : decode b_Schema_keepWords 4 = .ok (.iconst (-1), 1) := by decide +kernel
theorem d_Schema_keepWords_5 : decode b_Schema_keepWords 5 = .ok (.invokestatic 103, 3) := by decide +kernel
theorem d_Schema_keepWords_8 : decode b_Schema_keepWords 8 = .ok (.aload_n 0, 1) := by decide +kernel
theorem d_Schema_keepWords_9 : decode b_Schema_keepWords 9 = .ok (.getfield 58, 3) := by decide +kernel
theorem d_Schema_keepWords_12 : decode b_Schema_keepWords 12 = .ok (.iconst 0, 1) := by decide +kernel
theorem d_Schema_keepWords_13 : decode b_Schema_keepWords 13 = .ok (.putfield 109, 3) := by decide +kernel
theorem d_Schema_keepWords_16 : decode b_Schema_keepWords 16 = .ok (.aload_n 0, 1) := by decide +kernel
theorem d_Schema_keepWords_17 : decode b_Schema_keepWords 17 = .ok (.iconst 0, 1) := by decide +kernel
theorem d_Schema_keepWords_18 : decode b_Schema_keepWords 18 = .ok (.putfield 112, 3) := by decide +kernel
theorem d_Schema_keepWords_21 : decode b_Schema_keepWords 21 = .ok (.iconst 0, 1) := by decide +kernel
theorem d_Schema_keepWords_22 : decode b_Schema_keepWords 22 = .ok (.istore_n 1, 1) := by decide +kernel
theorem d_Schema_keepWords_23 : decode b_Schema_keepWords 23 = .ok (.iconst 0, 1) := by decide +kernel
theorem d_Schema_keepWords_24 : decode b_Schema_keepWords 24 = .ok (.istore_n 2, 1) := by decide +kernel
theorem d_Schema_keepWords_25 : decode b_Schema_keepWords 25 = .ok (.iload_n 2, 1) := by decide +kernel
theorem d_Schema_keepWords_26 : decode b_Schema_keepWords 26 = .ok (.aload_n 0, 1) := by decide +kernel
theorem d_Schema_keepWords_27 : decode b_Schema_keepWords 27 = .ok (.getfield 47, 3) := by decide +kernel
theorem d_Schema_keepWords_30 : decode b_Schema_keepWords 30 = .ok (.getfield 109, 3) := by decide +kernel
theorem d_Schema_keepWords_33 : decode b_Schema_keepWords 33 = .ok (.if_icmp .gt 51, 3) := by decide +kernel
theorem d_Schema_keepWords_36 : decode b_Schema_keepWords 36 = .ok (.iload_n 2, 1) := by decide +kernel
theorem d_Schema_keepWords_37 : decode b_Schema_keepWords 37 = .ok (.aload_n 0, 1) := by decide +kernel
theorem d_Schema_keepWords_38 : decode b_Schema_keepWords 38 = .ok (.getfield 47, 3) := by decide +kernel
theorem d_Schema_keepWords_41 : decode b_Schema_keepWords 41 = .ok (.getfield 109, 3) := by decide +kernel
theorem d_Schema_keepWords_44 : decode b_Schema_keepWords 44 = .ok (.if_icmp .eq 16, 3) := by decide +kernel
theorem d_Schema_keepWords_47 : decode b_Schema_keepWords 47 = .ok (.aload_n 0, 1) := by decide +kernel
theorem d_Schema_keepWords_48 : decode b_Schema_keepWords 48 = .ok (.getfield 47, 3) := by decide +kernel
theorem d_Schema_keepWords_51 : decode b_Schema_keepWords 51 = .ok (.iload_n 2, 1) := by decide +kernel
theorem d_Schema_keepWords_52 : decode b_Schema_keepWords 52 = .ok (.invokevirtual 115, 3) := by decide +kernel
theorem d_Schema_keepWords_55 : decode b_Schema_keepWords 55 = .ok (.bipush 32, 2) := by decide +kernel
theorem d_Schema_keepWords_57 : decode b_Schema_keepWords 57 = .ok (.if_icmp .ne 21, 3) := by decide +kernel
theorem d_Schema_keepWords_60 : decode b_Schema_keepWords 60 = .ok (.aload_n 0, 1) := by decide +kernel
theorem d_Schema_keepWords_61 : decode b_Schema_keepWords 61 = .ok (.aload_n 0, 1) := by decide +kernel
theorem d_Schema_keepWords_62 : decode b_Schema_keepWords 62 = .ok (.getfield 47, 3) := by decide +kernel
theorem d_Schema_keepWords_65 : decode b_Schema_keepWords 65 = .ok (.iload_n 1, 1) := by decide +kernel
theorem d_Schema_keepWords_66 : decode b_Schema_keepWords 66 = .ok (.iload_n 2, 1) := by decide +kernel
theorem d_Schema_keepWords_67 : decode b_Schema_keepWords 67 = .ok (.iload_n 1, 1) := by decide +kernel
theorem d_Schema_keepWords_68 : decode b_Schema_keepWords 68 = .ok (.isub, 1) := by decide +kernel
theorem d_Schema_keepWords_69 : decode b_Schema_keepWords 69 = .ok (.iconst 1, 1) := by decide +kernel
theorem d_Schema_keepWords_70 : decode b_Schema_keepWords 70 = .ok (.invokevirtual 119, 3) := by decide +kernel
theorem d_Schema_keepWords_73 : decode b_Schema_keepWords 73 = .ok (.pop, 1) := by decide +kernel
theorem d_Schema_keepWords_74 : decode b_Schema_keepWords 74 = .ok (.iload_n 2, 1) := by decide +kernel
theorem d_Schema_keepWords_75 : decode b_Schema_keepWords 75 = .ok (.iconst 1, 1) := by decide +kernel
theorem d_Schema_keepWords_76 : decode b_Schema_keepWords 76 = .ok (.iadd, 1) := by decide +kernel
theorem d_Schema_keepWords_77 : decode b_Schema_keepWords 77 = .ok (.istore_n 1, 1) := by decide +kernel
theorem d_Schema_keepWords_78 : decode b_Schema_keepWords 78 = .ok (.iinc 2 1, 3) := by decide +kernel
theorem d_Schema_keepWords_81 : decode b_Schema_keepWords 81 = .ok (.goto (-56), 3) := by decide +kernel
theorem d_Schema_keepWords_84 : decode b_Schema_keepWords 84 = .ok (.return_, 1) := by decide +kernel
set_option maxHeartbeats 4000000 in
set_option maxRecDepth 100000 in
theorem c_Schema_keepWords (l : Launch) (dC : Nat → ClassId) (dI : Nat → Nat → Nat) (sz : Nat) (h0 : Nat) (a1 : Nat) (dv : Nat) (md : Int32) (bk : Int32) (a2 : Nat) (a3 : Nat) (a4 : Nat) (wd : Nat) (lt : Nat) (bu : Nat) (st : Nat) (le : Nat) (nx : Nat) (ow : Nat) (sy : Int32) (sp : Nat) (ky : Nat) (sm : Nat) (sk : Int32) (cst : ClassId) (stf : Nat → Int32) (cle : ClassId) (lef : Nat → Int32) (cnx : ClassId) (nxf : Nat → Int32) (cow : ClassId) (owf : Nat → Int32) (cbu : ClassId) (buf : Nat → Int32) (lta : Nat) (clt : ClassId) (ltf : Nat → Int32) (ltk : Int32) (wda : Nat) (cwd : ClassId) (wf : Nat → Int32) (hwf : ∀ j, j < 280 → wf j = tz_wb j) : Met l y_Schema_keepWords ws_Schema_keepWords ({ frames := 3, cells := 0, slots := 0, locals := 73 }) (va_Pc [.ref h0] (fun U => U.heap.size = sz ∧ va_P (dC, dI) classes [(h0, .inr (3, [.ref a1, .ref dv, .int md, .int bk, .ref a2, .ref a3, .ref a4, .ref wd, .ref lt, .ref bu, .ref st, .ref le, .ref nx, .ref ow, .int sy, .ref sp, .ref ky, .ref sm, .int sk])), (st, .inl (cst, 64, .inl stf)), (le, .inl (cle, 64, .inl lef)), (nx, .inl (cnx, 64, .inl nxf)), (ow, .inl (cow, 64, .inl owf)), (bu, .inl (cbu, 256, .inl buf)), (lt, .inr (0, [.ref lta, .int ltk])), (lta, .inl (clt, 512, .inl ltf)), (wd, .inr (0, [.ref wda, .int (nI 280)])), (wda, .inl (cwd, 280, .inl wf))] U.heap ∧ va_K (dC, dI) classes [(cst, .int), (cle, .int), (cnx, .int), (cow, .int), (cbu, .int), (clt, .byte), (cwd, .byte)] U ∧ va_D (fun _ => True) [(h0, .inr (3, [.ref a1, .ref dv, .int md, .int bk, .ref a2, .ref a3, .ref a4, .ref wd, .ref lt, .ref bu, .ref st, .ref le, .ref nx, .ref ow, .int sy, .ref sp, .ref ky, .ref sm, .int sk])), (st, .inl (cst, 64, .inl stf)), (le, .inl (cle, 64, .inl lef)), (nx, .inl (cnx, 64, .inl nxf)), (ow, .inl (cow, 64, .inl owf)), (bu, .inl (cbu, 256, .inl buf)), (lt, .inr (0, [.ref lta, .int ltk])), (lta, .inl (clt, 512, .inl ltf)), (wd, .inr (0, [.ref wda, .int (nI 280)])), (wda, .inl (cwd, 280, .inl wf))])) (va_Qv (fun _ : Unit => True) (fun _ t => ∃ (s2 : Nat) (k2 : Nat) (g1 : Nat → Int32) (g2 : Nat → Int32) (g3 : Nat → Int32) (g4 : Nat → Int32) (g5 : Nat → Int32) (g6 : Nat → Int32), va_P (dC, dI) classes [(h0, .inr (3, [.ref a1, .ref dv, .int md, .int bk, .ref a2, .ref a3, .ref a4, .ref wd, .ref lt, .ref bu, .ref st, .ref le, .ref nx, .ref ow, .int (nI s2), .ref sp, .ref ky, .ref sm, .int sk])), (st, .inl (cst, 64, .inl g1)), (le, .inl (cle, 64, .inl g2)), (nx, .inl (cnx, 64, .inl g3)), (ow, .inl (cow, 64, .inl g4)), (bu, .inl (cbu, 256, .inl g5)), (lt, .inr (0, [.ref lta, .int (nI k2)])), (lta, .inl (clt, 512, .inl g6)), (wd, .inr (0, [.ref wda, .int (nI 280)])), (wda, .inl (cwd, 280, .inl wf))] t.heap ∧ va_K (dC, dI) classes [(cst, .int), (cle, .int), (cnx, .int), (cow, .int), (cbu, .int), (clt, .byte), (cwd, .byte)] t ∧ va_D (va_A [(h0, .inr (3, [.ref a1, .ref dv, .int md, .int bk, .ref a2, .ref a3, .ref a4, .ref wd, .ref lt, .ref bu, .ref st, .ref le, .ref nx, .ref ow, .int sy, .ref sp, .ref ky, .ref sm, .int sk])), (st, .inl (cst, 64, .inl stf)), (le, .inl (cle, 64, .inl lef)), (nx, .inl (cnx, 64, .inl nxf)), (ow, .inl (cow, 64, .inl owf)), (bu, .inl (cbu, 256, .inl buf)), (lt, .inr (0, [.ref lta, .int ltk])), (lta, .inl (clt, 512, .inl ltf)), (wd, .inr (0, [.ref wda, .int (nI 280)])), (wda, .inl (cwd, 280, .inl wf))] sz) [(h0, .inr (3, [.ref a1, .ref dv, .int md, .int bk, .ref a2, .ref a3, .ref a4, .ref wd, .ref lt, .ref bu, .ref st, .ref le, .ref nx, .ref ow, .int (nI s2), .ref sp, .ref ky, .ref sm, .int sk])), (st, .inl (cst, 64, .inl g1)), (le, .inl (cle, 64, .inl g2)), (nx, .inl (cnx, 64, .inl g3)), (ow, .inl (cow, 64, .inl g4)), (bu, .inl (cbu, 256, .inl g5)), (lt, .inr (0, [.ref lta, .int (nI k2)])), (lta, .inl (clt, 512, .inl g6)), (wd, .inr (0, [.ref wda, .int (nI 280)])), (wda, .inl (cwd, 280, .inl wf))]) (va_A [(h0, .inr (3, [.ref a1, .ref dv, .int md, .int bk, .ref a2, .ref a3, .ref a4, .ref wd, .ref lt, .ref bu, .ref st, .ref le, .ref nx, .ref ow, .int sy, .ref sp, .ref ky, .ref sm, .int sk])), (st, .inl (cst, 64, .inl stf)), (le, .inl (cle, 64, .inl lef)), (nx, .inl (cnx, 64, .inl nxf)), (ow, .inl (cow, 64, .inl owf)), (bu, .inl (cbu, 256, .inl buf)), (lt, .inr (0, [.ref lta, .int ltk])), (lta, .inl (clt, 512, .inl ltf)), (wd, .inr (0, [.ref wda, .int (nI 280)])), (wda, .inl (cwd, 280, .inl wf))] sz)) 0 0 (va_A [(h0, .inr (3, [.ref a1, .ref dv, .int md, .int bk, .ref a2, .ref a3, .ref a4, .ref wd, .ref lt, .ref bu, .ref st, .ref le, .ref nx, .ref ow, .int sy, .ref sp, .ref ky, .ref sm, .int sk])), (st, .inl (cst, 64, .inl stf)), (le, .inl (cle, 64, .inl lef)), (nx, .inl (cnx, 64, .inl nxf)), (ow, .inl (cow, 64, .inl owf)), (bu, .inl (cbu, 256, .inl buf)), (lt, .inr (0, [.ref lta, .int ltk])), (lta, .inl (clt, 512, .inl ltf)), (wd, .inr (0, [.ref wda, .int (nI 280)])), (wda, .inl (cwd, 280, .inl wf))] sz) := by
  refine Met.ofW (cc := b_Schema_keepWords) (maxL := 3) (ret := none) (by decide) rfl ?_
  intro p e s m args below meth c s₁ B hml hv
  obtain ⟨rfl, hsz, hP, hK, hD0⟩ := hv
  have hx := B.exec
  have hb := B.bytes
  have hr := B.returns
  have hts := atoms_spec (ws := ws_Schema_keepWords) B.pre
  have htw : ∀ w ∈ tw_tbl, w.before [.ref h0].toArray s = true := fun w h => hts w (List.mem_cons_of_mem _ h)
  have hown : s.vm.findClass R_Schema = some m.cls := findClass_of_methodNamed B.named
  have hlocks := B.notSynchronized
  have hin : meth.name = "keepWords" := (name_of_methodNamed B.named B.method).1
  subst hsz
  have hD := hD0.self (sz := s.heap.size)
  generalize hAe : va_A [(h0, .inr (3, [.ref a1, .ref dv, .int md, .int bk, .ref a2, .ref a3, .ref a4, .ref wd, .ref lt, .ref bu, .ref st, .ref le, .ref nx, .ref ow, .int sy, .ref sp, .ref ky, .ref sm, .int sk])), (st, .inl (cst, 64, .inl stf)), (le, .inl (cle, 64, .inl lef)), (nx, .inl (cnx, 64, .inl nxf)), (ow, .inl (cow, 64, .inl owf)), (bu, .inl (cbu, 256, .inl buf)), (lt, .inr (0, [.ref lta, .int ltk])), (lta, .inl (clt, 512, .inl ltf)), (wd, .inr (0, [.ref wda, .int (nI 280)])), (wda, .inl (cwd, 280, .inl wf))] s.heap.size = A at hD ⊢
  have hA : ∀ q : Nat, s.heap.size ≤ q → A q := fun q h => by rw [← hAe]; exact Or.inr h
  have hS : va_S A s.heap s.heap [] := va_S.rf
  have hP : va_P (dC, dI) classes [(h0, .inr (3, [.ref a1, .ref dv, .int md, .int bk, .ref a2, .ref a3, .ref a4, .ref wd, .ref lt, .ref bu, .ref st, .ref le, .ref nx, .ref ow, .int sy, .ref sp, .ref ky, .ref sm, .int sk])), (st, .inl (cst, 64, .inl stf)), (le, .inl (cle, 64, .inl lef)), (nx, .inl (cnx, 64, .inl nxf)), (ow, .inl (cow, 64, .inl owf)), (bu, .inl (cbu, 256, .inl buf)), (lt, .inr (0, [.ref lta, .int ltk])), (lta, .inl (clt, 512, .inl ltf)), (wd, .inr (0, [.ref wda, .int (nI 280)])), (wda, .inl (cwd, 280, .inl wf))] s.heap := hP
  have hl := lv_entry ([.ref h0]) (n := 3) (Nat.le_of_ble_eq_true rfl)
  rw [lg_entry_eq]
  generalize (lg_sl ([.ref h0]) ++ List.replicate (3 - (lg_sl ([.ref h0])).length) Slot.unset).toArray = ls at hl ⊢
  have hl : lv_has ls 3 [(0, .ref h0)] := hl
  refine lv_aload_n hx hb d_Schema_keepWords_0 rfl (lv_at hl 0 rfl) ?_
  refine va_get (D := (dC, dI)) (ci := 3) (v := .ref bu) (C := R_Schema) (T := F_Schema) (N := 19) hx hb htw i_Schema hown hK hP 0 rfl rfl 9 (by decide) (htw _ wd_2_31) (fun _ h9 => h9) rfl d_Schema_keepWords_1 ?_
  refine lv_iconst (v := (-1)) hx hb d_Schema_keepWords_4 (by decide) ?_
  have hc0 : 0 + 0 ≤ 0 := by omega
  have hs0 : 0 + 0 ≤ 0 := by omega
  have hPc := hP.sub (ws' := [(bu, .inl (cbu, 256, .inl buf))]) [5] rfl
  have hDc := hD.sub (ws' := [(bu, .inl (cbu, 256, .inl buf))]) [5] (by decide) rfl
  have hKc := hK.sub (tys' := [(cbu, .int)]) [4] rfl
  have hFc := va_free (wc := [(bu, .inl (cbu, 256, .inl buf))]) hD hS hA [5] rfl
  refine va_callv (va_runS (As := [.ref bu, .int ((-1))]) (rest := []) ⟨hx, hb, hml, hown, htw⟩ (c_Arrs_fill l dC dI s.heap.size bu cbu 256 buf ((-1)) (by first | omega | assumption)) ⟨callB_of 2 htw (tw_inL k_Arrs_fill) rfl rfl rfl (htw _ wd_1_12) (htw _ wd_1_232) (by decide +kernel) ⟨Nat.le_of_ble_eq_true rfl, Nat.le_of_ble_eq_true rfl⟩, htw _ wd_1_233⟩ ⟨fun a U g mk q => by obtain ⟨q0, q1, qP, qK, qD⟩ := q; exact ⟨q0, q1, qP, va_K.moved (u := U) (U := U.calling g mk a) (Vm.Alike.refl U.vm) qK, qD⟩, fun U hU hW => ⟨rfl, by rw [hU], by rw [hU]; exact hPc, va_K.moved hW.alike hKc, hDc.weaken (fun _ _ _ _ => trivial)⟩⟩ rfl rfl hl.1 rfl (lv_room (Nat.le_of_ble_eq_true rfl)) d_Schema_keepWords_5 ⟨hc0, hs0⟩) hS (fun q _ h => hFc q h) hFc (fun u t H1 locs ht hvm hw hB hz1 hk1 hS => ?_)
  obtain ⟨g2_2, hp3, hP1, hK1, hD1⟩ := hB
  rw [ht] at hP1
  have hK1 := va_K.moved hvm.symm hK1
  obtain ⟨hP, hD⟩ := va_join (wr := [(h0, .inr (3, [.ref a1, .ref dv, .int md, .int bk, .ref a2, .ref a3, .ref a4, .ref wd, .ref lt, .ref bu, .ref st, .ref le, .ref nx, .ref ow, .int sy, .ref sp, .ref ky, .ref sm, .int sk])), (st, .inl (cst, 64, .inl stf)), (le, .inl (cle, 64, .inl lef)), (nx, .inl (cnx, 64, .inl nxf)), (ow, .inl (cow, 64, .inl owf)), (lt, .inr (0, [.ref lta, .int ltk])), (lta, .inl (clt, 512, .inl ltf)), (wd, .inr (0, [.ref wda, .int (nI 280)])), (wda, .inl (cwd, 280, .inl wf))]) (w1 := [(bu, .inl (cbu, 256, .inl g2_2))]) hP hD [5] [0, 1, 2, 3, 4, 6, 7, 8, 9] rfl rfl (by decide) (by decide) hk1 hFc hP1 hD1
  have hK := (hK.sub (tys' := [(cst, .int), (cle, .int), (cnx, .int), (cow, .int), (clt, .byte), (cwd, .byte)]) [0, 1, 2, 3, 5, 6] rfl).app hK1
  generalize H1 = H at hP hS ⊢
  have hP : va_P (dC, dI) classes [(h0, .inr (3, [.ref a1, .ref dv, .int md, .int bk, .ref a2, .ref a3, .ref a4, .ref wd, .ref lt, .ref bu, .ref st, .ref le, .ref nx, .ref ow, .int sy, .ref sp, .ref ky, .ref sm, .int sk])), (st, .inl (cst, 64, .inl stf)), (le, .inl (cle, 64, .inl lef)), (nx, .inl (cnx, 64, .inl nxf)), (ow, .inl (cow, 64, .inl owf)), (lt, .inr (0, [.ref lta, .int ltk])), (lta, .inl (clt, 512, .inl ltf)), (wd, .inr (0, [.ref wda, .int (nI 280)])), (wda, .inl (cwd, 280, .inl wf)), (bu, .inl (cbu, 256, .inl g2_2))] H := hP
  have hD : va_D A [(h0, .inr (3, [.ref a1, .ref dv, .int md, .int bk, .ref a2, .ref a3, .ref a4, .ref wd, .ref lt, .ref bu, .ref st, .ref le, .ref nx, .ref ow, .int sy, .ref sp, .ref ky, .ref sm, .int sk])), (st, .inl (cst, 64, .inl stf)), (le, .inl (cle, 64, .inl lef)), (nx, .inl (cnx, 64, .inl nxf)), (ow, .inl (cow, 64, .inl owf)), (lt, .inr (0, [.ref lta, .int ltk])), (lta, .inl (clt, 512, .inl ltf)), (wd, .inr (0, [.ref wda, .int (nI 280)])), (wda, .inl (cwd, 280, .inl wf)), (bu, .inl (cbu, 256, .inl g2_2))] := hD
  have hK : va_K (dC, dI) classes [(cst, .int), (cle, .int), (cnx, .int), (cow, .int), (clt, .byte), (cwd, .byte), (cbu, .int)] s := hK
  refine lv_aload_n hx hb d_Schema_keepWords_8 rfl (lv_at hl 0 rfl) ?_
  refine va_get (D := (dC, dI)) (ci := 3) (v := .ref lt) (C := R_Schema) (T := F_Schema) (N := 19) hx hb htw i_Schema hown hK hP 0 rfl rfl 8 (by decide) (htw _ wd_2_30) (fun _ h9 => h9) rfl d_Schema_keepWords_9 ?_
  refine lv_iconst (v := 0) hx hb d_Schema_keepWords_12 (by decide) ?_
  refine va_put (D := (dC, dI)) (ci := 0) (v := .int 0) (ty := .int) (C := R_Bytes) (T := F_Bytes) (N := 2) hx hb htw i_Bytes t_Bytes t_Bytes_ok n_Bytes hown hK hP hD hS 5 rfl rfl 1 (by decide) (htw _ wd_1_70) (fun _ h9 => h9) rfl (by decide +kernel) rfl rfl (Nat.le_of_ble_eq_true rfl) d_Schema_keepWords_13 (fun H locs hP hD hS => ?_)
  have hP : va_P (dC, dI) classes [(h0, .inr (3, [.ref a1, .ref dv, .int md, .int bk, .ref a2, .ref a3, .ref a4, .ref wd, .ref lt, .ref bu, .ref st, .ref le, .ref nx, .ref ow, .int sy, .ref sp, .ref ky, .ref sm, .int sk])), (st, .inl (cst, 64, .inl stf)), (le, .inl (cle, 64, .inl lef)), (nx, .inl (cnx, 64, .inl nxf)), (ow, .inl (cow, 64, .inl owf)), (lt, .inr (0, [.ref lta, .int 0])), (lta, .inl (clt, 512, .inl ltf)), (wd, .inr (0, [.ref wda, .int (nI 280)])), (wda, .inl (cwd, 280, .inl wf)), (bu, .inl (cbu, 256, .inl g2_2))] H := hP
  have hD : va_D A [(h0, .inr (3, [.ref a1, .ref dv, .int md, .int bk, .ref a2, .ref a3, .ref a4, .ref wd, .ref lt, .ref bu, .ref st, .ref le, .ref nx, .ref ow, .int sy, .ref sp, .ref ky, .ref sm, .int sk])), (st, .inl (cst, 64, .inl stf)), (le, .inl (cle, 64, .inl lef)), (nx, .inl (cnx, 64, .inl nxf)), (ow, .inl (cow, 64, .inl owf)), (lt, .inr (0, [.ref lta, .int 0])), (lta, .inl (clt, 512, .inl ltf)), (wd, .inr (0, [.ref wda, .int (nI 280)])), (wda, .inl (cwd, 280, .inl wf)), (bu, .inl (cbu, 256, .inl g2_2))] := hD
  refine lv_aload_n hx hb d_Schema_keepWords_16 rfl (lv_at hl 0 rfl) ?_
  refine lv_iconst (v := 0) hx hb d_Schema_keepWords_17 (by decide) ?_
  refine va_put (D := (dC, dI)) (ci := 3) (v := .int 0) (ty := .int) (C := R_Schema) (T := F_Schema) (N := 19) hx hb htw i_Schema t_Schema t_Schema_ok n_Schema hown hK hP hD hS 0 rfl rfl 14 (by decide) (htw _ wd_2_36) (fun _ h9 => h9) rfl (by decide +kernel) rfl rfl (Nat.le_of_ble_eq_true rfl) d_Schema_keepWords_18 (fun H locs hP hD hS => ?_)
  have hP : va_P (dC, dI) classes [(h0, .inr (3, [.ref a1, .ref dv, .int md, .int bk, .ref a2, .ref a3, .ref a4, .ref wd, .ref lt, .ref bu, .ref st, .ref le, .ref nx, .ref ow, .int 0, .ref sp, .ref ky, .ref sm, .int sk])), (st, .inl (cst, 64, .inl stf)), (le, .inl (cle, 64, .inl lef)), (nx, .inl (cnx, 64, .inl nxf)), (ow, .inl (cow, 64, .inl owf)), (lt, .inr (0, [.ref lta, .int 0])), (lta, .inl (clt, 512, .inl ltf)), (wd, .inr (0, [.ref wda, .int (nI 280)])), (wda, .inl (cwd, 280, .inl wf)), (bu, .inl (cbu, 256, .inl g2_2))] H := hP
  have hD : va_D A [(h0, .inr (3, [.ref a1, .ref dv, .int md, .int bk, .ref a2, .ref a3, .ref a4, .ref wd, .ref lt, .ref bu, .ref st, .ref le, .ref nx, .ref ow, .int 0, .ref sp, .ref ky, .ref sm, .int sk])), (st, .inl (cst, 64, .inl stf)), (le, .inl (cle, 64, .inl lef)), (nx, .inl (cnx, 64, .inl nxf)), (ow, .inl (cow, 64, .inl owf)), (lt, .inr (0, [.ref lta, .int 0])), (lta, .inl (clt, 512, .inl ltf)), (wd, .inr (0, [.ref wda, .int (nI 280)])), (wda, .inl (cwd, 280, .inl wf)), (bu, .inl (cbu, 256, .inl g2_2))] := hD
  refine lv_iconst (v := 0) hx hb d_Schema_keepWords_21 (by decide) ?_
  refine lv_istore_n hx hb d_Schema_keepWords_22 rfl hl (by decide) rfl (fun ls hl => ?_)
  have hl : lv_has ls 3 [(1, .int 0), (0, .ref h0)] := hl
  refine lv_iconst (v := 0) hx hb d_Schema_keepWords_23 (by decide) ?_
  refine lv_istore_n hx hb d_Schema_keepWords_24 rfl hl (by decide) rfl (fun ls hl => ?_)
  have hl : lv_has ls 3 [(2, .int 0), (1, .int 0), (0, .ref h0)] := hl
  have lp : ∀ (fuel : Nat) (fr : Nat) (i : Nat) (sn : Nat) (lk : Nat) (g1 : Nat → Int32) (g2 : Nat → Int32) (g3 : Nat → Int32) (g4 : Nat → Int32) (g5 : Nat → Int32) (g6 : Nat → Int32) (H : Heap) (locs : List Loc) (ls : Array Slot), i ≤ 281 → fr ≤ i → sn ≤ tz_cnt i → lk ≤ fr → tz_inv sn g3 g5 → 282 - i < fuel → lv_has ls 3 [(1, .int (nI fr)), (2, .int (nI i)), (0, .ref h0)] → va_P (dC, dI) classes [(h0, .inr (3, [.ref a1, .ref dv, .int md, .int bk, .ref a2, .ref a3, .ref a4, .ref wd, .ref lt, .ref bu, .ref st, .ref le, .ref nx, .ref ow, .int (nI sn), .ref sp, .ref ky, .ref sm, .int sk])), (st, .inl (cst, 64, .inl g1)), (le, .inl (cle, 64, .inl g2)), (nx, .inl (cnx, 64, .inl g3)), (ow, .inl (cow, 64, .inl g4)), (bu, .inl (cbu, 256, .inl g5)), (lt, .inr (0, [.ref lta, .int (nI lk)])), (lta, .inl (clt, 512, .inl g6)), (wd, .inr (0, [.ref wda, .int (nI 280)])), (wda, .inl (cwd, 280, .inl wf))] H → va_D A [(h0, .inr (3, [.ref a1, .ref dv, .int md, .int bk, .ref a2, .ref a3, .ref a4, .ref wd, .ref lt, .ref bu, .ref st, .ref le, .ref nx, .ref ow, .int (nI sn), .ref sp, .ref ky, .ref sm, .int sk])), (st, .inl (cst, 64, .inl g1)), (le, .inl (cle, 64, .inl g2)), (nx, .inl (cnx, 64, .inl g3)), (ow, .inl (cow, 64, .inl g4)), (bu, .inl (cbu, 256, .inl g5)), (lt, .inr (0, [.ref lta, .int (nI lk)])), (lta, .inl (clt, 512, .inl g6)), (wd, .inr (0, [.ref wda, .int (nI 280)])), (wda, .inl (cwd, 280, .inl wf))] → va_S A s.heap H locs → W p l e (headSpec ws_Schema_keepWords ({ frames := 3, cells := 0, slots := 0, locals := 73 })).room s m [.ref h0].toArray below meth c H locs 0 0 (MQ below (va_Qv (fun _ : Unit => True) (fun _ t => ∃ (s2 : Nat) (k2 : Nat) (g1 : Nat → Int32) (g2 : Nat → Int32) (g3 : Nat → Int32) (g4 : Nat → Int32) (g5 : Nat → Int32) (g6 : Nat → Int32), va_P (dC, dI) classes [(h0, .inr (3, [.ref a1, .ref dv, .int md, .int bk, .ref a2, .ref a3, .ref a4, .ref wd, .ref lt, .ref bu, .ref st, .ref le, .ref nx, .ref ow, .int (nI s2), .ref sp, .ref ky, .ref sm, .int sk])), (st, .inl (cst, 64, .inl g1)), (le, .inl (cle, 64, .inl g2)), (nx, .inl (cnx, 64, .inl g3)), (ow, .inl (cow, 64, .inl g4)), (bu, .inl (cbu, 256, .inl g5)), (lt, .inr (0, [.ref lta, .int (nI k2)])), (lta, .inl (clt, 512, .inl g6)), (wd, .inr (0, [.ref wda, .int (nI 280)])), (wda, .inl (cwd, 280, .inl wf))] t.heap ∧ va_K (dC, dI) classes [(cst, .int), (cle, .int), (cnx, .int), (cow, .int), (cbu, .int), (clt, .byte), (cwd, .byte)] t ∧ va_D A [(h0, .inr (3, [.ref a1, .ref dv, .int md, .int bk, .ref a2, .ref a3, .ref a4, .ref wd, .ref lt, .ref bu, .ref st, .ref le, .ref nx, .ref ow, .int (nI s2), .ref sp, .ref ky, .ref sm, .int sk])), (st, .inl (cst, 64, .inl g1)), (le, .inl (cle, 64, .inl g2)), (nx, .inl (cnx, 64, .inl g3)), (ow, .inl (cow, 64, .inl g4)), (bu, .inl (cbu, 256, .inl g5)), (lt, .inr (0, [.ref lta, .int (nI k2)])), (lta, .inl (clt, 512, .inl g6)), (wd, .inr (0, [.ref wda, .int (nI 280)])), (wda, .inl (cwd, 280, .inl wf))]) A) [.ref h0].toArray s 0 0 A) (F0 m 25 ls []) := by
    intro fuel
    induction fuel with
    | zero => intro fr i sn lk g1 g2 g3 g4 g5 g6 H locs ls hi hf hsc hk hinv hm; omega
    | succ fuel ih =>
      intro fr i sn lk g1 g2 g3 g4 g5 g6 H locs ls hi hf hsc hk hinv hm hl hP hD hS
      refine lv_iload_n hx hb d_Schema_keepWords_25 rfl (lv_at hl 1 rfl) ?_
      refine lv_aload_n hx hb d_Schema_keepWords_26 rfl (lv_at hl 2 rfl) ?_
      refine va_get (D := (dC, dI)) (ci := 3) (v := .ref wd) (C := R_Schema) (T := F_Schema) (N := 19) hx hb htw i_Schema hown hK hP 0 rfl rfl 7 (by decide) (htw _ wd_2_29) (fun _ h9 => h9) rfl d_Schema_keepWords_27 ?_
      refine va_get (D := (dC, dI)) (ci := 0) (v := .int (nI 280)) (C := R_Bytes) (T := F_Bytes) (N := 2) hx hb htw i_Bytes hown hK hP 8 rfl rfl 1 (by decide) (htw _ wd_1_70) (fun _ h9 => h9) rfl d_Schema_keepWords_30 ?_
      refine lv_icmp_gt (tgt := 84) hx hb d_Schema_keepWords_33 rfl (fun h1 => ?_) (fun h1 => ?_)
      · have hP9 := hP.sub (ws' := [(h0, .inr (3, [.ref a1, .ref dv, .int md, .int bk, .ref a2, .ref a3, .ref a4, .ref wd, .ref lt, .ref bu, .ref st, .ref le, .ref nx, .ref ow, .int (nI sn), .ref sp, .ref ky, .ref sm, .int sk])), (st, .inl (cst, 64, .inl g1)), (le, .inl (cle, 64, .inl g2)), (nx, .inl (cnx, 64, .inl g3)), (ow, .inl (cow, 64, .inl g4)), (bu, .inl (cbu, 256, .inl g5)), (lt, .inr (0, [.ref lta, .int (nI lk)])), (lta, .inl (clt, 512, .inl g6)), (wd, .inr (0, [.ref wda, .int (nI 280)])), (wda, .inl (cwd, 280, .inl wf))]) [0, 1, 2, 3, 4, 5, 6, 7, 8, 9] rfl
        have hD9 := hD.sub (ws' := [(h0, .inr (3, [.ref a1, .ref dv, .int md, .int bk, .ref a2, .ref a3, .ref a4, .ref wd, .ref lt, .ref bu, .ref st, .ref le, .ref nx, .ref ow, .int (nI sn), .ref sp, .ref ky, .ref sm, .int sk])), (st, .inl (cst, 64, .inl g1)), (le, .inl (cle, 64, .inl g2)), (nx, .inl (cnx, 64, .inl g3)), (ow, .inl (cow, 64, .inl g4)), (bu, .inl (cbu, 256, .inl g5)), (lt, .inr (0, [.ref lta, .int (nI lk)])), (lta, .inl (clt, 512, .inl g6)), (wd, .inr (0, [.ref wda, .int (nI 280)])), (wda, .inl (cwd, 280, .inl wf))]) [0, 1, 2, 3, 4, 5, 6, 7, 8, 9] (by decide) rfl
        have hK9 := hK.sub (tys' := [(cst, .int), (cle, .int), (cnx, .int), (cow, .int), (cbu, .int), (clt, .byte), (cwd, .byte)]) [0, 1, 2, 3, 6, 4, 5] rfl
        refine W.widen (k := 0) (n := 0) (by omega) (by omega) ?_
        exact W.vret hx hb hr (fun t ht hW => ⟨⟨(), rfl, trivial, sn, lk, g1, g2, g3, g4, g5, g6, by rw [ht]; exact hP9, va_K.moved hW.alike hK9, hD9⟩, hS.F ht⟩) hS.2.2 d_Schema_keepWords_84
      · have h2 : i ≤ 280 := by have := (not_congr (nI_ltI (a := 280) (b := i) (by omega) (by omega))).mp h1; omega
        have hc := tz_cnt_le (i := i + 1) (by omega)
        have hm := tz_cnt_m i
        refine lv_iload_n hx hb d_Schema_keepWords_36 rfl (lv_at hl 1 rfl) ?_
        refine lv_aload_n hx hb d_Schema_keepWords_37 rfl (lv_at hl 2 rfl) ?_
        refine va_get (D := (dC, dI)) (ci := 3) (v := .ref wd) (C := R_Schema) (T := F_Schema) (N := 19) hx hb htw i_Schema hown hK hP 0 rfl rfl 7 (by decide) (htw _ wd_2_29) (fun _ h9 => h9) rfl d_Schema_keepWords_38 ?_
        refine va_get (D := (dC, dI)) (ci := 0) (v := .int (nI 280)) (C := R_Bytes) (T := F_Bytes) (N := 2) hx hb htw i_Bytes hown hK hP 8 rfl rfl 1 (by decide) (htw _ wd_1_70) (fun _ h9 => h9) rfl d_Schema_keepWords_41 ?_
        refine lv_icmp_eq (tgt := 60) hx hb d_Schema_keepWords_44 rfl (fun h3 => ?_) (fun h3 => ?_)
        · have h4 : i = 280 := (nI_eq (by omega) (by omega)).mp h3
          have h5 : tz_wb i = 32 := by rw [h4]; decide +kernel
          have h6 := tz_cnt_s h5
          refine lv_aload_n hx hb d_Schema_keepWords_60 rfl (lv_at hl 2 rfl) ?_
          refine lv_aload_n hx hb d_Schema_keepWords_61 rfl (lv_at hl 2 rfl) ?_
          refine va_get (D := (dC, dI)) (ci := 3) (v := .ref wd) (C := R_Schema) (T := F_Schema) (N := 19) hx hb htw i_Schema hown hK hP 0 rfl rfl 7 (by decide) (htw _ wd_2_29) (fun _ h9 => h9) rfl d_Schema_keepWords_62 ?_
          refine lv_iload_n hx hb d_Schema_keepWords_65 rfl (lv_at hl 0 rfl) ?_
          refine lv_iload_n hx hb d_Schema_keepWords_66 rfl (lv_at hl 1 rfl) ?_
          refine lv_iload_n hx hb d_Schema_keepWords_67 rfl (lv_at hl 0 rfl) ?_
          refine lv_isub hx hb d_Schema_keepWords_68 ?_
          refine lv_topi (fun z9 e9 => ?_)
          have e9 : z9 = nI (i - fr) := e9.trans (pk_sub hf)
          subst e9
          refine lv_iconst (v := 1) hx hb d_Schema_keepWords_69 (by decide) ?_
          have hc0 : 0 + 0 ≤ 0 := by omega
          have hs0 : 0 + 0 ≤ 0 := by omega
          have hPc := hP.sub (ws' := [(h0, .inr (3, [.ref a1, .ref dv, .int md, .int bk, .ref a2, .ref a3, .ref a4, .ref wd, .ref lt, .ref bu, .ref st, .ref le, .ref nx, .ref ow, .int (nI sn), .ref sp, .ref ky, .ref sm, .int sk])), (st, .inl (cst, 64, .inl g1)), (le, .inl (cle, 64, .inl g2)), (nx, .inl (cnx, 64, .inl g3)), (ow, .inl (cow, 64, .inl g4)), (bu, .inl (cbu, 256, .inl g5)), (lt, .inr (0, [.ref lta, .int (nI lk)])), (lta, .inl (clt, 512, .inl g6)), (wd, .inr (0, [.ref wda, .int (nI 280)])), (wda, .inl (cwd, 280, .inl wf))]) [0, 1, 2, 3, 4, 5, 6, 7, 8, 9] rfl
          have hDc := hD.sub (ws' := [(h0, .inr (3, [.ref a1, .ref dv, .int md, .int bk, .ref a2, .ref a3, .ref a4, .ref wd, .ref lt, .ref bu, .ref st, .ref le, .ref nx, .ref ow, .int (nI sn), .ref sp, .ref ky, .ref sm, .int sk])), (st, .inl (cst, 64, .inl g1)), (le, .inl (cle, 64, .inl g2)), (nx, .inl (cnx, 64, .inl g3)), (ow, .inl (cow, 64, .inl g4)), (bu, .inl (cbu, 256, .inl g5)), (lt, .inr (0, [.ref lta, .int (nI lk)])), (lta, .inl (clt, 512, .inl g6)), (wd, .inr (0, [.ref wda, .int (nI 280)])), (wda, .inl (cwd, 280, .inl wf))]) [0, 1, 2, 3, 4, 5, 6, 7, 8, 9] (by decide) rfl
          have hKc := hK.sub (tys' := [(cst, .int), (cle, .int), (cnx, .int), (cow, .int), (cbu, .int), (clt, .byte), (cwd, .byte)]) [0, 1, 2, 3, 6, 4, 5] rfl
          have hFc := va_free (wc := [(h0, .inr (3, [.ref a1, .ref dv, .int md, .int bk, .ref a2, .ref a3, .ref a4, .ref wd, .ref lt, .ref bu, .ref st, .ref le, .ref nx, .ref ow, .int (nI sn), .ref sp, .ref ky, .ref sm, .int sk])), (st, .inl (cst, 64, .inl g1)), (le, .inl (cle, 64, .inl g2)), (nx, .inl (cnx, 64, .inl g3)), (ow, .inl (cow, 64, .inl g4)), (bu, .inl (cbu, 256, .inl g5)), (lt, .inr (0, [.ref lta, .int (nI lk)])), (lta, .inl (clt, 512, .inl g6)), (wd, .inr (0, [.ref wda, .int (nI 280)])), (wda, .inl (cwd, 280, .inl wf))]) hD hS hA [0, 1, 2, 3, 4, 5, 6, 7, 8, 9] rfl
          refine va_calli (va_runV (As := [.ref wd, .int (nI fr), .int (nI (i - fr)), .int 1]) (rest := []) ⟨hx, hb, hml, hown, htw⟩ (c_Schema_symbol l dC dI H.size h0 a1 dv md bk a2 a3 a4 wd lt bu st le nx ow sp ky sm sk cst g1 cle g2 cnx g3 cow g4 cbu g5 lta clt g6 wd wda cwd 280 wf (nI 280) sn lk ((i - fr)) (nI fr) (by first | omega | assumption) (by first | omega | assumption) (by first | omega | assumption) (by first | omega | assumption)) (cwV 4 htw (tw_V wd_1_239 wd_2_0 wd_2_1 wd_1_3 k_Schema_symbol) rfl rfl rfl (by decide +kernel) ⟨Nat.le_of_ble_eq_true rfl, Nat.le_of_ble_eq_true rfl⟩) ⟨fun a U g mk q => by obtain ⟨q0, q1, qP, qK, qD⟩ := q; exact ⟨q0, q1, qP, va_K.moved (u := U) (U := U.calling g mk a) (Vm.Alike.refl U.vm) qK, qD⟩, va_recv hK hP (q := (R_Schema, F_Schema, 19)) (ci := 3) (q0 := 0) rfl rfl, fun U hU hW => ⟨rfl, by rw [hU], by rw [hU]; exact hPc, va_K.moved hW.alike hKc, hDc.weaken (fun _ _ _ _ => trivial)⟩⟩ rfl rfl hl.1 rfl (lv_room (Nat.le_of_ble_eq_true rfl)) d_Schema_keepWords_70 ⟨hc0, hs0⟩) hS (fun q _ h => hFc q h) hFc (fun r4 u t H1 locs ht hvm hw hB hz1 hk1 hS => ?_)
          obtain ⟨s2_5, k2_6, g1_7, g2_8, g3_9, g4_10, g5_11, g6_12, hp13, hp14, hp15, hP1, hK1, hD1⟩ := hB
          rw [ht] at hP1
          have hK1 := va_K.moved hvm.symm hK1
          obtain ⟨hP, hD⟩ := va_join (wr := []) (w1 := [(h0, .inr (3, [.ref a1, .ref dv, .int md, .int bk, .ref a2, .ref a3, .ref a4, .ref wd, .ref lt, .ref bu, .ref st, .ref le, .ref nx, .ref ow, .int (nI s2_5), .ref sp, .ref ky, .ref sm, .int sk])), (st, .inl (cst, 64, .inl g1_7)), (le, .inl (cle, 64, .inl g2_8)), (nx, .inl (cnx, 64, .inl g3_9)), (ow, .inl (cow, 64, .inl g4_10)), (bu, .inl (cbu, 256, .inl g5_11)), (lt, .inr (0, [.ref lta, .int (nI k2_6)])), (lta, .inl (clt, 512, .inl g6_12)), (wd, .inr (0, [.ref wda, .int (nI 280)])), (wda, .inl (cwd, 280, .inl wf))]) hP hD [0, 1, 2, 3, 4, 5, 6, 7, 8, 9] [] rfl rfl (by decide) (by decide) hk1 hFc hP1 hD1
          have hK := (hK.sub (tys' := []) [] rfl).app hK1
          generalize H1 = H at hP hS ⊢
          have hP : va_P (dC, dI) classes [(h0, .inr (3, [.ref a1, .ref dv, .int md, .int bk, .ref a2, .ref a3, .ref a4, .ref wd, .ref lt, .ref bu, .ref st, .ref le, .ref nx, .ref ow, .int (nI s2_5), .ref sp, .ref ky, .ref sm, .int sk])), (st, .inl (cst, 64, .inl g1_7)), (le, .inl (cle, 64, .inl g2_8)), (nx, .inl (cnx, 64, .inl g3_9)), (ow, .inl (cow, 64, .inl g4_10)), (bu, .inl (cbu, 256, .inl g5_11)), (lt, .inr (0, [.ref lta, .int (nI k2_6)])), (lta, .inl (clt, 512, .inl g6_12)), (wd, .inr (0, [.ref wda, .int (nI 280)])), (wda, .inl (cwd, 280, .inl wf))] H := hP
          have hD : va_D A [(h0, .inr (3, [.ref a1, .ref dv, .int md, .int bk, .ref a2, .ref a3, .ref a4, .ref wd, .ref lt, .ref bu, .ref st, .ref le, .ref nx, .ref ow, .int (nI s2_5), .ref sp, .ref ky, .ref sm, .int sk])), (st, .inl (cst, 64, .inl g1_7)), (le, .inl (cle, 64, .inl g2_8)), (nx, .inl (cnx, 64, .inl g3_9)), (ow, .inl (cow, 64, .inl g4_10)), (bu, .inl (cbu, 256, .inl g5_11)), (lt, .inr (0, [.ref lta, .int (nI k2_6)])), (lta, .inl (clt, 512, .inl g6_12)), (wd, .inr (0, [.ref wda, .int (nI 280)])), (wda, .inl (cwd, 280, .inl wf))] := hD
          have hK : va_K (dC, dI) classes [(cst, .int), (cle, .int), (cnx, .int), (cow, .int), (cbu, .int), (clt, .byte), (cwd, .byte)] s := hK
          have hw_r4 := hw
          refine lv_pop hx hb d_Schema_keepWords_73 rfl ?_
          refine lv_iload_n hx hb d_Schema_keepWords_74 rfl (lv_at hl 1 rfl) ?_
          refine lv_iconst (v := 1) hx hb d_Schema_keepWords_75 (by decide) ?_
          refine lv_iadd hx hb d_Schema_keepWords_76 ?_
          refine lv_topi (fun z9 e9 => ?_)
          have e9 : z9 = nI (i + 1) := e9.trans (nI_1 i)
          subst e9
          refine lv_istore_n hx hb d_Schema_keepWords_77 rfl hl (by decide) rfl (fun ls hl => ?_)
          have hl : lv_has ls 3 [(1, .int (nI (i + 1))), (2, .int (nI i)), (0, .ref h0)] := hl
          refine lv_iinc (k := 1) (v := nI (i + 1)) hx hb d_Schema_keepWords_78 hl rfl (nI_1 i) (by decide) rfl (fun ls hl => ?_)
          have hl : lv_has ls 3 [(2, .int (nI (i + 1))), (1, .int (nI (i + 1))), (0, .ref h0)] := hl
          refine lv_goto (tgt := 25) hx hb d_Schema_keepWords_81 rfl ?_
          exact ih (i + 1) (i + 1) s2_5 k2_6 g1_7 g2_8 g3_9 g4_10 g5_11 g6_12 _ _ _ (by omega) (by omega) (by omega) (by omega) (by assumption) (by omega) (lv_sub hl [1, 0, 2] rfl) (hP.sub [0, 1, 2, 3, 4, 5, 6, 7, 8, 9] rfl) (hD.sub [0, 1, 2, 3, 4, 5, 6, 7, 8, 9] (by decide) rfl) hS
        · have h4 : i < 280 := by have := (not_congr (nI_eq (a := i) (b := 280) (by omega) (by omega))).mp h3; omega
          refine lv_aload_n hx hb d_Schema_keepWords_47 rfl (lv_at hl 2 rfl) ?_
          refine va_get (D := (dC, dI)) (ci := 3) (v := .ref wd) (C := R_Schema) (T := F_Schema) (N := 19) hx hb htw i_Schema hown hK hP 0 rfl rfl 7 (by decide) (htw _ wd_2_29) (fun _ h9 => h9) rfl d_Schema_keepWords_48 ?_
          refine lv_iload_n hx hb d_Schema_keepWords_51 rfl (lv_at hl 1 rfl) ?_
          have hc0 : 0 + 0 ≤ 0 := by omega
          have hs0 : 0 + 0 ≤ 0 := by omega
          have hPc := hP.sub (ws' := [(wd, .inr (0, [.ref wda, .int (nI 280)])), (wda, .inl (cwd, 280, .inl wf))]) [8, 9] rfl
          have hDc := hD.sub (ws' := [(wd, .inr (0, [.ref wda, .int (nI 280)])), (wda, .inl (cwd, 280, .inl wf))]) [8, 9] (by decide) rfl
          have hKc := hK.sub (tys' := [(cwd, .byte)]) [5] rfl
          have hFc := va_free (wc := [(wd, .inr (0, [.ref wda, .int (nI 280)])), (wda, .inl (cwd, 280, .inl wf))]) hD hS hA [8, 9] rfl
          refine va_calli (va_runV (As := [.int (nI i)]) (rest := []) ⟨hx, hb, hml, hown, htw⟩ (c_Bytes_get l dC dI H.size wd wda cwd 280 wf (nI 280) (nI i) (by first | omega | assumption)) (cwV 1 htw (tw_V wd_1_235 wd_1_236 wd_1_237 wd_1_2 k_Bytes_get) rfl rfl rfl (by decide +kernel) ⟨Nat.le_of_ble_eq_true rfl, Nat.le_of_ble_eq_true rfl⟩) ⟨fun a U g mk q => by obtain ⟨q0, q1, qP, qK, qD⟩ := q; exact ⟨q0, q1, qP, va_K.moved (u := U) (U := U.calling g mk a) (Vm.Alike.refl U.vm) qK, qD⟩, va_recv hK hP (q := (R_Bytes, F_Bytes, 2)) (ci := 0) (q0 := 8) rfl rfl, fun U hU hW => ⟨rfl, by rw [hU], by rw [hU]; exact hPc, va_K.moved hW.alike hKc, hDc.weaken (fun _ _ _ _ => trivial)⟩⟩ rfl rfl hl.1 rfl (lv_room (Nat.le_of_ble_eq_true rfl)) d_Schema_keepWords_52 ⟨hc0, hs0⟩) hS (fun q _ h => hFc q h) hFc (fun r16 u t H1 locs ht hvm hw hB hz1 hk1 hS => ?_)
          obtain ⟨hP1, hK1, hD1⟩ := hB
          rw [ht] at hP1
          have hK1 := va_K.moved hvm.symm hK1
          obtain ⟨hP, hD⟩ := va_join (wr := [(h0, .inr (3, [.ref a1, .ref dv, .int md, .int bk, .ref a2, .ref a3, .ref a4, .ref wd, .ref lt, .ref bu, .ref st, .ref le, .ref nx, .ref ow, .int (nI sn), .ref sp, .ref ky, .ref sm, .int sk])), (st, .inl (cst, 64, .inl g1)), (le, .inl (cle, 64, .inl g2)), (nx, .inl (cnx, 64, .inl g3)), (ow, .inl (cow, 64, .inl g4)), (bu, .inl (cbu, 256, .inl g5)), (lt, .inr (0, [.ref lta, .int (nI lk)])), (lta, .inl (clt, 512, .inl g6))]) (w1 := [(wd, .inr (0, [.ref wda, .int (nI 280)])), (wda, .inl (cwd, 280, .inl wf))]) hP hD [8, 9] [0, 1, 2, 3, 4, 5, 6, 7] rfl rfl (by decide) (by decide) hk1 hFc hP1 hD1
          have hK := (hK.sub (tys' := [(cst, .int), (cle, .int), (cnx, .int), (cow, .int), (clt, .byte), (cbu, .int)]) [0, 1, 2, 3, 4, 6] rfl).app hK1
          generalize H1 = H at hP hS ⊢
          have hP : va_P (dC, dI) classes [(h0, .inr (3, [.ref a1, .ref dv, .int md, .int bk, .ref a2, .ref a3, .ref a4, .ref wd, .ref lt, .ref bu, .ref st, .ref le, .ref nx, .ref ow, .int (nI sn), .ref sp, .ref ky, .ref sm, .int sk])), (st, .inl (cst, 64, .inl g1)), (le, .inl (cle, 64, .inl g2)), (nx, .inl (cnx, 64, .inl g3)), (ow, .inl (cow, 64, .inl g4)), (bu, .inl (cbu, 256, .inl g5)), (lt, .inr (0, [.ref lta, .int (nI lk)])), (lta, .inl (clt, 512, .inl g6)), (wd, .inr (0, [.ref wda, .int (nI 280)])), (wda, .inl (cwd, 280, .inl wf))] H := hP
          have hD : va_D A [(h0, .inr (3, [.ref a1, .ref dv, .int md, .int bk, .ref a2, .ref a3, .ref a4, .ref wd, .ref lt, .ref bu, .ref st, .ref le, .ref nx, .ref ow, .int (nI sn), .ref sp, .ref ky, .ref sm, .int sk])), (st, .inl (cst, 64, .inl g1)), (le, .inl (cle, 64, .inl g2)), (nx, .inl (cnx, 64, .inl g3)), (ow, .inl (cow, 64, .inl g4)), (bu, .inl (cbu, 256, .inl g5)), (lt, .inr (0, [.ref lta, .int (nI lk)])), (lta, .inl (clt, 512, .inl g6)), (wd, .inr (0, [.ref wda, .int (nI 280)])), (wda, .inl (cwd, 280, .inl wf))] := hD
          have hK : va_K (dC, dI) classes [(cst, .int), (cle, .int), (cnx, .int), (cow, .int), (clt, .byte), (cbu, .int), (cwd, .byte)] s := hK
          subst hw
          refine lv_bipush (v := 32) hx hb d_Schema_keepWords_55 (by decide) ?_
          refine lv_icmp_ne (tgt := 78) hx hb d_Schema_keepWords_57 rfl (fun h7 => ?_) (fun h7 => ?_)
          · refine lv_iinc (k := 1) (v := nI (i + 1)) hx hb d_Schema_keepWords_78 hl rfl (nI_1 i) (by decide) rfl (fun ls hl => ?_)
            have hl : lv_has ls 3 [(2, .int (nI (i + 1))), (1, .int (nI fr)), (0, .ref h0)] := hl
            refine lv_goto (tgt := 25) hx hb d_Schema_keepWords_81 rfl ?_
            exact ih fr (i + 1) sn lk g1 g2 g3 g4 g5 g6 _ _ _ (by omega) (by omega) (by omega) (by omega) (by assumption) (by omega) (lv_sub hl [1, 0, 2] rfl) (hP.sub [0, 1, 2, 3, 4, 5, 6, 7, 8, 9] rfl) (hD.sub [0, 1, 2, 3, 4, 5, 6, 7, 8, 9] (by decide) rfl) hS
          · have h5 : tz_wb i = 32 := by rw [← tz_gw hwf h4]; exact h7
            have h6 := tz_cnt_s h5
            refine lv_aload_n hx hb d_Schema_keepWords_60 rfl (lv_at hl 2 rfl) ?_
            refine lv_aload_n hx hb d_Schema_keepWords_61 rfl (lv_at hl 2 rfl) ?_
            refine va_get (D := (dC, dI)) (ci := 3) (v := .ref wd) (C := R_Schema) (T := F_Schema) (N := 19) hx hb htw i_Schema hown hK hP 0 rfl rfl 7 (by decide) (htw _ wd_2_29) (fun _ h9 => h9) rfl d_Schema_keepWords_62 ?_
            refine lv_iload_n hx hb d_Schema_keepWords_65 rfl (lv_at hl 0 rfl) ?_
            refine lv_iload_n hx hb d_Schema_keepWords_66 rfl (lv_at hl 1 rfl) ?_
            refine lv_iload_n hx hb d_Schema_keepWords_67 rfl (lv_at hl 0 rfl) ?_
            refine lv_isub hx hb d_Schema_keepWords_68 ?_
            refine lv_topi (fun z9 e9 => ?_)
            have e9 : z9 = nI (i - fr) := e9.trans (pk_sub hf)
            subst e9
            refine lv_iconst (v := 1) hx hb d_Schema_keepWords_69 (by decide) ?_
            have hc0 : 0 + 0 ≤ 0 := by omega
            have hs0 : 0 + 0 ≤ 0 := by omega
            have hPc := hP.sub (ws' := [(h0, .inr (3, [.ref a1, .ref dv, .int md, .int bk, .ref a2, .ref a3, .ref a4, .ref wd, .ref lt, .ref bu, .ref st, .ref le, .ref nx, .ref ow, .int (nI sn), .ref sp, .ref ky, .ref sm, .int sk])), (st, .inl (cst, 64, .inl g1)), (le, .inl (cle, 64, .inl g2)), (nx, .inl (cnx, 64, .inl g3)), (ow, .inl (cow, 64, .inl g4)), (bu, .inl (cbu, 256, .inl g5)), (lt, .inr (0, [.ref lta, .int (nI lk)])), (lta, .inl (clt, 512, .inl g6)), (wd, .inr (0, [.ref wda, .int (nI 280)])), (wda, .inl (cwd, 280, .inl wf))]) [0, 1, 2, 3, 4, 5, 6, 7, 8, 9] rfl
            have hDc := hD.sub (ws' := [(h0, .inr (3, [.ref a1, .ref dv, .int md, .int bk, .ref a2, .ref a3, .ref a4, .ref wd, .ref lt, .ref bu, .ref st, .ref le, .ref nx, .ref ow, .int (nI sn), .ref sp, .ref ky, .ref sm, .int sk])), (st, .inl (cst, 64, .inl g1)), (le, .inl (cle, 64, .inl g2)), (nx, .inl (cnx, 64, .inl g3)), (ow, .inl (cow, 64, .inl g4)), (bu, .inl (cbu, 256, .inl g5)), (lt, .inr (0, [.ref lta, .int (nI lk)])), (lta, .inl (clt, 512, .inl g6)), (wd, .inr (0, [.ref wda, .int (nI 280)])), (wda, .inl (cwd, 280, .inl wf))]) [0, 1, 2, 3, 4, 5, 6, 7, 8, 9] (by decide) rfl
            have hKc := hK.sub (tys' := [(cst, .int), (cle, .int), (cnx, .int), (cow, .int), (cbu, .int), (clt, .byte), (cwd, .byte)]) [0, 1, 2, 3, 5, 4, 6] rfl
            have hFc := va_free (wc := [(h0, .inr (3, [.ref a1, .ref dv, .int md, .int bk, .ref a2, .ref a3, .ref a4, .ref wd, .ref lt, .ref bu, .ref st, .ref le, .ref nx, .ref ow, .int (nI sn), .ref sp, .ref ky, .ref sm, .int sk])), (st, .inl (cst, 64, .inl g1)), (le, .inl (cle, 64, .inl g2)), (nx, .inl (cnx, 64, .inl g3)), (ow, .inl (cow, 64, .inl g4)), (bu, .inl (cbu, 256, .inl g5)), (lt, .inr (0, [.ref lta, .int (nI lk)])), (lta, .inl (clt, 512, .inl g6)), (wd, .inr (0, [.ref wda, .int (nI 280)])), (wda, .inl (cwd, 280, .inl wf))]) hD hS hA [0, 1, 2, 3, 4, 5, 6, 7, 8, 9] rfl
            refine va_calli (va_runV (As := [.ref wd, .int (nI fr), .int (nI (i - fr)), .int 1]) (rest := []) ⟨hx, hb, hml, hown, htw⟩ (c_Schema_symbol l dC dI H.size h0 a1 dv md bk a2 a3 a4 wd lt bu st le nx ow sp ky sm sk cst g1 cle g2 cnx g3 cow g4 cbu g5 lta clt g6 wd wda cwd 280 wf (nI 280) sn lk ((i - fr)) (nI fr) (by first | omega | assumption) (by first | omega | assumption) (by first | omega | assumption) (by first | omega | assumption)) (cwV 4 htw (tw_V wd_1_239 wd_2_0 wd_2_1 wd_1_3 k_Schema_symbol) rfl rfl rfl (by decide +kernel) ⟨Nat.le_of_ble_eq_true rfl, Nat.le_of_ble_eq_true rfl⟩) ⟨fun a U g mk q => by obtain ⟨q0, q1, qP, qK, qD⟩ := q; exact ⟨q0, q1, qP, va_K.moved (u := U) (U := U.calling g mk a) (Vm.Alike.refl U.vm) qK, qD⟩, va_recv hK hP (q := (R_Schema, F_Schema, 19)) (ci := 3) (q0 := 0) rfl rfl, fun U hU hW => ⟨rfl, by rw [hU], by rw [hU]; exact hPc, va_K.moved hW.alike hKc, hDc.weaken (fun _ _ _ _ => trivial)⟩⟩ rfl rfl hl.1 rfl (lv_room (Nat.le_of_ble_eq_true rfl)) d_Schema_keepWords_70 ⟨hc0, hs0⟩) hS (fun q _ h => hFc q h) hFc (fun r17 u t H1 locs ht hvm hw hB hz1 hk1 hS => ?_)
            obtain ⟨s2_18, k2_19, g1_20, g2_21, g3_22, g4_23, g5_24, g6_25, hp26, hp27, hp28, hP1, hK1, hD1⟩ := hB
            rw [ht] at hP1
            have hK1 := va_K.moved hvm.symm hK1
            obtain ⟨hP, hD⟩ := va_join (wr := []) (w1 := [(h0, .inr (3, [.ref a1, .ref dv, .int md, .int bk, .ref a2, .ref a3, .ref a4, .ref wd, .ref lt, .ref bu, .ref st, .ref le, .ref nx, .ref ow, .int (nI s2_18), .ref sp, .ref ky, .ref sm, .int sk])), (st, .inl (cst, 64, .inl g1_20)), (le, .inl (cle, 64, .inl g2_21)), (nx, .inl (cnx, 64, .inl g3_22)), (ow, .inl (cow, 64, .inl g4_23)), (bu, .inl (cbu, 256, .inl g5_24)), (lt, .inr (0, [.ref lta, .int (nI k2_19)])), (lta, .inl (clt, 512, .inl g6_25)), (wd, .inr (0, [.ref wda, .int (nI 280)])), (wda, .inl (cwd, 280, .inl wf))]) hP hD [0, 1, 2, 3, 4, 5, 6, 7, 8, 9] [] rfl rfl (by decide) (by decide) hk1 hFc hP1 hD1
            have hK := (hK.sub (tys' := []) [] rfl).app hK1
            generalize H1 = H at hP hS ⊢
            have hP : va_P (dC, dI) classes [(h0, .inr (3, [.ref a1, .ref dv, .int md, .int bk, .ref a2, .ref a3, .ref a4, .ref wd, .ref lt, .ref bu, .ref st, .ref le, .ref nx, .ref ow, .int (nI s2_18), .ref sp, .ref ky, .ref sm, .int sk])), (st, .inl (cst, 64, .inl g1_20)), (le, .inl (cle, 64, .inl g2_21)), (nx, .inl (cnx, 64, .inl g3_22)), (ow, .inl (cow, 64, .inl g4_23)), (bu, .inl (cbu, 256, .inl g5_24)), (lt, .inr (0, [.ref lta, .int (nI k2_19)])), (lta, .inl (clt, 512, .inl g6_25)), (wd, .inr (0, [.ref wda, .int (nI 280)])), (wda, .inl (cwd, 280, .inl wf))] H := hP
            have hD : va_D A [(h0, .inr (3, [.ref a1, .ref dv, .int md, .int bk, .ref a2, .ref a3, .ref a4, .ref wd, .ref lt, .ref bu, .ref st, .ref le, .ref nx, .ref ow, .int (nI s2_18), .ref sp, .ref ky, .ref sm, .int sk])), (st, .inl (cst, 64, .inl g1_20)), (le, .inl (cle, 64, .inl g2_21)), (nx, .inl (cnx, 64, .inl g3_22)), (ow, .inl (cow, 64, .inl g4_23)), (bu, .inl (cbu, 256, .inl g5_24)), (lt, .inr (0, [.ref lta, .int (nI k2_19)])), (lta, .inl (clt, 512, .inl g6_25)), (wd, .inr (0, [.ref wda, .int (nI 280)])), (wda, .inl (cwd, 280, .inl wf))] := hD
            have hK : va_K (dC, dI) classes [(cst, .int), (cle, .int), (cnx, .int), (cow, .int), (cbu, .int), (clt, .byte), (cwd, .byte)] s := hK
            have hw_r17 := hw
            refine lv_pop hx hb d_Schema_keepWords_73 rfl ?_
            refine lv_iload_n hx hb d_Schema_keepWords_74 rfl (lv_at hl 1 rfl) ?_
            refine lv_iconst (v := 1) hx hb d_Schema_keepWords_75 (by decide) ?_
            refine lv_iadd hx hb d_Schema_keepWords_76 ?_
            refine lv_topi (fun z9 e9 => ?_)
            have e9 : z9 = nI (i + 1) := e9.trans (nI_1 i)
            subst e9
            refine lv_istore_n hx hb d_Schema_keepWords_77 rfl hl (by decide) rfl (fun ls hl => ?_)
            have hl : lv_has ls 3 [(1, .int (nI (i + 1))), (2, .int (nI i)), (0, .ref h0)] := hl
            refine lv_iinc (k := 1) (v := nI (i + 1)) hx hb d_Schema_keepWords_78 hl rfl (nI_1 i) (by decide) rfl (fun ls hl => ?_)
            have hl : lv_has ls 3 [(2, .int (nI (i + 1))), (1, .int (nI (i + 1))), (0, .ref h0)] := hl
            refine lv_goto (tgt := 25) hx hb d_Schema_keepWords_81 rfl ?_
            exact ih (i + 1) (i + 1) s2_18 k2_19 g1_20 g2_21 g3_22 g4_23 g5_24 g6_25 _ _ _ (by omega) (by omega) (by omega) (by omega) (by assumption) (by omega) (lv_sub hl [1, 0, 2] rfl) (hP.sub [0, 1, 2, 3, 4, 5, 6, 7, 8, 9] rfl) (hD.sub [0, 1, 2, 3, 4, 5, 6, 7, 8, 9] (by decide) rfl) hS
  exact lp ((282 - 0) + 1) 0 0 0 0 stf lef nxf owf g2_2 ltf _ _ _ (by omega) (by omega) (by omega) (by omega) (tz_inv_0 (by assumption)) (Nat.lt_succ_self _) (lv_sub hl [1, 0, 2] rfl) (hP.sub [0, 1, 2, 3, 4, 9, 5, 6, 7, 8] rfl) (hD.sub [0, 1, 2, 3, 4, 9, 5, 6, 7, 8] (by decide) rfl) hS
end
section
/-! by program (wip/p1) -/
theorem wd_2_19 : Cond.fieldLink "SyntaxForge$Schema" 10 "SyntaxForge$Schema" "assigned" "Ljava/util/ArrayList;" ∈ tw_tbl := tw_t2 (List.mem_of_getElem? (i := 19) rfl) rfl
theorem wd_1_220 : Cond.methodLink "SyntaxForge$Schema" 90 ⟨"java/util/ArrayList", "clear", "()V"⟩ ∈ tw_tbl := tw_t1 (List.mem_of_getElem? (i := 220) rfl) rfl
theorem wd_1_221 : Cond.instanceMethod ⟨"java/util/ArrayList", "clear", "()V"⟩ ∈ tw_tbl := tw_t1 (List.mem_of_getElem? (i := 221) rfl) rfl
theorem wd_1_222 : Cond.selects "java/util/ArrayList" ⟨"java/util/ArrayList", "clear", "()V"⟩ ⟨"java/util/ArrayList", "clear", "()V"⟩ ∈ tw_tbl := tw_t1 (List.mem_of_getElem? (i := 222) rfl) rfl
theorem wd_2_26 : Cond.fieldLink "SyntaxForge$Schema" 23 "SyntaxForge$Schema" "types" "Ljava/util/ArrayList;" ∈ tw_tbl := tw_t2 (List.mem_of_getElem? (i := 26) rfl) rfl
theorem wd_2_27 : Cond.fieldLink "SyntaxForge$Schema" 26 "SyntaxForge$Schema" "standards" "Ljava/util/ArrayList;" ∈ tw_tbl := tw_t2 (List.mem_of_getElem? (i := 27) rfl) rfl
theorem wd_2_21 : Cond.fieldLink "SyntaxForge$Schema" 19 "SyntaxForge$Schema" "defaults" "LSyntaxForge$Values;" ∈ tw_tbl := tw_t2 (List.mem_of_getElem? (i := 21) rfl) rfl
theorem wd_1_7 : Cond.initialized "SyntaxForge$Values" ∈ tw_tbl := tw_t1 (List.mem_of_getElem? (i := 7) rfl) rfl
theorem wd_1_224 : Cond.methodLink "SyntaxForge$Schema" 91 ⟨"SyntaxForge$Values", "clear", "()V"⟩ ∈ tw_tbl := tw_t1 (List.mem_of_getElem? (i := 224) rfl) rfl
theorem wd_1_225 : Cond.instanceMethod ⟨"SyntaxForge$Values", "clear", "()V"⟩ ∈ tw_tbl := tw_t1 (List.mem_of_getElem? (i := 225) rfl) rfl
theorem wd_1_226 : Cond.selects "SyntaxForge$Values" ⟨"SyntaxForge$Values", "clear", "()V"⟩ ⟨"SyntaxForge$Values", "clear", "()V"⟩ ∈ tw_tbl := tw_t1 (List.mem_of_getElem? (i := 226) rfl) rfl
theorem wd_2_24 : Cond.fieldLink "SyntaxForge$Schema" 92 "SyntaxForge$Schema" "broken" "Z" ∈ tw_tbl := tw_t2 (List.mem_of_getElem? (i := 24) rfl) rfl
theorem wd_1_228 : Cond.methodLink "SyntaxForge$Schema" 96 ⟨"SyntaxForge$Schema", "keepWords", "()V"⟩ ∈ tw_tbl := tw_t1 (List.mem_of_getElem? (i := 228) rfl) rfl
theorem wd_1_230 : Cond.instanceMethod ⟨"SyntaxForge$Schema", "keepWords", "()V"⟩ ∈ tw_tbl := tw_t1 (List.mem_of_getElem? (i := 230) rfl) rfl
theorem wp_1_0 : Cond.selects "SyntaxForge$Schema" ⟨"SyntaxForge$Schema", "keepWords", "()V"⟩ ⟨"SyntaxForge$Schema", "keepWords", "()V"⟩ ∈ tw_tbl := tw_p1 (q := (⟨"SyntaxForge$Schema", "keepWords", "()V"⟩, 19)) (List.mem_of_getElem? (i := 0) rfl)
def y_Schema_clear : MethodName := ⟨"SyntaxForge$Schema", "clear", "()V"⟩
abbrev b_Schema_clear : ByteArray := prog_10_method_2_code
abbrev cd_Schema_clear : Cond := .code y_Schema_clear b_Schema_clear 1 none
abbrev ws_Schema_clear : List Cond := cd_Schema_clear :: tw_tbl
theorem k_Schema_clear : cd_Schema_clear ∈ tw_tbl := tw_t1 (List.mem_of_getElem? (i := 219) rfl) rfl
theorem d_Schema_clear_0 : decode b_Schema_clear 0 = .ok (.aload_n 0, 1) := by decide +kernel
theorem d_Schema_clear_1 : decode b_Schema_clear 1 = .ok (.getfield 10, 3) := by decide +kernel
theorem d_Schema_clear_4 : decode b_Schema_clear 4 = .ok (.invokevirtual 90, 3) := by decide +kernel
theorem d_Schema_clear_7 : decode b_Schema_clear 7 = .ok (.aload_n 0, 1) := by decide +kernel
theorem d_Schema_clear_8 : decode b_Schema_clear 8 = .ok (.getfield 23, 3) := by decide +kernel
theorem d_Schema_clear_11 : decode b_Schema_clear 11 = .ok (.invokevirtual 90, 3) := by decide +kernel
theorem d_Schema_clear_14 : decode b_Schema_clear 14 = .ok (.aload_n 0, 1) := by decide +kernel
theorem d_Schema_clear_15 : decode b_Schema_clear 15 = .ok (.getfield 26, 3) := by decide +kernel
theorem d_Schema_clear_18 : decode b_Schema_clear 18 = .ok (.invokevirtual 90, 3) := by decide +kernel
theorem d_Schema_clear_21 : decode b_Schema_clear 21 = .ok (.aload_n 0, 1) := by decide +kernel
theorem d_Schema_clear_22 : decode b_Schema_clear 22 = .ok (.getfield 19, 3) := by decide +kernel
theorem d_Schema_clear_25 : decode b_Schema_clear 25 = .ok (.invokevirtual 91, 3) := by decide +kernel
theorem d_Schema_clear_28 : decode b_Schema_clear 28 = .ok (.aload_n 0, 1) := by decide +kernel
theorem d_Schema_clear_29 : decode b_Schema_clear 29 = .ok (.iconst 0, 1) := by decide +kernel
theorem d_Schema_clear_30 : decode b_Schema_clear 30 = .ok (.putfield 92, 3) := by decide +kernel
theorem d_Schema_clear_33 : decode b_Schema_clear 33 = .ok (.aload_n 0, 1) := by decide +kernel
theorem d_Schema_clear_34 : decode b_Schema_clear 34 = .ok (.invokevirtual 96, 3) := by decide +kernel
theorem d_Schema_clear_37 : decode b_Schema_clear 37 = .ok (.return_, 1) := by decide +kernel
set_option maxHeartbeats 4000000 in
set_option maxRecDepth 100000 in
theorem c_Schema_clear (l : Launch) (dC : Nat → ClassId) (dI : Nat → Nat → Nat) (sz : Nat) (h0 : Nat) (a1 : Nat) (dv : Nat) (md : Int32) (bk : Int32) (a2 : Nat) (a3 : Nat) (a4 : Nat) (wd : Nat) (lt : Nat) (bu : Nat) (st : Nat) (le : Nat) (nx : Nat) (ow : Nat) (sy : Int32) (sp : Nat) (ky : Nat) (sm : Nat) (sk : Int32) (cst : ClassId) (stf : Nat → Int32) (cle : ClassId) (lef : Nat → Int32) (cnx : ClassId) (nxf : Nat → Int32) (cow : ClassId) (owf : Nat → Int32) (cbu : ClassId) (buf : Nat → Int32) (lta : Nat) (clt : ClassId) (ltf : Nat → Int32) (ltk : Int32) (wda : Nat) (cwd : ClassId) (wf : Nat → Int32) (dE : Nat) (m1 : Int32) (m2 : Int32) (m3 : Int32) (dal : Nat) (dvd : Nat) (dva : Nat) (du : Int32) (dk : Int32) (hwf : ∀ j, j < 280 → wf j = tz_wb j) : Met l y_Schema_clear ws_Schema_clear ({ frames := 4, cells := 0, slots := 0, locals := 95 }) (va_Pc [.ref h0] (fun U => U.heap.size = sz ∧ va_P (dC, dI) classes [(h0, .inr (3, [.ref a1, .ref dv, .int md, .int bk, .ref a2, .ref a3, .ref a4, .ref wd, .ref lt, .ref bu, .ref st, .ref le, .ref nx, .ref ow, .int sy, .ref sp, .ref ky, .ref sm, .int sk])), (st, .inl (cst, 64, .inl stf)), (le, .inl (cle, 64, .inl lef)), (nx, .inl (cnx, 64, .inl nxf)), (ow, .inl (cow, 64, .inl owf)), (bu, .inl (cbu, 256, .inl buf)), (lt, .inr (0, [.ref lta, .int ltk])), (lta, .inl (clt, 512, .inl ltf)), (wd, .inr (0, [.ref wda, .int (nI 280)])), (wda, .inl (cwd, 280, .inl wf)), (a1, .inr (1, [.ref dE, .int 0, .int m1])), (a2, .inr (1, [.ref dE, .int 0, .int m2])), (a3, .inr (1, [.ref dE, .int 0, .int m3])), (dv, .inr (2, [.ref dal, .ref dvd, .int du])), (dvd, .inr (0, [.ref dva, .int dk]))] U.heap ∧ va_K (dC, dI) classes [(cst, .int), (cle, .int), (cnx, .int), (cow, .int), (cbu, .int), (clt, .byte), (cwd, .byte)] U ∧ va_D (fun _ => True) [(h0, .inr (3, [.ref a1, .ref dv, .int md, .int bk, .ref a2, .ref a3, .ref a4, .ref wd, .ref lt, .ref bu, .ref st, .ref le, .ref nx, .ref ow, .int sy, .ref sp, .ref ky, .ref sm, .int sk])), (st, .inl (cst, 64, .inl stf)), (le, .inl (cle, 64, .inl lef)), (nx, .inl (cnx, 64, .inl nxf)), (ow, .inl (cow, 64, .inl owf)), (bu, .inl (cbu, 256, .inl buf)), (lt, .inr (0, [.ref lta, .int ltk])), (lta, .inl (clt, 512, .inl ltf)), (wd, .inr (0, [.ref wda, .int (nI 280)])), (wda, .inl (cwd, 280, .inl wf)), (a1, .inr (1, [.ref dE, .int 0, .int m1])), (a2, .inr (1, [.ref dE, .int 0, .int m2])), (a3, .inr (1, [.ref dE, .int 0, .int m3])), (dv, .inr (2, [.ref dal, .ref dvd, .int du])), (dvd, .inr (0, [.ref dva, .int dk]))])) (va_Qv (fun _ : Unit => True) (fun _ t => ∃ (s2 : Nat) (k2 : Nat) (g1 : Nat → Int32) (g2 : Nat → Int32) (g3 : Nat → Int32) (g4 : Nat → Int32) (g5 : Nat → Int32) (g6 : Nat → Int32), va_P (dC, dI) classes [(h0, .inr (3, [.ref a1, .ref dv, .int md, .int 0, .ref a2, .ref a3, .ref a4, .ref wd, .ref lt, .ref bu, .ref st, .ref le, .ref nx, .ref ow, .int (nI s2), .ref sp, .ref ky, .ref sm, .int sk])), (st, .inl (cst, 64, .inl g1)), (le, .inl (cle, 64, .inl g2)), (nx, .inl (cnx, 64, .inl g3)), (ow, .inl (cow, 64, .inl g4)), (bu, .inl (cbu, 256, .inl g5)), (lt, .inr (0, [.ref lta, .int (nI k2)])), (lta, .inl (clt, 512, .inl g6)), (wd, .inr (0, [.ref wda, .int (nI 280)])), (wda, .inl (cwd, 280, .inl wf)), (a1, .inr (1, [.ref dE, .int 0, .int (m1 + 1)])), (a2, .inr (1, [.ref dE, .int 0, .int (m2 + 1)])), (a3, .inr (1, [.ref dE, .int 0, .int (m3 + 1)])), (dv, .inr (2, [.ref dal, .ref dvd, .int 0])), (dvd, .inr (0, [.ref dva, .int 0]))] t.heap ∧ va_K (dC, dI) classes [(cst, .int), (cle, .int), (cnx, .int), (cow, .int), (cbu, .int), (clt, .byte), (cwd, .byte)] t ∧ va_D (va_A [(h0, .inr (3, [.ref a1, .ref dv, .int md, .int bk, .ref a2, .ref a3, .ref a4, .ref wd, .ref lt, .ref bu, .ref st, .ref le, .ref nx, .ref ow, .int sy, .ref sp, .ref ky, .ref sm, .int sk])), (st, .inl (cst, 64, .inl stf)), (le, .inl (cle, 64, .inl lef)), (nx, .inl (cnx, 64, .inl nxf)), (ow, .inl (cow, 64, .inl owf)), (bu, .inl (cbu, 256, .inl buf)), (lt, .inr (0, [.ref lta, .int ltk])), (lta, .inl (clt, 512, .inl ltf)), (wd, .inr (0, [.ref wda, .int (nI 280)])), (wda, .inl (cwd, 280, .inl wf)), (a1, .inr (1, [.ref dE, .int 0, .int m1])), (a2, .inr (1, [.ref dE, .int 0, .int m2])), (a3, .inr (1, [.ref dE, .int 0, .int m3])), (dv, .inr (2, [.ref dal, .ref dvd, .int du])), (dvd, .inr (0, [.ref dva, .int dk]))] sz) [(h0, .inr (3, [.ref a1, .ref dv, .int md, .int 0, .ref a2, .ref a3, .ref a4, .ref wd, .ref lt, .ref bu, .ref st, .ref le, .ref nx, .ref ow, .int (nI s2), .ref sp, .ref ky, .ref sm, .int sk])), (st, .inl (cst, 64, .inl g1)), (le, .inl (cle, 64, .inl g2)), (nx, .inl (cnx, 64, .inl g3)), (ow, .inl (cow, 64, .inl g4)), (bu, .inl (cbu, 256, .inl g5)), (lt, .inr (0, [.ref lta, .int (nI k2)])), (lta, .inl (clt, 512, .inl g6)), (wd, .inr (0, [.ref wda, .int (nI 280)])), (wda, .inl (cwd, 280, .inl wf)), (a1, .inr (1, [.ref dE, .int 0, .int (m1 + 1)])), (a2, .inr (1, [.ref dE, .int 0, .int (m2 + 1)])), (a3, .inr (1, [.ref dE, .int 0, .int (m3 + 1)])), (dv, .inr (2, [.ref dal, .ref dvd, .int 0])), (dvd, .inr (0, [.ref dva, .int 0]))]) (va_A [(h0, .inr (3, [.ref a1, .ref dv, .int md, .int bk, .ref a2, .ref a3, .ref a4, .ref wd, .ref lt, .ref bu, .ref st, .ref le, .ref nx, .ref ow, .int sy, .ref sp, .ref ky, .ref sm, .int sk])), (st, .inl (cst, 64, .inl stf)), (le, .inl (cle, 64, .inl lef)), (nx, .inl (cnx, 64, .inl nxf)), (ow, .inl (cow, 64, .inl owf)), (bu, .inl (cbu, 256, .inl buf)), (lt, .inr (0, [.ref lta, .int ltk])), (lta, .inl (clt, 512, .inl ltf)), (wd, .inr (0, [.ref wda, .int (nI 280)])), (wda, .inl (cwd, 280, .inl wf)), (a1, .inr (1, [.ref dE, .int 0, .int m1])), (a2, .inr (1, [.ref dE, .int 0, .int m2])), (a3, .inr (1, [.ref dE, .int 0, .int m3])), (dv, .inr (2, [.ref dal, .ref dvd, .int du])), (dvd, .inr (0, [.ref dva, .int dk]))] sz)) 0 0 (va_A [(h0, .inr (3, [.ref a1, .ref dv, .int md, .int bk, .ref a2, .ref a3, .ref a4, .ref wd, .ref lt, .ref bu, .ref st, .ref le, .ref nx, .ref ow, .int sy, .ref sp, .ref ky, .ref sm, .int sk])), (st, .inl (cst, 64, .inl stf)), (le, .inl (cle, 64, .inl lef)), (nx, .inl (cnx, 64, .inl nxf)), (ow, .inl (cow, 64, .inl owf)), (bu, .inl (cbu, 256, .inl buf)), (lt, .inr (0, [.ref lta, .int ltk])), (lta, .inl (clt, 512, .inl ltf)), (wd, .inr (0, [.ref wda, .int (nI 280)])), (wda, .inl (cwd, 280, .inl wf)), (a1, .inr (1, [.ref dE, .int 0, .int m1])), (a2, .inr (1, [.ref dE, .int 0, .int m2])), (a3, .inr (1, [.ref dE, .int 0, .int m3])), (dv, .inr (2, [.ref dal, .ref dvd, .int du])), (dvd, .inr (0, [.ref dva, .int dk]))] sz) := by
  refine Met.ofW (cc := b_Schema_clear) (maxL := 1) (ret := none) (by decide) rfl ?_
  intro p e s m args below meth c s₁ B hml hv
  obtain ⟨rfl, hsz, hP, hK, hD0⟩ := hv
  have hx := B.exec
  have hb := B.bytes
  have hr := B.returns
  have hts := atoms_spec (ws := ws_Schema_clear) B.pre
  have htw : ∀ w ∈ tw_tbl, w.before [.ref h0].toArray s = true := fun w h => hts w (List.mem_cons_of_mem _ h)
  have hown : s.vm.findClass R_Schema = some m.cls := findClass_of_methodNamed B.named
  have hlocks := B.notSynchronized
  have hin : meth.name = "clear" := (name_of_methodNamed B.named B.method).1
  subst hsz
  have hD := hD0.self (sz := s.heap.size)
  generalize hAe : va_A [(h0, .inr (3, [.ref a1, .ref dv, .int md, .int bk, .ref a2, .ref a3, .ref a4, .ref wd, .ref lt, .ref bu, .ref st, .ref le, .ref nx, .ref ow, .int sy, .ref sp, .ref ky, .ref sm, .int sk])), (st, .inl (cst, 64, .inl stf)), (le, .inl (cle, 64, .inl lef)), (nx, .inl (cnx, 64, .inl nxf)), (ow, .inl (cow, 64, .inl owf)), (bu, .inl (cbu, 256, .inl buf)), (lt, .inr (0, [.ref lta, .int ltk])), (lta, .inl (clt, 512, .inl ltf)), (wd, .inr (0, [.ref wda, .int (nI 280)])), (wda, .inl (cwd, 280, .inl wf)), (a1, .inr (1, [.ref dE, .int 0, .int m1])), (a2, .inr (1, [.ref dE, .int 0, .int m2])), (a3, .inr (1, [.ref dE, .int 0, .int m3])), (dv, .inr (2, [.ref dal, .ref dvd, .int du])), (dvd, .inr (0, [.ref dva, .int dk]))] s.heap.size = A at hD ⊢
  have hA : ∀ q : Nat, s.heap.size ≤ q → A q := fun q h => by rw [← hAe]; exact Or.inr h
  have hS : va_S A s.heap s.heap [] := va_S.rf
  have hP : va_P (dC, dI) classes [(h0, .inr (3, [.ref a1, .ref dv, .int md, .int bk, .ref a2, .ref a3, .ref a4, .ref wd, .ref lt, .ref bu, .ref st, .ref le, .ref nx, .ref ow, .int sy, .ref sp, .ref ky, .ref sm, .int sk])), (st, .inl (cst, 64, .inl stf)), (le, .inl (cle, 64, .inl lef)), (nx, .inl (cnx, 64, .inl nxf)), (ow, .inl (cow, 64, .inl owf)), (bu, .inl (cbu, 256, .inl buf)), (lt, .inr (0, [.ref lta, .int ltk])), (lta, .inl (clt, 512, .inl ltf)), (wd, .inr (0, [.ref wda, .int (nI 280)])), (wda, .inl (cwd, 280, .inl wf)), (a1, .inr (1, [.ref dE, .int 0, .int m1])), (a2, .inr (1, [.ref dE, .int 0, .int m2])), (a3, .inr (1, [.ref dE, .int 0, .int m3])), (dv, .inr (2, [.ref dal, .ref dvd, .int du])), (dvd, .inr (0, [.ref dva, .int dk]))] s.heap := hP
  have hl := lv_entry ([.ref h0]) (n := 1) (Nat.le_of_ble_eq_true rfl)
  rw [lg_entry_eq]
  generalize (lg_sl ([.ref h0]) ++ List.replicate (1 - (lg_sl ([.ref h0])).length) Slot.unset).toArray = ls at hl ⊢
  have hl : lv_has ls 1 [(0, .ref h0)] := hl
  refine lv_aload_n hx hb d_Schema_clear_0 rfl (lv_at hl 0 rfl) ?_
  refine va_get (D := (dC, dI)) (ci := 3) (v := .ref a1) (C := R_Schema) (T := F_Schema) (N := 19) hx hb htw i_Schema hown hK hP 0 rfl rfl 0 (by decide) (htw _ wd_2_19) (fun _ h9 => h9) rfl d_Schema_clear_1 ?_
  have hc0 : 0 + 0 ≤ 0 := by omega
  have hs0 : 0 + 0 ≤ 0 := by omega
  have hPc := hP.sub (ws' := [(a1, .inr (1, [.ref dE, .int 0, .int m1]))]) [10] rfl
  have hDc := hD.sub (ws' := [(a1, .inr (1, [.ref dE, .int 0, .int m1]))]) [10] (by decide) rfl
  have hKc := hK.sub (tys' := []) [] rfl
  have hFc := va_free (wc := [(a1, .inr (1, [.ref dE, .int 0, .int m1]))]) hD hS hA [10] rfl
  refine va_callv (va_runV (As := []) (rest := []) ⟨hx, hb, hml, hown, htw⟩ (c_AL_clear l dC dI s.heap.size a1 dE m1) (cwV 0 htw (tw_V wd_1_220 wd_1_221 wd_1_222 wd_1_6 k_AL_clear) rfl rfl rfl (by decide +kernel) ⟨Nat.le_of_ble_eq_true rfl, Nat.le_of_ble_eq_true rfl⟩) ⟨fun a U g mk q => by obtain ⟨q0, q1, qP, qK, qD⟩ := q; exact ⟨q0, q1, qP, va_K.moved (u := U) (U := U.calling g mk a) (Vm.Alike.refl U.vm) qK, qD⟩, va_recv hK hP (q := (R_AL, F_AL, 3)) (ci := 1) (q0 := 10) rfl rfl, fun U hU hW => ⟨rfl, by rw [hU], by rw [hU]; exact hPc, va_K.moved hW.alike hKc, hDc.weaken (fun _ _ _ _ => trivial)⟩⟩ rfl rfl hl.1 rfl (lv_room (Nat.le_of_ble_eq_true rfl)) d_Schema_clear_4 ⟨hc0, hs0⟩) hS (fun q _ h => hFc q h) hFc (fun u t H1 locs ht hvm hw hB hz1 hk1 hS => ?_)
  obtain ⟨hP1, hK1, hD1⟩ := hB
  rw [ht] at hP1
  have hK1 := va_K.moved hvm.symm hK1
  obtain ⟨hP, hD⟩ := va_join (wr := [(h0, .inr (3, [.ref a1, .ref dv, .int md, .int bk, .ref a2, .ref a3, .ref a4, .ref wd, .ref lt, .ref bu, .ref st, .ref le, .ref nx, .ref ow, .int sy, .ref sp, .ref ky, .ref sm, .int sk])), (st, .inl (cst, 64, .inl stf)), (le, .inl (cle, 64, .inl lef)), (nx, .inl (cnx, 64, .inl nxf)), (ow, .inl (cow, 64, .inl owf)), (bu, .inl (cbu, 256, .inl buf)), (lt, .inr (0, [.ref lta, .int ltk])), (lta, .inl (clt, 512, .inl ltf)), (wd, .inr (0, [.ref wda, .int (nI 280)])), (wda, .inl (cwd, 280, .inl wf)), (a2, .inr (1, [.ref dE, .int 0, .int m2])), (a3, .inr (1, [.ref dE, .int 0, .int m3])), (dv, .inr (2, [.ref dal, .ref dvd, .int du])), (dvd, .inr (0, [.ref dva, .int dk]))]) (w1 := [(a1, .inr (1, [.ref dE, .int 0, .int (m1 + 1)]))]) hP hD [10] [0, 1, 2, 3, 4, 5, 6, 7, 8, 9, 11, 12, 13, 14] rfl rfl (by decide) (by decide) hk1 hFc hP1 hD1
  have hK := (hK.sub (tys' := [(cst, .int), (cle, .int), (cnx, .int), (cow, .int), (cbu, .int), (clt, .byte), (cwd, .byte)]) [0, 1, 2, 3, 4, 5, 6] rfl).app hK1
  generalize H1 = H at hP hS ⊢
  have hP : va_P (dC, dI) classes [(h0, .inr (3, [.ref a1, .ref dv, .int md, .int bk, .ref a2, .ref a3, .ref a4, .ref wd, .ref lt, .ref bu, .ref st, .ref le, .ref nx, .ref ow, .int sy, .ref sp, .ref ky, .ref sm, .int sk])), (st, .inl (cst, 64, .inl stf)), (le, .inl (cle, 64, .inl lef)), (nx, .inl (cnx, 64, .inl nxf)), (ow, .inl (cow, 64, .inl owf)), (bu, .inl (cbu, 256, .inl buf)), (lt, .inr (0, [.ref lta, .int ltk])), (lta, .inl (clt, 512, .inl ltf)), (wd, .inr (0, [.ref wda, .int (nI 280)])), (wda, .inl (cwd, 280, .inl wf)), (a2, .inr (1, [.ref dE, .int 0, .int m2])), (a3, .inr (1, [.ref dE, .int 0, .int m3])), (dv, .inr (2, [.ref dal, .ref dvd, .int du])), (dvd, .inr (0, [.ref dva, .int dk])), (a1, .inr (1, [.ref dE, .int 0, .int (m1 + 1)]))] H := hP
  have hD : va_D A [(h0, .inr (3, [.ref a1, .ref dv, .int md, .int bk, .ref a2, .ref a3, .ref a4, .ref wd, .ref lt, .ref bu, .ref st, .ref le, .ref nx, .ref ow, .int sy, .ref sp, .ref ky, .ref sm, .int sk])), (st, .inl (cst, 64, .inl stf)), (le, .inl (cle, 64, .inl lef)), (nx, .inl (cnx, 64, .inl nxf)), (ow, .inl (cow, 64, .inl owf)), (bu, .inl (cbu, 256, .inl buf)), (lt, .inr (0, [.ref lta, .int ltk])), (lta, .inl (clt, 512, .inl ltf)), (wd, .inr (0, [.ref wda, .int (nI 280)])), (wda, .inl (cwd, 280, .inl wf)), (a2, .inr (1, [.ref dE, .int 0, .int m2])), (a3, .inr (1, [.ref dE, .int 0, .int m3])), (dv, .inr (2, [.ref dal, .ref dvd, .int du])), (dvd, .inr (0, [.ref dva, .int dk])), (a1, .inr (1, [.ref dE, .int 0, .int (m1 + 1)]))] := hD
  have hK : va_K (dC, dI) classes [(cst, .int), (cle, .int), (cnx, .int), (cow, .int), (cbu, .int), (clt, .byte), (cwd, .byte)] s := hK
  refine lv_aload_n hx hb d_Schema_clear_7 rfl (lv_at hl 0 rfl) ?_
  refine va_get (D := (dC, dI)) (ci := 3) (v := .ref a2) (C := R_Schema) (T := F_Schema) (N := 19) hx hb htw i_Schema hown hK hP 0 rfl rfl 4 (by decide) (htw _ wd_2_26) (fun _ h9 => h9) rfl d_Schema_clear_8 ?_
  have hc0 : 0 + 0 ≤ 0 := by omega
  have hs0 : 0 + 0 ≤ 0 := by omega
  have hPc := hP.sub (ws' := [(a2, .inr (1, [.ref dE, .int 0, .int m2]))]) [10] rfl
  have hDc := hD.sub (ws' := [(a2, .inr (1, [.ref dE, .int 0, .int m2]))]) [10] (by decide) rfl
  have hKc := hK.sub (tys' := []) [] rfl
  have hFc := va_free (wc := [(a2, .inr (1, [.ref dE, .int 0, .int m2]))]) hD hS hA [10] rfl
  refine va_callv (va_runV (As := []) (rest := []) ⟨hx, hb, hml, hown, htw⟩ (c_AL_clear l dC dI H.size a2 dE m2) (cwV 0 htw (tw_V wd_1_220 wd_1_221 wd_1_222 wd_1_6 k_AL_clear) rfl rfl rfl (by decide +kernel) ⟨Nat.le_of_ble_eq_true rfl, Nat.le_of_ble_eq_true rfl⟩) ⟨fun a U g mk q => by obtain ⟨q0, q1, qP, qK, qD⟩ := q; exact ⟨q0, q1, qP, va_K.moved (u := U) (U := U.calling g mk a) (Vm.Alike.refl U.vm) qK, qD⟩, va_recv hK hP (q := (R_AL, F_AL, 3)) (ci := 1) (q0 := 10) rfl rfl, fun U hU hW => ⟨rfl, by rw [hU], by rw [hU]; exact hPc, va_K.moved hW.alike hKc, hDc.weaken (fun _ _ _ _ => trivial)⟩⟩ rfl rfl hl.1 rfl (lv_room (Nat.le_of_ble_eq_true rfl)) d_Schema_clear_11 ⟨hc0, hs0⟩) hS (fun q _ h => hFc q h) hFc (fun u t H1 locs ht hvm hw hB hz1 hk1 hS => ?_)
  obtain ⟨hP1, hK1, hD1⟩ := hB
  rw [ht] at hP1
  have hK1 := va_K.moved hvm.symm hK1
  obtain ⟨hP, hD⟩ := va_join (wr := [(h0, .inr (3, [.ref a1, .ref dv, .int md, .int bk, .ref a2, .ref a3, .ref a4, .ref wd, .ref lt, .ref bu, .ref st, .ref le, .ref nx, .ref ow, .int sy, .ref sp, .ref ky, .ref sm, .int sk])), (st, .inl (cst, 64, .inl stf)), (le, .inl (cle, 64, .inl lef)), (nx, .inl (cnx, 64, .inl nxf)), (ow, .inl (cow, 64, .inl owf)), (bu, .inl (cbu, 256, .inl buf)), (lt, .inr (0, [.ref lta, .int ltk])), (lta, .inl (clt, 512, .inl ltf)), (wd, .inr (0, [.ref wda, .int (nI 280)])), (wda, .inl (cwd, 280, .inl wf)), (a3, .inr (1, [.ref dE, .int 0, .int m3])), (dv, .inr (2, [.ref dal, .ref dvd, .int du])), (dvd, .inr (0, [.ref dva, .int dk])), (a1, .inr (1, [.ref dE, .int 0, .int (m1 + 1)]))]) (w1 := [(a2, .inr (1, [.ref dE, .int 0, .int (m2 + 1)]))]) hP hD [10] [0, 1, 2, 3, 4, 5, 6, 7, 8, 9, 11, 12, 13, 14] rfl rfl (by decide) (by decide) hk1 hFc hP1 hD1
  have hK := (hK.sub (tys' := [(cst, .int), (cle, .int), (cnx, .int), (cow, .int), (cbu, .int), (clt, .byte), (cwd, .byte)]) [0, 1, 2, 3, 4, 5, 6] rfl).app hK1
  generalize H1 = H at hP hS ⊢
  have hP : va_P (dC, dI) classes [(h0, .inr (3, [.ref a1, .ref dv, .int md, .int bk, .ref a2, .ref a3, .ref a4, .ref wd, .ref lt, .ref bu, .ref st, .ref le, .ref nx, .ref ow, .int sy, .ref sp, .ref ky, .ref sm, .int sk])), (st, .inl (cst, 64, .inl stf)), (le, .inl (cle, 64, .inl lef)), (nx, .inl (cnx, 64, .inl nxf)), (ow, .inl (cow, 64, .inl owf)), (bu, .inl (cbu, 256, .inl buf)), (lt, .inr (0, [.ref lta, .int ltk])), (lta, .inl (clt, 512, .inl ltf)), (wd, .inr (0, [.ref wda, .int (nI 280)])), (wda, .inl (cwd, 280, .inl wf)), (a3, .inr (1, [.ref dE, .int 0, .int m3])), (dv, .inr (2, [.ref dal, .ref dvd, .int du])), (dvd, .inr (0, [.ref dva, .int dk])), (a1, .inr (1, [.ref dE, .int 0, .int (m1 + 1)])), (a2, .inr (1, [.ref dE, .int 0, .int (m2 + 1)]))] H := hP
  have hD : va_D A [(h0, .inr (3, [.ref a1, .ref dv, .int md, .int bk, .ref a2, .ref a3, .ref a4, .ref wd, .ref lt, .ref bu, .ref st, .ref le, .ref nx, .ref ow, .int sy, .ref sp, .ref ky, .ref sm, .int sk])), (st, .inl (cst, 64, .inl stf)), (le, .inl (cle, 64, .inl lef)), (nx, .inl (cnx, 64, .inl nxf)), (ow, .inl (cow, 64, .inl owf)), (bu, .inl (cbu, 256, .inl buf)), (lt, .inr (0, [.ref lta, .int ltk])), (lta, .inl (clt, 512, .inl ltf)), (wd, .inr (0, [.ref wda, .int (nI 280)])), (wda, .inl (cwd, 280, .inl wf)), (a3, .inr (1, [.ref dE, .int 0, .int m3])), (dv, .inr (2, [.ref dal, .ref dvd, .int du])), (dvd, .inr (0, [.ref dva, .int dk])), (a1, .inr (1, [.ref dE, .int 0, .int (m1 + 1)])), (a2, .inr (1, [.ref dE, .int 0, .int (m2 + 1)]))] := hD
  have hK : va_K (dC, dI) classes [(cst, .int), (cle, .int), (cnx, .int), (cow, .int), (cbu, .int), (clt, .byte), (cwd, .byte)] s := hK
  refine lv_aload_n hx hb d_Schema_clear_14 rfl (lv_at hl 0 rfl) ?_
  refine va_get (D := (dC, dI)) (ci := 3) (v := .ref a3) (C := R_Schema) (T := F_Schema) (N := 19) hx hb htw i_Schema hown hK hP 0 rfl rfl 5 (by decide) (htw _ wd_2_27) (fun _ h9 => h9) rfl d_Schema_clear_15 ?_
  have hc0 : 0 + 0 ≤ 0 := by omega
  have hs0 : 0 + 0 ≤ 0 := by omega
  have hPc := hP.sub (ws' := [(a3, .inr (1, [.ref dE, .int 0, .int m3]))]) [10] rfl
  have hDc := hD.sub (ws' := [(a3, .inr (1, [.ref dE, .int 0, .int m3]))]) [10] (by decide) rfl
  have hKc := hK.sub (tys' := []) [] rfl
  have hFc := va_free (wc := [(a3, .inr (1, [.ref dE, .int 0, .int m3]))]) hD hS hA [10] rfl
  refine va_callv (va_runV (As := []) (rest := []) ⟨hx, hb, hml, hown, htw⟩ (c_AL_clear l dC dI H.size a3 dE m3) (cwV 0 htw (tw_V wd_1_220 wd_1_221 wd_1_222 wd_1_6 k_AL_clear) rfl rfl rfl (by decide +kernel) ⟨Nat.le_of_ble_eq_true rfl, Nat.le_of_ble_eq_true rfl⟩) ⟨fun a U g mk q => by obtain ⟨q0, q1, qP, qK, qD⟩ := q; exact ⟨q0, q1, qP, va_K.moved (u := U) (U := U.calling g mk a) (Vm.Alike.refl U.vm) qK, qD⟩, va_recv hK hP (q := (R_AL, F_AL, 3)) (ci := 1) (q0 := 10) rfl rfl, fun U hU hW => ⟨rfl, by rw [hU], by rw [hU]; exact hPc, va_K.moved hW.alike hKc, hDc.weaken (fun _ _ _ _ => trivial)⟩⟩ rfl rfl hl.1 rfl (lv_room (Nat.le_of_ble_eq_true rfl)) d_Schema_clear_18 ⟨hc0, hs0⟩) hS (fun q _ h => hFc q h) hFc (fun u t H1 locs ht hvm hw hB hz1 hk1 hS => ?_)
  obtain ⟨hP1, hK1, hD1⟩ := hB
  rw [ht] at hP1
  have hK1 := va_K.moved hvm.symm hK1
  obtain ⟨hP, hD⟩ := va_join (wr := [(h0, .inr (3, [.ref a1, .ref dv, .int md, .int bk, .ref a2, .ref a3, .ref a4, .ref wd, .ref lt, .ref bu, .ref st, .ref le, .ref nx, .ref ow, .int sy, .ref sp, .ref ky, .ref sm, .int sk])), (st, .inl (cst, 64, .inl stf)), (le, .inl (cle, 64, .inl lef)), (nx, .inl (cnx, 64, .inl nxf)), (ow, .inl (cow, 64, .inl owf)), (bu, .inl (cbu, 256, .inl buf)), (lt, .inr (0, [.ref lta, .int ltk])), (lta, .inl (clt, 512, .inl ltf)), (wd, .inr (0, [.ref wda, .int (nI 280)])), (wda, .inl (cwd, 280, .inl wf)), (dv, .inr (2, [.ref dal, .ref dvd, .int du])), (dvd, .inr (0, [.ref dva, .int dk])), (a1, .inr (1, [.ref dE, .int 0, .int (m1 + 1)])), (a2, .inr (1, [.ref dE, .int 0, .int (m2 + 1)]))]) (w1 := [(a3, .inr (1, [.ref dE, .int 0, .int (m3 + 1)]))]) hP hD [10] [0, 1, 2, 3, 4, 5, 6, 7, 8, 9, 11, 12, 13, 14] rfl rfl (by decide) (by decide) hk1 hFc hP1 hD1
  have hK := (hK.sub (tys' := [(cst, .int), (cle, .int), (cnx, .int), (cow, .int), (cbu, .int), (clt, .byte), (cwd, .byte)]) [0, 1, 2, 3, 4, 5, 6] rfl).app hK1
  generalize H1 = H at hP hS ⊢
  have hP : va_P (dC, dI) classes [(h0, .inr (3, [.ref a1, .ref dv, .int md, .int bk, .ref a2, .ref a3, .ref a4, .ref wd, .ref lt, .ref bu, .ref st, .ref le, .ref nx, .ref ow, .int sy, .ref sp, .ref ky, .ref sm, .int sk])), (st, .inl (cst, 64, .inl stf)), (le, .inl (cle, 64, .inl lef)), (nx, .inl (cnx, 64, .inl nxf)), (ow, .inl (cow, 64, .inl owf)), (bu, .inl (cbu, 256, .inl buf)), (lt, .inr (0, [.ref lta, .int ltk])), (lta, .inl (clt, 512, .inl ltf)), (wd, .inr (0, [.ref wda, .int (nI 280)])), (wda, .inl (cwd, 280, .inl wf)), (dv, .inr (2, [.ref dal, .ref dvd, .int du])), (dvd, .inr (0, [.ref dva, .int dk])), (a1, .inr (1, [.ref dE, .int 0, .int (m1 + 1)])), (a2, .inr (1, [.ref dE, .int 0, .int (m2 + 1)])), (a3, .inr (1, [.ref dE, .int 0, .int (m3 + 1)]))] H := hP
  have hD : va_D A [(h0, .inr (3, [.ref a1, .ref dv, .int md, .int bk, .ref a2, .ref a3, .ref a4, .ref wd, .ref lt, .ref bu, .ref st, .ref le, .ref nx, .ref ow, .int sy, .ref sp, .ref ky, .ref sm, .int sk])), (st, .inl (cst, 64, .inl stf)), (le, .inl (cle, 64, .inl lef)), (nx, .inl (cnx, 64, .inl nxf)), (ow, .inl (cow, 64, .inl owf)), (bu, .inl (cbu, 256, .inl buf)), (lt, .inr (0, [.ref lta, .int ltk])), (lta, .inl (clt, 512, .inl ltf)), (wd, .inr (0, [.ref wda, .int (nI 280)])), (wda, .inl (cwd, 280, .inl wf)), (dv, .inr (2, [.ref dal, .ref dvd, .int du])), (dvd, .inr (0, [.ref dva, .int dk])), (a1, .inr (1, [.ref dE, .int 0, .int (m1 + 1)])), (a2, .inr (1, [.ref dE, .int 0, .int (m2 + 1)])), (a3, .inr (1, [.ref dE, .int 0, .int (m3 + 1)]))] := hD
  have hK : va_K (dC, dI) classes [(cst, .int), (cle, .int), (cnx, .int), (cow, .int), (cbu, .int), (clt, .byte), (cwd, .byte)] s := hK
  refine lv_aload_n hx hb d_Schema_clear_21 rfl (lv_at hl 0 rfl) ?_
  refine va_get (D := (dC, dI)) (ci := 3) (v := .ref dv) (C := R_Schema) (T := F_Schema) (N := 19) hx hb htw i_Schema hown hK hP 0 rfl rfl 1 (by decide) (htw _ wd_2_21) (fun _ h9 => h9) rfl d_Schema_clear_22 ?_
  have hc0 : 0 + 0 ≤ 0 := by omega
  have hs0 : 0 + 0 ≤ 0 := by omega
  have hPc := hP.sub (ws' := [(dv, .inr (2, [.ref dal, .ref dvd, .int du])), (dvd, .inr (0, [.ref dva, .int dk]))]) [10, 11] rfl
  have hDc := hD.sub (ws' := [(dv, .inr (2, [.ref dal, .ref dvd, .int du])), (dvd, .inr (0, [.ref dva, .int dk]))]) [10, 11] (by decide) rfl
  have hKc := hK.sub (tys' := []) [] rfl
  have hFc := va_free (wc := [(dv, .inr (2, [.ref dal, .ref dvd, .int du])), (dvd, .inr (0, [.ref dva, .int dk]))]) hD hS hA [10, 11] rfl
  refine va_callv (va_runV (As := []) (rest := []) ⟨hx, hb, hml, hown, htw⟩ (c_Values_clear l dC dI H.size dv dal dvd dva du dk) (cwV 0 htw (tw_V wd_1_224 wd_1_225 wd_1_226 wd_1_7 k_Values_clear) rfl rfl rfl (by decide +kernel) ⟨Nat.le_of_ble_eq_true rfl, Nat.le_of_ble_eq_true rfl⟩) ⟨fun a U g mk q => by obtain ⟨q0, q1, qP, qK, qD⟩ := q; exact ⟨q0, q1, qP, va_K.moved (u := U) (U := U.calling g mk a) (Vm.Alike.refl U.vm) qK, qD⟩, va_recv hK hP (q := (R_Values, F_Values, 3)) (ci := 2) (q0 := 10) rfl rfl, fun U hU hW => ⟨rfl, by rw [hU], by rw [hU]; exact hPc, va_K.moved hW.alike hKc, hDc.weaken (fun _ _ _ _ => trivial)⟩⟩ rfl rfl hl.1 rfl (lv_room (Nat.le_of_ble_eq_true rfl)) d_Schema_clear_25 ⟨hc0, hs0⟩) hS (fun q _ h => hFc q h) hFc (fun u t H1 locs ht hvm hw hB hz1 hk1 hS => ?_)
  obtain ⟨hP1, hK1, hD1⟩ := hB
  rw [ht] at hP1
  have hK1 := va_K.moved hvm.symm hK1
  obtain ⟨hP, hD⟩ := va_join (wr := [(h0, .inr (3, [.ref a1, .ref dv, .int md, .int bk, .ref a2, .ref a3, .ref a4, .ref wd, .ref lt, .ref bu, .ref st, .ref le, .ref nx, .ref ow, .int sy, .ref sp, .ref ky, .ref sm, .int sk])), (st, .inl (cst, 64, .inl stf)), (le, .inl (cle, 64, .inl lef)), (nx, .inl (cnx, 64, .inl nxf)), (ow, .inl (cow, 64, .inl owf)), (bu, .inl (cbu, 256, .inl buf)), (lt, .inr (0, [.ref lta, .int ltk])), (lta, .inl (clt, 512, .inl ltf)), (wd, .inr (0, [.ref wda, .int (nI 280)])), (wda, .inl (cwd, 280, .inl wf)), (a1, .inr (1, [.ref dE, .int 0, .int (m1 + 1)])), (a2, .inr (1, [.ref dE, .int 0, .int (m2 + 1)])), (a3, .inr (1, [.ref dE, .int 0, .int (m3 + 1)]))]) (w1 := [(dv, .inr (2, [.ref dal, .ref dvd, .int 0])), (dvd, .inr (0, [.ref dva, .int 0]))]) hP hD [10, 11] [0, 1, 2, 3, 4, 5, 6, 7, 8, 9, 12, 13, 14] rfl rfl (by decide) (by decide) hk1 hFc hP1 hD1
  have hK := (hK.sub (tys' := [(cst, .int), (cle, .int), (cnx, .int), (cow, .int), (cbu, .int), (clt, .byte), (cwd, .byte)]) [0, 1, 2, 3, 4, 5, 6] rfl).app hK1
  generalize H1 = H at hP hS ⊢
  have hP : va_P (dC, dI) classes [(h0, .inr (3, [.ref a1, .ref dv, .int md, .int bk, .ref a2, .ref a3, .ref a4, .ref wd, .ref lt, .ref bu, .ref st, .ref le, .ref nx, .ref ow, .int sy, .ref sp, .ref ky, .ref sm, .int sk])), (st, .inl (cst, 64, .inl stf)), (le, .inl (cle, 64, .inl lef)), (nx, .inl (cnx, 64, .inl nxf)), (ow, .inl (cow, 64, .inl owf)), (bu, .inl (cbu, 256, .inl buf)), (lt, .inr (0, [.ref lta, .int ltk])), (lta, .inl (clt, 512, .inl ltf)), (wd, .inr (0, [.ref wda, .int (nI 280)])), (wda, .inl (cwd, 280, .inl wf)), (a1, .inr (1, [.ref dE, .int 0, .int (m1 + 1)])), (a2, .inr (1, [.ref dE, .int 0, .int (m2 + 1)])), (a3, .inr (1, [.ref dE, .int 0, .int (m3 + 1)])), (dv, .inr (2, [.ref dal, .ref dvd, .int 0])), (dvd, .inr (0, [.ref dva, .int 0]))] H := hP
  have hD : va_D A [(h0, .inr (3, [.ref a1, .ref dv, .int md, .int bk, .ref a2, .ref a3, .ref a4, .ref wd, .ref lt, .ref bu, .ref st, .ref le, .ref nx, .ref ow, .int sy, .ref sp, .ref ky, .ref sm, .int sk])), (st, .inl (cst, 64, .inl stf)), (le, .inl (cle, 64, .inl lef)), (nx, .inl (cnx, 64, .inl nxf)), (ow, .inl (cow, 64, .inl owf)), (bu, .inl (cbu, 256, .inl buf)), (lt, .inr (0, [.ref lta, .int ltk])), (lta, .inl (clt, 512, .inl ltf)), (wd, .inr (0, [.ref wda, .int (nI 280)])), (wda, .inl (cwd, 280, .inl wf)), (a1, .inr (1, [.ref dE, .int 0, .int (m1 + 1)])), (a2, .inr (1, [.ref dE, .int 0, .int (m2 + 1)])), (a3, .inr (1, [.ref dE, .int 0, .int (m3 + 1)])), (dv, .inr (2, [.ref dal, .ref dvd, .int 0])), (dvd, .inr (0, [.ref dva, .int 0]))] := hD
  have hK : va_K (dC, dI) classes [(cst, .int), (cle, .int), (cnx, .int), (cow, .int), (cbu, .int), (clt, .byte), (cwd, .byte)] s := hK
  refine lv_aload_n hx hb d_Schema_clear_28 rfl (lv_at hl 0 rfl) ?_
  refine lv_iconst (v := 0) hx hb d_Schema_clear_29 (by decide) ?_
  refine va_put (D := (dC, dI)) (ci := 3) (v := .int 0) (ty := .boolean) (C := R_Schema) (T := F_Schema) (N := 19) hx hb htw i_Schema t_Schema t_Schema_ok n_Schema hown hK hP hD hS 0 rfl rfl 3 (by decide) (htw _ wd_2_24) (fun _ h9 => h9) rfl (by decide +kernel) rfl rfl (Nat.le_of_ble_eq_true rfl) d_Schema_clear_30 (fun H locs hP hD hS => ?_)
  have hP : va_P (dC, dI) classes [(h0, .inr (3, [.ref a1, .ref dv, .int md, .int 0, .ref a2, .ref a3, .ref a4, .ref wd, .ref lt, .ref bu, .ref st, .ref le, .ref nx, .ref ow, .int sy, .ref sp, .ref ky, .ref sm, .int sk])), (st, .inl (cst, 64, .inl stf)), (le, .inl (cle, 64, .inl lef)), (nx, .inl (cnx, 64, .inl nxf)), (ow, .inl (cow, 64, .inl owf)), (bu, .inl (cbu, 256, .inl buf)), (lt, .inr (0, [.ref lta, .int ltk])), (lta, .inl (clt, 512, .inl ltf)), (wd, .inr (0, [.ref wda, .int (nI 280)])), (wda, .inl (cwd, 280, .inl wf)), (a1, .inr (1, [.ref dE, .int 0, .int (m1 + 1)])), (a2, .inr (1, [.ref dE, .int 0, .int (m2 + 1)])), (a3, .inr (1, [.ref dE, .int 0, .int (m3 + 1)])), (dv, .inr (2, [.ref dal, .ref dvd, .int 0])), (dvd, .inr (0, [.ref dva, .int 0]))] H := hP
  have hD : va_D A [(h0, .inr (3, [.ref a1, .ref dv, .int md, .int 0, .ref a2, .ref a3, .ref a4, .ref wd, .ref lt, .ref bu, .ref st, .ref le, .ref nx, .ref ow, .int sy, .ref sp, .ref ky, .ref sm, .int sk])), (st, .inl (cst, 64, .inl stf)), (le, .inl (cle, 64, .inl lef)), (nx, .inl (cnx, 64, .inl nxf)), (ow, .inl (cow, 64, .inl owf)), (bu, .inl (cbu, 256, .inl buf)), (lt, .inr (0, [.ref lta, .int ltk])), (lta, .inl (clt, 512, .inl ltf)), (wd, .inr (0, [.ref wda, .int (nI 280)])), (wda, .inl (cwd, 280, .inl wf)), (a1, .inr (1, [.ref dE, .int 0, .int (m1 + 1)])), (a2, .inr (1, [.ref dE, .int 0, .int (m2 + 1)])), (a3, .inr (1, [.ref dE, .int 0, .int (m3 + 1)])), (dv, .inr (2, [.ref dal, .ref dvd, .int 0])), (dvd, .inr (0, [.ref dva, .int 0]))] := hD
  refine lv_aload_n hx hb d_Schema_clear_33 rfl (lv_at hl 0 rfl) ?_
  have hc0 : 0 + 0 ≤ 0 := by omega
  have hs0 : 0 + 0 ≤ 0 := by omega
  have hPc := hP.sub (ws' := [(h0, .inr (3, [.ref a1, .ref dv, .int md, .int 0, .ref a2, .ref a3, .ref a4, .ref wd, .ref lt, .ref bu, .ref st, .ref le, .ref nx, .ref ow, .int sy, .ref sp, .ref ky, .ref sm, .int sk])), (st, .inl (cst, 64, .inl stf)), (le, .inl (cle, 64, .inl lef)), (nx, .inl (cnx, 64, .inl nxf)), (ow, .inl (cow, 64, .inl owf)), (bu, .inl (cbu, 256, .inl buf)), (lt, .inr (0, [.ref lta, .int ltk])), (lta, .inl (clt, 512, .inl ltf)), (wd, .inr (0, [.ref wda, .int (nI 280)])), (wda, .inl (cwd, 280, .inl wf))]) [0, 1, 2, 3, 4, 5, 6, 7, 8, 9] rfl
  have hDc := hD.sub (ws' := [(h0, .inr (3, [.ref a1, .ref dv, .int md, .int 0, .ref a2, .ref a3, .ref a4, .ref wd, .ref lt, .ref bu, .ref st, .ref le, .ref nx, .ref ow, .int sy, .ref sp, .ref ky, .ref sm, .int sk])), (st, .inl (cst, 64, .inl stf)), (le, .inl (cle, 64, .inl lef)), (nx, .inl (cnx, 64, .inl nxf)), (ow, .inl (cow, 64, .inl owf)), (bu, .inl (cbu, 256, .inl buf)), (lt, .inr (0, [.ref lta, .int ltk])), (lta, .inl (clt, 512, .inl ltf)), (wd, .inr (0, [.ref wda, .int (nI 280)])), (wda, .inl (cwd, 280, .inl wf))]) [0, 1, 2, 3, 4, 5, 6, 7, 8, 9] (by decide) rfl
  have hKc := hK.sub (tys' := [(cst, .int), (cle, .int), (cnx, .int), (cow, .int), (cbu, .int), (clt, .byte), (cwd, .byte)]) [0, 1, 2, 3, 4, 5, 6] rfl
  have hFc := va_free (wc := [(h0, .inr (3, [.ref a1, .ref dv, .int md, .int 0, .ref a2, .ref a3, .ref a4, .ref wd, .ref lt, .ref bu, .ref st, .ref le, .ref nx, .ref ow, .int sy, .ref sp, .ref ky, .ref sm, .int sk])), (st, .inl (cst, 64, .inl stf)), (le, .inl (cle, 64, .inl lef)), (nx, .inl (cnx, 64, .inl nxf)), (ow, .inl (cow, 64, .inl owf)), (bu, .inl (cbu, 256, .inl buf)), (lt, .inr (0, [.ref lta, .int ltk])), (lta, .inl (clt, 512, .inl ltf)), (wd, .inr (0, [.ref wda, .int (nI 280)])), (wda, .inl (cwd, 280, .inl wf))]) hD hS hA [0, 1, 2, 3, 4, 5, 6, 7, 8, 9] rfl
  refine va_callv (va_runV (As := []) (rest := []) ⟨hx, hb, hml, hown, htw⟩ (c_Schema_keepWords l dC dI H.size h0 a1 dv md 0 a2 a3 a4 wd lt bu st le nx ow sy sp ky sm sk cst stf cle lef cnx nxf cow owf cbu buf lta clt ltf ltk wda cwd wf (by first | omega | assumption)) (cwV 0 htw (tw_V wd_1_228 wd_1_230 wp_1_0 wd_1_3 k_Schema_keepWords) rfl rfl rfl (by decide +kernel) ⟨Nat.le_of_ble_eq_true rfl, Nat.le_of_ble_eq_true rfl⟩) ⟨fun a U g mk q => by obtain ⟨q0, q1, qP, qK, qD⟩ := q; exact ⟨q0, q1, qP, va_K.moved (u := U) (U := U.calling g mk a) (Vm.Alike.refl U.vm) qK, qD⟩, va_recv hK hP (q := (R_Schema, F_Schema, 19)) (ci := 3) (q0 := 0) rfl rfl, fun U hU hW => ⟨rfl, by rw [hU], by rw [hU]; exact hPc, va_K.moved hW.alike hKc, hDc.weaken (fun _ _ _ _ => trivial)⟩⟩ rfl rfl hl.1 rfl (lv_room (Nat.le_of_ble_eq_true rfl)) d_Schema_clear_34 ⟨hc0, hs0⟩) hS (fun q _ h => hFc q h) hFc (fun u t H1 locs ht hvm hw hB hz1 hk1 hS => ?_)
  obtain ⟨s2_6, k2_7, g1_8, g2_9, g3_10, g4_11, g5_12, g6_13, hP1, hK1, hD1⟩ := hB
  rw [ht] at hP1
  have hK1 := va_K.moved hvm.symm hK1
  obtain ⟨hP, hD⟩ := va_join (wr := [(a1, .inr (1, [.ref dE, .int 0, .int (m1 + 1)])), (a2, .inr (1, [.ref dE, .int 0, .int (m2 + 1)])), (a3, .inr (1, [.ref dE, .int 0, .int (m3 + 1)])), (dv, .inr (2, [.ref dal, .ref dvd, .int 0])), (dvd, .inr (0, [.ref dva, .int 0]))]) (w1 := [(h0, .inr (3, [.ref a1, .ref dv, .int md, .int 0, .ref a2, .ref a3, .ref a4, .ref wd, .ref lt, .ref bu, .ref st, .ref le, .ref nx, .ref ow, .int (nI s2_6), .ref sp, .ref ky, .ref sm, .int sk])), (st, .inl (cst, 64, .inl g1_8)), (le, .inl (cle, 64, .inl g2_9)), (nx, .inl (cnx, 64, .inl g3_10)), (ow, .inl (cow, 64, .inl g4_11)), (bu, .inl (cbu, 256, .inl g5_12)), (lt, .inr (0, [.ref lta, .int (nI k2_7)])), (lta, .inl (clt, 512, .inl g6_13)), (wd, .inr (0, [.ref wda, .int (nI 280)])), (wda, .inl (cwd, 280, .inl wf))]) hP hD [0, 1, 2, 3, 4, 5, 6, 7, 8, 9] [10, 11, 12, 13, 14] rfl rfl (by decide) (by decide) hk1 hFc hP1 hD1
  have hK := (hK.sub (tys' := []) [] rfl).app hK1
  generalize H1 = H at hP hS ⊢
  have hP : va_P (dC, dI) classes [(a1, .inr (1, [.ref dE, .int 0, .int (m1 + 1)])), (a2, .inr (1, [.ref dE, .int 0, .int (m2 + 1)])), (a3, .inr (1, [.ref dE, .int 0, .int (m3 + 1)])), (dv, .inr (2, [.ref dal, .ref dvd, .int 0])), (dvd, .inr (0, [.ref dva, .int 0])), (h0, .inr (3, [.ref a1, .ref dv, .int md, .int 0, .ref a2, .ref a3, .ref a4, .ref wd, .ref lt, .ref bu, .ref st, .ref le, .ref nx, .ref ow, .int (nI s2_6), .ref sp, .ref ky, .ref sm, .int sk])), (st, .inl (cst, 64, .inl g1_8)), (le, .inl (cle, 64, .inl g2_9)), (nx, .inl (cnx, 64, .inl g3_10)), (ow, .inl (cow, 64, .inl g4_11)), (bu, .inl (cbu, 256, .inl g5_12)), (lt, .inr (0, [.ref lta, .int (nI k2_7)])), (lta, .inl (clt, 512, .inl g6_13)), (wd, .inr (0, [.ref wda, .int (nI 280)])), (wda, .inl (cwd, 280, .inl wf))] H := hP
  have hD : va_D A [(a1, .inr (1, [.ref dE, .int 0, .int (m1 + 1)])), (a2, .inr (1, [.ref dE, .int 0, .int (m2 + 1)])), (a3, .inr (1, [.ref dE, .int 0, .int (m3 + 1)])), (dv, .inr (2, [.ref dal, .ref dvd, .int 0])), (dvd, .inr (0, [.ref dva, .int 0])), (h0, .inr (3, [.ref a1, .ref dv, .int md, .int 0, .ref a2, .ref a3, .ref a4, .ref wd, .ref lt, .ref bu, .ref st, .ref le, .ref nx, .ref ow, .int (nI s2_6), .ref sp, .ref ky, .ref sm, .int sk])), (st, .inl (cst, 64, .inl g1_8)), (le, .inl (cle, 64, .inl g2_9)), (nx, .inl (cnx, 64, .inl g3_10)), (ow, .inl (cow, 64, .inl g4_11)), (bu, .inl (cbu, 256, .inl g5_12)), (lt, .inr (0, [.ref lta, .int (nI k2_7)])), (lta, .inl (clt, 512, .inl g6_13)), (wd, .inr (0, [.ref wda, .int (nI 280)])), (wda, .inl (cwd, 280, .inl wf))] := hD
  have hK : va_K (dC, dI) classes [(cst, .int), (cle, .int), (cnx, .int), (cow, .int), (cbu, .int), (clt, .byte), (cwd, .byte)] s := hK
  have hP9 := hP.sub (ws' := [(h0, .inr (3, [.ref a1, .ref dv, .int md, .int 0, .ref a2, .ref a3, .ref a4, .ref wd, .ref lt, .ref bu, .ref st, .ref le, .ref nx, .ref ow, .int (nI s2_6), .ref sp, .ref ky, .ref sm, .int sk])), (st, .inl (cst, 64, .inl g1_8)), (le, .inl (cle, 64, .inl g2_9)), (nx, .inl (cnx, 64, .inl g3_10)), (ow, .inl (cow, 64, .inl g4_11)), (bu, .inl (cbu, 256, .inl g5_12)), (lt, .inr (0, [.ref lta, .int (nI k2_7)])), (lta, .inl (clt, 512, .inl g6_13)), (wd, .inr (0, [.ref wda, .int (nI 280)])), (wda, .inl (cwd, 280, .inl wf)), (a1, .inr (1, [.ref dE, .int 0, .int (m1 + 1)])), (a2, .inr (1, [.ref dE, .int 0, .int (m2 + 1)])), (a3, .inr (1, [.ref dE, .int 0, .int (m3 + 1)])), (dv, .inr (2, [.ref dal, .ref dvd, .int 0])), (dvd, .inr (0, [.ref dva, .int 0]))]) [5, 6, 7, 8, 9, 10, 11, 12, 13, 14, 0, 1, 2, 3, 4] rfl
  have hD9 := hD.sub (ws' := [(h0, .inr (3, [.ref a1, .ref dv, .int md, .int 0, .ref a2, .ref a3, .ref a4, .ref wd, .ref lt, .ref bu, .ref st, .ref le, .ref nx, .ref ow, .int (nI s2_6), .ref sp, .ref ky, .ref sm, .int sk])), (st, .inl (cst, 64, .inl g1_8)), (le, .inl (cle, 64, .inl g2_9)), (nx, .inl (cnx, 64, .inl g3_10)), (ow, .inl (cow, 64, .inl g4_11)), (bu, .inl (cbu, 256, .inl g5_12)), (lt, .inr (0, [.ref lta, .int (nI k2_7)])), (lta, .inl (clt, 512, .inl g6_13)), (wd, .inr (0, [.ref wda, .int (nI 280)])), (wda, .inl (cwd, 280, .inl wf)), (a1, .inr (1, [.ref dE, .int 0, .int (m1 + 1)])), (a2, .inr (1, [.ref dE, .int 0, .int (m2 + 1)])), (a3, .inr (1, [.ref dE, .int 0, .int (m3 + 1)])), (dv, .inr (2, [.ref dal, .ref dvd, .int 0])), (dvd, .inr (0, [.ref dva, .int 0]))]) [5, 6, 7, 8, 9, 10, 11, 12, 13, 14, 0, 1, 2, 3, 4] (by decide) rfl
  have hK9 := hK.sub (tys' := [(cst, .int), (cle, .int), (cnx, .int), (cow, .int), (cbu, .int), (clt, .byte), (cwd, .byte)]) [0, 1, 2, 3, 4, 5, 6] rfl
  refine W.widen (k := 0) (n := 0) (by omega) (by omega) ?_
  exact W.vret hx hb hr (fun t ht hW => ⟨⟨(), rfl, trivial, s2_6, k2_7, g1_8, g2_9, g3_10, g4_11, g5_12, g6_13, by rw [ht]; exact hP9, va_K.moved hW.alike hK9, hD9⟩, hS.F ht⟩) hS.2.2 d_Schema_clear_37
end
section
/-! by program (wip/p1) -/
theorem wd_1_155 : Cond.fieldLink "java/lang/String" 38 "java/lang/String" "COMPACT_STRINGS" "Z" ∈ tw_tbl := tw_t1 (List.mem_of_getElem? (i := 155) rfl) rfl
theorem wd_12_8 : Cond.fieldLink "java/lang/String" 15 "java/lang/String" "coder" "B" ∈ tw_tbl := tw_t12 (List.mem_of_getElem? (i := 8) rfl) rfl
theorem wd_12_7 : Cond.fieldLink "java/lang/String" 9 "java/lang/String" "value" "[B" ∈ tw_tbl := tw_t12 (List.mem_of_getElem? (i := 7) rfl) rfl
theorem wd_1_8 : Cond.initialized "java/lang/String" ∈ tw_tbl := tw_t1 (List.mem_of_getElem? (i := 8) rfl) rfl
theorem wd_1_151 : Cond.methodLink "java/lang/String" 335 ⟨"java/lang/String", "coder", "()B"⟩ ∈ tw_tbl := tw_t1 (List.mem_of_getElem? (i := 151) rfl) rfl
theorem wd_1_152 : Cond.instanceMethod ⟨"java/lang/String", "coder", "()B"⟩ ∈ tw_tbl := tw_t1 (List.mem_of_getElem? (i := 152) rfl) rfl
theorem wd_1_153 : Cond.selects "java/lang/String" ⟨"java/lang/String", "coder", "()B"⟩ ⟨"java/lang/String", "coder", "()B"⟩ ∈ tw_tbl := tw_t1 (List.mem_of_getElem? (i := 153) rfl) rfl
theorem wd_1_172 : Cond.fieldLink "java/lang/String" 1053 "jdk/internal/util/Preconditions" "SIOOBE_FORMATTER" "Ljava/util/function/BiFunction;" ∈ tw_tbl := tw_t1 (List.mem_of_getElem? (i := 172) rfl) rfl
theorem wd_1_10 : Cond.initialized "jdk/internal/util/Preconditions" ∈ tw_tbl := tw_t1 (List.mem_of_getElem? (i := 10) rfl) rfl
theorem wd_1_174 : Cond.methodLink "java/lang/String" 1059 ⟨"jdk/internal/util/Preconditions", "checkIndex", "(IILjava/util/function/BiFunction;)I"⟩ ∈ tw_tbl := tw_t1 (List.mem_of_getElem? (i := 174) rfl) rfl
theorem wd_1_175 : Cond.static ⟨"jdk/internal/util/Preconditions", "checkIndex", "(IILjava/util/function/BiFunction;)I"⟩ ∈ tw_tbl := tw_t1 (List.mem_of_getElem? (i := 175) rfl) rfl
theorem wd_1_169 : Cond.methodLink "java/lang/StringLatin1" 9 ⟨"java/lang/String", "checkIndex", "(II)V"⟩ ∈ tw_tbl := tw_t1 (List.mem_of_getElem? (i := 169) rfl) rfl
theorem wd_1_170 : Cond.static ⟨"java/lang/String", "checkIndex", "(II)V"⟩ ∈ tw_tbl := tw_t1 (List.mem_of_getElem? (i := 170) rfl) rfl
theorem wd_1_162 : Cond.methodLink "java/lang/String" 492 ⟨"java/lang/String", "isLatin1", "()Z"⟩ ∈ tw_tbl := tw_t1 (List.mem_of_getElem? (i := 162) rfl) rfl
theorem wd_1_163 : Cond.instanceMethod ⟨"java/lang/String", "isLatin1", "()Z"⟩ ∈ tw_tbl := tw_t1 (List.mem_of_getElem? (i := 163) rfl) rfl
theorem wd_1_164 : Cond.selects "java/lang/String" ⟨"java/lang/String", "isLatin1", "()Z"⟩ ⟨"java/lang/String", "isLatin1", "()Z"⟩ ∈ tw_tbl := tw_t1 (List.mem_of_getElem? (i := 164) rfl) rfl
theorem wd_1_9 : Cond.initialized "java/lang/StringLatin1" ∈ tw_tbl := tw_t1 (List.mem_of_getElem? (i := 9) rfl) rfl
theorem wd_1_166 : Cond.methodLink "java/lang/String" 495 ⟨"java/lang/StringLatin1", "charAt", "([BI)C"⟩ ∈ tw_tbl := tw_t1 (List.mem_of_getElem? (i := 166) rfl) rfl
theorem wd_1_167 : Cond.static ⟨"java/lang/StringLatin1", "charAt", "([BI)C"⟩ ∈ tw_tbl := tw_t1 (List.mem_of_getElem? (i := 167) rfl) rfl
def y_Str_coder : MethodName := ⟨"java/lang/String", "coder", "()B"⟩
abbrev b_Str_coder : ByteArray := prog_35_method_152_code
abbrev cd_Str_coder : Cond := .code y_Str_coder b_Str_coder 1 (some .byte)
abbrev ws_Str_coder : List Cond := cd_Str_coder :: tw_tbl
theorem k_Str_coder : cd_Str_coder ∈ tw_tbl := tw_t1 (List.mem_of_getElem? (i := 154) rfl) rfl
theorem d_Str_coder_0 : decode b_Str_coder 0 = .ok (.getstatic 38, 3) := by decide +kernel
theorem d_Str_coder_3 : decode b_Str_coder 3 = .ok (.ifCond .eq 10, 3) := by decide +kernel
theorem d_Str_coder_6 : decode b_Str_coder 6 = .ok (.aload_n 0, 1) := by decide +kernel
theorem d_Str_coder_7 : decode b_Str_coder 7 = .ok (.getfield 15, 3) := by decide +kernel
theorem d_Str_coder_10 : decode b_Str_coder 10 = .ok (.goto 4, 3) := by decide +kernel
theorem d_Str_coder_13 : decode b_Str_coder 13 = .ok (.iconst 1, 1) := by decide +kernel
theorem d_Str_coder_14 : decode b_Str_coder 14 = .ok (.ireturn, 1) := by decide +kernel
def y_Str_isLatin1 : MethodName := ⟨"java/lang/String", "isLatin1", "()Z"⟩
abbrev b_Str_isLatin1 : ByteArray := prog_35_method_154_code
abbrev cd_Str_isLatin1 : Cond := .code y_Str_isLatin1 b_Str_isLatin1 1 (some .boolean)
abbrev ws_Str_isLatin1 : List Cond := cd_Str_isLatin1 :: tw_tbl
theorem k_Str_isLatin1 : cd_Str_isLatin1 ∈ tw_tbl := tw_t1 (List.mem_of_getElem? (i := 165) rfl) rfl
theorem d_Str_isLatin1_0 : decode b_Str_isLatin1 0 = .ok (.getstatic 38, 3) := by decide +kernel
theorem d_Str_isLatin1_3 : decode b_Str_isLatin1 3 = .ok (.ifCond .eq 14, 3) := by decide +kernel
theorem d_Str_isLatin1_6 : decode b_Str_isLatin1 6 = .ok (.aload_n 0, 1) := by decide +kernel
theorem d_Str_isLatin1_7 : decode b_Str_isLatin1 7 = .ok (.getfield 15, 3) := by decide +kernel
theorem d_Str_isLatin1_10 : decode b_Str_isLatin1 10 = .ok (.ifCond .ne 7, 3) := by decide +kernel
theorem d_Str_isLatin1_13 : decode b_Str_isLatin1 13 = .ok (.iconst 1, 1) := by decide +kernel
theorem d_Str_isLatin1_14 : decode b_Str_isLatin1 14 = .ok (.goto 4, 3) := by decide +kernel
theorem d_Str_isLatin1_17 : decode b_Str_isLatin1 17 = .ok (.iconst 0, 1) := by decide +kernel
theorem d_Str_isLatin1_18 : decode b_Str_isLatin1 18 = .ok (.ireturn, 1) := by decide +kernel
def y_Str_length : MethodName := ⟨"java/lang/String", "length", "()I"⟩
abbrev b_Str_length : ByteArray := prog_35_method_54_code
abbrev cd_Str_length : Cond := .code y_Str_length b_Str_length 1 (some .int)
abbrev ws_Str_length : List Cond := cd_Str_length :: tw_tbl
theorem k_Str_length : cd_Str_length ∈ tw_tbl := tw_t1 (List.mem_of_getElem? (i := 150) rfl) rfl
theorem d_Str_length_0 : decode b_Str_length 0 = .ok (.aload_n 0, 1) := by decide +kernel
theorem d_Str_length_1 : decode b_Str_length 1 = .ok (.getfield 9, 3) := by decide +kernel
theorem d_Str_length_4 : decode b_Str_length 4 = .ok (.arraylength, 1) := by decide +kernel
theorem d_Str_length_5 : decode b_Str_length 5 = .ok (.aload_n 0, 1) := by decide +kernel
theorem d_Str_length_6 : decode b_Str_length 6 = .ok (.invokevirtual 335, 3) := by decide +kernel
theorem d_Str_length_9 : decode b_Str_length 9 = .ok (.ishr, 1) := by decide +kernel
theorem d_Str_length_10 : decode b_Str_length 10 = .ok (.ireturn, 1) := by decide +kernel
def y_Prec_checkIndex : MethodName := ⟨"jdk/internal/util/Preconditions", "checkIndex", "(IILjava/util/function/BiFunction;)I"⟩
abbrev b_Prec_checkIndex : ByteArray := prog_52_method_11_code
abbrev cd_Prec_checkIndex : Cond := .code y_Prec_checkIndex b_Prec_checkIndex 3 (some .int)
abbrev ws_Prec_checkIndex : List Cond := cd_Prec_checkIndex :: tw_tbl
theorem k_Prec_checkIndex : cd_Prec_checkIndex ∈ tw_tbl := tw_t1 (List.mem_of_getElem? (i := 176) rfl) rfl
theorem d_Prec_checkIndex_0 : decode b_Prec_checkIndex 0 = .ok (.iload_n 0, 1) := by decide +kernel
theorem d_Prec_checkIndex_1 : decode b_Prec_checkIndex 1 = .ok (.ifCond .lt 8, 3) := by decide +kernel
theorem d_Prec_checkIndex_4 : decode b_Prec_checkIndex 4 = .ok (.iload_n 0, 1) := by decide +kernel
theorem d_Prec_checkIndex_5 : decode b_Prec_checkIndex 5 = .ok (.iload_n 1, 1) := by decide +kernel
theorem d_Prec_checkIndex_6 : decode b_Prec_checkIndex 6 = .ok (.if_icmp .lt 10, 3) := by decide +kernel
theorem d_Prec_checkIndex_9 : decode b_Prec_checkIndex 9 = .ok (.aload_n 2, 1) := by decide +kernel
theorem d_Prec_checkIndex_10 : decode b_Prec_checkIndex 10 = .ok (.iload_n 0, 1) := by decide +kernel
theorem d_Prec_checkIndex_11 : decode b_Prec_checkIndex 11 = .ok (.iload_n 1, 1) := by decide +kernel
theorem d_Prec_checkIndex_12 : decode b_Prec_checkIndex 12 = .ok (.invokestatic 95, 3) := by decide +kernel
theorem d_Prec_checkIndex_15 : decode b_Prec_checkIndex 15 = .ok (.athrow, 1) := by decide +kernel
theorem d_Prec_checkIndex_16 : decode b_Prec_checkIndex 16 = .ok (.iload_n 0, 1) := by decide +kernel
theorem d_Prec_checkIndex_17 : decode b_Prec_checkIndex 17 = .ok (.ireturn, 1) := by decide +kernel
def y_Str_checkIndex : MethodName := ⟨"java/lang/String", "checkIndex", "(II)V"⟩
abbrev b_Str_checkIndex : ByteArray := prog_35_method_155_code
abbrev cd_Str_checkIndex : Cond := .code y_Str_checkIndex b_Str_checkIndex 2 none
abbrev ws_Str_checkIndex : List Cond := cd_Str_checkIndex :: tw_tbl
theorem k_Str_checkIndex : cd_Str_checkIndex ∈ tw_tbl := tw_t1 (List.mem_of_getElem? (i := 171) rfl) rfl
theorem d_Str_checkIndex_0 : decode b_Str_checkIndex 0 = .ok (.iload_n 0, 1) := by decide +kernel
theorem d_Str_checkIndex_1 : decode b_Str_checkIndex 1 = .ok (.iload_n 1, 1) := by decide +kernel
theorem d_Str_checkIndex_2 : decode b_Str_checkIndex 2 = .ok (.getstatic 1053, 3) := by decide +kernel
theorem d_Str_checkIndex_5 : decode b_Str_checkIndex 5 = .ok (.invokestatic 1059, 3) := by decide +kernel
theorem d_Str_checkIndex_8 : decode b_Str_checkIndex 8 = .ok (.pop, 1) := by decide +kernel
theorem d_Str_checkIndex_9 : decode b_Str_checkIndex 9 = .ok (.return_, 1) := by decide +kernel
def y_Lat_charAt : MethodName := ⟨"java/lang/StringLatin1", "charAt", "([BI)C"⟩
abbrev b_Lat_charAt : ByteArray := prog_37_method_2_code
abbrev cd_Lat_charAt : Cond := .code y_Lat_charAt b_Lat_charAt 2 (some .char)
abbrev ws_Lat_charAt : List Cond := cd_Lat_charAt :: tw_tbl
theorem k_Lat_charAt : cd_Lat_charAt ∈ tw_tbl := tw_t1 (List.mem_of_getElem? (i := 168) rfl) rfl
theorem d_Lat_charAt_0 : decode b_Lat_charAt 0 = .ok (.iload_n 1, 1) := by decide +kernel
theorem d_Lat_charAt_1 : decode b_Lat_charAt 1 = .ok (.aload_n 0, 1) := by decide +kernel
theorem d_Lat_charAt_2 : decode b_Lat_charAt 2 = .ok (.arraylength, 1) := by decide +kernel
theorem d_Lat_charAt_3 : decode b_Lat_charAt 3 = .ok (.invokestatic 9, 3) := by decide +kernel
theorem d_Lat_charAt_6 : decode b_Lat_charAt 6 = .ok (.aload_n 0, 1) := by decide +kernel
theorem d_Lat_charAt_7 : decode b_Lat_charAt 7 = .ok (.iload_n 1, 1) := by decide +kernel
theorem d_Lat_charAt_8 : decode b_Lat_charAt 8 = .ok (.baload, 1) := by decide +kernel
theorem d_Lat_charAt_9 : decode b_Lat_charAt 9 = .ok (.sipush 255, 3) := by decide +kernel
theorem d_Lat_charAt_12 : decode b_Lat_charAt 12 = .ok (.iand, 1) := by decide +kernel
theorem d_Lat_charAt_13 : decode b_Lat_charAt 13 = .ok (.i2c, 1) := by decide +kernel
theorem d_Lat_charAt_14 : decode b_Lat_charAt 14 = .ok (.ireturn, 1) := by decide +kernel
def y_Str_charAt : MethodName := ⟨"java/lang/String", "charAt", "(I)C"⟩
abbrev b_Str_charAt : ByteArray := prog_35_method_56_code
abbrev cd_Str_charAt : Cond := .code y_Str_charAt b_Str_charAt 2 (some .char)
abbrev ws_Str_charAt : List Cond := cd_Str_charAt :: tw_tbl
theorem k_Str_charAt : cd_Str_charAt ∈ tw_tbl := tw_t1 (List.mem_of_getElem? (i := 161) rfl) rfl
theorem d_Str_charAt_0 : decode b_Str_charAt 0 = .ok (.aload_n 0, 1) := by decide +kernel
theorem d_Str_charAt_1 : decode b_Str_charAt 1 = .ok (.invokevirtual 492, 3) := by decide +kernel
theorem d_Str_charAt_4 : decode b_Str_charAt 4 = .ok (.ifCond .eq 12, 3) := by decide +kernel
theorem d_Str_charAt_7 : decode b_Str_charAt 7 = .ok (.aload_n 0, 1) := by decide +kernel
theorem d_Str_charAt_8 : decode b_Str_charAt 8 = .ok (.getfield 9, 3) := by decide +kernel
theorem d_Str_charAt_11 : decode b_Str_charAt 11 = .ok (.iload_n 1, 1) := by decide +kernel
theorem d_Str_charAt_12 : decode b_Str_charAt 12 = .ok (.invokestatic 495, 3) := by decide +kernel
theorem d_Str_charAt_15 : decode b_Str_charAt 15 = .ok (.ireturn, 1) := by decide +kernel
theorem d_Str_charAt_16 : decode b_Str_charAt 16 = .ok (.aload_n 0, 1) := by decide +kernel
theorem d_Str_charAt_17 : decode b_Str_charAt 17 = .ok (.getfield 9, 3) := by decide +kernel
theorem d_Str_charAt_20 : decode b_Str_charAt 20 = .ok (.iload_n 1, 1) := by decide +kernel
theorem d_Str_charAt_21 : decode b_Str_charAt 21 = .ok (.invokestatic 498, 3) := by decide +kernel
theorem d_Str_charAt_24 : decode b_Str_charAt 24 = .ok (.ireturn, 1) := by decide +kernel
set_option maxHeartbeats 4000000 in
set_option maxRecDepth 100000 in
theorem c_Str_coder (l : Launch) (dC : Nat → ClassId) (dI : Nat → Nat → Nat) (sz : Nat) (sk : Nat) : Met l y_Str_coder ws_Str_coder ({ frames := 0, cells := 0, slots := 0, locals := 0 }) (va_Pc [.ref sk] (fun U => U.heap.size = sz ∧ va_P (dC, dI) classes [] U.heap ∧ va_K (dC, dI) classes [] U ∧ va_D (fun _ => True) [] ∧ va_Z "java/lang/String" "COMPACT_STRINGS" "Z" (.int 1) (va_A [] sz) U U.heap ∧ va_OF "java/lang/String" "coder" "B" (.int 0) sk (va_A [] sz) U U.heap)) (va_Qi (fun (r : Int32) (_ : Unit) => r = 0) (fun _ t => va_P (dC, dI) classes [] t.heap ∧ va_K (dC, dI) classes [] t ∧ va_D (va_A [] sz) []) (va_A [] sz)) 0 0 (va_A [] sz) := by
  refine Met.ofW (cc := b_Str_coder) (maxL := 1) (ret := (some .byte)) (by decide) rfl ?_
  intro p e s m args below meth c s₁ B hml hv
  obtain ⟨rfl, hsz, hP, hK, hD0, hx0, hx1⟩ := hv
  have hx := B.exec
  have hb := B.bytes
  have hr := B.returns
  have hts := atoms_spec (ws := ws_Str_coder) B.pre
  have htw : ∀ w ∈ tw_tbl, w.before [.ref sk].toArray s = true := fun w h => hts w (List.mem_cons_of_mem _ h)
  have hown : s.vm.findClass R_Str = some m.cls := findClass_of_methodNamed B.named
  have hlocks := B.notSynchronized
  have hin : meth.name = "coder" := (name_of_methodNamed B.named B.method).1
  subst hsz
  have hD := hD0.self (sz := s.heap.size)
  generalize hAe : va_A [] s.heap.size = A at hD hx0 hx1 ⊢
  have hA : ∀ q : Nat, s.heap.size ≤ q → A q := fun q h => by rw [← hAe]; exact Or.inr h
  have hS : va_S A s.heap s.heap [] := va_S.rf
  have hP : va_P (dC, dI) classes [] s.heap := hP
  have hl := lv_entry ([.ref sk]) (n := 1) (Nat.le_of_ble_eq_true rfl)
  rw [lg_entry_eq]
  generalize (lg_sl ([.ref sk]) ++ List.replicate (1 - (lg_sl ([.ref sk])).length) Slot.unset).toArray = ls at hl ⊢
  have hl : lv_has ls 1 [(0, .ref sk)] := hl
  refine va_gets hx hb hx0 hS hown (htw _ wd_1_155) (fun _ h9 => h9) d_Str_coder_0 ?_
  refine lv_if_eq (tgt := 13) hx hb d_Str_coder_3 rfl (fun ht => absurd ht (by decide)) (fun _ => ?_)
  refine lv_aload_n hx hb d_Str_coder_6 rfl (lv_at hl 0 rfl) ?_
  refine vk_getf hx hb hx1 hS hown (htw _ wd_12_8) (fun _ h9 => h9) d_Str_coder_7 ?_
  refine lv_goto (tgt := 14) hx hb d_Str_coder_10 rfl ?_
  have hP9 := hP.sub (ws' := []) [] rfl
  have hD9 := hD.sub (ws' := []) [] (by decide) rfl
  have hK9 := hK.sub (tys' := []) [] rfl
  refine W.widen (k := 0) (n := 0) (by omega) (by omega) ?_
  exact W.zret (v := 0) hx hb hr (rfl) (fun t ht hW => ⟨⟨0, (), rfl, rfl, by rw [ht]; exact hP9, va_K.moved hW.alike hK9, hD9⟩, hS.F ht⟩) hS.2.2 d_Str_coder_14
set_option maxHeartbeats 4000000 in
set_option maxRecDepth 100000 in
theorem c_Str_isLatin1 (l : Launch) (dC : Nat → ClassId) (dI : Nat → Nat → Nat) (sz : Nat) (sk : Nat) : Met l y_Str_isLatin1 ws_Str_isLatin1 ({ frames := 0, cells := 0, slots := 0, locals := 0 }) (va_Pc [.ref sk] (fun U => U.heap.size = sz ∧ va_P (dC, dI) classes [] U.heap ∧ va_K (dC, dI) classes [] U ∧ va_D (fun _ => True) [] ∧ va_Z "java/lang/String" "COMPACT_STRINGS" "Z" (.int 1) (va_A [] sz) U U.heap ∧ va_OF "java/lang/String" "coder" "B" (.int 0) sk (va_A [] sz) U U.heap)) (va_Qi (fun (r : Int32) (_ : Unit) => r = 1) (fun _ t => va_P (dC, dI) classes [] t.heap ∧ va_K (dC, dI) classes [] t ∧ va_D (va_A [] sz) []) (va_A [] sz)) 0 0 (va_A [] sz) := by
  refine Met.ofW (cc := b_Str_isLatin1) (maxL := 1) (ret := (some .boolean)) (by decide) rfl ?_
  intro p e s m args below meth c s₁ B hml hv
  obtain ⟨rfl, hsz, hP, hK, hD0, hx0, hx1⟩ := hv
  have hx := B.exec
  have hb := B.bytes
  have hr := B.returns
  have hts := atoms_spec (ws := ws_Str_isLatin1) B.pre
  have htw : ∀ w ∈ tw_tbl, w.before [.ref sk].toArray s = true := fun w h => hts w (List.mem_cons_of_mem _ h)
  have hown : s.vm.findClass R_Str = some m.cls := findClass_of_methodNamed B.named
  have hlocks := B.notSynchronized
  have hin : meth.name = "isLatin1" := (name_of_methodNamed B.named B.method).1
  subst hsz
  have hD := hD0.self (sz := s.heap.size)
  generalize hAe : va_A [] s.heap.size = A at hD hx0 hx1 ⊢
  have hA : ∀ q : Nat, s.heap.size ≤ q → A q := fun q h => by rw [← hAe]; exact Or.inr h
  have hS : va_S A s.heap s.heap [] := va_S.rf
  have hP : va_P (dC, dI) classes [] s.heap := hP
  have hl := lv_entry ([.ref sk]) (n := 1) (Nat.le_of_ble_eq_true rfl)
  rw [lg_entry_eq]
  generalize (lg_sl ([.ref sk]) ++ List.replicate (1 - (lg_sl ([.ref sk])).length) Slot.unset).toArray = ls at hl ⊢
  have hl : lv_has ls 1 [(0, .ref sk)] := hl
  refine va_gets hx hb hx0 hS hown (htw _ wd_1_155) (fun _ h9 => h9) d_Str_isLatin1_0 ?_
  refine lv_if_eq (tgt := 17) hx hb d_Str_isLatin1_3 rfl (fun ht => absurd ht (by decide)) (fun _ => ?_)
  refine lv_aload_n hx hb d_Str_isLatin1_6 rfl (lv_at hl 0 rfl) ?_
  refine vk_getf hx hb hx1 hS hown (htw _ wd_12_8) (fun _ h9 => h9) d_Str_isLatin1_7 ?_
  refine lv_if_ne (tgt := 17) hx hb d_Str_isLatin1_10 rfl (fun ht => absurd ht (fun h => h rfl)) (fun _ => ?_)
  refine lv_iconst (v := 1) hx hb d_Str_isLatin1_13 (by decide) ?_
  refine lv_goto (tgt := 18) hx hb d_Str_isLatin1_14 rfl ?_
  have hP9 := hP.sub (ws' := []) [] rfl
  have hD9 := hD.sub (ws' := []) [] (by decide) rfl
  have hK9 := hK.sub (tys' := []) [] rfl
  refine W.widen (k := 0) (n := 0) (by omega) (by omega) ?_
  exact W.zret (v := 1) hx hb hr (rfl) (fun t ht hW => ⟨⟨1, (), rfl, rfl, by rw [ht]; exact hP9, va_K.moved hW.alike hK9, hD9⟩, hS.F ht⟩) hS.2.2 d_Str_isLatin1_18
set_option maxHeartbeats 4000000 in
set_option maxRecDepth 100000 in
theorem c_Str_length (l : Launch) (dC : Nat → ClassId) (dI : Nat → Nat → Nat) (sz : Nat) (sk : Nat) (sv : Nat) (n : Nat) (bf : Nat → Int32) (hn : n ≤ 65536) : Met l y_Str_length ws_Str_length ({ frames := 1, cells := 0, slots := 0, locals := 20 }) (va_Pc [.ref sk] (fun U => U.heap.size = sz ∧ va_P (dC, dI) classes [] U.heap ∧ va_K (dC, dI) classes [] U ∧ va_D (fun _ => True) [] ∧ va_Z "java/lang/String" "COMPACT_STRINGS" "Z" (.int 1) (va_A [] sz) U U.heap ∧ va_O "java/lang/String" sk (va_A [] sz) U U.heap ∧ va_OF "java/lang/String" "coder" "B" (.int 0) sk (va_A [] sz) U U.heap ∧ va_OF "java/lang/String" "value" "[B" (.ref sv) sk (va_A [] sz) U U.heap ∧ va_T .byte sv n (fun j => .int (bf j)) (va_A [] sz) U U.heap)) (va_Qi (fun (r : Int32) (_ : Unit) => r = nI n) (fun _ t => va_P (dC, dI) classes [] t.heap ∧ va_K (dC, dI) classes [] t ∧ va_D (va_A [] sz) []) (va_A [] sz)) 0 0 (va_A [] sz) := by
  refine Met.ofW (cc := b_Str_length) (maxL := 1) (ret := (some .int)) (by decide) rfl ?_
  intro p e s m args below meth c s₁ B hml hv
  obtain ⟨rfl, hsz, hP, hK, hD0, hx0, hx1, hx2, hx3, hx4⟩ := hv
  have hx := B.exec
  have hb := B.bytes
  have hr := B.returns
  have hts := atoms_spec (ws := ws_Str_length) B.pre
  have htw : ∀ w ∈ tw_tbl, w.before [.ref sk].toArray s = true := fun w h => hts w (List.mem_cons_of_mem _ h)
  have hown : s.vm.findClass R_Str = some m.cls := findClass_of_methodNamed B.named
  have hlocks := B.notSynchronized
  have hin : meth.name = "length" := (name_of_methodNamed B.named B.method).1
  subst hsz
  have hD := hD0.self (sz := s.heap.size)
  generalize hAe : va_A [] s.heap.size = A at hD hx0 hx1 hx2 hx3 hx4 ⊢
  have hA : ∀ q : Nat, s.heap.size ≤ q → A q := fun q h => by rw [← hAe]; exact Or.inr h
  have hS : va_S A s.heap s.heap [] := va_S.rf
  have hP : va_P (dC, dI) classes [] s.heap := hP
  have hl := lv_entry ([.ref sk]) (n := 1) (Nat.le_of_ble_eq_true rfl)
  rw [lg_entry_eq]
  generalize (lg_sl ([.ref sk]) ++ List.replicate (1 - (lg_sl ([.ref sk])).length) Slot.unset).toArray = ls at hl ⊢
  have hl : lv_has ls 1 [(0, .ref sk)] := hl
  refine lv_aload_n hx hb d_Str_length_0 rfl (lv_at hl 0 rfl) ?_
  refine vk_getf hx hb hx3 hS hown (htw _ wd_12_7) (fun _ h9 => h9) d_Str_length_1 ?_
  refine va_tlen (v := nI n) hx hb hx4 hS rfl d_Str_length_4 ?_
  refine lv_aload_n hx hb d_Str_length_5 rfl (lv_at hl 0 rfl) ?_
  have hc0 : 0 + 0 ≤ 0 := by omega
  have hs0 : 0 + 0 ≤ 0 := by omega
  have hPc := hP.sub (ws' := []) [] rfl
  have hDc := hD.sub (ws' := []) [] (by decide) rfl
  have hKc := hK.sub (tys' := []) [] rfl
  have hFc := va_free (wc := []) hD hS hA [] rfl
  refine va_calli (va_runV (As := []) (rest := [.int (nI n)]) ⟨hx, hb, hml, hown, htw⟩ (c_Str_coder l dC dI s.heap.size sk) (cwV 0 htw (tw_V wd_1_151 wd_1_152 wd_1_153 wd_1_8 k_Str_coder) rfl rfl rfl (by decide +kernel) ⟨Nat.le_of_ble_eq_true rfl, Nat.le_of_ble_eq_true rfl⟩) ⟨fun a U g mk q => by obtain ⟨q0, q1, qP, qK, qD, hq0, hq1⟩ := q; exact ⟨q0, q1, qP, va_K.moved (u := U) (U := U.calling g mk a) (Vm.Alike.refl U.vm) qK, qD, va_Z.moved (u := U) (U := U.calling g mk a) (Vm.Alike.refl U.vm) hq0, va_OF.moved (u := U) (U := U.calling g mk a) (Vm.Alike.refl U.vm) hq1⟩, (by obtain ⟨c9, g1, g2, g3, -⟩ := va_O.kept hx1 hS.2.1; exact ⟨c9, g1, g2, g3⟩), fun U hU hW => ⟨rfl, by rw [hU], by rw [hU]; exact hPc, va_K.moved hW.alike hKc, hDc.weaken (fun _ _ _ _ => trivial), by rw [hU]; exact va_Z.moved hW.alike ((va_Z.kept hx0 hS.2.1).narrow hFc), by rw [hU]; exact va_OF.moved hW.alike ((va_OF.kept hx2 hS.2.1).narrow hFc)⟩⟩ rfl rfl hl.1 rfl (lv_room (Nat.le_of_ble_eq_true rfl)) d_Str_length_6 ⟨hc0, hs0⟩) hS (fun q _ h => hFc q h) hFc (fun r1 u t H1 locs ht hvm hw hB hz1 hk1 hS => ?_)
  obtain ⟨hP1, hK1, hD1⟩ := hB
  rw [ht] at hP1
  have hK1 := va_K.moved hvm.symm hK1
  obtain ⟨hP, hD⟩ := va_join (wr := []) (w1 := []) hP hD [] [] rfl rfl (by decide) (by decide) hk1 hFc hP1 hD1
  have hK := (hK.sub (tys' := []) [] rfl).app hK1
  generalize H1 = H at hP hS ⊢
  have hP : va_P (dC, dI) classes [] H := hP
  have hD : va_D A [] := hD
  have hK : va_K (dC, dI) classes [] s := hK
  subst hw
  refine lv_ishr hx hb d_Str_length_9 ?_
  refine lv_topi (fun z9 e9 => ?_)
  have e9 : z9 = nI n := e9.trans (sc_shr0 (by omega))
  subst e9
  have hP9 := hP.sub (ws' := []) [] rfl
  have hD9 := hD.sub (ws' := []) [] (by decide) rfl
  have hK9 := hK.sub (tys' := []) [] rfl
  refine W.widen (k := 0) (n := 0) (by omega) (by omega) ?_
  exact W.iret (v := nI n) hx hb hr (fun t ht hW => ⟨⟨nI n, (), rfl, rfl, by rw [ht]; exact hP9, va_K.moved hW.alike hK9, hD9⟩, hS.F ht⟩) hS.2.2 d_Str_length_10
set_option maxHeartbeats 4000000 in
set_option maxRecDepth 100000 in
theorem c_Prec_checkIndex (l : Launch) (dC : Nat → ClassId) (dI : Nat → Nat → Nat) (sz : Nat) (i : Nat) (n : Nat) (fm : Nat) (hi : i < n) (hn : n ≤ 65536) : Met l y_Prec_checkIndex ws_Prec_checkIndex ({ frames := 0, cells := 0, slots := 0, locals := 0 }) (va_Pc [.int (nI i), .int (nI n), .ref fm] (fun U => U.heap.size = sz ∧ va_P (dC, dI) classes [] U.heap ∧ va_K (dC, dI) classes [] U ∧ va_D (fun _ => True) [])) (va_Qi (fun (r : Int32) (_ : Unit) => r = nI i) (fun _ t => va_P (dC, dI) classes [] t.heap ∧ va_K (dC, dI) classes [] t ∧ va_D (va_A [] sz) []) (va_A [] sz)) 0 0 (va_A [] sz) := by
  refine Met.ofW (cc := b_Prec_checkIndex) (maxL := 3) (ret := (some .int)) (by decide) rfl ?_
  intro p e s m args below meth c s₁ B hml hv
  obtain ⟨rfl, hsz, hP, hK, hD0⟩ := hv
  have hx := B.exec
  have hb := B.bytes
  have hr := B.returns
  have hts := atoms_spec (ws := ws_Prec_checkIndex) B.pre
  have htw : ∀ w ∈ tw_tbl, w.before [.int (nI i), .int (nI n), .ref fm].toArray s = true := fun w h => hts w (List.mem_cons_of_mem _ h)
  have hown : s.vm.findClass R_Prec = some m.cls := findClass_of_methodNamed B.named
  have hlocks := B.notSynchronized
  have hin : meth.name = "checkIndex" := (name_of_methodNamed B.named B.method).1
  subst hsz
  have hD := hD0.self (sz := s.heap.size)
  generalize hAe : va_A [] s.heap.size = A at hD ⊢
  have hA : ∀ q : Nat, s.heap.size ≤ q → A q := fun q h => by rw [← hAe]; exact Or.inr h
  have hS : va_S A s.heap s.heap [] := va_S.rf
  have hP : va_P (dC, dI) classes [] s.heap := hP
  have hl := lv_entry ([.int (nI i), .int (nI n), .ref fm]) (n := 3) (Nat.le_of_ble_eq_true rfl)
  rw [lg_entry_eq]
  generalize (lg_sl ([.int (nI i), .int (nI n), .ref fm]) ++ List.replicate (3 - (lg_sl ([.int (nI i), .int (nI n), .ref fm])).length) Slot.unset).toArray = ls at hl ⊢
  have hl : lv_has ls 3 [(0, .int (nI i)), (1, .int (nI n)), (2, .ref fm)] := hl
  refine lv_iload_n hx hb d_Prec_checkIndex_0 rfl (lv_at hl 0 rfl) ?_
  refine lv_if_lt (tgt := 9) hx hb d_Prec_checkIndex_1 rfl (fun ht => absurd ht (nI_pos (by omega))) (fun _ => ?_)
  refine lv_iload_n hx hb d_Prec_checkIndex_4 rfl (lv_at hl 0 rfl) ?_
  refine lv_iload_n hx hb d_Prec_checkIndex_5 rfl (lv_at hl 1 rfl) ?_
  refine lv_icmp_lt (tgt := 16) hx hb d_Prec_checkIndex_6 rfl (fun _ => ?_) (fun hn => absurd ((nI_ltI (by omega) (by omega)).mpr hi) hn)
  refine lv_iload_n hx hb d_Prec_checkIndex_16 rfl (lv_at hl 0 rfl) ?_
  have hP9 := hP.sub (ws' := []) [] rfl
  have hD9 := hD.sub (ws' := []) [] (by decide) rfl
  have hK9 := hK.sub (tys' := []) [] rfl
  refine W.widen (k := 0) (n := 0) (by omega) (by omega) ?_
  exact W.iret (v := nI i) hx hb hr (fun t ht hW => ⟨⟨nI i, (), rfl, rfl, by rw [ht]; exact hP9, va_K.moved hW.alike hK9, hD9⟩, hS.F ht⟩) hS.2.2 d_Prec_checkIndex_17
set_option maxHeartbeats 4000000 in
set_option maxRecDepth 100000 in
theorem c_Prec_checkIndex_v2 (l : Launch) (dC : Nat → ClassId) (dI : Nat → Nat → Nat) (sz : Nat) (i : Nat) (n : Nat) (hi : i < n) (hn : n ≤ 65536) : Met l y_Prec_checkIndex ws_Prec_checkIndex ({ frames := 0, cells := 0, slots := 0, locals := 0 }) (va_Pc [.int (nI i), .int (nI n), .null] (fun U => U.heap.size = sz ∧ va_P (dC, dI) classes [] U.heap ∧ va_K (dC, dI) classes [] U ∧ va_D (fun _ => True) [])) (va_Qi (fun (r : Int32) (_ : Unit) => r = nI i) (fun _ t => va_P (dC, dI) classes [] t.heap ∧ va_K (dC, dI) classes [] t ∧ va_D (va_A [] sz) []) (va_A [] sz)) 0 0 (va_A [] sz) := by
  refine Met.ofW (cc := b_Prec_checkIndex) (maxL := 3) (ret := (some .int)) (by decide) rfl ?_
  intro p e s m args below meth c s₁ B hml hv
  obtain ⟨rfl, hsz, hP, hK, hD0⟩ := hv
  have hx := B.exec
  have hb := B.bytes
  have hr := B.returns
  have hts := atoms_spec (ws := ws_Prec_checkIndex) B.pre
  have htw : ∀ w ∈ tw_tbl, w.before [.int (nI i), .int (nI n), .null].toArray s = true := fun w h => hts w (List.mem_cons_of_mem _ h)
  have hown : s.vm.findClass R_Prec = some m.cls := findClass_of_methodNamed B.named
  have hlocks := B.notSynchronized
  have hin : meth.name = "checkIndex" := (name_of_methodNamed B.named B.method).1
  subst hsz
  have hD := hD0.self (sz := s.heap.size)
  generalize hAe : va_A [] s.heap.size = A at hD ⊢
  have hA : ∀ q : Nat, s.heap.size ≤ q → A q := fun q h => by rw [← hAe]; exact Or.inr h
  have hS : va_S A s.heap s.heap [] := va_S.rf
  have hP : va_P (dC, dI) classes [] s.heap := hP
  have hl := lv_entry ([.int (nI i), .int (nI n), .null]) (n := 3) (Nat.le_of_ble_eq_true rfl)
  rw [lg_entry_eq]
  generalize (lg_sl ([.int (nI i), .int (nI n), .null]) ++ List.replicate (3 - (lg_sl ([.int (nI i), .int (nI n), .null])).length) Slot.unset).toArray = ls at hl ⊢
  have hl : lv_has ls 3 [(0, .int (nI i)), (1, .int (nI n)), (2, .null)] := hl
  refine lv_iload_n hx hb d_Prec_checkIndex_0 rfl (lv_at hl 0 rfl) ?_
  refine lv_if_lt (tgt := 9) hx hb d_Prec_checkIndex_1 rfl (fun ht => absurd ht (nI_pos (by omega))) (fun _ => ?_)
  refine lv_iload_n hx hb d_Prec_checkIndex_4 rfl (lv_at hl 0 rfl) ?_
  refine lv_iload_n hx hb d_Prec_checkIndex_5 rfl (lv_at hl 1 rfl) ?_
  refine lv_icmp_lt (tgt := 16) hx hb d_Prec_checkIndex_6 rfl (fun _ => ?_) (fun hn => absurd ((nI_ltI (by omega) (by omega)).mpr hi) hn)
  refine lv_iload_n hx hb d_Prec_checkIndex_16 rfl (lv_at hl 0 rfl) ?_
  have hP9 := hP.sub (ws' := []) [] rfl
  have hD9 := hD.sub (ws' := []) [] (by decide) rfl
  have hK9 := hK.sub (tys' := []) [] rfl
  refine W.widen (k := 0) (n := 0) (by omega) (by omega) ?_
  exact W.iret (v := nI i) hx hb hr (fun t ht hW => ⟨⟨nI i, (), rfl, rfl, by rw [ht]; exact hP9, va_K.moved hW.alike hK9, hD9⟩, hS.F ht⟩) hS.2.2 d_Prec_checkIndex_17
set_option maxHeartbeats 4000000 in
set_option maxRecDepth 100000 in
theorem c_Str_checkIndex (l : Launch) (dC : Nat → ClassId) (dI : Nat → Nat → Nat) (sz : Nat) (i : Nat) (n : Nat) (hi : i < n) (hn : n ≤ 65536) : Met l y_Str_checkIndex ws_Str_checkIndex ({ frames := 1, cells := 0, slots := 0, locals := 22 }) (va_Pc [.int (nI i), .int (nI n)] (fun U => U.heap.size = sz ∧ va_P (dC, dI) classes [] U.heap ∧ va_K (dC, dI) classes [] U ∧ va_D (fun _ => True) [] ∧ va_Zq "jdk/internal/util/Preconditions" "SIOOBE_FORMATTER" "Ljava/util/function/BiFunction;" (va_A [] sz) U U.heap)) (va_Qv (fun _ : Unit => True) (fun _ t => va_P (dC, dI) classes [] t.heap ∧ va_K (dC, dI) classes [] t ∧ va_D (va_A [] sz) []) (va_A [] sz)) 0 0 (va_A [] sz) := by
  refine Met.ofW (cc := b_Str_checkIndex) (maxL := 2) (ret := none) (by decide) rfl ?_
  intro p e s m args below meth c s₁ B hml hv
  obtain ⟨rfl, hsz, hP, hK, hD0, hx0⟩ := hv
  have hx := B.exec
  have hb := B.bytes
  have hr := B.returns
  have hts := atoms_spec (ws := ws_Str_checkIndex) B.pre
  have htw : ∀ w ∈ tw_tbl, w.before [.int (nI i), .int (nI n)].toArray s = true := fun w h => hts w (List.mem_cons_of_mem _ h)
  have hown : s.vm.findClass R_Str = some m.cls := findClass_of_methodNamed B.named
  have hlocks := B.notSynchronized
  have hin : meth.name = "checkIndex" := (name_of_methodNamed B.named B.method).1
  subst hsz
  have hD := hD0.self (sz := s.heap.size)
  generalize hAe : va_A [] s.heap.size = A at hD hx0 ⊢
  have hA : ∀ q : Nat, s.heap.size ≤ q → A q := fun q h => by rw [← hAe]; exact Or.inr h
  have hS : va_S A s.heap s.heap [] := va_S.rf
  have hP : va_P (dC, dI) classes [] s.heap := hP
  have hl := lv_entry ([.int (nI i), .int (nI n)]) (n := 2) (Nat.le_of_ble_eq_true rfl)
  rw [lg_entry_eq]
  generalize (lg_sl ([.int (nI i), .int (nI n)]) ++ List.replicate (2 - (lg_sl ([.int (nI i), .int (nI n)])).length) Slot.unset).toArray = ls at hl ⊢
  have hl : lv_has ls 2 [(0, .int (nI i)), (1, .int (nI n))] := hl
  refine lv_iload_n hx hb d_Str_checkIndex_0 rfl (lv_at hl 0 rfl) ?_
  refine lv_iload_n hx hb d_Str_checkIndex_1 rfl (lv_at hl 1 rfl) ?_
  rcases hx0 with hz | ⟨fm1, hz⟩
  · refine va_gets hx hb hz hS hown (htw _ wd_1_172) (fun _ h9 => h9) d_Str_checkIndex_2 ?_
    have hc0 : 0 + 0 ≤ 0 := by omega
    have hs0 : 0 + 0 ≤ 0 := by omega
    have hPc := hP.sub (ws' := []) [] rfl
    have hDc := hD.sub (ws' := []) [] (by decide) rfl
    have hKc := hK.sub (tys' := []) [] rfl
    have hFc := va_free (wc := []) hD hS hA [] rfl
    refine va_calli (va_runS (As := [.int (nI i), .int (nI n), .null]) (rest := []) ⟨hx, hb, hml, hown, htw⟩ (c_Prec_checkIndex_v2 l dC dI s.heap.size i n (by first | omega | assumption) (by first | omega | assumption)) ⟨callB_of 3 htw (tw_inL k_Prec_checkIndex) rfl rfl rfl (htw _ wd_1_10) (htw _ wd_1_174) (by decide +kernel) ⟨Nat.le_of_ble_eq_true rfl, Nat.le_of_ble_eq_true rfl⟩, htw _ wd_1_175⟩ ⟨fun a U g mk q => by obtain ⟨q0, q1, qP, qK, qD⟩ := q; exact ⟨q0, q1, qP, va_K.moved (u := U) (U := U.calling g mk a) (Vm.Alike.refl U.vm) qK, qD⟩, fun U hU hW => ⟨rfl, by rw [hU], by rw [hU]; exact hPc, va_K.moved hW.alike hKc, hDc.weaken (fun _ _ _ _ => trivial)⟩⟩ rfl rfl hl.1 rfl (lv_room (Nat.le_of_ble_eq_true rfl)) d_Str_checkIndex_5 ⟨hc0, hs0⟩) hS (fun q _ h => hFc q h) hFc (fun r2 u t H1 locs ht hvm hw hB hz1 hk1 hS => ?_)
    obtain ⟨hP1, hK1, hD1⟩ := hB
    rw [ht] at hP1
    have hK1 := va_K.moved hvm.symm hK1
    obtain ⟨hP, hD⟩ := va_join (wr := []) (w1 := []) hP hD [] [] rfl rfl (by decide) (by decide) hk1 hFc hP1 hD1
    have hK := (hK.sub (tys' := []) [] rfl).app hK1
    generalize H1 = H at hP hS ⊢
    have hP : va_P (dC, dI) classes [] H := hP
    have hD : va_D A [] := hD
    have hK : va_K (dC, dI) classes [] s := hK
    subst hw
    refine lv_pop hx hb d_Str_checkIndex_8 rfl ?_
    have hP9 := hP.sub (ws' := []) [] rfl
    have hD9 := hD.sub (ws' := []) [] (by decide) rfl
    have hK9 := hK.sub (tys' := []) [] rfl
    refine W.widen (k := 0) (n := 0) (by omega) (by omega) ?_
    exact W.vret hx hb hr (fun t ht hW => ⟨⟨(), rfl, trivial, by rw [ht]; exact hP9, va_K.moved hW.alike hK9, hD9⟩, hS.F ht⟩) hS.2.2 d_Str_checkIndex_9
  · refine va_gets hx hb hz hS hown (htw _ wd_1_172) (fun _ h9 => h9) d_Str_checkIndex_2 ?_
    have hc0 : 0 + 0 ≤ 0 := by omega
    have hs0 : 0 + 0 ≤ 0 := by omega
    have hPc := hP.sub (ws' := []) [] rfl
    have hDc := hD.sub (ws' := []) [] (by decide) rfl
    have hKc := hK.sub (tys' := []) [] rfl
    have hFc := va_free (wc := []) hD hS hA [] rfl
    refine va_calli (va_runS (As := [.int (nI i), .int (nI n), .ref fm1]) (rest := []) ⟨hx, hb, hml, hown, htw⟩ (c_Prec_checkIndex l dC dI s.heap.size i n fm1 (by first | omega | assumption) (by first | omega | assumption)) ⟨callB_of 3 htw (tw_inL k_Prec_checkIndex) rfl rfl rfl (htw _ wd_1_10) (htw _ wd_1_174) (by decide +kernel) ⟨Nat.le_of_ble_eq_true rfl, Nat.le_of_ble_eq_true rfl⟩, htw _ wd_1_175⟩ ⟨fun a U g mk q => by obtain ⟨q0, q1, qP, qK, qD⟩ := q; exact ⟨q0, q1, qP, va_K.moved (u := U) (U := U.calling g mk a) (Vm.Alike.refl U.vm) qK, qD⟩, fun U hU hW => ⟨rfl, by rw [hU], by rw [hU]; exact hPc, va_K.moved hW.alike hKc, hDc.weaken (fun _ _ _ _ => trivial)⟩⟩ rfl rfl hl.1 rfl (lv_room (Nat.le_of_ble_eq_true rfl)) d_Str_checkIndex_5 ⟨hc0, hs0⟩) hS (fun q _ h => hFc q h) hFc (fun r3 u t H1 locs ht hvm hw hB hz1 hk1 hS => ?_)
    obtain ⟨hP1, hK1, hD1⟩ := hB
    rw [ht] at hP1
    have hK1 := va_K.moved hvm.symm hK1
    obtain ⟨hP, hD⟩ := va_join (wr := []) (w1 := []) hP hD [] [] rfl rfl (by decide) (by decide) hk1 hFc hP1 hD1
    have hK := (hK.sub (tys' := []) [] rfl).app hK1
    generalize H1 = H at hP hS ⊢
    have hP : va_P (dC, dI) classes [] H := hP
    have hD : va_D A [] := hD
    have hK : va_K (dC, dI) classes [] s := hK
    subst hw
    refine lv_pop hx hb d_Str_checkIndex_8 rfl ?_
    have hP9 := hP.sub (ws' := []) [] rfl
    have hD9 := hD.sub (ws' := []) [] (by decide) rfl
    have hK9 := hK.sub (tys' := []) [] rfl
    refine W.widen (k := 0) (n := 0) (by omega) (by omega) ?_
    exact W.vret hx hb hr (fun t ht hW => ⟨⟨(), rfl, trivial, by rw [ht]; exact hP9, va_K.moved hW.alike hK9, hD9⟩, hS.F ht⟩) hS.2.2 d_Str_checkIndex_9
set_option maxHeartbeats 4000000 in
set_option maxRecDepth 100000 in
theorem c_Lat_charAt (l : Launch) (dC : Nat → ClassId) (dI : Nat → Nat → Nat) (sz : Nat) (sv : Nat) (n : Nat) (bf : Nat → Int32) (i : Nat) (hi : i < n) (hn : n ≤ 65536) : Met l y_Lat_charAt ws_Lat_charAt ({ frames := 2, cells := 0, slots := 0, locals := 43 }) (va_Pc [.ref sv, .int (nI i)] (fun U => U.heap.size = sz ∧ va_P (dC, dI) classes [] U.heap ∧ va_K (dC, dI) classes [] U ∧ va_D (fun _ => True) [] ∧ va_T .byte sv n (fun j => .int (bf j)) (va_A [] sz) U U.heap ∧ va_Zq "jdk/internal/util/Preconditions" "SIOOBE_FORMATTER" "Ljava/util/function/BiFunction;" (va_A [] sz) U U.heap)) (va_Qi (fun (r : Int32) (_ : Unit) => r = (((bf (nI i).toNatClampNeg) &&& 255 : Int32).toUInt32 % 65536).toInt32) (fun _ t => va_P (dC, dI) classes [] t.heap ∧ va_K (dC, dI) classes [] t ∧ va_D (va_A [] sz) []) (va_A [] sz)) 0 0 (va_A [] sz) := by
  refine Met.ofW (cc := b_Lat_charAt) (maxL := 2) (ret := (some .char)) (by decide) rfl ?_
  intro p e s m args below meth c s₁ B hml hv
  obtain ⟨rfl, hsz, hP, hK, hD0, hx0, hx1⟩ := hv
  have hx := B.exec
  have hb := B.bytes
  have hr := B.returns
  have hts := atoms_spec (ws := ws_Lat_charAt) B.pre
  have htw : ∀ w ∈ tw_tbl, w.before [.ref sv, .int (nI i)].toArray s = true := fun w h => hts w (List.mem_cons_of_mem _ h)
  have hown : s.vm.findClass R_Lat = some m.cls := findClass_of_methodNamed B.named
  have hlocks := B.notSynchronized
  have hin : meth.name = "charAt" := (name_of_methodNamed B.named B.method).1
  subst hsz
  have hD := hD0.self (sz := s.heap.size)
  generalize hAe : va_A [] s.heap.size = A at hD hx0 hx1 ⊢
  have hA : ∀ q : Nat, s.heap.size ≤ q → A q := fun q h => by rw [← hAe]; exact Or.inr h
  have hS : va_S A s.heap s.heap [] := va_S.rf
  have hP : va_P (dC, dI) classes [] s.heap := hP
  have hl := lv_entry ([.ref sv, .int (nI i)]) (n := 2) (Nat.le_of_ble_eq_true rfl)
  rw [lg_entry_eq]
  generalize (lg_sl ([.ref sv, .int (nI i)]) ++ List.replicate (2 - (lg_sl ([.ref sv, .int (nI i)])).length) Slot.unset).toArray = ls at hl ⊢
  have hl : lv_has ls 2 [(0, .ref sv), (1, .int (nI i))] := hl
  refine lv_iload_n hx hb d_Lat_charAt_0 rfl (lv_at hl 1 rfl) ?_
  refine lv_aload_n hx hb d_Lat_charAt_1 rfl (lv_at hl 0 rfl) ?_
  refine va_tlen (v := nI n) hx hb hx0 hS rfl d_Lat_charAt_2 ?_
  have hc0 : 0 + 0 ≤ 0 := by omega
  have hs0 : 0 + 0 ≤ 0 := by omega
  have hPc := hP.sub (ws' := []) [] rfl
  have hDc := hD.sub (ws' := []) [] (by decide) rfl
  have hKc := hK.sub (tys' := []) [] rfl
  have hFc := va_free (wc := []) hD hS hA [] rfl
  refine va_callv (va_runS (As := [.int (nI i), .int (nI n)]) (rest := []) ⟨hx, hb, hml, hown, htw⟩ (c_Str_checkIndex l dC dI s.heap.size i n (by first | omega | assumption) (by first | omega | assumption)) ⟨callB_of 2 htw (tw_inL k_Str_checkIndex) rfl rfl rfl (htw _ wd_1_8) (htw _ wd_1_169) (by decide +kernel) ⟨Nat.le_of_ble_eq_true rfl, Nat.le_of_ble_eq_true rfl⟩, htw _ wd_1_170⟩ ⟨fun a U g mk q => by obtain ⟨q0, q1, qP, qK, qD, hq0⟩ := q; exact ⟨q0, q1, qP, va_K.moved (u := U) (U := U.calling g mk a) (Vm.Alike.refl U.vm) qK, qD, va_Zq.moved (u := U) (U := U.calling g mk a) (Vm.Alike.refl U.vm) hq0⟩, fun U hU hW => ⟨rfl, by rw [hU], by rw [hU]; exact hPc, va_K.moved hW.alike hKc, hDc.weaken (fun _ _ _ _ => trivial), by rw [hU]; exact va_Zq.moved hW.alike ((va_Zq.kept hx1 hS.2.1).narrow hFc)⟩⟩ rfl rfl hl.1 rfl (lv_room (Nat.le_of_ble_eq_true rfl)) d_Lat_charAt_3 ⟨hc0, hs0⟩) hS (fun q _ h => hFc q h) hFc (fun u t H1 locs ht hvm hw hB hz1 hk1 hS => ?_)
  obtain ⟨hP1, hK1, hD1⟩ := hB
  rw [ht] at hP1
  have hK1 := va_K.moved hvm.symm hK1
  obtain ⟨hP, hD⟩ := va_join (wr := []) (w1 := []) hP hD [] [] rfl rfl (by decide) (by decide) hk1 hFc hP1 hD1
  have hK := (hK.sub (tys' := []) [] rfl).app hK1
  generalize H1 = H at hP hS ⊢
  have hP : va_P (dC, dI) classes [] H := hP
  have hD : va_D A [] := hD
  have hK : va_K (dC, dI) classes [] s := hK
  refine lv_aload_n hx hb d_Lat_charAt_6 rfl (lv_at hl 0 rfl) ?_
  refine lv_iload_n hx hb d_Lat_charAt_7 rfl (lv_at hl 1 rfl) ?_
  refine va_tb hx hb hx0 hS (vp_in_nI hi (by omega)) rfl d_Lat_charAt_8 ?_
  refine lv_sipush (v := 255) hx hb d_Lat_charAt_9 (by decide) ?_
  refine lv_iand hx hb d_Lat_charAt_12 ?_
  refine lv_i2c hx hb d_Lat_charAt_13 rfl ?_
  have hP9 := hP.sub (ws' := []) [] rfl
  have hD9 := hD.sub (ws' := []) [] (by decide) rfl
  have hK9 := hK.sub (tys' := []) [] rfl
  refine W.widen (k := 0) (n := 0) (by omega) (by omega) ?_
  exact W.zret (v := ((((bf (nI i).toNatClampNeg) &&& 255) : Int32).toUInt32 % 65536).toInt32) hx hb hr (pk_nc _) (fun t ht hW => ⟨⟨((((bf (nI i).toNatClampNeg) &&& 255) : Int32).toUInt32 % 65536).toInt32, (), rfl, rfl, by rw [ht]; exact hP9, va_K.moved hW.alike hK9, hD9⟩, hS.F ht⟩) hS.2.2 d_Lat_charAt_14
set_option maxHeartbeats 4000000 in
set_option maxRecDepth 100000 in
theorem c_Str_charAt (l : Launch) (dC : Nat → ClassId) (dI : Nat → Nat → Nat) (sz : Nat) (sk : Nat) (sv : Nat) (n : Nat) (bf : Nat → Int32) (i : Nat) (hi : i < n) (hn : n ≤ 65536) : Met l y_Str_charAt ws_Str_charAt ({ frames := 3, cells := 0, slots := 0, locals := 64 }) (va_Pc [.ref sk, .int (nI i)] (fun U => U.heap.size = sz ∧ va_P (dC, dI) classes [] U.heap ∧ va_K (dC, dI) classes [] U ∧ va_D (fun _ => True) [] ∧ va_Z "java/lang/String" "COMPACT_STRINGS" "Z" (.int 1) (va_A [] sz) U U.heap ∧ va_O "java/lang/String" sk (va_A [] sz) U U.heap ∧ va_OF "java/lang/String" "coder" "B" (.int 0) sk (va_A [] sz) U U.heap ∧ va_OF "java/lang/String" "value" "[B" (.ref sv) sk (va_A [] sz) U U.heap ∧ va_T .byte sv n (fun j => .int (bf j)) (va_A [] sz) U U.heap ∧ va_Zq "jdk/internal/util/Preconditions" "SIOOBE_FORMATTER" "Ljava/util/function/BiFunction;" (va_A [] sz) U U.heap)) (va_Qi (fun (r : Int32) (_ : Unit) => r = (((bf (nI i).toNatClampNeg) &&& 255 : Int32).toUInt32 % 65536).toInt32) (fun _ t => va_P (dC, dI) classes [] t.heap ∧ va_K (dC, dI) classes [] t ∧ va_D (va_A [] sz) []) (va_A [] sz)) 0 0 (va_A [] sz) := by
  refine Met.ofW (cc := b_Str_charAt) (maxL := 2) (ret := (some .char)) (by decide) rfl ?_
  intro p e s m args below meth c s₁ B hml hv
  obtain ⟨rfl, hsz, hP, hK, hD0, hx0, hx1, hx2, hx3, hx4, hx5⟩ := hv
  have hx := B.exec
  have hb := B.bytes
  have hr := B.returns
  have hts := atoms_spec (ws := ws_Str_charAt) B.pre
  have htw : ∀ w ∈ tw_tbl, w.before [.ref sk, .int (nI i)].toArray s = true := fun w h => hts w (List.mem_cons_of_mem _ h)
  have hown : s.vm.findClass R_Str = some m.cls := findClass_of_methodNamed B.named
  have hlocks := B.notSynchronized
  have hin : meth.name = "charAt" := (name_of_methodNamed B.named B.method).1
  subst hsz
  have hD := hD0.self (sz := s.heap.size)
  generalize hAe : va_A [] s.heap.size = A at hD hx0 hx1 hx2 hx3 hx4 hx5 ⊢
  have hA : ∀ q : Nat, s.heap.size ≤ q → A q := fun q h => by rw [← hAe]; exact Or.inr h
  have hS : va_S A s.heap s.heap [] := va_S.rf
  have hP : va_P (dC, dI) classes [] s.heap := hP
  have hl := lv_entry ([.ref sk, .int (nI i)]) (n := 2) (Nat.le_of_ble_eq_true rfl)
  rw [lg_entry_eq]
  generalize (lg_sl ([.ref sk, .int (nI i)]) ++ List.replicate (2 - (lg_sl ([.ref sk, .int (nI i)])).length) Slot.unset).toArray = ls at hl ⊢
  have hl : lv_has ls 2 [(0, .ref sk), (1, .int (nI i))] := hl
  refine lv_aload_n hx hb d_Str_charAt_0 rfl (lv_at hl 0 rfl) ?_
  have hc0 : 0 + 0 ≤ 0 := by omega
  have hs0 : 0 + 0 ≤ 0 := by omega
  have hPc := hP.sub (ws' := []) [] rfl
  have hDc := hD.sub (ws' := []) [] (by decide) rfl
  have hKc := hK.sub (tys' := []) [] rfl
  have hFc := va_free (wc := []) hD hS hA [] rfl
  refine va_calli (va_runV (As := []) (rest := []) ⟨hx, hb, hml, hown, htw⟩ (c_Str_isLatin1 l dC dI s.heap.size sk) (cwV 0 htw (tw_V wd_1_162 wd_1_163 wd_1_164 wd_1_8 k_Str_isLatin1) rfl rfl rfl (by decide +kernel) ⟨Nat.le_of_ble_eq_true rfl, Nat.le_of_ble_eq_true rfl⟩) ⟨fun a U g mk q => by obtain ⟨q0, q1, qP, qK, qD, hq0, hq1⟩ := q; exact ⟨q0, q1, qP, va_K.moved (u := U) (U := U.calling g mk a) (Vm.Alike.refl U.vm) qK, qD, va_Z.moved (u := U) (U := U.calling g mk a) (Vm.Alike.refl U.vm) hq0, va_OF.moved (u := U) (U := U.calling g mk a) (Vm.Alike.refl U.vm) hq1⟩, (by obtain ⟨c9, g1, g2, g3, -⟩ := va_O.kept hx1 hS.2.1; exact ⟨c9, g1, g2, g3⟩), fun U hU hW => ⟨rfl, by rw [hU], by rw [hU]; exact hPc, va_K.moved hW.alike hKc, hDc.weaken (fun _ _ _ _ => trivial), by rw [hU]; exact va_Z.moved hW.alike ((va_Z.kept hx0 hS.2.1).narrow hFc), by rw [hU]; exact va_OF.moved hW.alike ((va_OF.kept hx2 hS.2.1).narrow hFc)⟩⟩ rfl rfl hl.1 rfl (lv_room (Nat.le_of_ble_eq_true rfl)) d_Str_charAt_1 ⟨hc0, hs0⟩) hS (fun q _ h => hFc q h) hFc (fun r1 u t H1 locs ht hvm hw hB hz1 hk1 hS => ?_)
  obtain ⟨hP1, hK1, hD1⟩ := hB
  rw [ht] at hP1
  have hK1 := va_K.moved hvm.symm hK1
  obtain ⟨hP, hD⟩ := va_join (wr := []) (w1 := []) hP hD [] [] rfl rfl (by decide) (by decide) hk1 hFc hP1 hD1
  have hK := (hK.sub (tys' := []) [] rfl).app hK1
  generalize H1 = H at hP hS ⊢
  have hP : va_P (dC, dI) classes [] H := hP
  have hD : va_D A [] := hD
  have hK : va_K (dC, dI) classes [] s := hK
  subst hw
  refine lv_if_eq (tgt := 16) hx hb d_Str_charAt_4 rfl (fun ht => absurd ht (by decide)) (fun _ => ?_)
  refine lv_aload_n hx hb d_Str_charAt_7 rfl (lv_at hl 0 rfl) ?_
  refine vk_getf hx hb hx3 hS hown (htw _ wd_12_7) (fun _ h9 => h9) d_Str_charAt_8 ?_
  refine lv_iload_n hx hb d_Str_charAt_11 rfl (lv_at hl 1 rfl) ?_
  have hc0 : 0 + 0 ≤ 0 := by omega
  have hs0 : 0 + 0 ≤ 0 := by omega
  have hPc := hP.sub (ws' := []) [] rfl
  have hDc := hD.sub (ws' := []) [] (by decide) rfl
  have hKc := hK.sub (tys' := []) [] rfl
  have hFc := va_free (wc := []) hD hS hA [] rfl
  refine va_calli (va_runS (As := [.ref sv, .int (nI i)]) (rest := []) ⟨hx, hb, hml, hown, htw⟩ (c_Lat_charAt l dC dI H.size sv n bf i (by first | omega | assumption) (by first | omega | assumption)) ⟨callB_of 2 htw (tw_inL k_Lat_charAt) rfl rfl rfl (htw _ wd_1_9) (htw _ wd_1_166) (by decide +kernel) ⟨Nat.le_of_ble_eq_true rfl, Nat.le_of_ble_eq_true rfl⟩, htw _ wd_1_167⟩ ⟨fun a U g mk q => by obtain ⟨q0, q1, qP, qK, qD, hq0, hq1⟩ := q; exact ⟨q0, q1, qP, va_K.moved (u := U) (U := U.calling g mk a) (Vm.Alike.refl U.vm) qK, qD, va_T.moved (u := U) (U := U.calling g mk a) (Vm.Alike.refl U.vm) hq0, va_Zq.moved (u := U) (U := U.calling g mk a) (Vm.Alike.refl U.vm) hq1⟩, fun U hU hW => ⟨rfl, by rw [hU], by rw [hU]; exact hPc, va_K.moved hW.alike hKc, hDc.weaken (fun _ _ _ _ => trivial), by rw [hU]; exact va_T.moved hW.alike ((va_T.kept hx4 hS.2.1).narrow hFc), by rw [hU]; exact va_Zq.moved hW.alike ((va_Zq.kept hx5 hS.2.1).narrow hFc)⟩⟩ rfl rfl hl.1 rfl (lv_room (Nat.le_of_ble_eq_true rfl)) d_Str_charAt_12 ⟨hc0, hs0⟩) hS (fun q _ h => hFc q h) hFc (fun r2 u t H1 locs ht hvm hw hB hz1 hk1 hS => ?_)
  obtain ⟨hP1, hK1, hD1⟩ := hB
  rw [ht] at hP1
  have hK1 := va_K.moved hvm.symm hK1
  obtain ⟨hP, hD⟩ := va_join (wr := []) (w1 := []) hP hD [] [] rfl rfl (by decide) (by decide) hk1 hFc hP1 hD1
  have hK := (hK.sub (tys' := []) [] rfl).app hK1
  generalize H1 = H at hP hS ⊢
  have hP : va_P (dC, dI) classes [] H := hP
  have hD : va_D A [] := hD
  have hK : va_K (dC, dI) classes [] s := hK
  subst hw
  have hP9 := hP.sub (ws' := []) [] rfl
  have hD9 := hD.sub (ws' := []) [] (by decide) rfl
  have hK9 := hK.sub (tys' := []) [] rfl
  refine W.widen (k := 0) (n := 0) (by omega) (by omega) ?_
  exact W.zret (v := (((bf (nI i).toNatClampNeg) &&& 255 : Int32).toUInt32 % 65536).toInt32) hx hb hr (pk_nc _) (fun t ht hW => ⟨⟨(((bf (nI i).toNatClampNeg) &&& 255 : Int32).toUInt32 % 65536).toInt32, (), rfl, rfl, by rw [ht]; exact hP9, va_K.moved hW.alike hK9, hD9⟩, hS.F ht⟩) hS.2.2 d_Str_charAt_15
end
section
/-! by program (wip/p1) -/
theorem wd_1_86 : Cond.methodLink "SyntaxForge$Schema" 1 ⟨"java/lang/Object", "<init>", "()V"⟩ ∈ tw_tbl := tw_t1 (List.mem_of_getElem? (i := 86) rfl) rfl
theorem wd_1_87 : Cond.classLink "SyntaxForge$Schema" 7 "java/util/ArrayList" ∈ tw_tbl := tw_t1 (List.mem_of_getElem? (i := 87) rfl) rfl
theorem wd_1_89 : Cond.methodLink "SyntaxForge$Schema" 9 ⟨"java/util/ArrayList", "<init>", "()V"⟩ ∈ tw_tbl := tw_t1 (List.mem_of_getElem? (i := 89) rfl) rfl
theorem wd_1_113 : Cond.classLink "SyntaxForge$Schema" 16 "SyntaxForge$Values" ∈ tw_tbl := tw_t1 (List.mem_of_getElem? (i := 113) rfl) rfl
theorem wd_1_114 : Cond.instantiable "SyntaxForge$Values" 3 ∈ tw_tbl := tw_t1 (List.mem_of_getElem? (i := 114) rfl) rfl
theorem wd_1_115 : Cond.methodLink "SyntaxForge$Schema" 18 ⟨"SyntaxForge$Values", "<init>", "()V"⟩ ∈ tw_tbl := tw_t1 (List.mem_of_getElem? (i := 115) rfl) rfl
theorem wd_1_116 : Cond.instanceMethod ⟨"SyntaxForge$Values", "<init>", "()V"⟩ ∈ tw_tbl := tw_t1 (List.mem_of_getElem? (i := 116) rfl) rfl
theorem wd_2_28 : Cond.fieldLink "SyntaxForge$Schema" 29 "SyntaxForge$Schema" "path" "Ljava/util/ArrayList;" ∈ tw_tbl := tw_t2 (List.mem_of_getElem? (i := 28) rfl) rfl
theorem wd_1_145 : Cond.classLink "SyntaxForge$Schema" 32 "SyntaxForge$Bytes" ∈ tw_tbl := tw_t1 (List.mem_of_getElem? (i := 145) rfl) rfl
theorem wd_1_147 : Cond.methodLink "SyntaxForge$Schema" 38 ⟨"java/lang/String", "length", "()I"⟩ ∈ tw_tbl := tw_t1 (List.mem_of_getElem? (i := 147) rfl) rfl
theorem wd_1_148 : Cond.instanceMethod ⟨"java/lang/String", "length", "()I"⟩ ∈ tw_tbl := tw_t1 (List.mem_of_getElem? (i := 148) rfl) rfl
theorem wd_1_149 : Cond.selects "java/lang/String" ⟨"java/lang/String", "length", "()I"⟩ ⟨"java/lang/String", "length", "()I"⟩ ∈ tw_tbl := tw_t1 (List.mem_of_getElem? (i := 149) rfl) rfl
theorem wd_1_157 : Cond.methodLink "SyntaxForge$Schema" 44 ⟨"SyntaxForge$Bytes", "<init>", "(I)V"⟩ ∈ tw_tbl := tw_t1 (List.mem_of_getElem? (i := 157) rfl) rfl
theorem wd_2_37 : Cond.fieldLink "SyntaxForge$Schema" 77 "SyntaxForge$Schema" "steps" "[I" ∈ tw_tbl := tw_t2 (List.mem_of_getElem? (i := 37) rfl) rfl
theorem wd_2_38 : Cond.fieldLink "SyntaxForge$Schema" 80 "SyntaxForge$Schema" "keys" "[J" ∈ tw_tbl := tw_t2 (List.mem_of_getElem? (i := 38) rfl) rfl
theorem wd_2_39 : Cond.fieldLink "SyntaxForge$Schema" 84 "SyntaxForge$Schema" "stamps" "[I" ∈ tw_tbl := tw_t2 (List.mem_of_getElem? (i := 39) rfl) rfl
theorem wd_1_216 : Cond.methodLink "SyntaxForge$Schema" 87 ⟨"SyntaxForge$Schema", "clear", "()V"⟩ ∈ tw_tbl := tw_t1 (List.mem_of_getElem? (i := 216) rfl) rfl
theorem wd_1_217 : Cond.instanceMethod ⟨"SyntaxForge$Schema", "clear", "()V"⟩ ∈ tw_tbl := tw_t1 (List.mem_of_getElem? (i := 217) rfl) rfl
theorem wd_1_218 : Cond.selects "SyntaxForge$Schema" ⟨"SyntaxForge$Schema", "clear", "()V"⟩ ⟨"SyntaxForge$Schema", "clear", "()V"⟩ ∈ tw_tbl := tw_t1 (List.mem_of_getElem? (i := 218) rfl) rfl
theorem wd_1_158 : Cond.methodLink "SyntaxForge$Schema" 51 ⟨"java/lang/String", "charAt", "(I)C"⟩ ∈ tw_tbl := tw_t1 (List.mem_of_getElem? (i := 158) rfl) rfl
theorem wd_1_159 : Cond.instanceMethod ⟨"java/lang/String", "charAt", "(I)C"⟩ ∈ tw_tbl := tw_t1 (List.mem_of_getElem? (i := 159) rfl) rfl
theorem wd_1_160 : Cond.selects "java/lang/String" ⟨"java/lang/String", "charAt", "(I)C"⟩ ⟨"java/lang/String", "charAt", "(I)C"⟩ ∈ tw_tbl := tw_t1 (List.mem_of_getElem? (i := 160) rfl) rfl
def y_Schema_init : MethodName := ⟨"SyntaxForge$Schema", "<init>", "()V"⟩
abbrev b_Schema_init : ByteArray := prog_10_method_1_code
abbrev cd_Schema_init : Cond := .code y_Schema_init b_Schema_init 2 none
abbrev ws_Schema_init : List Cond := cd_Schema_init :: tw_tbl
theorem k_Schema_init : cd_Schema_init ∈ tw_tbl := tw_t1 (List.mem_of_getElem? (i := 85) rfl) rfl
theorem d_Schema_init_0 : decode b_Schema_init 0 = .ok (.aload_n 0, 1) := by decide +kernel
theorem d_Schema_init_1 : decode b_Schema_init 1 = .ok (.invokespecial 1, 3) := by decide +kernel
theorem d_Schema_init_4 : decode b_Schema_init 4 = .ok (.aload_n 0, 1) := by decide +kernel
theorem d_Schema_init_5 : decode b_Schema_init 5 = .ok (.new 7, 3) := by decide +kernel
theorem d_Schema_init_8 : decode b_Schema_init 8 = .ok (.dup, 1) := by decide +kernel
theorem d_Schema_init_9 : decode b_Schema_init 9 = .ok (.invokespecial 9, 3) := by decide +kernel
theorem d_Schema_init_12 : decode b_Schema_init 12 = .ok (.putfield 10, 3) := by decide +kernel
theorem d_Schema_init_15 : decode b_Schema_init 15 = .ok (.aload_n 0, 1) := by decide +kernel
theorem d_Schema_init_16 : decode b_Schema_init 16 = .ok (.new 16, 3) := by decide +kernel
theorem d_Schema_init_19 : decode b_Schema_init 19 = .ok (.dup, 1) := by decide +kernel
theorem d_Schema_init_20 : decode b_Schema_init 20 = .ok (.invokespecial 18, 3) := by decide +kernel
theorem d_Schema_init_23 : decode b_Schema_init 23 = .ok (.putfield 19, 3) := by decide +kernel
theorem d_Schema_init_26 : decode b_Schema_init 26 = .ok (.aload_n 0, 1) := by decide +kernel
theorem d_Schema_init_27 : decode b_Schema_init 27 = .ok (.new 7, 3) := by decide +kernel
theorem d_Schema_init_30 : decode b_Schema_init 30 = .ok (.dup, 1) := by decide +kernel
theorem d_Schema_init_31 : decode b_Schema_init 31 = .ok (.invokespecial 9, 3) := by decide +kernel
theorem d_Schema_init_34 : decode b_Schema_init 34 = .ok (.putfield 23, 3) := by decide +kernel
theorem d_Schema_init_37 : decode b_Schema_init 37 = .ok (.aload_n 0, 1) := by decide +kernel
theorem d_Schema_init_38 : decode b_Schema_init 38 = .ok (.new 7, 3) := by decide +kernel
theorem d_Schema_init_41 : decode b_Schema_init 41 = .ok (.dup, 1) := by decide +kernel
theorem d_Schema_init_42 : decode b_Schema_init 42 = .ok (.invokespecial 9, 3) := by decide +kernel
theorem d_Schema_init_45 : decode b_Schema_init 45 = .ok (.putfield 26, 3) := by decide +kernel
theorem d_Schema_init_48 : decode b_Schema_init 48 = .ok (.aload_n 0, 1) := by decide +kernel
theorem d_Schema_init_49 : decode b_Schema_init 49 = .ok (.new 7, 3) := by decide +kernel
theorem d_Schema_init_52 : decode b_Schema_init 52 = .ok (.dup, 1) := by decide +kernel
theorem d_Schema_init_53 : decode b_Schema_init 53 = .ok (.invokespecial 9, 3) := by decide +kernel
theorem d_Schema_init_56 : decode b_Schema_init 56 = .ok (.putfield 29, 3) := by decide +kernel
theorem d_Schema_init_59 : decode b_Schema_init 59 = .ok (.aload_n 0, 1) := by decide +kernel
theorem d_Schema_init_60 : decode b_Schema_init 60 = .ok (.new 32, 3) := by decide +kernel
theorem d_Schema_init_63 : decode b_Schema_init 63 = .ok (.dup, 1) := by decide +kernel
theorem d_Schema_init_64 : decode b_Schema_init 64 = .ok (.ldc 36, 2) := by decide +kernel
theorem d_Schema_init_66 : decode b_Schema_init 66 = .ok (.invokevirtual 38, 3) := by decide +kernel
theorem d_Schema_init_69 : decode b_Schema_init 69 = .ok (.invokespecial 44, 3) := by decide +kernel
theorem d_Schema_init_72 : decode b_Schema_init 72 = .ok (.putfield 47, 3) := by decide +kernel
theorem d_Schema_init_75 : decode b_Schema_init 75 = .ok (.iconst 0, 1) := by decide +kernel
theorem d_Schema_init_76 : decode b_Schema_init 76 = .ok (.istore_n 1, 1) := by decide +kernel
theorem d_Schema_init_77 : decode b_Schema_init 77 = .ok (.iload_n 1, 1) := by decide +kernel
theorem d_Schema_init_78 : decode b_Schema_init 78 = .ok (.ldc 36, 2) := by decide +kernel
theorem d_Schema_init_80 : decode b_Schema_init 80 = .ok (.invokevirtual 38, 3) := by decide +kernel
theorem d_Schema_init_83 : decode b_Schema_init 83 = .ok (.if_icmp .ge 22, 3) := by decide +kernel
theorem d_Schema_init_86 : decode b_Schema_init 86 = .ok (.aload_n 0, 1) := by decide +kernel
theorem d_Schema_init_87 : decode b_Schema_init 87 = .ok (.getfield 47, 3) := by decide +kernel
theorem d_Schema_init_90 : decode b_Schema_init 90 = .ok (.ldc 36, 2) := by decide +kernel
theorem d_Schema_init_92 : decode b_Schema_init 92 = .ok (.iload_n 1, 1) := by decide +kernel
theorem d_Schema_init_93 : decode b_Schema_init 93 = .ok (.invokevirtual 51, 3) := by decide +kernel
theorem d_Schema_init_96 : decode b_Schema_init 96 = .ok (.invokevirtual 55, 3) := by decide +kernel
theorem d_Schema_init_99 : decode b_Schema_init 99 = .ok (.iinc 1 1, 3) := by decide +kernel
theorem d_Schema_init_102 : decode b_Schema_init 102 = .ok (.goto (-25), 3) := by decide +kernel
theorem d_Schema_init_105 : decode b_Schema_init 105 = .ok (.aload_n 0, 1) := by decide +kernel
theorem d_Schema_init_106 : decode b_Schema_init 106 = .ok (.new 32, 3) := by decide +kernel
theorem d_Schema_init_109 : decode b_Schema_init 109 = .ok (.dup, 1) := by decide +kernel
theorem d_Schema_init_110 : decode b_Schema_init 110 = .ok (.sipush 512, 3) := by decide +kernel
theorem d_Schema_init_113 : decode b_Schema_init 113 = .ok (.invokespecial 44, 3) := by decide +kernel
theorem d_Schema_init_116 : decode b_Schema_init 116 = .ok (.putfield 58, 3) := by decide +kernel
theorem d_Schema_init_119 : decode b_Schema_init 119 = .ok (.aload_n 0, 1) := by decide +kernel
theorem d_Schema_init_120 : decode b_Schema_init 120 = .ok (.sipush 256, 3) := by decide +kernel
theorem d_Schema_init_123 : decode b_Schema_init 123 = .ok (.newarray .int, 2) := by decide +kernel
theorem d_Schema_init_125 : decode b_Schema_init 125 = .ok (.putfield 61, 3) := by decide +kernel
theorem d_Schema_init_128 : decode b_Schema_init 128 = .ok (.aload_n 0, 1) := by decide +kernel
theorem d_Schema_init_129 : decode b_Schema_init 129 = .ok (.bipush 64, 2) := by decide +kernel
theorem d_Schema_init_131 : decode b_Schema_init 131 = .ok (.newarray .int, 2) := by decide +kernel
theorem d_Schema_init_133 : decode b_Schema_init 133 = .ok (.putfield 65, 3) := by decide +kernel
theorem d_Schema_init_136 : decode b_Schema_init 136 = .ok (.aload_n 0, 1) := by decide +kernel
theorem d_Schema_init_137 : decode b_Schema_init 137 = .ok (.bipush 64, 2) := by decide +kernel
theorem d_Schema_init_139 : decode b_Schema_init 139 = .ok (.newarray .int, 2) := by decide +kernel
theorem d_Schema_init_141 : decode b_Schema_init 141 = .ok (.putfield 68, 3) := by decide +kernel
theorem d_Schema_init_144 : decode b_Schema_init 144 = .ok (.aload_n 0, 1) := by decide +kernel
theorem d_Schema_init_145 : decode b_Schema_init 145 = .ok (.bipush 64, 2) := by decide +kernel
theorem d_Schema_init_147 : decode b_Schema_init 147 = .ok (.newarray .int, 2) := by decide +kernel
theorem d_Schema_init_149 : decode b_Schema_init 149 = .ok (.putfield 71, 3) := by decide +kernel
theorem d_Schema_init_152 : decode b_Schema_init 152 = .ok (.aload_n 0, 1) := by decide +kernel
theorem d_Schema_init_153 : decode b_Schema_init 153 = .ok (.bipush 64, 2) := by decide +kernel
theorem d_Schema_init_155 : decode b_Schema_init 155 = .ok (.newarray .int, 2) := by decide +kernel
theorem d_Schema_init_157 : decode b_Schema_init 157 = .ok (.putfield 74, 3) := by decide +kernel
theorem d_Schema_init_160 : decode b_Schema_init 160 = .ok (.aload_n 0, 1) := by decide +kernel
theorem d_Schema_init_161 : decode b_Schema_init 161 = .ok (.bipush 16, 2) := by decide +kernel
theorem d_Schema_init_163 : decode b_Schema_init 163 = .ok (.newarray .int, 2) := by decide +kernel
theorem d_Schema_init_165 : decode b_Schema_init 165 = .ok (.putfield 77, 3) := by decide +kernel
theorem d_Schema_init_168 : decode b_Schema_init 168 = .ok (.aload_n 0, 1) := by decide +kernel
theorem d_Schema_init_169 : decode b_Schema_init 169 = .ok (.bipush 64, 2) := by decide +kernel
theorem d_Schema_init_171 : decode b_Schema_init 171 = .ok (.newarray .long, 2) := by decide +kernel
theorem d_Schema_init_173 : decode b_Schema_init 173 = .ok (.putfield 80, 3) := by decide +kernel
theorem d_Schema_init_176 : decode b_Schema_init 176 = .ok (.aload_n 0, 1) := by decide +kernel
theorem d_Schema_init_177 : decode b_Schema_init 177 = .ok (.bipush 64, 2) := by decide +kernel
theorem d_Schema_init_179 : decode b_Schema_init 179 = .ok (.newarray .int, 2) := by decide +kernel
theorem d_Schema_init_181 : decode b_Schema_init 181 = .ok (.putfield 84, 3) := by decide +kernel
theorem d_Schema_init_184 : decode b_Schema_init 184 = .ok (.aload_n 0, 1) := by decide +kernel
theorem d_Schema_init_185 : decode b_Schema_init 185 = .ok (.invokevirtual 87, 3) := by decide +kernel
theorem d_Schema_init_188 : decode b_Schema_init 188 = .ok (.return_, 1) := by decide +kernel
set_option maxHeartbeats 4000000 in
set_option maxRecDepth 100000 in
theorem c_Schema_init (l : Launch) (dC : Nat → ClassId) (dI : Nat → Nat → Nat) (sz : Nat) (h0 : Nat) (dE : Nat) (wk : Nat) (wv : Nat) : Met l y_Schema_init ws_Schema_init ({ frames := 5, cells := 20, slots := 1536, locals := 115 }) (va_Pc [.ref h0] (fun U => U.heap.size = sz ∧ va_P (dC, dI) classes [(h0, .inr (3, [.null, .null, .int 0, .int 0, .null, .null, .null, .null, .null, .null, .null, .null, .null, .null, .int 0, .null, .null, .null, .int 0]))] U.heap ∧ va_K (dC, dI) classes [] U ∧ va_D (fun _ => True) [(h0, .inr (3, [.null, .null, .int 0, .int 0, .null, .null, .null, .null, .null, .null, .null, .null, .null, .null, .int 0, .null, .null, .null, .int 0]))] ∧ va_Z "java/util/ArrayList" "DEFAULTCAPACITY_EMPTY_ELEMENTDATA" "[Ljava/lang/Object;" (.ref dE) (va_A [(h0, .inr (3, [.null, .null, .int 0, .int 0, .null, .null, .null, .null, .null, .null, .null, .null, .null, .null, .int 0, .null, .null, .null, .int 0]))] sz) U U.heap ∧ va_Z "java/lang/String" "COMPACT_STRINGS" "Z" (.int 1) (va_A [(h0, .inr (3, [.null, .null, .int 0, .int 0, .null, .null, .null, .null, .null, .null, .null, .null, .null, .null, .int 0, .null, .null, .null, .int 0]))] sz) U U.heap ∧ va_Zq "jdk/internal/util/Preconditions" "SIOOBE_FORMATTER" "Ljava/util/function/BiFunction;" (va_A [(h0, .inr (3, [.null, .null, .int 0, .int 0, .null, .null, .null, .null, .null, .null, .null, .null, .null, .null, .int 0, .null, .null, .null, .int 0]))] sz) U U.heap ∧ va_O "java/lang/String" wk (va_A [(h0, .inr (3, [.null, .null, .int 0, .int 0, .null, .null, .null, .null, .null, .null, .null, .null, .null, .null, .int 0, .null, .null, .null, .int 0]))] sz) U U.heap ∧ va_OF "java/lang/String" "coder" "B" (.int 0) wk (va_A [(h0, .inr (3, [.null, .null, .int 0, .int 0, .null, .null, .null, .null, .null, .null, .null, .null, .null, .null, .int 0, .null, .null, .null, .int 0]))] sz) U U.heap ∧ va_OF "java/lang/String" "value" "[B" (.ref wv) wk (va_A [(h0, .inr (3, [.null, .null, .int 0, .int 0, .null, .null, .null, .null, .null, .null, .null, .null, .null, .null, .int 0, .null, .null, .null, .int 0]))] sz) U U.heap ∧ va_T .byte wv 280 (fun j => .int (tz_wb j)) (va_A [(h0, .inr (3, [.null, .null, .int 0, .int 0, .null, .null, .null, .null, .null, .null, .null, .null, .null, .null, .int 0, .null, .null, .null, .int 0]))] sz) U U.heap ∧ vk_R "SyntaxForge$Schema" 36 "DEFINITIONS EXPLICIT IMPLICIT AUTOMATIC TAGS BEGIN END UNIVERSAL APPLICATION PRIVATE INTEGER ENUMERATED BIT STRING OCTET OBJECT IDENTIFIER SEQUENCE SET OF CHOICE SIZE OPTIONAL DEFAULT BOOLEAN TRUE FALSE NULL MIN MAX UTF8String PrintableString IA5String NumericString VisibleString" wk U)) (va_Qv (fun _ : Unit => True) (fun _ t => ∃ (a1 : Nat) (dv : Nat) (a2 : Nat) (a3 : Nat) (a4 : Nat) (wd : Nat) (lt : Nat) (bu : Nat) (st : Nat) (le : Nat) (nx : Nat) (ow : Nat) (sp : Nat) (ky : Nat) (sm : Nat) (s2 : Nat) (k2 : Nat) (g1 : Nat → Int32) (g2 : Nat → Int32) (g3 : Nat → Int32) (g4 : Nat → Int32) (g5 : Nat → Int32) (g6 : Nat → Int32) (wda : Nat) (cwd : ClassId) (wf : Nat → Int32) (lta : Nat) (clt : ClassId) (cst : ClassId) (cle : ClassId) (cnx : ClassId) (cow : ClassId) (cbu : ClassId) (m1 : Int32) (m2 : Int32) (m3 : Int32) (dal : Nat) (dvd : Nat) (dva : Nat), (∀ j, j < 280 → wf j = tz_wb j) ∧ va_P (dC, dI) classes [(h0, .inr (3, [.ref a1, .ref dv, .int 0, .int 0, .ref a2, .ref a3, .ref a4, .ref wd, .ref lt, .ref bu, .ref st, .ref le, .ref nx, .ref ow, .int (nI s2), .ref sp, .ref ky, .ref sm, .int 0])), (st, .inl (cst, 64, .inl g1)), (le, .inl (cle, 64, .inl g2)), (nx, .inl (cnx, 64, .inl g3)), (ow, .inl (cow, 64, .inl g4)), (bu, .inl (cbu, 256, .inl g5)), (lt, .inr (0, [.ref lta, .int (nI k2)])), (lta, .inl (clt, 512, .inl g6)), (wd, .inr (0, [.ref wda, .int (nI 280)])), (wda, .inl (cwd, 280, .inl wf)), (a1, .inr (1, [.ref dE, .int 0, .int m1])), (a2, .inr (1, [.ref dE, .int 0, .int m2])), (a3, .inr (1, [.ref dE, .int 0, .int m3])), (dv, .inr (2, [.ref dal, .ref dvd, .int 0])), (dvd, .inr (0, [.ref dva, .int 0]))] t.heap ∧ va_K (dC, dI) classes [(cst, .int), (cle, .int), (cnx, .int), (cow, .int), (cbu, .int), (clt, .byte), (cwd, .byte)] t ∧ va_D (va_A [(h0, .inr (3, [.null, .null, .int 0, .int 0, .null, .null, .null, .null, .null, .null, .null, .null, .null, .null, .int 0, .null, .null, .null, .int 0]))] sz) [(h0, .inr (3, [.ref a1, .ref dv, .int 0, .int 0, .ref a2, .ref a3, .ref a4, .ref wd, .ref lt, .ref bu, .ref st, .ref le, .ref nx, .ref ow, .int (nI s2), .ref sp, .ref ky, .ref sm, .int 0])), (st, .inl (cst, 64, .inl g1)), (le, .inl (cle, 64, .inl g2)), (nx, .inl (cnx, 64, .inl g3)), (ow, .inl (cow, 64, .inl g4)), (bu, .inl (cbu, 256, .inl g5)), (lt, .inr (0, [.ref lta, .int (nI k2)])), (lta, .inl (clt, 512, .inl g6)), (wd, .inr (0, [.ref wda, .int (nI 280)])), (wda, .inl (cwd, 280, .inl wf)), (a1, .inr (1, [.ref dE, .int 0, .int m1])), (a2, .inr (1, [.ref dE, .int 0, .int m2])), (a3, .inr (1, [.ref dE, .int 0, .int m3])), (dv, .inr (2, [.ref dal, .ref dvd, .int 0])), (dvd, .inr (0, [.ref dva, .int 0]))]) (va_A [(h0, .inr (3, [.null, .null, .int 0, .int 0, .null, .null, .null, .null, .null, .null, .null, .null, .null, .null, .int 0, .null, .null, .null, .int 0]))] sz)) 20 1536 (va_A [(h0, .inr (3, [.null, .null, .int 0, .int 0, .null, .null, .null, .null, .null, .null, .null, .null, .null, .null, .int 0, .null, .null, .null, .int 0]))] sz) := by
  refine Met.ofW (cc := b_Schema_init) (maxL := 2) (ret := none) (by decide) rfl ?_
  intro p e s m args below meth c s₁ B hml hv
  obtain ⟨rfl, hsz, hP, hK, hD0, hx0, hx1, hx2, hx3, hx4, hx5, hx6, hx7⟩ := hv
  have hx := B.exec
  have hb := B.bytes
  have hr := B.returns
  have hts := atoms_spec (ws := ws_Schema_init) B.pre
  have htw : ∀ w ∈ tw_tbl, w.before [.ref h0].toArray s = true := fun w h => hts w (List.mem_cons_of_mem _ h)
  have hown : s.vm.findClass R_Schema = some m.cls := findClass_of_methodNamed B.named
  have hlocks := B.notSynchronized
  have hin : meth.name = "<init>" := (name_of_methodNamed B.named B.method).1
  subst hsz
  have hD := hD0.self (sz := s.heap.size)
  generalize hAe : va_A [(h0, .inr (3, [.null, .null, .int 0, .int 0, .null, .null, .null, .null, .null, .null, .null, .null, .null, .null, .int 0, .null, .null, .null, .int 0]))] s.heap.size = A at hD hx0 hx1 hx2 hx3 hx4 hx5 hx6 hx7 ⊢
  have hA : ∀ q : Nat, s.heap.size ≤ q → A q := fun q h => by rw [← hAe]; exact Or.inr h
  have hS : va_S A s.heap s.heap [] := va_S.rf
  have hP : va_P (dC, dI) classes [(h0, .inr (3, [.null, .null, .int 0, .int 0, .null, .null, .null, .null, .null, .null, .null, .null, .null, .null, .int 0, .null, .null, .null, .int 0]))] s.heap := hP
  have hl := lv_entry ([.ref h0]) (n := 2) (Nat.le_of_ble_eq_true rfl)
  rw [lg_entry_eq]
  generalize (lg_sl ([.ref h0]) ++ List.replicate (2 - (lg_sl ([.ref h0])).length) Slot.unset).toArray = ls at hl ⊢
  have hl : lv_has ls 2 [(0, .ref h0)] := hl
  refine lv_aload_n hx hb d_Schema_init_0 rfl (lv_at hl 0 rfl) ?_
  refine W.objInit hx hb hown (htw _ wd_1_86) (htw _ wd_1_51) (htw _ wd_1_52) rfl (by rw [hml]; exact hl.1) rfl d_Schema_init_1 (Nat.le_of_ble_eq_true rfl) (Nat.le_of_ble_eq_true rfl) ?_
  refine W.eq (g2 := F0 m 4 ls []) rfl ?_
  refine lv_aload_n hx hb d_Schema_init_4 rfl (lv_at hl 0 rfl) ?_
  have hc0 : 0 + 1 ≤ 20 := by omega
  have hs0 : 0 + 3 ≤ 1536 := by omega
  refine va_new (ci := 1) (fs := [.null, .int 0, .int 0]) (C := R_AL) (T := F_AL) (N := 3) hx hb htw i_AL t_AL t_AL_ok hown (htw _ wd_1_87) (htw _ wd_1_88) (htw _ wd_1_6) hK hP hD hS hA rfl (by decide) hc0 hs0 d_Schema_init_5 (fun q1 H hP hD hS => ?_)
  have hP : va_P (dC, dI) classes [(h0, .inr (3, [.null, .null, .int 0, .int 0, .null, .null, .null, .null, .null, .null, .null, .null, .null, .null, .int 0, .null, .null, .null, .int 0])), (q1, .inr (1, [.null, .int 0, .int 0]))] H := hP
  have hD : va_D A [(h0, .inr (3, [.null, .null, .int 0, .int 0, .null, .null, .null, .null, .null, .null, .null, .null, .null, .null, .int 0, .null, .null, .null, .int 0])), (q1, .inr (1, [.null, .int 0, .int 0]))] := hD
  refine lv_dup hx hb d_Schema_init_8 rfl ?_
  have hc0 : 1 + 0 ≤ 20 := by omega
  have hs0 : 3 + 0 ≤ 1536 := by omega
  have hPc := hP.sub (ws' := [(q1, .inr (1, [.null, .int 0, .int 0]))]) [1] rfl
  have hDc := hD.sub (ws' := [(q1, .inr (1, [.null, .int 0, .int 0]))]) [1] (by decide) rfl
  have hKc := hK.sub (tys' := []) [] rfl
  have hFc := va_free (wc := [(q1, .inr (1, [.null, .int 0, .int 0]))]) hD hS hA [1] rfl
  refine va_callv (va_runI (As := []) (rest := [.ref q1, .ref h0]) ⟨hx, hb, hml, hown, htw⟩ (c_AL_init l dC dI H.size q1 dE) (cwI 0 htw (tw_inL k_AL_init) rfl rfl rfl (htw _ wd_1_6) (htw _ wd_1_89) (htw _ wd_1_90) rfl (by decide +kernel) ⟨Nat.le_of_ble_eq_true rfl, Nat.le_of_ble_eq_true rfl⟩) ⟨fun a U g mk q => by obtain ⟨q0, q1, qP, qK, qD, hq0⟩ := q; exact ⟨q0, q1, qP, va_K.moved (u := U) (U := U.calling g mk a) (Vm.Alike.refl U.vm) qK, qD, va_Z.moved (u := U) (U := U.calling g mk a) (Vm.Alike.refl U.vm) hq0⟩, fun U hU hW => ⟨rfl, by rw [hU], by rw [hU]; exact hPc, va_K.moved hW.alike hKc, hDc.weaken (fun _ _ _ _ => trivial), by rw [hU]; exact va_Z.moved hW.alike ((va_Z.kept hx0 hS.2.1).narrow hFc)⟩⟩ rfl rfl hl.1 rfl (lv_room (Nat.le_of_ble_eq_true rfl)) d_Schema_init_9 ⟨hc0, hs0⟩) hS (fun q _ h => hFc q h) hFc (fun u t H1 locs ht hvm hw hB hz1 hk1 hS => ?_)
  obtain ⟨hP1, hK1, hD1⟩ := hB
  rw [ht] at hP1
  have hK1 := va_K.moved hvm.symm hK1
  obtain ⟨hP, hD⟩ := va_join (wr := [(h0, .inr (3, [.null, .null, .int 0, .int 0, .null, .null, .null, .null, .null, .null, .null, .null, .null, .null, .int 0, .null, .null, .null, .int 0]))]) (w1 := [(q1, .inr (1, [.ref dE, .int 0, .int 0]))]) hP hD [1] [0] rfl rfl (by decide) (by decide) hk1 hFc hP1 hD1
  have hK := (hK.sub (tys' := []) [] rfl).app hK1
  generalize H1 = H at hP hS ⊢
  have hP : va_P (dC, dI) classes [(h0, .inr (3, [.null, .null, .int 0, .int 0, .null, .null, .null, .null, .null, .null, .null, .null, .null, .null, .int 0, .null, .null, .null, .int 0])), (q1, .inr (1, [.ref dE, .int 0, .int 0]))] H := hP
  have hD : va_D A [(h0, .inr (3, [.null, .null, .int 0, .int 0, .null, .null, .null, .null, .null, .null, .null, .null, .null, .null, .int 0, .null, .null, .null, .int 0])), (q1, .inr (1, [.ref dE, .int 0, .int 0]))] := hD
  have hK : va_K (dC, dI) classes [] s := hK
  refine va_putF (D := (dC, dI)) (ci := 3) (v := .ref q1) (ty := .object "java/util/ArrayList") (C := R_Schema) (T := F_Schema) (N := 19) hx hb htw i_Schema t_Schema t_Schema_ok n_Schema hown hK hP hD hS 0 rfl rfl 0 (by decide) (htw _ wd_2_19) (fun _ h9 => h9) rfl hin rfl (by decide +kernel) rfl rfl (Nat.le_of_ble_eq_true rfl) d_Schema_init_12 (fun H locs hP hD hS => ?_)
  have hP : va_P (dC, dI) classes [(h0, .inr (3, [.ref q1, .null, .int 0, .int 0, .null, .null, .null, .null, .null, .null, .null, .null, .null, .null, .int 0, .null, .null, .null, .int 0])), (q1, .inr (1, [.ref dE, .int 0, .int 0]))] H := hP
  have hD : va_D A [(h0, .inr (3, [.ref q1, .null, .int 0, .int 0, .null, .null, .null, .null, .null, .null, .null, .null, .null, .null, .int 0, .null, .null, .null, .int 0])), (q1, .inr (1, [.ref dE, .int 0, .int 0]))] := hD
  refine lv_aload_n hx hb d_Schema_init_15 rfl (lv_at hl 0 rfl) ?_
  have hc0 : 1 + 1 ≤ 20 := by omega
  have hs0 : 3 + 3 ≤ 1536 := by omega
  refine va_new (ci := 2) (fs := [.null, .null, .int 0]) (C := R_Values) (T := F_Values) (N := 3) hx hb htw i_Values t_Values t_Values_ok hown (htw _ wd_1_113) (htw _ wd_1_114) (htw _ wd_1_7) hK hP hD hS hA rfl (by decide) hc0 hs0 d_Schema_init_16 (fun q3 H hP hD hS => ?_)
  have hP : va_P (dC, dI) classes [(h0, .inr (3, [.ref q1, .null, .int 0, .int 0, .null, .null, .null, .null, .null, .null, .null, .null, .null, .null, .int 0, .null, .null, .null, .int 0])), (q1, .inr (1, [.ref dE, .int 0, .int 0])), (q3, .inr (2, [.null, .null, .int 0]))] H := hP
  have hD : va_D A [(h0, .inr (3, [.ref q1, .null, .int 0, .int 0, .null, .null, .null, .null, .null, .null, .null, .null, .null, .null, .int 0, .null, .null, .null, .int 0])), (q1, .inr (1, [.ref dE, .int 0, .int 0])), (q3, .inr (2, [.null, .null, .int 0]))] := hD
  refine lv_dup hx hb d_Schema_init_19 rfl ?_
  have hc0 : 2 + 3 ≤ 20 := by omega
  have hs0 : 6 + 69 ≤ 1536 := by omega
  have hPc := hP.sub (ws' := [(q3, .inr (2, [.null, .null, .int 0]))]) [2] rfl
  have hDc := hD.sub (ws' := [(q3, .inr (2, [.null, .null, .int 0]))]) [2] (by decide) rfl
  have hKc := hK.sub (tys' := []) [] rfl
  have hFc := va_free (wc := [(q3, .inr (2, [.null, .null, .int 0]))]) hD hS hA [2] rfl
  refine va_callv (va_runI (As := []) (rest := [.ref q3, .ref h0]) ⟨hx, hb, hml, hown, htw⟩ (c_Values_init l dC dI H.size q3 dE) (cwI 0 htw (tw_inL k_Values_init) rfl rfl rfl (htw _ wd_1_7) (htw _ wd_1_115) (htw _ wd_1_116) rfl (by decide +kernel) ⟨Nat.le_of_ble_eq_true rfl, Nat.le_of_ble_eq_true rfl⟩) ⟨fun a U g mk q => by obtain ⟨q0, q1, qP, qK, qD, hq0⟩ := q; exact ⟨q0, q1, qP, va_K.moved (u := U) (U := U.calling g mk a) (Vm.Alike.refl U.vm) qK, qD, va_Z.moved (u := U) (U := U.calling g mk a) (Vm.Alike.refl U.vm) hq0⟩, fun U hU hW => ⟨rfl, by rw [hU], by rw [hU]; exact hPc, va_K.moved hW.alike hKc, hDc.weaken (fun _ _ _ _ => trivial), by rw [hU]; exact va_Z.moved hW.alike ((va_Z.kept hx0 hS.2.1).narrow hFc)⟩⟩ rfl rfl hl.1 rfl (lv_room (Nat.le_of_ble_eq_true rfl)) d_Schema_init_20 ⟨hc0, hs0⟩) hS (fun q _ h => hFc q h) hFc (fun u t H1 locs ht hvm hw hB hz1 hk1 hS => ?_)
  obtain ⟨al_5, vd_6, va_7, vc_8, hP1, hK1, hD1⟩ := hB
  rw [ht] at hP1
  have hK1 := va_K.moved hvm.symm hK1
  obtain ⟨hP, hD⟩ := va_join (wr := [(h0, .inr (3, [.ref q1, .null, .int 0, .int 0, .null, .null, .null, .null, .null, .null, .null, .null, .null, .null, .int 0, .null, .null, .null, .int 0])), (q1, .inr (1, [.ref dE, .int 0, .int 0]))]) (w1 := [(q3, .inr (2, [.ref al_5, .ref vd_6, .int 0])), (al_5, .inr (1, [.ref dE, .int 0, .int 0])), (vd_6, .inr (0, [.ref va_7, .int 0])), (va_7, .inl (vc_8, 64, .inl (fun _ => 0)))]) hP hD [2] [0, 1] rfl rfl (by decide) (by decide) hk1 hFc hP1 hD1
  have hK := (hK.sub (tys' := []) [] rfl).app hK1
  generalize H1 = H at hP hS ⊢
  have hP : va_P (dC, dI) classes [(h0, .inr (3, [.ref q1, .null, .int 0, .int 0, .null, .null, .null, .null, .null, .null, .null, .null, .null, .null, .int 0, .null, .null, .null, .int 0])), (q1, .inr (1, [.ref dE, .int 0, .int 0])), (q3, .inr (2, [.ref al_5, .ref vd_6, .int 0])), (al_5, .inr (1, [.ref dE, .int 0, .int 0])), (vd_6, .inr (0, [.ref va_7, .int 0])), (va_7, .inl (vc_8, 64, .inl (fun _ => 0)))] H := hP
  have hD : va_D A [(h0, .inr (3, [.ref q1, .null, .int 0, .int 0, .null, .null, .null, .null, .null, .null, .null, .null, .null, .null, .int 0, .null, .null, .null, .int 0])), (q1, .inr (1, [.ref dE, .int 0, .int 0])), (q3, .inr (2, [.ref al_5, .ref vd_6, .int 0])), (al_5, .inr (1, [.ref dE, .int 0, .int 0])), (vd_6, .inr (0, [.ref va_7, .int 0])), (va_7, .inl (vc_8, 64, .inl (fun _ => 0)))] := hD
  have hK : va_K (dC, dI) classes [(vc_8, .byte)] s := hK
  refine va_putF (D := (dC, dI)) (ci := 3) (v := .ref q3) (ty := .object "SyntaxForge$Values") (C := R_Schema) (T := F_Schema) (N := 19) hx hb htw i_Schema t_Schema t_Schema_ok n_Schema hown hK hP hD hS 0 rfl rfl 1 (by decide) (htw _ wd_2_21) (fun _ h9 => h9) rfl hin rfl (by decide +kernel) rfl rfl (Nat.le_of_ble_eq_true rfl) d_Schema_init_23 (fun H locs hP hD hS => ?_)
  have hP : va_P (dC, dI) classes [(h0, .inr (3, [.ref q1, .ref q3, .int 0, .int 0, .null, .null, .null, .null, .null, .null, .null, .null, .null, .null, .int 0, .null, .null, .null, .int 0])), (q1, .inr (1, [.ref dE, .int 0, .int 0])), (q3, .inr (2, [.ref al_5, .ref vd_6, .int 0])), (al_5, .inr (1, [.ref dE, .int 0, .int 0])), (vd_6, .inr (0, [.ref va_7, .int 0])), (va_7, .inl (vc_8, 64, .inl (fun _ => 0)))] H := hP
  have hD : va_D A [(h0, .inr (3, [.ref q1, .ref q3, .int 0, .int 0, .null, .null, .null, .null, .null, .null, .null, .null, .null, .null, .int 0, .null, .null, .null, .int 0])), (q1, .inr (1, [.ref dE, .int 0, .int 0])), (q3, .inr (2, [.ref al_5, .ref vd_6, .int 0])), (al_5, .inr (1, [.ref dE, .int 0, .int 0])), (vd_6, .inr (0, [.ref va_7, .int 0])), (va_7, .inl (vc_8, 64, .inl (fun _ => 0)))] := hD
  refine lv_aload_n hx hb d_Schema_init_26 rfl (lv_at hl 0 rfl) ?_
  have hc0 : 5 + 1 ≤ 20 := by omega
  have hs0 : 75 + 3 ≤ 1536 := by omega
  refine va_new (ci := 1) (fs := [.null, .int 0, .int 0]) (C := R_AL) (T := F_AL) (N := 3) hx hb htw i_AL t_AL t_AL_ok hown (htw _ wd_1_87) (htw _ wd_1_88) (htw _ wd_1_6) hK hP hD hS hA rfl (by decide) hc0 hs0 d_Schema_init_27 (fun q9 H hP hD hS => ?_)
  have hP : va_P (dC, dI) classes [(h0, .inr (3, [.ref q1, .ref q3, .int 0, .int 0, .null, .null, .null, .null, .null, .null, .null, .null, .null, .null, .int 0, .null, .null, .null, .int 0])), (q1, .inr (1, [.ref dE, .int 0, .int 0])), (q3, .inr (2, [.ref al_5, .ref vd_6, .int 0])), (al_5, .inr (1, [.ref dE, .int 0, .int 0])), (vd_6, .inr (0, [.ref va_7, .int 0])), (va_7, .inl (vc_8, 64, .inl (fun _ => 0))), (q9, .inr (1, [.null, .int 0, .int 0]))] H := hP
  have hD : va_D A [(h0, .inr (3, [.ref q1, .ref q3, .int 0, .int 0, .null, .null, .null, .null, .null, .null, .null, .null, .null, .null, .int 0, .null, .null, .null, .int 0])), (q1, .inr (1, [.ref dE, .int 0, .int 0])), (q3, .inr (2, [.ref al_5, .ref vd_6, .int 0])), (al_5, .inr (1, [.ref dE, .int 0, .int 0])), (vd_6, .inr (0, [.ref va_7, .int 0])), (va_7, .inl (vc_8, 64, .inl (fun _ => 0))), (q9, .inr (1, [.null, .int 0, .int 0]))] := hD
  refine lv_dup hx hb d_Schema_init_30 rfl ?_
  have hc0 : 6 + 0 ≤ 20 := by omega
  have hs0 : 78 + 0 ≤ 1536 := by omega
  have hPc := hP.sub (ws' := [(q9, .inr (1, [.null, .int 0, .int 0]))]) [6] rfl
  have hDc := hD.sub (ws' := [(q9, .inr (1, [.null, .int 0, .int 0]))]) [6] (by decide) rfl
  have hKc := hK.sub (tys' := []) [] rfl
  have hFc := va_free (wc := [(q9, .inr (1, [.null, .int 0, .int 0]))]) hD hS hA [6] rfl
  refine va_callv (va_runI (As := []) (rest := [.ref q9, .ref h0]) ⟨hx, hb, hml, hown, htw⟩ (c_AL_init l dC dI H.size q9 dE) (cwI 0 htw (tw_inL k_AL_init) rfl rfl rfl (htw _ wd_1_6) (htw _ wd_1_89) (htw _ wd_1_90) rfl (by decide +kernel) ⟨Nat.le_of_ble_eq_true rfl, Nat.le_of_ble_eq_true rfl⟩) ⟨fun a U g mk q => by obtain ⟨q0, q1, qP, qK, qD, hq0⟩ := q; exact ⟨q0, q1, qP, va_K.moved (u := U) (U := U.calling g mk a) (Vm.Alike.refl U.vm) qK, qD, va_Z.moved (u := U) (U := U.calling g mk a) (Vm.Alike.refl U.vm) hq0⟩, fun U hU hW => ⟨rfl, by rw [hU], by rw [hU]; exact hPc, va_K.moved hW.alike hKc, hDc.weaken (fun _ _ _ _ => trivial), by rw [hU]; exact va_Z.moved hW.alike ((va_Z.kept hx0 hS.2.1).narrow hFc)⟩⟩ rfl rfl hl.1 rfl (lv_room (Nat.le_of_ble_eq_true rfl)) d_Schema_init_31 ⟨hc0, hs0⟩) hS (fun q _ h => hFc q h) hFc (fun u t H1 locs ht hvm hw hB hz1 hk1 hS => ?_)
  obtain ⟨hP1, hK1, hD1⟩ := hB
  rw [ht] at hP1
  have hK1 := va_K.moved hvm.symm hK1
  obtain ⟨hP, hD⟩ := va_join (wr := [(h0, .inr (3, [.ref q1, .ref q3, .int 0, .int 0, .null, .null, .null, .null, .null, .null, .null, .null, .null, .null, .int 0, .null, .null, .null, .int 0])), (q1, .inr (1, [.ref dE, .int 0, .int 0])), (q3, .inr (2, [.ref al_5, .ref vd_6, .int 0])), (al_5, .inr (1, [.ref dE, .int 0, .int 0])), (vd_6, .inr (0, [.ref va_7, .int 0])), (va_7, .inl (vc_8, 64, .inl (fun _ => 0)))]) (w1 := [(q9, .inr (1, [.ref dE, .int 0, .int 0]))]) hP hD [6] [0, 1, 2, 3, 4, 5] rfl rfl (by decide) (by decide) hk1 hFc hP1 hD1
  have hK := (hK.sub (tys' := [(vc_8, .byte)]) [0] rfl).app hK1
  generalize H1 = H at hP hS ⊢
  have hP : va_P (dC, dI) classes [(h0, .inr (3, [.ref q1, .ref q3, .int 0, .int 0, .null, .null, .null, .null, .null, .null, .null, .null, .null, .null, .int 0, .null, .null, .null, .int 0])), (q1, .inr (1, [.ref dE, .int 0, .int 0])), (q3, .inr (2, [.ref al_5, .ref vd_6, .int 0])), (al_5, .inr (1, [.ref dE, .int 0, .int 0])), (vd_6, .inr (0, [.ref va_7, .int 0])), (va_7, .inl (vc_8, 64, .inl (fun _ => 0))), (q9, .inr (1, [.ref dE, .int 0, .int 0]))] H := hP
  have hD : va_D A [(h0, .inr (3, [.ref q1, .ref q3, .int 0, .int 0, .null, .null, .null, .null, .null, .null, .null, .null, .null, .null, .int 0, .null, .null, .null, .int 0])), (q1, .inr (1, [.ref dE, .int 0, .int 0])), (q3, .inr (2, [.ref al_5, .ref vd_6, .int 0])), (al_5, .inr (1, [.ref dE, .int 0, .int 0])), (vd_6, .inr (0, [.ref va_7, .int 0])), (va_7, .inl (vc_8, 64, .inl (fun _ => 0))), (q9, .inr (1, [.ref dE, .int 0, .int 0]))] := hD
  have hK : va_K (dC, dI) classes [(vc_8, .byte)] s := hK
  refine va_putF (D := (dC, dI)) (ci := 3) (v := .ref q9) (ty := .object "java/util/ArrayList") (C := R_Schema) (T := F_Schema) (N := 19) hx hb htw i_Schema t_Schema t_Schema_ok n_Schema hown hK hP hD hS 0 rfl rfl 4 (by decide) (htw _ wd_2_26) (fun _ h9 => h9) rfl hin rfl (by decide +kernel) rfl rfl (Nat.le_of_ble_eq_true rfl) d_Schema_init_34 (fun H locs hP hD hS => ?_)
  have hP : va_P (dC, dI) classes [(h0, .inr (3, [.ref q1, .ref q3, .int 0, .int 0, .ref q9, .null, .null, .null, .null, .null, .null, .null, .null, .null, .int 0, .null, .null, .null, .int 0])), (q1, .inr (1, [.ref dE, .int 0, .int 0])), (q3, .inr (2, [.ref al_5, .ref vd_6, .int 0])), (al_5, .inr (1, [.ref dE, .int 0, .int 0])), (vd_6, .inr (0, [.ref va_7, .int 0])), (va_7, .inl (vc_8, 64, .inl (fun _ => 0))), (q9, .inr (1, [.ref dE, .int 0, .int 0]))] H := hP
  have hD : va_D A [(h0, .inr (3, [.ref q1, .ref q3, .int 0, .int 0, .ref q9, .null, .null, .null, .null, .null, .null, .null, .null, .null, .int 0, .null, .null, .null, .int 0])), (q1, .inr (1, [.ref dE, .int 0, .int 0])), (q3, .inr (2, [.ref al_5, .ref vd_6, .int 0])), (al_5, .inr (1, [.ref dE, .int 0, .int 0])), (vd_6, .inr (0, [.ref va_7, .int 0])), (va_7, .inl (vc_8, 64, .inl (fun _ => 0))), (q9, .inr (1, [.ref dE, .int 0, .int 0]))] := hD
  refine lv_aload_n hx hb d_Schema_init_37 rfl (lv_at hl 0 rfl) ?_
  have hc0 : 6 + 1 ≤ 20 := by omega
  have hs0 : 78 + 3 ≤ 1536 := by omega
  refine va_new (ci := 1) (fs := [.null, .int 0, .int 0]) (C := R_AL) (T := F_AL) (N := 3) hx hb htw i_AL t_AL t_AL_ok hown (htw _ wd_1_87) (htw _ wd_1_88) (htw _ wd_1_6) hK hP hD hS hA rfl (by decide) hc0 hs0 d_Schema_init_38 (fun q11 H hP hD hS => ?_)
  have hP : va_P (dC, dI) classes [(h0, .inr (3, [.ref q1, .ref q3, .int 0, .int 0, .ref q9, .null, .null, .null, .null, .null, .null, .null, .null, .null, .int 0, .null, .null, .null, .int 0])), (q1, .inr (1, [.ref dE, .int 0, .int 0])), (q3, .inr (2, [.ref al_5, .ref vd_6, .int 0])), (al_5, .inr (1, [.ref dE, .int 0, .int 0])), (vd_6, .inr (0, [.ref va_7, .int 0])), (va_7, .inl (vc_8, 64, .inl (fun _ => 0))), (q9, .inr (1, [.ref dE, .int 0, .int 0])), (q11, .inr (1, [.null, .int 0, .int 0]))] H := hP
  have hD : va_D A [(h0, .inr (3, [.ref q1, .ref q3, .int 0, .int 0, .ref q9, .null, .null, .null, .null, .null, .null, .null, .null, .null, .int 0, .null, .null, .null, .int 0])), (q1, .inr (1, [.ref dE, .int 0, .int 0])), (q3, .inr (2, [.ref al_5, .ref vd_6, .int 0])), (al_5, .inr (1, [.ref dE, .int 0, .int 0])), (vd_6, .inr (0, [.ref va_7, .int 0])), (va_7, .inl (vc_8, 64, .inl (fun _ => 0))), (q9, .inr (1, [.ref dE, .int 0, .int 0])), (q11, .inr (1, [.null, .int 0, .int 0]))] := hD
  refine lv_dup hx hb d_Schema_init_41 rfl ?_
  have hc0 : 7 + 0 ≤ 20 := by omega
  have hs0 : 81 + 0 ≤ 1536 := by omega
  have hPc := hP.sub (ws' := [(q11, .inr (1, [.null, .int 0, .int 0]))]) [7] rfl
  have hDc := hD.sub (ws' := [(q11, .inr (1, [.null, .int 0, .int 0]))]) [7] (by decide) rfl
  have hKc := hK.sub (tys' := []) [] rfl
  have hFc := va_free (wc := [(q11, .inr (1, [.null, .int 0, .int 0]))]) hD hS hA [7] rfl
  refine va_callv (va_runI (As := []) (rest := [.ref q11, .ref h0]) ⟨hx, hb, hml, hown, htw⟩ (c_AL_init l dC dI H.size q11 dE) (cwI 0 htw (tw_inL k_AL_init) rfl rfl rfl (htw _ wd_1_6) (htw _ wd_1_89) (htw _ wd_1_90) rfl (by decide +kernel) ⟨Nat.le_of_ble_eq_true rfl, Nat.le_of_ble_eq_true rfl⟩) ⟨fun a U g mk q => by obtain ⟨q0, q1, qP, qK, qD, hq0⟩ := q; exact ⟨q0, q1, qP, va_K.moved (u := U) (U := U.calling g mk a) (Vm.Alike.refl U.vm) qK, qD, va_Z.moved (u := U) (U := U.calling g mk a) (Vm.Alike.refl U.vm) hq0⟩, fun U hU hW => ⟨rfl, by rw [hU], by rw [hU]; exact hPc, va_K.moved hW.alike hKc, hDc.weaken (fun _ _ _ _ => trivial), by rw [hU]; exact va_Z.moved hW.alike ((va_Z.kept hx0 hS.2.1).narrow hFc)⟩⟩ rfl rfl hl.1 rfl (lv_room (Nat.le_of_ble_eq_true rfl)) d_Schema_init_42 ⟨hc0, hs0⟩) hS (fun q _ h => hFc q h) hFc (fun u t H1 locs ht hvm hw hB hz1 hk1 hS => ?_)
  obtain ⟨hP1, hK1, hD1⟩ := hB
  rw [ht] at hP1
  have hK1 := va_K.moved hvm.symm hK1
  obtain ⟨hP, hD⟩ := va_join (wr := [(h0, .inr (3, [.ref q1, .ref q3, .int 0, .int 0, .ref q9, .null, .null, .null, .null, .null, .null, .null, .null, .null, .int 0, .null, .null, .null, .int 0])), (q1, .inr (1, [.ref dE, .int 0, .int 0])), (q3, .inr (2, [.ref al_5, .ref vd_6, .int 0])), (al_5, .inr (1, [.ref dE, .int 0, .int 0])), (vd_6, .inr (0, [.ref va_7, .int 0])), (va_7, .inl (vc_8, 64, .inl (fun _ => 0))), (q9, .inr (1, [.ref dE, .int 0, .int 0]))]) (w1 := [(q11, .inr (1, [.ref dE, .int 0, .int 0]))]) hP hD [7] [0, 1, 2, 3, 4, 5, 6] rfl rfl (by decide) (by decide) hk1 hFc hP1 hD1
  have hK := (hK.sub (tys' := [(vc_8, .byte)]) [0] rfl).app hK1
  generalize H1 = H at hP hS ⊢
  have hP : va_P (dC, dI) classes [(h0, .inr (3, [.ref q1, .ref q3, .int 0, .int 0, .ref q9, .null, .null, .null, .null, .null, .null, .null, .null, .null, .int 0, .null, .null, .null, .int 0])), (q1, .inr (1, [.ref dE, .int 0, .int 0])), (q3, .inr (2, [.ref al_5, .ref vd_6, .int 0])), (al_5, .inr (1, [.ref dE, .int 0, .int 0])), (vd_6, .inr (0, [.ref va_7, .int 0])), (va_7, .inl (vc_8, 64, .inl (fun _ => 0))), (q9, .inr (1, [.ref dE, .int 0, .int 0])), (q11, .inr (1, [.ref dE, .int 0, .int 0]))] H := hP
  have hD : va_D A [(h0, .inr (3, [.ref q1, .ref q3, .int 0, .int 0, .ref q9, .null, .null, .null, .null, .null, .null, .null, .null, .null, .int 0, .null, .null, .null, .int 0])), (q1, .inr (1, [.ref dE, .int 0, .int 0])), (q3, .inr (2, [.ref al_5, .ref vd_6, .int 0])), (al_5, .inr (1, [.ref dE, .int 0, .int 0])), (vd_6, .inr (0, [.ref va_7, .int 0])), (va_7, .inl (vc_8, 64, .inl (fun _ => 0))), (q9, .inr (1, [.ref dE, .int 0, .int 0])), (q11, .inr (1, [.ref dE, .int 0, .int 0]))] := hD
  have hK : va_K (dC, dI) classes [(vc_8, .byte)] s := hK
  refine va_putF (D := (dC, dI)) (ci := 3) (v := .ref q11) (ty := .object "java/util/ArrayList") (C := R_Schema) (T := F_Schema) (N := 19) hx hb htw i_Schema t_Schema t_Schema_ok n_Schema hown hK hP hD hS 0 rfl rfl 5 (by decide) (htw _ wd_2_27) (fun _ h9 => h9) rfl hin rfl (by decide +kernel) rfl rfl (Nat.le_of_ble_eq_true rfl) d_Schema_init_45 (fun H locs hP hD hS => ?_)
  have hP : va_P (dC, dI) classes [(h0, .inr (3, [.ref q1, .ref q3, .int 0, .int 0, .ref q9, .ref q11, .null, .null, .null, .null, .null, .null, .null, .null, .int 0, .null, .null, .null, .int 0])), (q1, .inr (1, [.ref dE, .int 0, .int 0])), (q3, .inr (2, [.ref al_5, .ref vd_6, .int 0])), (al_5, .inr (1, [.ref dE, .int 0, .int 0])), (vd_6, .inr (0, [.ref va_7, .int 0])), (va_7, .inl (vc_8, 64, .inl (fun _ => 0))), (q9, .inr (1, [.ref dE, .int 0, .int 0])), (q11, .inr (1, [.ref dE, .int 0, .int 0]))] H := hP
  have hD : va_D A [(h0, .inr (3, [.ref q1, .ref q3, .int 0, .int 0, .ref q9, .ref q11, .null, .null, .null, .null, .null, .null, .null, .null, .int 0, .null, .null, .null, .int 0])), (q1, .inr (1, [.ref dE, .int 0, .int 0])), (q3, .inr (2, [.ref al_5, .ref vd_6, .int 0])), (al_5, .inr (1, [.ref dE, .int 0, .int 0])), (vd_6, .inr (0, [.ref va_7, .int 0])), (va_7, .inl (vc_8, 64, .inl (fun _ => 0))), (q9, .inr (1, [.ref dE, .int 0, .int 0])), (q11, .inr (1, [.ref dE, .int 0, .int 0]))] := hD
  refine lv_aload_n hx hb d_Schema_init_48 rfl (lv_at hl 0 rfl) ?_
  have hc0 : 7 + 1 ≤ 20 := by omega
  have hs0 : 81 + 3 ≤ 1536 := by omega
  refine va_new (ci := 1) (fs := [.null, .int 0, .int 0]) (C := R_AL) (T := F_AL) (N := 3) hx hb htw i_AL t_AL t_AL_ok hown (htw _ wd_1_87) (htw _ wd_1_88) (htw _ wd_1_6) hK hP hD hS hA rfl (by decide) hc0 hs0 d_Schema_init_49 (fun q13 H hP hD hS => ?_)
  have hP : va_P (dC, dI) classes [(h0, .inr (3, [.ref q1, .ref q3, .int 0, .int 0, .ref q9, .ref q11, .null, .null, .null, .null, .null, .null, .null, .null, .int 0, .null, .null, .null, .int 0])), (q1, .inr (1, [.ref dE, .int 0, .int 0])), (q3, .inr (2, [.ref al_5, .ref vd_6, .int 0])), (al_5, .inr (1, [.ref dE, .int 0, .int 0])), (vd_6, .inr (0, [.ref va_7, .int 0])), (va_7, .inl (vc_8, 64, .inl (fun _ => 0))), (q9, .inr (1, [.ref dE, .int 0, .int 0])), (q11, .inr (1, [.ref dE, .int 0, .int 0])), (q13, .inr (1, [.null, .int 0, .int 0]))] H := hP
  have hD : va_D A [(h0, .inr (3, [.ref q1, .ref q3, .int 0, .int 0, .ref q9, .ref q11, .null, .null, .null, .null, .null, .null, .null, .null, .int 0, .null, .null, .null, .int 0])), (q1, .inr (1, [.ref dE, .int 0, .int 0])), (q3, .inr (2, [.ref al_5, .ref vd_6, .int 0])), (al_5, .inr (1, [.ref dE, .int 0, .int 0])), (vd_6, .inr (0, [.ref va_7, .int 0])), (va_7, .inl (vc_8, 64, .inl (fun _ => 0))), (q9, .inr (1, [.ref dE, .int 0, .int 0])), (q11, .inr (1, [.ref dE, .int 0, .int 0])), (q13, .inr (1, [.null, .int 0, .int 0]))] := hD
  refine lv_dup hx hb d_Schema_init_52 rfl ?_
  have hc0 : 8 + 0 ≤ 20 := by omega
  have hs0 : 84 + 0 ≤ 1536 := by omega
  have hPc := hP.sub (ws' := [(q13, .inr (1, [.null, .int 0, .int 0]))]) [8] rfl
  have hDc := hD.sub (ws' := [(q13, .inr (1, [.null, .int 0, .int 0]))]) [8] (by decide) rfl
  have hKc := hK.sub (tys' := []) [] rfl
  have hFc := va_free (wc := [(q13, .inr (1, [.null, .int 0, .int 0]))]) hD hS hA [8] rfl
  refine va_callv (va_runI (As := []) (rest := [.ref q13, .ref h0]) ⟨hx, hb, hml, hown, htw⟩ (c_AL_init l dC dI H.size q13 dE) (cwI 0 htw (tw_inL k_AL_init) rfl rfl rfl (htw _ wd_1_6) (htw _ wd_1_89) (htw _ wd_1_90) rfl (by decide +kernel) ⟨Nat.le_of_ble_eq_true rfl, Nat.le_of_ble_eq_true rfl⟩) ⟨fun a U g mk q => by obtain ⟨q0, q1, qP, qK, qD, hq0⟩ := q; exact ⟨q0, q1, qP, va_K.moved (u := U) (U := U.calling g mk a) (Vm.Alike.refl U.vm) qK, qD, va_Z.moved (u := U) (U := U.calling g mk a) (Vm.Alike.refl U.vm) hq0⟩, fun U hU hW => ⟨rfl, by rw [hU], by rw [hU]; exact hPc, va_K.moved hW.alike hKc, hDc.weaken (fun _ _ _ _ => trivial), by rw [hU]; exact va_Z.moved hW.alike ((va_Z.kept hx0 hS.2.1).narrow hFc)⟩⟩ rfl rfl hl.1 rfl (lv_room (Nat.le_of_ble_eq_true rfl)) d_Schema_init_53 ⟨hc0, hs0⟩) hS (fun q _ h => hFc q h) hFc (fun u t H1 locs ht hvm hw hB hz1 hk1 hS => ?_)
  obtain ⟨hP1, hK1, hD1⟩ := hB
  rw [ht] at hP1
  have hK1 := va_K.moved hvm.symm hK1
  obtain ⟨hP, hD⟩ := va_join (wr := [(h0, .inr (3, [.ref q1, .ref q3, .int 0, .int 0, .ref q9, .ref q11, .null, .null, .null, .null, .null, .null, .null, .null, .int 0, .null, .null, .null, .int 0])), (q1, .inr (1, [.ref dE, .int 0, .int 0])), (q3, .inr (2, [.ref al_5, .ref vd_6, .int 0])), (al_5, .inr (1, [.ref dE, .int 0, .int 0])), (vd_6, .inr (0, [.ref va_7, .int 0])), (va_7, .inl (vc_8, 64, .inl (fun _ => 0))), (q9, .inr (1, [.ref dE, .int 0, .int 0])), (q11, .inr (1, [.ref dE, .int 0, .int 0]))]) (w1 := [(q13, .inr (1, [.ref dE, .int 0, .int 0]))]) hP hD [8] [0, 1, 2, 3, 4, 5, 6, 7] rfl rfl (by decide) (by decide) hk1 hFc hP1 hD1
  have hK := (hK.sub (tys' := [(vc_8, .byte)]) [0] rfl).app hK1
  generalize H1 = H at hP hS ⊢
  have hP : va_P (dC, dI) classes [(h0, .inr (3, [.ref q1, .ref q3, .int 0, .int 0, .ref q9, .ref q11, .null, .null, .null, .null, .null, .null, .null, .null, .int 0, .null, .null, .null, .int 0])), (q1, .inr (1, [.ref dE, .int 0, .int 0])), (q3, .inr (2, [.ref al_5, .ref vd_6, .int 0])), (al_5, .inr (1, [.ref dE, .int 0, .int 0])), (vd_6, .inr (0, [.ref va_7, .int 0])), (va_7, .inl (vc_8, 64, .inl (fun _ => 0))), (q9, .inr (1, [.ref dE, .int 0, .int 0])), (q11, .inr (1, [.ref dE, .int 0, .int 0])), (q13, .inr (1, [.ref dE, .int 0, .int 0]))] H := hP
  have hD : va_D A [(h0, .inr (3, [.ref q1, .ref q3, .int 0, .int 0, .ref q9, .ref q11, .null, .null, .null, .null, .null, .null, .null, .null, .int 0, .null, .null, .null, .int 0])), (q1, .inr (1, [.ref dE, .int 0, .int 0])), (q3, .inr (2, [.ref al_5, .ref vd_6, .int 0])), (al_5, .inr (1, [.ref dE, .int 0, .int 0])), (vd_6, .inr (0, [.ref va_7, .int 0])), (va_7, .inl (vc_8, 64, .inl (fun _ => 0))), (q9, .inr (1, [.ref dE, .int 0, .int 0])), (q11, .inr (1, [.ref dE, .int 0, .int 0])), (q13, .inr (1, [.ref dE, .int 0, .int 0]))] := hD
  have hK : va_K (dC, dI) classes [(vc_8, .byte)] s := hK
  refine va_putF (D := (dC, dI)) (ci := 3) (v := .ref q13) (ty := .object "java/util/ArrayList") (C := R_Schema) (T := F_Schema) (N := 19) hx hb htw i_Schema t_Schema t_Schema_ok n_Schema hown hK hP hD hS 0 rfl rfl 6 (by decide) (htw _ wd_2_28) (fun _ h9 => h9) rfl hin rfl (by decide +kernel) rfl rfl (Nat.le_of_ble_eq_true rfl) d_Schema_init_56 (fun H locs hP hD hS => ?_)
  have hP : va_P (dC, dI) classes [(h0, .inr (3, [.ref q1, .ref q3, .int 0, .int 0, .ref q9, .ref q11, .ref q13, .null, .null, .null, .null, .null, .null, .null, .int 0, .null, .null, .null, .int 0])), (q1, .inr (1, [.ref dE, .int 0, .int 0])), (q3, .inr (2, [.ref al_5, .ref vd_6, .int 0])), (al_5, .inr (1, [.ref dE, .int 0, .int 0])), (vd_6, .inr (0, [.ref va_7, .int 0])), (va_7, .inl (vc_8, 64, .inl (fun _ => 0))), (q9, .inr (1, [.ref dE, .int 0, .int 0])), (q11, .inr (1, [.ref dE, .int 0, .int 0])), (q13, .inr (1, [.ref dE, .int 0, .int 0]))] H := hP
  have hD : va_D A [(h0, .inr (3, [.ref q1, .ref q3, .int 0, .int 0, .ref q9, .ref q11, .ref q13, .null, .null, .null, .null, .null, .null, .null, .int 0, .null, .null, .null, .int 0])), (q1, .inr (1, [.ref dE, .int 0, .int 0])), (q3, .inr (2, [.ref al_5, .ref vd_6, .int 0])), (al_5, .inr (1, [.ref dE, .int 0, .int 0])), (vd_6, .inr (0, [.ref va_7, .int 0])), (va_7, .inl (vc_8, 64, .inl (fun _ => 0))), (q9, .inr (1, [.ref dE, .int 0, .int 0])), (q11, .inr (1, [.ref dE, .int 0, .int 0])), (q13, .inr (1, [.ref dE, .int 0, .int 0]))] := hD
  refine lv_aload_n hx hb d_Schema_init_59 rfl (lv_at hl 0 rfl) ?_
  have hc0 : 8 + 1 ≤ 20 := by omega
  have hs0 : 84 + 2 ≤ 1536 := by omega
  refine va_new (ci := 0) (fs := [.null, .int 0]) (C := R_Bytes) (T := F_Bytes) (N := 2) hx hb htw i_Bytes t_Bytes t_Bytes_ok hown (htw _ wd_1_145) (htw _ wd_1_54) (htw _ wd_1_2) hK hP hD hS hA rfl (by decide) hc0 hs0 d_Schema_init_60 (fun q15 H hP hD hS => ?_)
  have hP : va_P (dC, dI) classes [(h0, .inr (3, [.ref q1, .ref q3, .int 0, .int 0, .ref q9, .ref q11, .ref q13, .null, .null, .null, .null, .null, .null, .null, .int 0, .null, .null, .null, .int 0])), (q1, .inr (1, [.ref dE, .int 0, .int 0])), (q3, .inr (2, [.ref al_5, .ref vd_6, .int 0])), (al_5, .inr (1, [.ref dE, .int 0, .int 0])), (vd_6, .inr (0, [.ref va_7, .int 0])), (va_7, .inl (vc_8, 64, .inl (fun _ => 0))), (q9, .inr (1, [.ref dE, .int 0, .int 0])), (q11, .inr (1, [.ref dE, .int 0, .int 0])), (q13, .inr (1, [.ref dE, .int 0, .int 0])), (q15, .inr (0, [.null, .int 0]))] H := hP
  have hD : va_D A [(h0, .inr (3, [.ref q1, .ref q3, .int 0, .int 0, .ref q9, .ref q11, .ref q13, .null, .null, .null, .null, .null, .null, .null, .int 0, .null, .null, .null, .int 0])), (q1, .inr (1, [.ref dE, .int 0, .int 0])), (q3, .inr (2, [.ref al_5, .ref vd_6, .int 0])), (al_5, .inr (1, [.ref dE, .int 0, .int 0])), (vd_6, .inr (0, [.ref va_7, .int 0])), (va_7, .inl (vc_8, 64, .inl (fun _ => 0))), (q9, .inr (1, [.ref dE, .int 0, .int 0])), (q11, .inr (1, [.ref dE, .int 0, .int 0])), (q13, .inr (1, [.ref dE, .int 0, .int 0])), (q15, .inr (0, [.null, .int 0]))] := hD
  refine lv_dup hx hb d_Schema_init_63 rfl ?_
  refine va_ldcS hx hb hown hx7 d_Schema_init_64 ?_
  have hc0 : 9 + 0 ≤ 20 := by omega
  have hs0 : 86 + 0 ≤ 1536 := by omega
  have hPc := hP.sub (ws' := []) [] rfl
  have hDc := hD.sub (ws' := []) [] (by decide) rfl
  have hKc := hK.sub (tys' := []) [] rfl
  have hFc := va_free (wc := []) hD hS hA [] rfl
  refine va_calli (va_runV (As := []) (rest := [.ref q15, .ref q15, .ref h0]) ⟨hx, hb, hml, hown, htw⟩ (c_Str_length l dC dI H.size wk wv 280 tz_wb (by first | omega | assumption)) (cwV 0 htw (tw_V wd_1_147 wd_1_148 wd_1_149 wd_1_8 k_Str_length) rfl rfl rfl (by decide +kernel) ⟨Nat.le_of_ble_eq_true rfl, Nat.le_of_ble_eq_true rfl⟩) ⟨fun a U g mk q => by obtain ⟨q0, q1, qP, qK, qD, hq0, hq1, hq2, hq3, hq4⟩ := q; exact ⟨q0, q1, qP, va_K.moved (u := U) (U := U.calling g mk a) (Vm.Alike.refl U.vm) qK, qD, va_Z.moved (u := U) (U := U.calling g mk a) (Vm.Alike.refl U.vm) hq0, va_O.moved (u := U) (U := U.calling g mk a) (Vm.Alike.refl U.vm) hq1, va_OF.moved (u := U) (U := U.calling g mk a) (Vm.Alike.refl U.vm) hq2, va_OF.moved (u := U) (U := U.calling g mk a) (Vm.Alike.refl U.vm) hq3, va_T.moved (u := U) (U := U.calling g mk a) (Vm.Alike.refl U.vm) hq4⟩, (by obtain ⟨c9, g1, g2, g3, -⟩ := va_O.kept hx3 hS.2.1; exact ⟨c9, g1, g2, g3⟩), fun U hU hW => ⟨rfl, by rw [hU], by rw [hU]; exact hPc, va_K.moved hW.alike hKc, hDc.weaken (fun _ _ _ _ => trivial), by rw [hU]; exact va_Z.moved hW.alike ((va_Z.kept hx1 hS.2.1).narrow hFc), by rw [hU]; exact va_O.moved hW.alike ((va_O.kept hx3 hS.2.1).narrow hFc), by rw [hU]; exact va_OF.moved hW.alike ((va_OF.kept hx4 hS.2.1).narrow hFc), by rw [hU]; exact va_OF.moved hW.alike ((va_OF.kept hx5 hS.2.1).narrow hFc), by rw [hU]; exact va_T.moved hW.alike ((va_T.kept hx6 hS.2.1).narrow hFc)⟩⟩ rfl rfl hl.1 rfl (lv_room (Nat.le_of_ble_eq_true rfl)) d_Schema_init_66 ⟨hc0, hs0⟩) hS (fun q _ h => hFc q h) hFc (fun r16 u t H1 locs ht hvm hw hB hz1 hk1 hS => ?_)
  obtain ⟨hP1, hK1, hD1⟩ := hB
  rw [ht] at hP1
  have hK1 := va_K.moved hvm.symm hK1
  obtain ⟨hP, hD⟩ := va_join (wr := [(h0, .inr (3, [.ref q1, .ref q3, .int 0, .int 0, .ref q9, .ref q11, .ref q13, .null, .null, .null, .null, .null, .null, .null, .int 0, .null, .null, .null, .int 0])), (q1, .inr (1, [.ref dE, .int 0, .int 0])), (q3, .inr (2, [.ref al_5, .ref vd_6, .int 0])), (al_5, .inr (1, [.ref dE, .int 0, .int 0])), (vd_6, .inr (0, [.ref va_7, .int 0])), (va_7, .inl (vc_8, 64, .inl (fun _ => 0))), (q9, .inr (1, [.ref dE, .int 0, .int 0])), (q11, .inr (1, [.ref dE, .int 0, .int 0])), (q13, .inr (1, [.ref dE, .int 0, .int 0])), (q15, .inr (0, [.null, .int 0]))]) (w1 := []) hP hD [] [0, 1, 2, 3, 4, 5, 6, 7, 8, 9] rfl rfl (by decide) (by decide) hk1 hFc hP1 hD1
  have hK := (hK.sub (tys' := [(vc_8, .byte)]) [0] rfl).app hK1
  generalize H1 = H at hP hS ⊢
  have hP : va_P (dC, dI) classes [(h0, .inr (3, [.ref q1, .ref q3, .int 0, .int 0, .ref q9, .ref q11, .ref q13, .null, .null, .null, .null, .null, .null, .null, .int 0, .null, .null, .null, .int 0])), (q1, .inr (1, [.ref dE, .int 0, .int 0])), (q3, .inr (2, [.ref al_5, .ref vd_6, .int 0])), (al_5, .inr (1, [.ref dE, .int 0, .int 0])), (vd_6, .inr (0, [.ref va_7, .int 0])), (va_7, .inl (vc_8, 64, .inl (fun _ => 0))), (q9, .inr (1, [.ref dE, .int 0, .int 0])), (q11, .inr (1, [.ref dE, .int 0, .int 0])), (q13, .inr (1, [.ref dE, .int 0, .int 0])), (q15, .inr (0, [.null, .int 0]))] H := hP
  have hD : va_D A [(h0, .inr (3, [.ref q1, .ref q3, .int 0, .int 0, .ref q9, .ref q11, .ref q13, .null, .null, .null, .null, .null, .null, .null, .int 0, .null, .null, .null, .int 0])), (q1, .inr (1, [.ref dE, .int 0, .int 0])), (q3, .inr (2, [.ref al_5, .ref vd_6, .int 0])), (al_5, .inr (1, [.ref dE, .int 0, .int 0])), (vd_6, .inr (0, [.ref va_7, .int 0])), (va_7, .inl (vc_8, 64, .inl (fun _ => 0))), (q9, .inr (1, [.ref dE, .int 0, .int 0])), (q11, .inr (1, [.ref dE, .int 0, .int 0])), (q13, .inr (1, [.ref dE, .int 0, .int 0])), (q15, .inr (0, [.null, .int 0]))] := hD
  have hK : va_K (dC, dI) classes [(vc_8, .byte)] s := hK
  subst hw
  have hc0 : 9 + 1 ≤ 20 := by omega
  have hs0 : 86 + 280 ≤ 1536 := by omega
  have hPc := hP.sub (ws' := [(q15, .inr (0, [.null, .int 0]))]) [9] rfl
  have hDc := hD.sub (ws' := [(q15, .inr (0, [.null, .int 0]))]) [9] (by decide) rfl
  have hKc := hK.sub (tys' := []) [] rfl
  have hFc := va_free (wc := [(q15, .inr (0, [.null, .int 0]))]) hD hS hA [9] rfl
  refine va_callv (va_runI (As := [.int (nI 280)]) (rest := [.ref q15, .ref h0]) ⟨hx, hb, hml, hown, htw⟩ (c_Bytes_init l dC dI H.size q15 280 (by first | omega | assumption)) (cwI 1 htw (tw_inL k_Bytes_init) rfl rfl rfl (htw _ wd_1_2) (htw _ wd_1_157) (htw _ wd_1_56) rfl (by decide +kernel) ⟨Nat.le_of_ble_eq_true rfl, Nat.le_of_ble_eq_true rfl⟩) ⟨fun a U g mk q => by obtain ⟨q0, q1, qP, qK, qD⟩ := q; exact ⟨q0, q1, qP, va_K.moved (u := U) (U := U.calling g mk a) (Vm.Alike.refl U.vm) qK, qD⟩, fun U hU hW => ⟨rfl, by rw [hU], by rw [hU]; exact hPc, va_K.moved hW.alike hKc, hDc.weaken (fun _ _ _ _ => trivial)⟩⟩ rfl rfl hl.1 rfl (lv_room (Nat.le_of_ble_eq_true rfl)) d_Schema_init_69 ⟨hc0, hs0⟩) hS (fun q _ h => hFc q h) hFc (fun u t H1 locs ht hvm hw hB hz1 hk1 hS => ?_)
  obtain ⟨qa_18, ca_19, hP1, hK1, hD1⟩ := hB
  rw [ht] at hP1
  have hK1 := va_K.moved hvm.symm hK1
  obtain ⟨hP, hD⟩ := va_join (wr := [(h0, .inr (3, [.ref q1, .ref q3, .int 0, .int 0, .ref q9, .ref q11, .ref q13, .null, .null, .null, .null, .null, .null, .null, .int 0, .null, .null, .null, .int 0])), (q1, .inr (1, [.ref dE, .int 0, .int 0])), (q3, .inr (2, [.ref al_5, .ref vd_6, .int 0])), (al_5, .inr (1, [.ref dE, .int 0, .int 0])), (vd_6, .inr (0, [.ref va_7, .int 0])), (va_7, .inl (vc_8, 64, .inl (fun _ => 0))), (q9, .inr (1, [.ref dE, .int 0, .int 0])), (q11, .inr (1, [.ref dE, .int 0, .int 0])), (q13, .inr (1, [.ref dE, .int 0, .int 0]))]) (w1 := [(q15, .inr (0, [.ref qa_18, .int 0])), (qa_18, .inl (ca_19, 280, .inl (fun _ => 0)))]) hP hD [9] [0, 1, 2, 3, 4, 5, 6, 7, 8] rfl rfl (by decide) (by decide) hk1 hFc hP1 hD1
  have hK := (hK.sub (tys' := [(vc_8, .byte)]) [0] rfl).app hK1
  generalize H1 = H at hP hS ⊢
  have hP : va_P (dC, dI) classes [(h0, .inr (3, [.ref q1, .ref q3, .int 0, .int 0, .ref q9, .ref q11, .ref q13, .null, .null, .null, .null, .null, .null, .null, .int 0, .null, .null, .null, .int 0])), (q1, .inr (1, [.ref dE, .int 0, .int 0])), (q3, .inr (2, [.ref al_5, .ref vd_6, .int 0])), (al_5, .inr (1, [.ref dE, .int 0, .int 0])), (vd_6, .inr (0, [.ref va_7, .int 0])), (va_7, .inl (vc_8, 64, .inl (fun _ => 0))), (q9, .inr (1, [.ref dE, .int 0, .int 0])), (q11, .inr (1, [.ref dE, .int 0, .int 0])), (q13, .inr (1, [.ref dE, .int 0, .int 0])), (q15, .inr (0, [.ref qa_18, .int 0])), (qa_18, .inl (ca_19, 280, .inl (fun _ => 0)))] H := hP
  have hD : va_D A [(h0, .inr (3, [.ref q1, .ref q3, .int 0, .int 0, .ref q9, .ref q11, .ref q13, .null, .null, .null, .null, .null, .null, .null, .int 0, .null, .null, .null, .int 0])), (q1, .inr (1, [.ref dE, .int 0, .int 0])), (q3, .inr (2, [.ref al_5, .ref vd_6, .int 0])), (al_5, .inr (1, [.ref dE, .int 0, .int 0])), (vd_6, .inr (0, [.ref va_7, .int 0])), (va_7, .inl (vc_8, 64, .inl (fun _ => 0))), (q9, .inr (1, [.ref dE, .int 0, .int 0])), (q11, .inr (1, [.ref dE, .int 0, .int 0])), (q13, .inr (1, [.ref dE, .int 0, .int 0])), (q15, .inr (0, [.ref qa_18, .int 0])), (qa_18, .inl (ca_19, 280, .inl (fun _ => 0)))] := hD
  have hK : va_K (dC, dI) classes [(vc_8, .byte), (ca_19, .byte)] s := hK
  refine va_putF (D := (dC, dI)) (ci := 3) (v := .ref q15) (ty := .object "SyntaxForge$Bytes") (C := R_Schema) (T := F_Schema) (N := 19) hx hb htw i_Schema t_Schema t_Schema_ok n_Schema hown hK hP hD hS 0 rfl rfl 7 (by decide) (htw _ wd_2_29) (fun _ h9 => h9) rfl hin rfl (by decide +kernel) rfl rfl (Nat.le_of_ble_eq_true rfl) d_Schema_init_72 (fun H locs hP hD hS => ?_)
  have hP : va_P (dC, dI) classes [(h0, .inr (3, [.ref q1, .ref q3, .int 0, .int 0, .ref q9, .ref q11, .ref q13, .ref q15, .null, .null, .null, .null, .null, .null, .int 0, .null, .null, .null, .int 0])), (q1, .inr (1, [.ref dE, .int 0, .int 0])), (q3, .inr (2, [.ref al_5, .ref vd_6, .int 0])), (al_5, .inr (1, [.ref dE, .int 0, .int 0])), (vd_6, .inr (0, [.ref va_7, .int 0])), (va_7, .inl (vc_8, 64, .inl (fun _ => 0))), (q9, .inr (1, [.ref dE, .int 0, .int 0])), (q11, .inr (1, [.ref dE, .int 0, .int 0])), (q13, .inr (1, [.ref dE, .int 0, .int 0])), (q15, .inr (0, [.ref qa_18, .int 0])), (qa_18, .inl (ca_19, 280, .inl (fun _ => 0)))] H := hP
  have hD : va_D A [(h0, .inr (3, [.ref q1, .ref q3, .int 0, .int 0, .ref q9, .ref q11, .ref q13, .ref q15, .null, .null, .null, .null, .null, .null, .int 0, .null, .null, .null, .int 0])), (q1, .inr (1, [.ref dE, .int 0, .int 0])), (q3, .inr (2, [.ref al_5, .ref vd_6, .int 0])), (al_5, .inr (1, [.ref dE, .int 0, .int 0])), (vd_6, .inr (0, [.ref va_7, .int 0])), (va_7, .inl (vc_8, 64, .inl (fun _ => 0))), (q9, .inr (1, [.ref dE, .int 0, .int 0])), (q11, .inr (1, [.ref dE, .int 0, .int 0])), (q13, .inr (1, [.ref dE, .int 0, .int 0])), (q15, .inr (0, [.ref qa_18, .int 0])), (qa_18, .inl (ca_19, 280, .inl (fun _ => 0)))] := hD
  refine lv_iconst (v := 0) hx hb d_Schema_init_75 (by decide) ?_
  refine lv_istore_n hx hb d_Schema_init_76 rfl hl (by decide) rfl (fun ls hl => ?_)
  have hl : lv_has ls 2 [(1, .int 0), (0, .ref h0)] := hl
  have lp : ∀ (fuel : Nat) (i : Nat) (g : Nat → Int32) (H : Heap) (locs : List Loc) (ls : Array Slot), i ≤ 280 → (∀ j, j < i → g j = tz_wb j) → 280 - i < fuel → lv_has ls 2 [(1, .int (nI i)), (0, .ref h0)] → va_P (dC, dI) classes [(h0, .inr (3, [.ref q1, .ref q3, .int 0, .int 0, .ref q9, .ref q11, .ref q13, .ref q15, .null, .null, .null, .null, .null, .null, .int 0, .null, .null, .null, .int 0])), (q1, .inr (1, [.ref dE, .int 0, .int 0])), (q3, .inr (2, [.ref al_5, .ref vd_6, .int 0])), (al_5, .inr (1, [.ref dE, .int 0, .int 0])), (vd_6, .inr (0, [.ref va_7, .int 0])), (va_7, .inl (vc_8, 64, .inl (fun _ => 0))), (q9, .inr (1, [.ref dE, .int 0, .int 0])), (q11, .inr (1, [.ref dE, .int 0, .int 0])), (q13, .inr (1, [.ref dE, .int 0, .int 0])), (q15, .inr (0, [.ref qa_18, .int (nI i)])), (qa_18, .inl (ca_19, 280, .inl g))] H → va_D A [(h0, .inr (3, [.ref q1, .ref q3, .int 0, .int 0, .ref q9, .ref q11, .ref q13, .ref q15, .null, .null, .null, .null, .null, .null, .int 0, .null, .null, .null, .int 0])), (q1, .inr (1, [.ref dE, .int 0, .int 0])), (q3, .inr (2, [.ref al_5, .ref vd_6, .int 0])), (al_5, .inr (1, [.ref dE, .int 0, .int 0])), (vd_6, .inr (0, [.ref va_7, .int 0])), (va_7, .inl (vc_8, 64, .inl (fun _ => 0))), (q9, .inr (1, [.ref dE, .int 0, .int 0])), (q11, .inr (1, [.ref dE, .int 0, .int 0])), (q13, .inr (1, [.ref dE, .int 0, .int 0])), (q15, .inr (0, [.ref qa_18, .int (nI i)])), (qa_18, .inl (ca_19, 280, .inl g))] → va_S A s.heap H locs → W p l e (headSpec ws_Schema_init ({ frames := 5, cells := 20, slots := 1536, locals := 115 })).room s m [.ref h0].toArray below meth c H locs 10 366 (MQ below (va_Qv (fun _ : Unit => True) (fun _ t => ∃ (a1 : Nat) (dv : Nat) (a2 : Nat) (a3 : Nat) (a4 : Nat) (wd : Nat) (lt : Nat) (bu : Nat) (st : Nat) (le : Nat) (nx : Nat) (ow : Nat) (sp : Nat) (ky : Nat) (sm : Nat) (s2 : Nat) (k2 : Nat) (g1 : Nat → Int32) (g2 : Nat → Int32) (g3 : Nat → Int32) (g4 : Nat → Int32) (g5 : Nat → Int32) (g6 : Nat → Int32) (wda : Nat) (cwd : ClassId) (wf : Nat → Int32) (lta : Nat) (clt : ClassId) (cst : ClassId) (cle : ClassId) (cnx : ClassId) (cow : ClassId) (cbu : ClassId) (m1 : Int32) (m2 : Int32) (m3 : Int32) (dal : Nat) (dvd : Nat) (dva : Nat), (∀ j, j < 280 → wf j = tz_wb j) ∧ va_P (dC, dI) classes [(h0, .inr (3, [.ref a1, .ref dv, .int 0, .int 0, .ref a2, .ref a3, .ref a4, .ref wd, .ref lt, .ref bu, .ref st, .ref le, .ref nx, .ref ow, .int (nI s2), .ref sp, .ref ky, .ref sm, .int 0])), (st, .inl (cst, 64, .inl g1)), (le, .inl (cle, 64, .inl g2)), (nx, .inl (cnx, 64, .inl g3)), (ow, .inl (cow, 64, .inl g4)), (bu, .inl (cbu, 256, .inl g5)), (lt, .inr (0, [.ref lta, .int (nI k2)])), (lta, .inl (clt, 512, .inl g6)), (wd, .inr (0, [.ref wda, .int (nI 280)])), (wda, .inl (cwd, 280, .inl wf)), (a1, .inr (1, [.ref dE, .int 0, .int m1])), (a2, .inr (1, [.ref dE, .int 0, .int m2])), (a3, .inr (1, [.ref dE, .int 0, .int m3])), (dv, .inr (2, [.ref dal, .ref dvd, .int 0])), (dvd, .inr (0, [.ref dva, .int 0]))] t.heap ∧ va_K (dC, dI) classes [(cst, .int), (cle, .int), (cnx, .int), (cow, .int), (cbu, .int), (clt, .byte), (cwd, .byte)] t ∧ va_D A [(h0, .inr (3, [.ref a1, .ref dv, .int 0, .int 0, .ref a2, .ref a3, .ref a4, .ref wd, .ref lt, .ref bu, .ref st, .ref le, .ref nx, .ref ow, .int (nI s2), .ref sp, .ref ky, .ref sm, .int 0])), (st, .inl (cst, 64, .inl g1)), (le, .inl (cle, 64, .inl g2)), (nx, .inl (cnx, 64, .inl g3)), (ow, .inl (cow, 64, .inl g4)), (bu, .inl (cbu, 256, .inl g5)), (lt, .inr (0, [.ref lta, .int (nI k2)])), (lta, .inl (clt, 512, .inl g6)), (wd, .inr (0, [.ref wda, .int (nI 280)])), (wda, .inl (cwd, 280, .inl wf)), (a1, .inr (1, [.ref dE, .int 0, .int m1])), (a2, .inr (1, [.ref dE, .int 0, .int m2])), (a3, .inr (1, [.ref dE, .int 0, .int m3])), (dv, .inr (2, [.ref dal, .ref dvd, .int 0])), (dvd, .inr (0, [.ref dva, .int 0]))]) A) [.ref h0].toArray s 20 1536 A) (F0 m 77 ls []) := by
    intro fuel
    induction fuel with
    | zero => intro i g H locs ls hi hg hm; omega
    | succ fuel ih =>
      intro i g H locs ls hi hg hm hl hP hD hS
      refine lv_iload_n hx hb d_Schema_init_77 rfl (lv_at hl 0 rfl) ?_
      refine va_ldcS hx hb hown hx7 d_Schema_init_78 ?_
      have hc0 : 10 + 0 ≤ 20 := by omega
      have hs0 : 366 + 0 ≤ 1536 := by omega
      have hPc := hP.sub (ws' := []) [] rfl
      have hDc := hD.sub (ws' := []) [] (by decide) rfl
      have hKc := hK.sub (tys' := []) [] rfl
      have hFc := va_free (wc := []) hD hS hA [] rfl
      refine va_calli (va_runV (As := []) (rest := [.int (nI i)]) ⟨hx, hb, hml, hown, htw⟩ (c_Str_length l dC dI H.size wk wv 280 tz_wb (by first | omega | assumption)) (cwV 0 htw (tw_V wd_1_147 wd_1_148 wd_1_149 wd_1_8 k_Str_length) rfl rfl rfl (by decide +kernel) ⟨Nat.le_of_ble_eq_true rfl, Nat.le_of_ble_eq_true rfl⟩) ⟨fun a U g mk q => by obtain ⟨q0, q1, qP, qK, qD, hq0, hq1, hq2, hq3, hq4⟩ := q; exact ⟨q0, q1, qP, va_K.moved (u := U) (U := U.calling g mk a) (Vm.Alike.refl U.vm) qK, qD, va_Z.moved (u := U) (U := U.calling g mk a) (Vm.Alike.refl U.vm) hq0, va_O.moved (u := U) (U := U.calling g mk a) (Vm.Alike.refl U.vm) hq1, va_OF.moved (u := U) (U := U.calling g mk a) (Vm.Alike.refl U.vm) hq2, va_OF.moved (u := U) (U := U.calling g mk a) (Vm.Alike.refl U.vm) hq3, va_T.moved (u := U) (U := U.calling g mk a) (Vm.Alike.refl U.vm) hq4⟩, (by obtain ⟨c9, g1, g2, g3, -⟩ := va_O.kept hx3 hS.2.1; exact ⟨c9, g1, g2, g3⟩), fun U hU hW => ⟨rfl, by rw [hU], by rw [hU]; exact hPc, va_K.moved hW.alike hKc, hDc.weaken (fun _ _ _ _ => trivial), by rw [hU]; exact va_Z.moved hW.alike ((va_Z.kept hx1 hS.2.1).narrow hFc), by rw [hU]; exact va_O.moved hW.alike ((va_O.kept hx3 hS.2.1).narrow hFc), by rw [hU]; exact va_OF.moved hW.alike ((va_OF.kept hx4 hS.2.1).narrow hFc), by rw [hU]; exact va_OF.moved hW.alike ((va_OF.kept hx5 hS.2.1).narrow hFc), by rw [hU]; exact va_T.moved hW.alike ((va_T.kept hx6 hS.2.1).narrow hFc)⟩⟩ rfl rfl hl.1 rfl (lv_room (Nat.le_of_ble_eq_true rfl)) d_Schema_init_80 ⟨hc0, hs0⟩) hS (fun q _ h => hFc q h) hFc (fun r20 u t H1 locs ht hvm hw hB hz1 hk1 hS => ?_)
      obtain ⟨hP1, hK1, hD1⟩ := hB
      rw [ht] at hP1
      have hK1 := va_K.moved hvm.symm hK1
      obtain ⟨hP, hD⟩ := va_join (wr := [(h0, .inr (3, [.ref q1, .ref q3, .int 0, .int 0, .ref q9, .ref q11, .ref q13, .ref q15, .null, .null, .null, .null, .null, .null, .int 0, .null, .null, .null, .int 0])), (q1, .inr (1, [.ref dE, .int 0, .int 0])), (q3, .inr (2, [.ref al_5, .ref vd_6, .int 0])), (al_5, .inr (1, [.ref dE, .int 0, .int 0])), (vd_6, .inr (0, [.ref va_7, .int 0])), (va_7, .inl (vc_8, 64, .inl (fun _ => 0))), (q9, .inr (1, [.ref dE, .int 0, .int 0])), (q11, .inr (1, [.ref dE, .int 0, .int 0])), (q13, .inr (1, [.ref dE, .int 0, .int 0])), (q15, .inr (0, [.ref qa_18, .int (nI i)])), (qa_18, .inl (ca_19, 280, .inl g))]) (w1 := []) hP hD [] [0, 1, 2, 3, 4, 5, 6, 7, 8, 9, 10] rfl rfl (by decide) (by decide) hk1 hFc hP1 hD1
      have hK := (hK.sub (tys' := [(vc_8, .byte), (ca_19, .byte)]) [0, 1] rfl).app hK1
      generalize H1 = H at hP hS ⊢
      have hP : va_P (dC, dI) classes [(h0, .inr (3, [.ref q1, .ref q3, .int 0, .int 0, .ref q9, .ref q11, .ref q13, .ref q15, .null, .null, .null, .null, .null, .null, .int 0, .null, .null, .null, .int 0])), (q1, .inr (1, [.ref dE, .int 0, .int 0])), (q3, .inr (2, [.ref al_5, .ref vd_6, .int 0])), (al_5, .inr (1, [.ref dE, .int 0, .int 0])), (vd_6, .inr (0, [.ref va_7, .int 0])), (va_7, .inl (vc_8, 64, .inl (fun _ => 0))), (q9, .inr (1, [.ref dE, .int 0, .int 0])), (q11, .inr (1, [.ref dE, .int 0, .int 0])), (q13, .inr (1, [.ref dE, .int 0, .int 0])), (q15, .inr (0, [.ref qa_18, .int (nI i)])), (qa_18, .inl (ca_19, 280, .inl g))] H := hP
      have hD : va_D A [(h0, .inr (3, [.ref q1, .ref q3, .int 0, .int 0, .ref q9, .ref q11, .ref q13, .ref q15, .null, .null, .null, .null, .null, .null, .int 0, .null, .null, .null, .int 0])), (q1, .inr (1, [.ref dE, .int 0, .int 0])), (q3, .inr (2, [.ref al_5, .ref vd_6, .int 0])), (al_5, .inr (1, [.ref dE, .int 0, .int 0])), (vd_6, .inr (0, [.ref va_7, .int 0])), (va_7, .inl (vc_8, 64, .inl (fun _ => 0))), (q9, .inr (1, [.ref dE, .int 0, .int 0])), (q11, .inr (1, [.ref dE, .int 0, .int 0])), (q13, .inr (1, [.ref dE, .int 0, .int 0])), (q15, .inr (0, [.ref qa_18, .int (nI i)])), (qa_18, .inl (ca_19, 280, .inl g))] := hD
      have hK : va_K (dC, dI) classes [(vc_8, .byte), (ca_19, .byte)] s := hK
      subst hw
      refine lv_icmp_ge (tgt := 105) hx hb d_Schema_init_83 rfl (fun h1 => ?_) (fun h1 => ?_)
      · have h2 : i = 280 := by have := (nI_leI (a := 280) (b := i) (by omega) (by omega)).mp h1; omega
        subst h2
        refine lv_aload_n hx hb d_Schema_init_105 rfl (lv_at hl 1 rfl) ?_
        have hc0 : 10 + 1 ≤ 20 := by omega
        have hs0 : 366 + 2 ≤ 1536 := by omega
        refine va_new (ci := 0) (fs := [.null, .int 0]) (C := R_Bytes) (T := F_Bytes) (N := 2) hx hb htw i_Bytes t_Bytes t_Bytes_ok hown (htw _ wd_1_145) (htw _ wd_1_54) (htw _ wd_1_2) hK hP hD hS hA rfl (by decide) hc0 hs0 d_Schema_init_106 (fun q21 H hP hD hS => ?_)
        have hP : va_P (dC, dI) classes [(h0, .inr (3, [.ref q1, .ref q3, .int 0, .int 0, .ref q9, .ref q11, .ref q13, .ref q15, .null, .null, .null, .null, .null, .null, .int 0, .null, .null, .null, .int 0])), (q1, .inr (1, [.ref dE, .int 0, .int 0])), (q3, .inr (2, [.ref al_5, .ref vd_6, .int 0])), (al_5, .inr (1, [.ref dE, .int 0, .int 0])), (vd_6, .inr (0, [.ref va_7, .int 0])), (va_7, .inl (vc_8, 64, .inl (fun _ => 0))), (q9, .inr (1, [.ref dE, .int 0, .int 0])), (q11, .inr (1, [.ref dE, .int 0, .int 0])), (q13, .inr (1, [.ref dE, .int 0, .int 0])), (q15, .inr (0, [.ref qa_18, .int (nI 280)])), (qa_18, .inl (ca_19, 280, .inl g)), (q21, .inr (0, [.null, .int 0]))] H := hP
        have hD : va_D A [(h0, .inr (3, [.ref q1, .ref q3, .int 0, .int 0, .ref q9, .ref q11, .ref q13, .ref q15, .null, .null, .null, .null, .null, .null, .int 0, .null, .null, .null, .int 0])), (q1, .inr (1, [.ref dE, .int 0, .int 0])), (q3, .inr (2, [.ref al_5, .ref vd_6, .int 0])), (al_5, .inr (1, [.ref dE, .int 0, .int 0])), (vd_6, .inr (0, [.ref va_7, .int 0])), (va_7, .inl (vc_8, 64, .inl (fun _ => 0))), (q9, .inr (1, [.ref dE, .int 0, .int 0])), (q11, .inr (1, [.ref dE, .int 0, .int 0])), (q13, .inr (1, [.ref dE, .int 0, .int 0])), (q15, .inr (0, [.ref qa_18, .int (nI 280)])), (qa_18, .inl (ca_19, 280, .inl g)), (q21, .inr (0, [.null, .int 0]))] := hD
        refine lv_dup hx hb d_Schema_init_109 rfl ?_
        refine lv_sipush (v := 512) hx hb d_Schema_init_110 (by decide) ?_
        have hc0 : 11 + 1 ≤ 20 := by omega
        have hs0 : 368 + 512 ≤ 1536 := by omega
        have hPc := hP.sub (ws' := [(q21, .inr (0, [.null, .int 0]))]) [11] rfl
        have hDc := hD.sub (ws' := [(q21, .inr (0, [.null, .int 0]))]) [11] (by decide) rfl
        have hKc := hK.sub (tys' := []) [] rfl
        have hFc := va_free (wc := [(q21, .inr (0, [.null, .int 0]))]) hD hS hA [11] rfl
        refine va_callv (va_runI (As := [.int 512]) (rest := [.ref q21, .ref h0]) ⟨hx, hb, hml, hown, htw⟩ (c_Bytes_init l dC dI H.size q21 512 (by first | omega | assumption)) (cwI 1 htw (tw_inL k_Bytes_init) rfl rfl rfl (htw _ wd_1_2) (htw _ wd_1_157) (htw _ wd_1_56) rfl (by decide +kernel) ⟨Nat.le_of_ble_eq_true rfl, Nat.le_of_ble_eq_true rfl⟩) ⟨fun a U g mk q => by obtain ⟨q0, q1, qP, qK, qD⟩ := q; exact ⟨q0, q1, qP, va_K.moved (u := U) (U := U.calling g mk a) (Vm.Alike.refl U.vm) qK, qD⟩, fun U hU hW => ⟨rfl, by rw [hU], by rw [hU]; exact hPc, va_K.moved hW.alike hKc, hDc.weaken (fun _ _ _ _ => trivial)⟩⟩ rfl rfl hl.1 rfl (lv_room (Nat.le_of_ble_eq_true rfl)) d_Schema_init_113 ⟨hc0, hs0⟩) hS (fun q _ h => hFc q h) hFc (fun u t H1 locs ht hvm hw hB hz1 hk1 hS => ?_)
        obtain ⟨qa_23, ca_24, hP1, hK1, hD1⟩ := hB
        rw [ht] at hP1
        have hK1 := va_K.moved hvm.symm hK1
        obtain ⟨hP, hD⟩ := va_join (wr := [(h0, .inr (3, [.ref q1, .ref q3, .int 0, .int 0, .ref q9, .ref q11, .ref q13, .ref q15, .null, .null, .null, .null, .null, .null, .int 0, .null, .null, .null, .int 0])), (q1, .inr (1, [.ref dE, .int 0, .int 0])), (q3, .inr (2, [.ref al_5, .ref vd_6, .int 0])), (al_5, .inr (1, [.ref dE, .int 0, .int 0])), (vd_6, .inr (0, [.ref va_7, .int 0])), (va_7, .inl (vc_8, 64, .inl (fun _ => 0))), (q9, .inr (1, [.ref dE, .int 0, .int 0])), (q11, .inr (1, [.ref dE, .int 0, .int 0])), (q13, .inr (1, [.ref dE, .int 0, .int 0])), (q15, .inr (0, [.ref qa_18, .int (nI 280)])), (qa_18, .inl (ca_19, 280, .inl g))]) (w1 := [(q21, .inr (0, [.ref qa_23, .int 0])), (qa_23, .inl (ca_24, 512, .inl (fun _ => 0)))]) hP hD [11] [0, 1, 2, 3, 4, 5, 6, 7, 8, 9, 10] rfl rfl (by decide) (by decide) hk1 hFc hP1 hD1
        have hK := (hK.sub (tys' := [(vc_8, .byte), (ca_19, .byte)]) [0, 1] rfl).app hK1
        generalize H1 = H at hP hS ⊢
        have hP : va_P (dC, dI) classes [(h0, .inr (3, [.ref q1, .ref q3, .int 0, .int 0, .ref q9, .ref q11, .ref q13, .ref q15, .null, .null, .null, .null, .null, .null, .int 0, .null, .null, .null, .int 0])), (q1, .inr (1, [.ref dE, .int 0, .int 0])), (q3, .inr (2, [.ref al_5, .ref vd_6, .int 0])), (al_5, .inr (1, [.ref dE, .int 0, .int 0])), (vd_6, .inr (0, [.ref va_7, .int 0])), (va_7, .inl (vc_8, 64, .inl (fun _ => 0))), (q9, .inr (1, [.ref dE, .int 0, .int 0])), (q11, .inr (1, [.ref dE, .int 0, .int 0])), (q13, .inr (1, [.ref dE, .int 0, .int 0])), (q15, .inr (0, [.ref qa_18, .int (nI 280)])), (qa_18, .inl (ca_19, 280, .inl g)), (q21, .inr (0, [.ref qa_23, .int 0])), (qa_23, .inl (ca_24, 512, .inl (fun _ => 0)))] H := hP
        have hD : va_D A [(h0, .inr (3, [.ref q1, .ref q3, .int 0, .int 0, .ref q9, .ref q11, .ref q13, .ref q15, .null, .null, .null, .null, .null, .null, .int 0, .null, .null, .null, .int 0])), (q1, .inr (1, [.ref dE, .int 0, .int 0])), (q3, .inr (2, [.ref al_5, .ref vd_6, .int 0])), (al_5, .inr (1, [.ref dE, .int 0, .int 0])), (vd_6, .inr (0, [.ref va_7, .int 0])), (va_7, .inl (vc_8, 64, .inl (fun _ => 0))), (q9, .inr (1, [.ref dE, .int 0, .int 0])), (q11, .inr (1, [.ref dE, .int 0, .int 0])), (q13, .inr (1, [.ref dE, .int 0, .int 0])), (q15, .inr (0, [.ref qa_18, .int (nI 280)])), (qa_18, .inl (ca_19, 280, .inl g)), (q21, .inr (0, [.ref qa_23, .int 0])), (qa_23, .inl (ca_24, 512, .inl (fun _ => 0)))] := hD
        have hK : va_K (dC, dI) classes [(vc_8, .byte), (ca_19, .byte), (ca_24, .byte)] s := hK
        refine va_putF (D := (dC, dI)) (ci := 3) (v := .ref q21) (ty := .object "SyntaxForge$Bytes") (C := R_Schema) (T := F_Schema) (N := 19) hx hb htw i_Schema t_Schema t_Schema_ok n_Schema hown hK hP hD hS 0 rfl rfl 8 (by decide) (htw _ wd_2_30) (fun _ h9 => h9) rfl hin rfl (by decide +kernel) rfl rfl (Nat.le_of_ble_eq_true rfl) d_Schema_init_116 (fun H locs hP hD hS => ?_)
        have hP : va_P (dC, dI) classes [(h0, .inr (3, [.ref q1, .ref q3, .int 0, .int 0, .ref q9, .ref q11, .ref q13, .ref q15, .ref q21, .null, .null, .null, .null, .null, .int 0, .null, .null, .null, .int 0])), (q1, .inr (1, [.ref dE, .int 0, .int 0])), (q3, .inr (2, [.ref al_5, .ref vd_6, .int 0])), (al_5, .inr (1, [.ref dE, .int 0, .int 0])), (vd_6, .inr (0, [.ref va_7, .int 0])), (va_7, .inl (vc_8, 64, .inl (fun _ => 0))), (q9, .inr (1, [.ref dE, .int 0, .int 0])), (q11, .inr (1, [.ref dE, .int 0, .int 0])), (q13, .inr (1, [.ref dE, .int 0, .int 0])), (q15, .inr (0, [.ref qa_18, .int (nI 280)])), (qa_18, .inl (ca_19, 280, .inl g)), (q21, .inr (0, [.ref qa_23, .int 0])), (qa_23, .inl (ca_24, 512, .inl (fun _ => 0)))] H := hP
        have hD : va_D A [(h0, .inr (3, [.ref q1, .ref q3, .int 0, .int 0, .ref q9, .ref q11, .ref q13, .ref q15, .ref q21, .null, .null, .null, .null, .null, .int 0, .null, .null, .null, .int 0])), (q1, .inr (1, [.ref dE, .int 0, .int 0])), (q3, .inr (2, [.ref al_5, .ref vd_6, .int 0])), (al_5, .inr (1, [.ref dE, .int 0, .int 0])), (vd_6, .inr (0, [.ref va_7, .int 0])), (va_7, .inl (vc_8, 64, .inl (fun _ => 0))), (q9, .inr (1, [.ref dE, .int 0, .int 0])), (q11, .inr (1, [.ref dE, .int 0, .int 0])), (q13, .inr (1, [.ref dE, .int 0, .int 0])), (q15, .inr (0, [.ref qa_18, .int (nI 280)])), (qa_18, .inl (ca_19, 280, .inl g)), (q21, .inr (0, [.ref qa_23, .int 0])), (qa_23, .inl (ca_24, 512, .inl (fun _ => 0)))] := hD
        refine lv_aload_n hx hb d_Schema_init_119 rfl (lv_at hl 1 rfl) ?_
        refine lv_sipush (v := 256) hx hb d_Schema_init_120 (by decide) ?_
        have hc0 : 12 + 1 ≤ 20 := by omega
        have hs0 : 880 + 256 ≤ 1536 := by omega
        refine va_newa (atype := .int) (a0 := (256, .inl (fun _ => 0))) hx hb (htw _ wd_2_80) rfl hK hP hD hS hA (fun _ => rfl) (by decide) (by decide) (by decide) hc0 hs0 d_Schema_init_123 (fun q25 cA26 H hK hP hD hS => ?_)
        have hP : va_P (dC, dI) classes [(h0, .inr (3, [.ref q1, .ref q3, .int 0, .int 0, .ref q9, .ref q11, .ref q13, .ref q15, .ref q21, .null, .null, .null, .null, .null, .int 0, .null, .null, .null, .int 0])), (q1, .inr (1, [.ref dE, .int 0, .int 0])), (q3, .inr (2, [.ref al_5, .ref vd_6, .int 0])), (al_5, .inr (1, [.ref dE, .int 0, .int 0])), (vd_6, .inr (0, [.ref va_7, .int 0])), (va_7, .inl (vc_8, 64, .inl (fun _ => 0))), (q9, .inr (1, [.ref dE, .int 0, .int 0])), (q11, .inr (1, [.ref dE, .int 0, .int 0])), (q13, .inr (1, [.ref dE, .int 0, .int 0])), (q15, .inr (0, [.ref qa_18, .int (nI 280)])), (qa_18, .inl (ca_19, 280, .inl g)), (q21, .inr (0, [.ref qa_23, .int 0])), (qa_23, .inl (ca_24, 512, .inl (fun _ => 0))), (q25, .inl (cA26, 256, .inl ((fun _ => 0))))] H := hP
        have hD : va_D A [(h0, .inr (3, [.ref q1, .ref q3, .int 0, .int 0, .ref q9, .ref q11, .ref q13, .ref q15, .ref q21, .null, .null, .null, .null, .null, .int 0, .null, .null, .null, .int 0])), (q1, .inr (1, [.ref dE, .int 0, .int 0])), (q3, .inr (2, [.ref al_5, .ref vd_6, .int 0])), (al_5, .inr (1, [.ref dE, .int 0, .int 0])), (vd_6, .inr (0, [.ref va_7, .int 0])), (va_7, .inl (vc_8, 64, .inl (fun _ => 0))), (q9, .inr (1, [.ref dE, .int 0, .int 0])), (q11, .inr (1, [.ref dE, .int 0, .int 0])), (q13, .inr (1, [.ref dE, .int 0, .int 0])), (q15, .inr (0, [.ref qa_18, .int (nI 280)])), (qa_18, .inl (ca_19, 280, .inl g)), (q21, .inr (0, [.ref qa_23, .int 0])), (qa_23, .inl (ca_24, 512, .inl (fun _ => 0))), (q25, .inl (cA26, 256, .inl ((fun _ => 0))))] := hD
        refine va_putF (D := (dC, dI)) (ci := 3) (v := .ref q25) (ty := .array .int) (C := R_Schema) (T := F_Schema) (N := 19) hx hb htw i_Schema t_Schema t_Schema_ok n_Schema hown hK hP hD hS 0 rfl rfl 9 (by decide) (htw _ wd_2_31) (fun _ h9 => h9) rfl hin rfl (by decide +kernel) rfl rfl (Nat.le_of_ble_eq_true rfl) d_Schema_init_125 (fun H locs hP hD hS => ?_)
        have hP : va_P (dC, dI) classes [(h0, .inr (3, [.ref q1, .ref q3, .int 0, .int 0, .ref q9, .ref q11, .ref q13, .ref q15, .ref q21, .ref q25, .null, .null, .null, .null, .int 0, .null, .null, .null, .int 0])), (q1, .inr (1, [.ref dE, .int 0, .int 0])), (q3, .inr (2, [.ref al_5, .ref vd_6, .int 0])), (al_5, .inr (1, [.ref dE, .int 0, .int 0])), (vd_6, .inr (0, [.ref va_7, .int 0])), (va_7, .inl (vc_8, 64, .inl (fun _ => 0))), (q9, .inr (1, [.ref dE, .int 0, .int 0])), (q11, .inr (1, [.ref dE, .int 0, .int 0])), (q13, .inr (1, [.ref dE, .int 0, .int 0])), (q15, .inr (0, [.ref qa_18, .int (nI 280)])), (qa_18, .inl (ca_19, 280, .inl g)), (q21, .inr (0, [.ref qa_23, .int 0])), (qa_23, .inl (ca_24, 512, .inl (fun _ => 0))), (q25, .inl (cA26, 256, .inl ((fun _ => 0))))] H := hP
        have hD : va_D A [(h0, .inr (3, [.ref q1, .ref q3, .int 0, .int 0, .ref q9, .ref q11, .ref q13, .ref q15, .ref q21, .ref q25, .null, .null, .null, .null, .int 0, .null, .null, .null, .int 0])), (q1, .inr (1, [.ref dE, .int 0, .int 0])), (q3, .inr (2, [.ref al_5, .ref vd_6, .int 0])), (al_5, .inr (1, [.ref dE, .int 0, .int 0])), (vd_6, .inr (0, [.ref va_7, .int 0])), (va_7, .inl (vc_8, 64, .inl (fun _ => 0))), (q9, .inr (1, [.ref dE, .int 0, .int 0])), (q11, .inr (1, [.ref dE, .int 0, .int 0])), (q13, .inr (1, [.ref dE, .int 0, .int 0])), (q15, .inr (0, [.ref qa_18, .int (nI 280)])), (qa_18, .inl (ca_19, 280, .inl g)), (q21, .inr (0, [.ref qa_23, .int 0])), (qa_23, .inl (ca_24, 512, .inl (fun _ => 0))), (q25, .inl (cA26, 256, .inl ((fun _ => 0))))] := hD
        refine lv_aload_n hx hb d_Schema_init_128 rfl (lv_at hl 1 rfl) ?_
        refine lv_bipush (v := 64) hx hb d_Schema_init_129 (by decide) ?_
        have hc0 : 13 + 1 ≤ 20 := by omega
        have hs0 : 1136 + 64 ≤ 1536 := by omega
        refine va_newa (atype := .int) (a0 := (64, .inl (fun _ => 0))) hx hb (htw _ wd_2_80) rfl hK hP hD hS hA (fun _ => rfl) (by decide) (by decide) (by decide) hc0 hs0 d_Schema_init_131 (fun q27 cA28 H hK hP hD hS => ?_)
        have hP : va_P (dC, dI) classes [(h0, .inr (3, [.ref q1, .ref q3, .int 0, .int 0, .ref q9, .ref q11, .ref q13, .ref q15, .ref q21, .ref q25, .null, .null, .null, .null, .int 0, .null, .null, .null, .int 0])), (q1, .inr (1, [.ref dE, .int 0, .int 0])), (q3, .inr (2, [.ref al_5, .ref vd_6, .int 0])), (al_5, .inr (1, [.ref dE, .int 0, .int 0])), (vd_6, .inr (0, [.ref va_7, .int 0])), (va_7, .inl (vc_8, 64, .inl (fun _ => 0))), (q9, .inr (1, [.ref dE, .int 0, .int 0])), (q11, .inr (1, [.ref dE, .int 0, .int 0])), (q13, .inr (1, [.ref dE, .int 0, .int 0])), (q15, .inr (0, [.ref qa_18, .int (nI 280)])), (qa_18, .inl (ca_19, 280, .inl g)), (q21, .inr (0, [.ref qa_23, .int 0])), (qa_23, .inl (ca_24, 512, .inl (fun _ => 0))), (q25, .inl (cA26, 256, .inl ((fun _ => 0)))), (q27, .inl (cA28, 64, .inl ((fun _ => 0))))] H := hP
        have hD : va_D A [(h0, .inr (3, [.ref q1, .ref q3, .int 0, .int 0, .ref q9, .ref q11, .ref q13, .ref q15, .ref q21, .ref q25, .null, .null, .null, .null, .int 0, .null, .null, .null, .int 0])), (q1, .inr (1, [.ref dE, .int 0, .int 0])), (q3, .inr (2, [.ref al_5, .ref vd_6, .int 0])), (al_5, .inr (1, [.ref dE, .int 0, .int 0])), (vd_6, .inr (0, [.ref va_7, .int 0])), (va_7, .inl (vc_8, 64, .inl (fun _ => 0))), (q9, .inr (1, [.ref dE, .int 0, .int 0])), (q11, .inr (1, [.ref dE, .int 0, .int 0])), (q13, .inr (1, [.ref dE, .int 0, .int 0])), (q15, .inr (0, [.ref qa_18, .int (nI 280)])), (qa_18, .inl (ca_19, 280, .inl g)), (q21, .inr (0, [.ref qa_23, .int 0])), (qa_23, .inl (ca_24, 512, .inl (fun _ => 0))), (q25, .inl (cA26, 256, .inl ((fun _ => 0)))), (q27, .inl (cA28, 64, .inl ((fun _ => 0))))] := hD
        refine va_put (D := (dC, dI)) (ci := 3) (v := .ref q27) (ty := .array .int) (C := R_Schema) (T := F_Schema) (N := 19) hx hb htw i_Schema t_Schema t_Schema_ok n_Schema hown hK hP hD hS 0 rfl rfl 10 (by decide) (htw _ wd_2_32) (fun _ h9 => h9) rfl (by decide +kernel) rfl rfl (Nat.le_of_ble_eq_true rfl) d_Schema_init_133 (fun H locs hP hD hS => ?_)
        have hP : va_P (dC, dI) classes [(h0, .inr (3, [.ref q1, .ref q3, .int 0, .int 0, .ref q9, .ref q11, .ref q13, .ref q15, .ref q21, .ref q25, .ref q27, .null, .null, .null, .int 0, .null, .null, .null, .int 0])), (q1, .inr (1, [.ref dE, .int 0, .int 0])), (q3, .inr (2, [.ref al_5, .ref vd_6, .int 0])), (al_5, .inr (1, [.ref dE, .int 0, .int 0])), (vd_6, .inr (0, [.ref va_7, .int 0])), (va_7, .inl (vc_8, 64, .inl (fun _ => 0))), (q9, .inr (1, [.ref dE, .int 0, .int 0])), (q11, .inr (1, [.ref dE, .int 0, .int 0])), (q13, .inr (1, [.ref dE, .int 0, .int 0])), (q15, .inr (0, [.ref qa_18, .int (nI 280)])), (qa_18, .inl (ca_19, 280, .inl g)), (q21, .inr (0, [.ref qa_23, .int 0])), (qa_23, .inl (ca_24, 512, .inl (fun _ => 0))), (q25, .inl (cA26, 256, .inl ((fun _ => 0)))), (q27, .inl (cA28, 64, .inl ((fun _ => 0))))] H := hP
        have hD : va_D A [(h0, .inr (3, [.ref q1, .ref q3, .int 0, .int 0, .ref q9, .ref q11, .ref q13, .ref q15, .ref q21, .ref q25, .ref q27, .null, .null, .null, .int 0, .null, .null, .null, .int 0])), (q1, .inr (1, [.ref dE, .int 0, .int 0])), (q3, .inr (2, [.ref al_5, .ref vd_6, .int 0])), (al_5, .inr (1, [.ref dE, .int 0, .int 0])), (vd_6, .inr (0, [.ref va_7, .int 0])), (va_7, .inl (vc_8, 64, .inl (fun _ => 0))), (q9, .inr (1, [.ref dE, .int 0, .int 0])), (q11, .inr (1, [.ref dE, .int 0, .int 0])), (q13, .inr (1, [.ref dE, .int 0, .int 0])), (q15, .inr (0, [.ref qa_18, .int (nI 280)])), (qa_18, .inl (ca_19, 280, .inl g)), (q21, .inr (0, [.ref qa_23, .int 0])), (qa_23, .inl (ca_24, 512, .inl (fun _ => 0))), (q25, .inl (cA26, 256, .inl ((fun _ => 0)))), (q27, .inl (cA28, 64, .inl ((fun _ => 0))))] := hD
        refine lv_aload_n hx hb d_Schema_init_136 rfl (lv_at hl 1 rfl) ?_
        refine lv_bipush (v := 64) hx hb d_Schema_init_137 (by decide) ?_
        have hc0 : 14 + 1 ≤ 20 := by omega
        have hs0 : 1200 + 64 ≤ 1536 := by omega
        refine va_newa (atype := .int) (a0 := (64, .inl (fun _ => 0))) hx hb (htw _ wd_2_80) rfl hK hP hD hS hA (fun _ => rfl) (by decide) (by decide) (by decide) hc0 hs0 d_Schema_init_139 (fun q29 cA30 H hK hP hD hS => ?_)
        have hP : va_P (dC, dI) classes [(h0, .inr (3, [.ref q1, .ref q3, .int 0, .int 0, .ref q9, .ref q11, .ref q13, .ref q15, .ref q21, .ref q25, .ref q27, .null, .null, .null, .int 0, .null, .null, .null, .int 0])), (q1, .inr (1, [.ref dE, .int 0, .int 0])), (q3, .inr (2, [.ref al_5, .ref vd_6, .int 0])), (al_5, .inr (1, [.ref dE, .int 0, .int 0])), (vd_6, .inr (0, [.ref va_7, .int 0])), (va_7, .inl (vc_8, 64, .inl (fun _ => 0))), (q9, .inr (1, [.ref dE, .int 0, .int 0])), (q11, .inr (1, [.ref dE, .int 0, .int 0])), (q13, .inr (1, [.ref dE, .int 0, .int 0])), (q15, .inr (0, [.ref qa_18, .int (nI 280)])), (qa_18, .inl (ca_19, 280, .inl g)), (q21, .inr (0, [.ref qa_23, .int 0])), (qa_23, .inl (ca_24, 512, .inl (fun _ => 0))), (q25, .inl (cA26, 256, .inl ((fun _ => 0)))), (q27, .inl (cA28, 64, .inl ((fun _ => 0)))), (q29, .inl (cA30, 64, .inl ((fun _ => 0))))] H := hP
        have hD : va_D A [(h0, .inr (3, [.ref q1, .ref q3, .int 0, .int 0, .ref q9, .ref q11, .ref q13, .ref q15, .ref q21, .ref q25, .ref q27, .null, .null, .null, .int 0, .null, .null, .null, .int 0])), (q1, .inr (1, [.ref dE, .int 0, .int 0])), (q3, .inr (2, [.ref al_5, .ref vd_6, .int 0])), (al_5, .inr (1, [.ref dE, .int 0, .int 0])), (vd_6, .inr (0, [.ref va_7, .int 0])), (va_7, .inl (vc_8, 64, .inl (fun _ => 0))), (q9, .inr (1, [.ref dE, .int 0, .int 0])), (q11, .inr (1, [.ref dE, .int 0, .int 0])), (q13, .inr (1, [.ref dE, .int 0, .int 0])), (q15, .inr (0, [.ref qa_18, .int (nI 280)])), (qa_18, .inl (ca_19, 280, .inl g)), (q21, .inr (0, [.ref qa_23, .int 0])), (qa_23, .inl (ca_24, 512, .inl (fun _ => 0))), (q25, .inl (cA26, 256, .inl ((fun _ => 0)))), (q27, .inl (cA28, 64, .inl ((fun _ => 0)))), (q29, .inl (cA30, 64, .inl ((fun _ => 0))))] := hD
        refine va_put (D := (dC, dI)) (ci := 3) (v := .ref q29) (ty := .array .int) (C := R_Schema) (T := F_Schema) (N := 19) hx hb htw i_Schema t_Schema t_Schema_ok n_Schema hown hK hP hD hS 0 rfl rfl 11 (by decide) (htw _ wd_2_33) (fun _ h9 => h9) rfl (by decide +kernel) rfl rfl (Nat.le_of_ble_eq_true rfl) d_Schema_init_141 (fun H locs hP hD hS => ?_)
        have hP : va_P (dC, dI) classes [(h0, .inr (3, [.ref q1, .ref q3, .int 0, .int 0, .ref q9, .ref q11, .ref q13, .ref q15, .ref q21, .ref q25, .ref q27, .ref q29, .null, .null, .int 0, .null, .null, .null, .int 0])), (q1, .inr (1, [.ref dE, .int 0, .int 0])), (q3, .inr (2, [.ref al_5, .ref vd_6, .int 0])), (al_5, .inr (1, [.ref dE, .int 0, .int 0])), (vd_6, .inr (0, [.ref va_7, .int 0])), (va_7, .inl (vc_8, 64, .inl (fun _ => 0))), (q9, .inr (1, [.ref dE, .int 0, .int 0])), (q11, .inr (1, [.ref dE, .int 0, .int 0])), (q13, .inr (1, [.ref dE, .int 0, .int 0])), (q15, .inr (0, [.ref qa_18, .int (nI 280)])), (qa_18, .inl (ca_19, 280, .inl g)), (q21, .inr (0, [.ref qa_23, .int 0])), (qa_23, .inl (ca_24, 512, .inl (fun _ => 0))), (q25, .inl (cA26, 256, .inl ((fun _ => 0)))), (q27, .inl (cA28, 64, .inl ((fun _ => 0)))), (q29, .inl (cA30, 64, .inl ((fun _ => 0))))] H := hP
        have hD : va_D A [(h0, .inr (3, [.ref q1, .ref q3, .int 0, .int 0, .ref q9, .ref q11, .ref q13, .ref q15, .ref q21, .ref q25, .ref q27, .ref q29, .null, .null, .int 0, .null, .null, .null, .int 0])), (q1, .inr (1, [.ref dE, .int 0, .int 0])), (q3, .inr (2, [.ref al_5, .ref vd_6, .int 0])), (al_5, .inr (1, [.ref dE, .int 0, .int 0])), (vd_6, .inr (0, [.ref va_7, .int 0])), (va_7, .inl (vc_8, 64, .inl (fun _ => 0))), (q9, .inr (1, [.ref dE, .int 0, .int 0])), (q11, .inr (1, [.ref dE, .int 0, .int 0])), (q13, .inr (1, [.ref dE, .int 0, .int 0])), (q15, .inr (0, [.ref qa_18, .int (nI 280)])), (qa_18, .inl (ca_19, 280, .inl g)), (q21, .inr (0, [.ref qa_23, .int 0])), (qa_23, .inl (ca_24, 512, .inl (fun _ => 0))), (q25, .inl (cA26, 256, .inl ((fun _ => 0)))), (q27, .inl (cA28, 64, .inl ((fun _ => 0)))), (q29, .inl (cA30, 64, .inl ((fun _ => 0))))] := hD
        refine lv_aload_n hx hb d_Schema_init_144 rfl (lv_at hl 1 rfl) ?_
        refine lv_bipush (v := 64) hx hb d_Schema_init_145 (by decide) ?_
        have hc0 : 15 + 1 ≤ 20 := by omega
        have hs0 : 1264 + 64 ≤ 1536 := by omega
        refine va_newa (atype := .int) (a0 := (64, .inl (fun _ => 0))) hx hb (htw _ wd_2_80) rfl hK hP hD hS hA (fun _ => rfl) (by decide) (by decide) (by decide) hc0 hs0 d_Schema_init_147 (fun q31 cA32 H hK hP hD hS => ?_)
        have hP : va_P (dC, dI) classes [(h0, .inr (3, [.ref q1, .ref q3, .int 0, .int 0, .ref q9, .ref q11, .ref q13, .ref q15, .ref q21, .ref q25, .ref q27, .ref q29, .null, .null, .int 0, .null, .null, .null, .int 0])), (q1, .inr (1, [.ref dE, .int 0, .int 0])), (q3, .inr (2, [.ref al_5, .ref vd_6, .int 0])), (al_5, .inr (1, [.ref dE, .int 0, .int 0])), (vd_6, .inr (0, [.ref va_7, .int 0])), (va_7, .inl (vc_8, 64, .inl (fun _ => 0))), (q9, .inr (1, [.ref dE, .int 0, .int 0])), (q11, .inr (1, [.ref dE, .int 0, .int 0])), (q13, .inr (1, [.ref dE, .int 0, .int 0])), (q15, .inr (0, [.ref qa_18, .int (nI 280)])), (qa_18, .inl (ca_19, 280, .inl g)), (q21, .inr (0, [.ref qa_23, .int 0])), (qa_23, .inl (ca_24, 512, .inl (fun _ => 0))), (q25, .inl (cA26, 256, .inl ((fun _ => 0)))), (q27, .inl (cA28, 64, .inl ((fun _ => 0)))), (q29, .inl (cA30, 64, .inl ((fun _ => 0)))), (q31, .inl (cA32, 64, .inl ((fun _ => 0))))] H := hP
        have hD : va_D A [(h0, .inr (3, [.ref q1, .ref q3, .int 0, .int 0, .ref q9, .ref q11, .ref q13, .ref q15, .ref q21, .ref q25, .ref q27, .ref q29, .null, .null, .int 0, .null, .null, .null, .int 0])), (q1, .inr (1, [.ref dE, .int 0, .int 0])), (q3, .inr (2, [.ref al_5, .ref vd_6, .int 0])), (al_5, .inr (1, [.ref dE, .int 0, .int 0])), (vd_6, .inr (0, [.ref va_7, .int 0])), (va_7, .inl (vc_8, 64, .inl (fun _ => 0))), (q9, .inr (1, [.ref dE, .int 0, .int 0])), (q11, .inr (1, [.ref dE, .int 0, .int 0])), (q13, .inr (1, [.ref dE, .int 0, .int 0])), (q15, .inr (0, [.ref qa_18, .int (nI 280)])), (qa_18, .inl (ca_19, 280, .inl g)), (q21, .inr (0, [.ref qa_23, .int 0])), (qa_23, .inl (ca_24, 512, .inl (fun _ => 0))), (q25, .inl (cA26, 256, .inl ((fun _ => 0)))), (q27, .inl (cA28, 64, .inl ((fun _ => 0)))), (q29, .inl (cA30, 64, .inl ((fun _ => 0)))), (q31, .inl (cA32, 64, .inl ((fun _ => 0))))] := hD
        refine va_put (D := (dC, dI)) (ci := 3) (v := .ref q31) (ty := .array .int) (C := R_Schema) (T := F_Schema) (N := 19) hx hb htw i_Schema t_Schema t_Schema_ok n_Schema hown hK hP hD hS 0 rfl rfl 12 (by decide) (htw _ wd_2_34) (fun _ h9 => h9) rfl (by decide +kernel) rfl rfl (Nat.le_of_ble_eq_true rfl) d_Schema_init_149 (fun H locs hP hD hS => ?_)
        have hP : va_P (dC, dI) classes [(h0, .inr (3, [.ref q1, .ref q3, .int 0, .int 0, .ref q9, .ref q11, .ref q13, .ref q15, .ref q21, .ref q25, .ref q27, .ref q29, .ref q31, .null, .int 0, .null, .null, .null, .int 0])), (q1, .inr (1, [.ref dE, .int 0, .int 0])), (q3, .inr (2, [.ref al_5, .ref vd_6, .int 0])), (al_5, .inr (1, [.ref dE, .int 0, .int 0])), (vd_6, .inr (0, [.ref va_7, .int 0])), (va_7, .inl (vc_8, 64, .inl (fun _ => 0))), (q9, .inr (1, [.ref dE, .int 0, .int 0])), (q11, .inr (1, [.ref dE, .int 0, .int 0])), (q13, .inr (1, [.ref dE, .int 0, .int 0])), (q15, .inr (0, [.ref qa_18, .int (nI 280)])), (qa_18, .inl (ca_19, 280, .inl g)), (q21, .inr (0, [.ref qa_23, .int 0])), (qa_23, .inl (ca_24, 512, .inl (fun _ => 0))), (q25, .inl (cA26, 256, .inl ((fun _ => 0)))), (q27, .inl (cA28, 64, .inl ((fun _ => 0)))), (q29, .inl (cA30, 64, .inl ((fun _ => 0)))), (q31, .inl (cA32, 64, .inl ((fun _ => 0))))] H := hP
        have hD : va_D A [(h0, .inr (3, [.ref q1, .ref q3, .int 0, .int 0, .ref q9, .ref q11, .ref q13, .ref q15, .ref q21, .ref q25, .ref q27, .ref q29, .ref q31, .null, .int 0, .null, .null, .null, .int 0])), (q1, .inr (1, [.ref dE, .int 0, .int 0])), (q3, .inr (2, [.ref al_5, .ref vd_6, .int 0])), (al_5, .inr (1, [.ref dE, .int 0, .int 0])), (vd_6, .inr (0, [.ref va_7, .int 0])), (va_7, .inl (vc_8, 64, .inl (fun _ => 0))), (q9, .inr (1, [.ref dE, .int 0, .int 0])), (q11, .inr (1, [.ref dE, .int 0, .int 0])), (q13, .inr (1, [.ref dE, .int 0, .int 0])), (q15, .inr (0, [.ref qa_18, .int (nI 280)])), (qa_18, .inl (ca_19, 280, .inl g)), (q21, .inr (0, [.ref qa_23, .int 0])), (qa_23, .inl (ca_24, 512, .inl (fun _ => 0))), (q25, .inl (cA26, 256, .inl ((fun _ => 0)))), (q27, .inl (cA28, 64, .inl ((fun _ => 0)))), (q29, .inl (cA30, 64, .inl ((fun _ => 0)))), (q31, .inl (cA32, 64, .inl ((fun _ => 0))))] := hD
        refine lv_aload_n hx hb d_Schema_init_152 rfl (lv_at hl 1 rfl) ?_
        refine lv_bipush (v := 64) hx hb d_Schema_init_153 (by decide) ?_
        have hc0 : 16 + 1 ≤ 20 := by omega
        have hs0 : 1328 + 64 ≤ 1536 := by omega
        refine va_newa (atype := .int) (a0 := (64, .inl (fun _ => 0))) hx hb (htw _ wd_2_80) rfl hK hP hD hS hA (fun _ => rfl) (by decide) (by decide) (by decide) hc0 hs0 d_Schema_init_155 (fun q33 cA34 H hK hP hD hS => ?_)
        have hP : va_P (dC, dI) classes [(h0, .inr (3, [.ref q1, .ref q3, .int 0, .int 0, .ref q9, .ref q11, .ref q13, .ref q15, .ref q21, .ref q25, .ref q27, .ref q29, .ref q31, .null, .int 0, .null, .null, .null, .int 0])), (q1, .inr (1, [.ref dE, .int 0, .int 0])), (q3, .inr (2, [.ref al_5, .ref vd_6, .int 0])), (al_5, .inr (1, [.ref dE, .int 0, .int 0])), (vd_6, .inr (0, [.ref va_7, .int 0])), (va_7, .inl (vc_8, 64, .inl (fun _ => 0))), (q9, .inr (1, [.ref dE, .int 0, .int 0])), (q11, .inr (1, [.ref dE, .int 0, .int 0])), (q13, .inr (1, [.ref dE, .int 0, .int 0])), (q15, .inr (0, [.ref qa_18, .int (nI 280)])), (qa_18, .inl (ca_19, 280, .inl g)), (q21, .inr (0, [.ref qa_23, .int 0])), (qa_23, .inl (ca_24, 512, .inl (fun _ => 0))), (q25, .inl (cA26, 256, .inl ((fun _ => 0)))), (q27, .inl (cA28, 64, .inl ((fun _ => 0)))), (q29, .inl (cA30, 64, .inl ((fun _ => 0)))), (q31, .inl (cA32, 64, .inl ((fun _ => 0)))), (q33, .inl (cA34, 64, .inl ((fun _ => 0))))] H := hP
        have hD : va_D A [(h0, .inr (3, [.ref q1, .ref q3, .int 0, .int 0, .ref q9, .ref q11, .ref q13, .ref q15, .ref q21, .ref q25, .ref q27, .ref q29, .ref q31, .null, .int 0, .null, .null, .null, .int 0])), (q1, .inr (1, [.ref dE, .int 0, .int 0])), (q3, .inr (2, [.ref al_5, .ref vd_6, .int 0])), (al_5, .inr (1, [.ref dE, .int 0, .int 0])), (vd_6, .inr (0, [.ref va_7, .int 0])), (va_7, .inl (vc_8, 64, .inl (fun _ => 0))), (q9, .inr (1, [.ref dE, .int 0, .int 0])), (q11, .inr (1, [.ref dE, .int 0, .int 0])), (q13, .inr (1, [.ref dE, .int 0, .int 0])), (q15, .inr (0, [.ref qa_18, .int (nI 280)])), (qa_18, .inl (ca_19, 280, .inl g)), (q21, .inr (0, [.ref qa_23, .int 0])), (qa_23, .inl (ca_24, 512, .inl (fun _ => 0))), (q25, .inl (cA26, 256, .inl ((fun _ => 0)))), (q27, .inl (cA28, 64, .inl ((fun _ => 0)))), (q29, .inl (cA30, 64, .inl ((fun _ => 0)))), (q31, .inl (cA32, 64, .inl ((fun _ => 0)))), (q33, .inl (cA34, 64, .inl ((fun _ => 0))))] := hD
        refine va_put (D := (dC, dI)) (ci := 3) (v := .ref q33) (ty := .array .int) (C := R_Schema) (T := F_Schema) (N := 19) hx hb htw i_Schema t_Schema t_Schema_ok n_Schema hown hK hP hD hS 0 rfl rfl 13 (by decide) (htw _ wd_2_35) (fun _ h9 => h9) rfl (by decide +kernel) rfl rfl (Nat.le_of_ble_eq_true rfl) d_Schema_init_157 (fun H locs hP hD hS => ?_)
        have hP : va_P (dC, dI) classes [(h0, .inr (3, [.ref q1, .ref q3, .int 0, .int 0, .ref q9, .ref q11, .ref q13, .ref q15, .ref q21, .ref q25, .ref q27, .ref q29, .ref q31, .ref q33, .int 0, .null, .null, .null, .int 0])), (q1, .inr (1, [.ref dE, .int 0, .int 0])), (q3, .inr (2, [.ref al_5, .ref vd_6, .int 0])), (al_5, .inr (1, [.ref dE, .int 0, .int 0])), (vd_6, .inr (0, [.ref va_7, .int 0])), (va_7, .inl (vc_8, 64, .inl (fun _ => 0))), (q9, .inr (1, [.ref dE, .int 0, .int 0])), (q11, .inr (1, [.ref dE, .int 0, .int 0])), (q13, .inr (1, [.ref dE, .int 0, .int 0])), (q15, .inr (0, [.ref qa_18, .int (nI 280)])), (qa_18, .inl (ca_19, 280, .inl g)), (q21, .inr (0, [.ref qa_23, .int 0])), (qa_23, .inl (ca_24, 512, .inl (fun _ => 0))), (q25, .inl (cA26, 256, .inl ((fun _ => 0)))), (q27, .inl (cA28, 64, .inl ((fun _ => 0)))), (q29, .inl (cA30, 64, .inl ((fun _ => 0)))), (q31, .inl (cA32, 64, .inl ((fun _ => 0)))), (q33, .inl (cA34, 64, .inl ((fun _ => 0))))] H := hP
        have hD : va_D A [(h0, .inr (3, [.ref q1, .ref q3, .int 0, .int 0, .ref q9, .ref q11, .ref q13, .ref q15, .ref q21, .ref q25, .ref q27, .ref q29, .ref q31, .ref q33, .int 0, .null, .null, .null, .int 0])), (q1, .inr (1, [.ref dE, .int 0, .int 0])), (q3, .inr (2, [.ref al_5, .ref vd_6, .int 0])), (al_5, .inr (1, [.ref dE, .int 0, .int 0])), (vd_6, .inr (0, [.ref va_7, .int 0])), (va_7, .inl (vc_8, 64, .inl (fun _ => 0))), (q9, .inr (1, [.ref dE, .int 0, .int 0])), (q11, .inr (1, [.ref dE, .int 0, .int 0])), (q13, .inr (1, [.ref dE, .int 0, .int 0])), (q15, .inr (0, [.ref qa_18, .int (nI 280)])), (qa_18, .inl (ca_19, 280, .inl g)), (q21, .inr (0, [.ref qa_23, .int 0])), (qa_23, .inl (ca_24, 512, .inl (fun _ => 0))), (q25, .inl (cA26, 256, .inl ((fun _ => 0)))), (q27, .inl (cA28, 64, .inl ((fun _ => 0)))), (q29, .inl (cA30, 64, .inl ((fun _ => 0)))), (q31, .inl (cA32, 64, .inl ((fun _ => 0)))), (q33, .inl (cA34, 64, .inl ((fun _ => 0))))] := hD
        refine lv_aload_n hx hb d_Schema_init_160 rfl (lv_at hl 1 rfl) ?_
        refine lv_bipush (v := 16) hx hb d_Schema_init_161 (by decide) ?_
        have hc0 : 17 + 1 ≤ 20 := by omega
        have hs0 : 1392 + 16 ≤ 1536 := by omega
        refine va_newa (atype := .int) (a0 := (16, .inl (fun _ => 0))) hx hb (htw _ wd_2_80) rfl hK hP hD hS hA (fun _ => rfl) (by decide) (by decide) (by decide) hc0 hs0 d_Schema_init_163 (fun q35 cA36 H hK hP hD hS => ?_)
        have hP : va_P (dC, dI) classes [(h0, .inr (3, [.ref q1, .ref q3, .int 0, .int 0, .ref q9, .ref q11, .ref q13, .ref q15, .ref q21, .ref q25, .ref q27, .ref q29, .ref q31, .ref q33, .int 0, .null, .null, .null, .int 0])), (q1, .inr (1, [.ref dE, .int 0, .int 0])), (q3, .inr (2, [.ref al_5, .ref vd_6, .int 0])), (al_5, .inr (1, [.ref dE, .int 0, .int 0])), (vd_6, .inr (0, [.ref va_7, .int 0])), (va_7, .inl (vc_8, 64, .inl (fun _ => 0))), (q9, .inr (1, [.ref dE, .int 0, .int 0])), (q11, .inr (1, [.ref dE, .int 0, .int 0])), (q13, .inr (1, [.ref dE, .int 0, .int 0])), (q15, .inr (0, [.ref qa_18, .int (nI 280)])), (qa_18, .inl (ca_19, 280, .inl g)), (q21, .inr (0, [.ref qa_23, .int 0])), (qa_23, .inl (ca_24, 512, .inl (fun _ => 0))), (q25, .inl (cA26, 256, .inl ((fun _ => 0)))), (q27, .inl (cA28, 64, .inl ((fun _ => 0)))), (q29, .inl (cA30, 64, .inl ((fun _ => 0)))), (q31, .inl (cA32, 64, .inl ((fun _ => 0)))), (q33, .inl (cA34, 64, .inl ((fun _ => 0)))), (q35, .inl (cA36, 16, .inl ((fun _ => 0))))] H := hP
        have hD : va_D A [(h0, .inr (3, [.ref q1, .ref q3, .int 0, .int 0, .ref q9, .ref q11, .ref q13, .ref q15, .ref q21, .ref q25, .ref q27, .ref q29, .ref q31, .ref q33, .int 0, .null, .null, .null, .int 0])), (q1, .inr (1, [.ref dE, .int 0, .int 0])), (q3, .inr (2, [.ref al_5, .ref vd_6, .int 0])), (al_5, .inr (1, [.ref dE, .int 0, .int 0])), (vd_6, .inr (0, [.ref va_7, .int 0])), (va_7, .inl (vc_8, 64, .inl (fun _ => 0))), (q9, .inr (1, [.ref dE, .int 0, .int 0])), (q11, .inr (1, [.ref dE, .int 0, .int 0])), (q13, .inr (1, [.ref dE, .int 0, .int 0])), (q15, .inr (0, [.ref qa_18, .int (nI 280)])), (qa_18, .inl (ca_19, 280, .inl g)), (q21, .inr (0, [.ref qa_23, .int 0])), (qa_23, .inl (ca_24, 512, .inl (fun _ => 0))), (q25, .inl (cA26, 256, .inl ((fun _ => 0)))), (q27, .inl (cA28, 64, .inl ((fun _ => 0)))), (q29, .inl (cA30, 64, .inl ((fun _ => 0)))), (q31, .inl (cA32, 64, .inl ((fun _ => 0)))), (q33, .inl (cA34, 64, .inl ((fun _ => 0)))), (q35, .inl (cA36, 16, .inl ((fun _ => 0))))] := hD
        refine va_put (D := (dC, dI)) (ci := 3) (v := .ref q35) (ty := .array .int) (C := R_Schema) (T := F_Schema) (N := 19) hx hb htw i_Schema t_Schema t_Schema_ok n_Schema hown hK hP hD hS 0 rfl rfl 15 (by decide) (htw _ wd_2_37) (fun _ h9 => h9) rfl (by decide +kernel) rfl rfl (Nat.le_of_ble_eq_true rfl) d_Schema_init_165 (fun H locs hP hD hS => ?_)
        have hP : va_P (dC, dI) classes [(h0, .inr (3, [.ref q1, .ref q3, .int 0, .int 0, .ref q9, .ref q11, .ref q13, .ref q15, .ref q21, .ref q25, .ref q27, .ref q29, .ref q31, .ref q33, .int 0, .ref q35, .null, .null, .int 0])), (q1, .inr (1, [.ref dE, .int 0, .int 0])), (q3, .inr (2, [.ref al_5, .ref vd_6, .int 0])), (al_5, .inr (1, [.ref dE, .int 0, .int 0])), (vd_6, .inr (0, [.ref va_7, .int 0])), (va_7, .inl (vc_8, 64, .inl (fun _ => 0))), (q9, .inr (1, [.ref dE, .int 0, .int 0])), (q11, .inr (1, [.ref dE, .int 0, .int 0])), (q13, .inr (1, [.ref dE, .int 0, .int 0])), (q15, .inr (0, [.ref qa_18, .int (nI 280)])), (qa_18, .inl (ca_19, 280, .inl g)), (q21, .inr (0, [.ref qa_23, .int 0])), (qa_23, .inl (ca_24, 512, .inl (fun _ => 0))), (q25, .inl (cA26, 256, .inl ((fun _ => 0)))), (q27, .inl (cA28, 64, .inl ((fun _ => 0)))), (q29, .inl (cA30, 64, .inl ((fun _ => 0)))), (q31, .inl (cA32, 64, .inl ((fun _ => 0)))), (q33, .inl (cA34, 64, .inl ((fun _ => 0)))), (q35, .inl (cA36, 16, .inl ((fun _ => 0))))] H := hP
        have hD : va_D A [(h0, .inr (3, [.ref q1, .ref q3, .int 0, .int 0, .ref q9, .ref q11, .ref q13, .ref q15, .ref q21, .ref q25, .ref q27, .ref q29, .ref q31, .ref q33, .int 0, .ref q35, .null, .null, .int 0])), (q1, .inr (1, [.ref dE, .int 0, .int 0])), (q3, .inr (2, [.ref al_5, .ref vd_6, .int 0])), (al_5, .inr (1, [.ref dE, .int 0, .int 0])), (vd_6, .inr (0, [.ref va_7, .int 0])), (va_7, .inl (vc_8, 64, .inl (fun _ => 0))), (q9, .inr (1, [.ref dE, .int 0, .int 0])), (q11, .inr (1, [.ref dE, .int 0, .int 0])), (q13, .inr (1, [.ref dE, .int 0, .int 0])), (q15, .inr (0, [.ref qa_18, .int (nI 280)])), (qa_18, .inl (ca_19, 280, .inl g)), (q21, .inr (0, [.ref qa_23, .int 0])), (qa_23, .inl (ca_24, 512, .inl (fun _ => 0))), (q25, .inl (cA26, 256, .inl ((fun _ => 0)))), (q27, .inl (cA28, 64, .inl ((fun _ => 0)))), (q29, .inl (cA30, 64, .inl ((fun _ => 0)))), (q31, .inl (cA32, 64, .inl ((fun _ => 0)))), (q33, .inl (cA34, 64, .inl ((fun _ => 0)))), (q35, .inl (cA36, 16, .inl ((fun _ => 0))))] := hD
        refine lv_aload_n hx hb d_Schema_init_168 rfl (lv_at hl 1 rfl) ?_
        refine lv_bipush (v := 64) hx hb d_Schema_init_169 (by decide) ?_
        have hc0 : 18 + 1 ≤ 20 := by omega
        have hs0 : 1408 + 64 ≤ 1536 := by omega
        refine va_newa (atype := .long) (a0 := (64, .inr (.inl (fun _ => 0)))) hx hb (htw _ wd_2_81) rfl hK hP hD hS hA (fun _ => rfl) (by decide) (by decide) (by decide) hc0 hs0 d_Schema_init_171 (fun q37 cA38 H hK hP hD hS => ?_)
        have hP : va_P (dC, dI) classes [(h0, .inr (3, [.ref q1, .ref q3, .int 0, .int 0, .ref q9, .ref q11, .ref q13, .ref q15, .ref q21, .ref q25, .ref q27, .ref q29, .ref q31, .ref q33, .int 0, .ref q35, .null, .null, .int 0])), (q1, .inr (1, [.ref dE, .int 0, .int 0])), (q3, .inr (2, [.ref al_5, .ref vd_6, .int 0])), (al_5, .inr (1, [.ref dE, .int 0, .int 0])), (vd_6, .inr (0, [.ref va_7, .int 0])), (va_7, .inl (vc_8, 64, .inl (fun _ => 0))), (q9, .inr (1, [.ref dE, .int 0, .int 0])), (q11, .inr (1, [.ref dE, .int 0, .int 0])), (q13, .inr (1, [.ref dE, .int 0, .int 0])), (q15, .inr (0, [.ref qa_18, .int (nI 280)])), (qa_18, .inl (ca_19, 280, .inl g)), (q21, .inr (0, [.ref qa_23, .int 0])), (qa_23, .inl (ca_24, 512, .inl (fun _ => 0))), (q25, .inl (cA26, 256, .inl ((fun _ => 0)))), (q27, .inl (cA28, 64, .inl ((fun _ => 0)))), (q29, .inl (cA30, 64, .inl ((fun _ => 0)))), (q31, .inl (cA32, 64, .inl ((fun _ => 0)))), (q33, .inl (cA34, 64, .inl ((fun _ => 0)))), (q35, .inl (cA36, 16, .inl ((fun _ => 0)))), (q37, .inl (cA38, 64, .inr (.inl ((fun _ => 0)))))] H := hP
        have hD : va_D A [(h0, .inr (3, [.ref q1, .ref q3, .int 0, .int 0, .ref q9, .ref q11, .ref q13, .ref q15, .ref q21, .ref q25, .ref q27, .ref q29, .ref q31, .ref q33, .int 0, .ref q35, .null, .null, .int 0])), (q1, .inr (1, [.ref dE, .int 0, .int 0])), (q3, .inr (2, [.ref al_5, .ref vd_6, .int 0])), (al_5, .inr (1, [.ref dE, .int 0, .int 0])), (vd_6, .inr (0, [.ref va_7, .int 0])), (va_7, .inl (vc_8, 64, .inl (fun _ => 0))), (q9, .inr (1, [.ref dE, .int 0, .int 0])), (q11, .inr (1, [.ref dE, .int 0, .int 0])), (q13, .inr (1, [.ref dE, .int 0, .int 0])), (q15, .inr (0, [.ref qa_18, .int (nI 280)])), (qa_18, .inl (ca_19, 280, .inl g)), (q21, .inr (0, [.ref qa_23, .int 0])), (qa_23, .inl (ca_24, 512, .inl (fun _ => 0))), (q25, .inl (cA26, 256, .inl ((fun _ => 0)))), (q27, .inl (cA28, 64, .inl ((fun _ => 0)))), (q29, .inl (cA30, 64, .inl ((fun _ => 0)))), (q31, .inl (cA32, 64, .inl ((fun _ => 0)))), (q33, .inl (cA34, 64, .inl ((fun _ => 0)))), (q35, .inl (cA36, 16, .inl ((fun _ => 0)))), (q37, .inl (cA38, 64, .inr (.inl ((fun _ => 0)))))] := hD
        refine va_put (D := (dC, dI)) (ci := 3) (v := .ref q37) (ty := .array .long) (C := R_Schema) (T := F_Schema) (N := 19) hx hb htw i_Schema t_Schema t_Schema_ok n_Schema hown hK hP hD hS 0 rfl rfl 16 (by decide) (htw _ wd_2_38) (fun _ h9 => h9) rfl (by decide +kernel) rfl rfl (Nat.le_of_ble_eq_true rfl) d_Schema_init_173 (fun H locs hP hD hS => ?_)
        have hP : va_P (dC, dI) classes [(h0, .inr (3, [.ref q1, .ref q3, .int 0, .int 0, .ref q9, .ref q11, .ref q13, .ref q15, .ref q21, .ref q25, .ref q27, .ref q29, .ref q31, .ref q33, .int 0, .ref q35, .ref q37, .null, .int 0])), (q1, .inr (1, [.ref dE, .int 0, .int 0])), (q3, .inr (2, [.ref al_5, .ref vd_6, .int 0])), (al_5, .inr (1, [.ref dE, .int 0, .int 0])), (vd_6, .inr (0, [.ref va_7, .int 0])), (va_7, .inl (vc_8, 64, .inl (fun _ => 0))), (q9, .inr (1, [.ref dE, .int 0, .int 0])), (q11, .inr (1, [.ref dE, .int 0, .int 0])), (q13, .inr (1, [.ref dE, .int 0, .int 0])), (q15, .inr (0, [.ref qa_18, .int (nI 280)])), (qa_18, .inl (ca_19, 280, .inl g)), (q21, .inr (0, [.ref qa_23, .int 0])), (qa_23, .inl (ca_24, 512, .inl (fun _ => 0))), (q25, .inl (cA26, 256, .inl ((fun _ => 0)))), (q27, .inl (cA28, 64, .inl ((fun _ => 0)))), (q29, .inl (cA30, 64, .inl ((fun _ => 0)))), (q31, .inl (cA32, 64, .inl ((fun _ => 0)))), (q33, .inl (cA34, 64, .inl ((fun _ => 0)))), (q35, .inl (cA36, 16, .inl ((fun _ => 0)))), (q37, .inl (cA38, 64, .inr (.inl ((fun _ => 0)))))] H := hP
        have hD : va_D A [(h0, .inr (3, [.ref q1, .ref q3, .int 0, .int 0, .ref q9, .ref q11, .ref q13, .ref q15, .ref q21, .ref q25, .ref q27, .ref q29, .ref q31, .ref q33, .int 0, .ref q35, .ref q37, .null, .int 0])), (q1, .inr (1, [.ref dE, .int 0, .int 0])), (q3, .inr (2, [.ref al_5, .ref vd_6, .int 0])), (al_5, .inr (1, [.ref dE, .int 0, .int 0])), (vd_6, .inr (0, [.ref va_7, .int 0])), (va_7, .inl (vc_8, 64, .inl (fun _ => 0))), (q9, .inr (1, [.ref dE, .int 0, .int 0])), (q11, .inr (1, [.ref dE, .int 0, .int 0])), (q13, .inr (1, [.ref dE, .int 0, .int 0])), (q15, .inr (0, [.ref qa_18, .int (nI 280)])), (qa_18, .inl (ca_19, 280, .inl g)), (q21, .inr (0, [.ref qa_23, .int 0])), (qa_23, .inl (ca_24, 512, .inl (fun _ => 0))), (q25, .inl (cA26, 256, .inl ((fun _ => 0)))), (q27, .inl (cA28, 64, .inl ((fun _ => 0)))), (q29, .inl (cA30, 64, .inl ((fun _ => 0)))), (q31, .inl (cA32, 64, .inl ((fun _ => 0)))), (q33, .inl (cA34, 64, .inl ((fun _ => 0)))), (q35, .inl (cA36, 16, .inl ((fun _ => 0)))), (q37, .inl (cA38, 64, .inr (.inl ((fun _ => 0)))))] := hD
        refine lv_aload_n hx hb d_Schema_init_176 rfl (lv_at hl 1 rfl) ?_
        refine lv_bipush (v := 64) hx hb d_Schema_init_177 (by decide) ?_
        have hc0 : 19 + 1 ≤ 20 := by omega
        have hs0 : 1472 + 64 ≤ 1536 := by omega
        refine va_newa (atype := .int) (a0 := (64, .inl (fun _ => 0))) hx hb (htw _ wd_2_80) rfl hK hP hD hS hA (fun _ => rfl) (by decide) (by decide) (by decide) hc0 hs0 d_Schema_init_179 (fun q39 cA40 H hK hP hD hS => ?_)
        have hP : va_P (dC, dI) classes [(h0, .inr (3, [.ref q1, .ref q3, .int 0, .int 0, .ref q9, .ref q11, .ref q13, .ref q15, .ref q21, .ref q25, .ref q27, .ref q29, .ref q31, .ref q33, .int 0, .ref q35, .ref q37, .null, .int 0])), (q1, .inr (1, [.ref dE, .int 0, .int 0])), (q3, .inr (2, [.ref al_5, .ref vd_6, .int 0])), (al_5, .inr (1, [.ref dE, .int 0, .int 0])), (vd_6, .inr (0, [.ref va_7, .int 0])), (va_7, .inl (vc_8, 64, .inl (fun _ => 0))), (q9, .inr (1, [.ref dE, .int 0, .int 0])), (q11, .inr (1, [.ref dE, .int 0, .int 0])), (q13, .inr (1, [.ref dE, .int 0, .int 0])), (q15, .inr (0, [.ref qa_18, .int (nI 280)])), (qa_18, .inl (ca_19, 280, .inl g)), (q21, .inr (0, [.ref qa_23, .int 0])), (qa_23, .inl (ca_24, 512, .inl (fun _ => 0))), (q25, .inl (cA26, 256, .inl ((fun _ => 0)))), (q27, .inl (cA28, 64, .inl ((fun _ => 0)))), (q29, .inl (cA30, 64, .inl ((fun _ => 0)))), (q31, .inl (cA32, 64, .inl ((fun _ => 0)))), (q33, .inl (cA34, 64, .inl ((fun _ => 0)))), (q35, .inl (cA36, 16, .inl ((fun _ => 0)))), (q37, .inl (cA38, 64, .inr (.inl ((fun _ => 0))))), (q39, .inl (cA40, 64, .inl ((fun _ => 0))))] H := hP
        have hD : va_D A [(h0, .inr (3, [.ref q1, .ref q3, .int 0, .int 0, .ref q9, .ref q11, .ref q13, .ref q15, .ref q21, .ref q25, .ref q27, .ref q29, .ref q31, .ref q33, .int 0, .ref q35, .ref q37, .null, .int 0])), (q1, .inr (1, [.ref dE, .int 0, .int 0])), (q3, .inr (2, [.ref al_5, .ref vd_6, .int 0])), (al_5, .inr (1, [.ref dE, .int 0, .int 0])), (vd_6, .inr (0, [.ref va_7, .int 0])), (va_7, .inl (vc_8, 64, .inl (fun _ => 0))), (q9, .inr (1, [.ref dE, .int 0, .int 0])), (q11, .inr (1, [.ref dE, .int 0, .int 0])), (q13, .inr (1, [.ref dE, .int 0, .int 0])), (q15, .inr (0, [.ref qa_18, .int (nI 280)])), (qa_18, .inl (ca_19, 280, .inl g)), (q21, .inr (0, [.ref qa_23, .int 0])), (qa_23, .inl (ca_24, 512, .inl (fun _ => 0))), (q25, .inl (cA26, 256, .inl ((fun _ => 0)))), (q27, .inl (cA28, 64, .inl ((fun _ => 0)))), (q29, .inl (cA30, 64, .inl ((fun _ => 0)))), (q31, .inl (cA32, 64, .inl ((fun _ => 0)))), (q33, .inl (cA34, 64, .inl ((fun _ => 0)))), (q35, .inl (cA36, 16, .inl ((fun _ => 0)))), (q37, .inl (cA38, 64, .inr (.inl ((fun _ => 0))))), (q39, .inl (cA40, 64, .inl ((fun _ => 0))))] := hD
        refine va_put (D := (dC, dI)) (ci := 3) (v := .ref q39) (ty := .array .int) (C := R_Schema) (T := F_Schema) (N := 19) hx hb htw i_Schema t_Schema t_Schema_ok n_Schema hown hK hP hD hS 0 rfl rfl 17 (by decide) (htw _ wd_2_39) (fun _ h9 => h9) rfl (by decide +kernel) rfl rfl (Nat.le_of_ble_eq_true rfl) d_Schema_init_181 (fun H locs hP hD hS => ?_)
        have hP : va_P (dC, dI) classes [(h0, .inr (3, [.ref q1, .ref q3, .int 0, .int 0, .ref q9, .ref q11, .ref q13, .ref q15, .ref q21, .ref q25, .ref q27, .ref q29, .ref q31, .ref q33, .int 0, .ref q35, .ref q37, .ref q39, .int 0])), (q1, .inr (1, [.ref dE, .int 0, .int 0])), (q3, .inr (2, [.ref al_5, .ref vd_6, .int 0])), (al_5, .inr (1, [.ref dE, .int 0, .int 0])), (vd_6, .inr (0, [.ref va_7, .int 0])), (va_7, .inl (vc_8, 64, .inl (fun _ => 0))), (q9, .inr (1, [.ref dE, .int 0, .int 0])), (q11, .inr (1, [.ref dE, .int 0, .int 0])), (q13, .inr (1, [.ref dE, .int 0, .int 0])), (q15, .inr (0, [.ref qa_18, .int (nI 280)])), (qa_18, .inl (ca_19, 280, .inl g)), (q21, .inr (0, [.ref qa_23, .int 0])), (qa_23, .inl (ca_24, 512, .inl (fun _ => 0))), (q25, .inl (cA26, 256, .inl ((fun _ => 0)))), (q27, .inl (cA28, 64, .inl ((fun _ => 0)))), (q29, .inl (cA30, 64, .inl ((fun _ => 0)))), (q31, .inl (cA32, 64, .inl ((fun _ => 0)))), (q33, .inl (cA34, 64, .inl ((fun _ => 0)))), (q35, .inl (cA36, 16, .inl ((fun _ => 0)))), (q37, .inl (cA38, 64, .inr (.inl ((fun _ => 0))))), (q39, .inl (cA40, 64, .inl ((fun _ => 0))))] H := hP
        have hD : va_D A [(h0, .inr (3, [.ref q1, .ref q3, .int 0, .int 0, .ref q9, .ref q11, .ref q13, .ref q15, .ref q21, .ref q25, .ref q27, .ref q29, .ref q31, .ref q33, .int 0, .ref q35, .ref q37, .ref q39, .int 0])), (q1, .inr (1, [.ref dE, .int 0, .int 0])), (q3, .inr (2, [.ref al_5, .ref vd_6, .int 0])), (al_5, .inr (1, [.ref dE, .int 0, .int 0])), (vd_6, .inr (0, [.ref va_7, .int 0])), (va_7, .inl (vc_8, 64, .inl (fun _ => 0))), (q9, .inr (1, [.ref dE, .int 0, .int 0])), (q11, .inr (1, [.ref dE, .int 0, .int 0])), (q13, .inr (1, [.ref dE, .int 0, .int 0])), (q15, .inr (0, [.ref qa_18, .int (nI 280)])), (qa_18, .inl (ca_19, 280, .inl g)), (q21, .inr (0, [.ref qa_23, .int 0])), (qa_23, .inl (ca_24, 512, .inl (fun _ => 0))), (q25, .inl (cA26, 256, .inl ((fun _ => 0)))), (q27, .inl (cA28, 64, .inl ((fun _ => 0)))), (q29, .inl (cA30, 64, .inl ((fun _ => 0)))), (q31, .inl (cA32, 64, .inl ((fun _ => 0)))), (q33, .inl (cA34, 64, .inl ((fun _ => 0)))), (q35, .inl (cA36, 16, .inl ((fun _ => 0)))), (q37, .inl (cA38, 64, .inr (.inl ((fun _ => 0))))), (q39, .inl (cA40, 64, .inl ((fun _ => 0))))] := hD
        refine lv_aload_n hx hb d_Schema_init_184 rfl (lv_at hl 1 rfl) ?_
        have hc0 : 20 + 0 ≤ 20 := by omega
        have hs0 : 1536 + 0 ≤ 1536 := by omega
        have hPc := hP.sub (ws' := [(h0, .inr (3, [.ref q1, .ref q3, .int 0, .int 0, .ref q9, .ref q11, .ref q13, .ref q15, .ref q21, .ref q25, .ref q27, .ref q29, .ref q31, .ref q33, .int 0, .ref q35, .ref q37, .ref q39, .int 0])), (q27, .inl (cA28, 64, .inl ((fun _ => 0)))), (q29, .inl (cA30, 64, .inl ((fun _ => 0)))), (q31, .inl (cA32, 64, .inl ((fun _ => 0)))), (q33, .inl (cA34, 64, .inl ((fun _ => 0)))), (q25, .inl (cA26, 256, .inl ((fun _ => 0)))), (q21, .inr (0, [.ref qa_23, .int 0])), (qa_23, .inl (ca_24, 512, .inl (fun _ => 0))), (q15, .inr (0, [.ref qa_18, .int (nI 280)])), (qa_18, .inl (ca_19, 280, .inl g)), (q1, .inr (1, [.ref dE, .int 0, .int 0])), (q9, .inr (1, [.ref dE, .int 0, .int 0])), (q11, .inr (1, [.ref dE, .int 0, .int 0])), (q3, .inr (2, [.ref al_5, .ref vd_6, .int 0])), (vd_6, .inr (0, [.ref va_7, .int 0]))]) [0, 14, 15, 16, 17, 13, 11, 12, 9, 10, 1, 6, 7, 2, 4] rfl
        have hDc := hD.sub (ws' := [(h0, .inr (3, [.ref q1, .ref q3, .int 0, .int 0, .ref q9, .ref q11, .ref q13, .ref q15, .ref q21, .ref q25, .ref q27, .ref q29, .ref q31, .ref q33, .int 0, .ref q35, .ref q37, .ref q39, .int 0])), (q27, .inl (cA28, 64, .inl ((fun _ => 0)))), (q29, .inl (cA30, 64, .inl ((fun _ => 0)))), (q31, .inl (cA32, 64, .inl ((fun _ => 0)))), (q33, .inl (cA34, 64, .inl ((fun _ => 0)))), (q25, .inl (cA26, 256, .inl ((fun _ => 0)))), (q21, .inr (0, [.ref qa_23, .int 0])), (qa_23, .inl (ca_24, 512, .inl (fun _ => 0))), (q15, .inr (0, [.ref qa_18, .int (nI 280)])), (qa_18, .inl (ca_19, 280, .inl g)), (q1, .inr (1, [.ref dE, .int 0, .int 0])), (q9, .inr (1, [.ref dE, .int 0, .int 0])), (q11, .inr (1, [.ref dE, .int 0, .int 0])), (q3, .inr (2, [.ref al_5, .ref vd_6, .int 0])), (vd_6, .inr (0, [.ref va_7, .int 0]))]) [0, 14, 15, 16, 17, 13, 11, 12, 9, 10, 1, 6, 7, 2, 4] (by decide) rfl
        have hKc := hK.sub (tys' := [(cA28, .int), (cA30, .int), (cA32, .int), (cA34, .int), (cA26, .int), (ca_24, .byte), (ca_19, .byte)]) [4, 5, 6, 7, 3, 2, 1] rfl
        have hFc := va_free (wc := [(h0, .inr (3, [.ref q1, .ref q3, .int 0, .int 0, .ref q9, .ref q11, .ref q13, .ref q15, .ref q21, .ref q25, .ref q27, .ref q29, .ref q31, .ref q33, .int 0, .ref q35, .ref q37, .ref q39, .int 0])), (q27, .inl (cA28, 64, .inl ((fun _ => 0)))), (q29, .inl (cA30, 64, .inl ((fun _ => 0)))), (q31, .inl (cA32, 64, .inl ((fun _ => 0)))), (q33, .inl (cA34, 64, .inl ((fun _ => 0)))), (q25, .inl (cA26, 256, .inl ((fun _ => 0)))), (q21, .inr (0, [.ref qa_23, .int 0])), (qa_23, .inl (ca_24, 512, .inl (fun _ => 0))), (q15, .inr (0, [.ref qa_18, .int (nI 280)])), (qa_18, .inl (ca_19, 280, .inl g)), (q1, .inr (1, [.ref dE, .int 0, .int 0])), (q9, .inr (1, [.ref dE, .int 0, .int 0])), (q11, .inr (1, [.ref dE, .int 0, .int 0])), (q3, .inr (2, [.ref al_5, .ref vd_6, .int 0])), (vd_6, .inr (0, [.ref va_7, .int 0]))]) hD hS hA [0, 14, 15, 16, 17, 13, 11, 12, 9, 10, 1, 6, 7, 2, 4] rfl
        refine va_callv (va_runV (As := []) (rest := []) ⟨hx, hb, hml, hown, htw⟩ (c_Schema_clear l dC dI H.size h0 q1 q3 0 0 q9 q11 q13 q15 q21 q25 q27 q29 q31 q33 0 q35 q37 q39 0 cA28 ((fun _ => 0)) cA30 ((fun _ => 0)) cA32 ((fun _ => 0)) cA34 ((fun _ => 0)) cA26 ((fun _ => 0)) qa_23 ca_24 (fun _ => 0) 0 qa_18 ca_19 g dE 0 0 0 al_5 vd_6 va_7 0 0 (by first | omega | assumption)) (cwV 0 htw (tw_V wd_1_216 wd_1_217 wd_1_218 wd_1_3 k_Schema_clear) rfl rfl rfl (by decide +kernel) ⟨Nat.le_of_ble_eq_true rfl, Nat.le_of_ble_eq_true rfl⟩) ⟨fun a U g mk q => by obtain ⟨q0, q1, qP, qK, qD⟩ := q; exact ⟨q0, q1, qP, va_K.moved (u := U) (U := U.calling g mk a) (Vm.Alike.refl U.vm) qK, qD⟩, va_recv hK hP (q := (R_Schema, F_Schema, 19)) (ci := 3) (q0 := 0) rfl rfl, fun U hU hW => ⟨rfl, by rw [hU], by rw [hU]; exact hPc, va_K.moved hW.alike hKc, hDc.weaken (fun _ _ _ _ => trivial)⟩⟩ rfl rfl hl.1 rfl (lv_room (Nat.le_of_ble_eq_true rfl)) d_Schema_init_185 ⟨hc0, hs0⟩) hS (fun q _ h => hFc q h) hFc (fun u t H1 locs ht hvm hw hB hz1 hk1 hS => ?_)
        obtain ⟨s2_42, k2_43, g1_44, g2_45, g3_46, g4_47, g5_48, g6_49, hP1, hK1, hD1⟩ := hB
        rw [ht] at hP1
        have hK1 := va_K.moved hvm.symm hK1
        obtain ⟨hP, hD⟩ := va_join (wr := [(al_5, .inr (1, [.ref dE, .int 0, .int 0])), (va_7, .inl (vc_8, 64, .inl (fun _ => 0))), (q13, .inr (1, [.ref dE, .int 0, .int 0])), (q35, .inl (cA36, 16, .inl ((fun _ => 0)))), (q37, .inl (cA38, 64, .inr (.inl ((fun _ => 0))))), (q39, .inl (cA40, 64, .inl ((fun _ => 0))))]) (w1 := [(h0, .inr (3, [.ref q1, .ref q3, .int 0, .int 0, .ref q9, .ref q11, .ref q13, .ref q15, .ref q21, .ref q25, .ref q27, .ref q29, .ref q31, .ref q33, .int (nI s2_42), .ref q35, .ref q37, .ref q39, .int 0])), (q27, .inl (cA28, 64, .inl g1_44)), (q29, .inl (cA30, 64, .inl g2_45)), (q31, .inl (cA32, 64, .inl g3_46)), (q33, .inl (cA34, 64, .inl g4_47)), (q25, .inl (cA26, 256, .inl g5_48)), (q21, .inr (0, [.ref qa_23, .int (nI k2_43)])), (qa_23, .inl (ca_24, 512, .inl g6_49)), (q15, .inr (0, [.ref qa_18, .int (nI 280)])), (qa_18, .inl (ca_19, 280, .inl g)), (q1, .inr (1, [.ref dE, .int 0, .int (0 + 1)])), (q9, .inr (1, [.ref dE, .int 0, .int (0 + 1)])), (q11, .inr (1, [.ref dE, .int 0, .int (0 + 1)])), (q3, .inr (2, [.ref al_5, .ref vd_6, .int 0])), (vd_6, .inr (0, [.ref va_7, .int 0]))]) hP hD [0, 14, 15, 16, 17, 13, 11, 12, 9, 10, 1, 6, 7, 2, 4] [3, 5, 8, 18, 19, 20] rfl rfl (by decide) (by decide) hk1 hFc hP1 hD1
        have hK := (hK.sub (tys' := [(vc_8, .byte), (cA36, .int), (cA38, .long), (cA40, .int)]) [0, 8, 9, 10] rfl).app hK1
        generalize H1 = H at hP hS ⊢
        have hP : va_P (dC, dI) classes [(al_5, .inr (1, [.ref dE, .int 0, .int 0])), (va_7, .inl (vc_8, 64, .inl (fun _ => 0))), (q13, .inr (1, [.ref dE, .int 0, .int 0])), (q35, .inl (cA36, 16, .inl ((fun _ => 0)))), (q37, .inl (cA38, 64, .inr (.inl ((fun _ => 0))))), (q39, .inl (cA40, 64, .inl ((fun _ => 0)))), (h0, .inr (3, [.ref q1, .ref q3, .int 0, .int 0, .ref q9, .ref q11, .ref q13, .ref q15, .ref q21, .ref q25, .ref q27, .ref q29, .ref q31, .ref q33, .int (nI s2_42), .ref q35, .ref q37, .ref q39, .int 0])), (q27, .inl (cA28, 64, .inl g1_44)), (q29, .inl (cA30, 64, .inl g2_45)), (q31, .inl (cA32, 64, .inl g3_46)), (q33, .inl (cA34, 64, .inl g4_47)), (q25, .inl (cA26, 256, .inl g5_48)), (q21, .inr (0, [.ref qa_23, .int (nI k2_43)])), (qa_23, .inl (ca_24, 512, .inl g6_49)), (q15, .inr (0, [.ref qa_18, .int (nI 280)])), (qa_18, .inl (ca_19, 280, .inl g)), (q1, .inr (1, [.ref dE, .int 0, .int (0 + 1)])), (q9, .inr (1, [.ref dE, .int 0, .int (0 + 1)])), (q11, .inr (1, [.ref dE, .int 0, .int (0 + 1)])), (q3, .inr (2, [.ref al_5, .ref vd_6, .int 0])), (vd_6, .inr (0, [.ref va_7, .int 0]))] H := hP
        have hD : va_D A [(al_5, .inr (1, [.ref dE, .int 0, .int 0])), (va_7, .inl (vc_8, 64, .inl (fun _ => 0))), (q13, .inr (1, [.ref dE, .int 0, .int 0])), (q35, .inl (cA36, 16, .inl ((fun _ => 0)))), (q37, .inl (cA38, 64, .inr (.inl ((fun _ => 0))))), (q39, .inl (cA40, 64, .inl ((fun _ => 0)))), (h0, .inr (3, [.ref q1, .ref q3, .int 0, .int 0, .ref q9, .ref q11, .ref q13, .ref q15, .ref q21, .ref q25, .ref q27, .ref q29, .ref q31, .ref q33, .int (nI s2_42), .ref q35, .ref q37, .ref q39, .int 0])), (q27, .inl (cA28, 64, .inl g1_44)), (q29, .inl (cA30, 64, .inl g2_45)), (q31, .inl (cA32, 64, .inl g3_46)), (q33, .inl (cA34, 64, .inl g4_47)), (q25, .inl (cA26, 256, .inl g5_48)), (q21, .inr (0, [.ref qa_23, .int (nI k2_43)])), (qa_23, .inl (ca_24, 512, .inl g6_49)), (q15, .inr (0, [.ref qa_18, .int (nI 280)])), (qa_18, .inl (ca_19, 280, .inl g)), (q1, .inr (1, [.ref dE, .int 0, .int (0 + 1)])), (q9, .inr (1, [.ref dE, .int 0, .int (0 + 1)])), (q11, .inr (1, [.ref dE, .int 0, .int (0 + 1)])), (q3, .inr (2, [.ref al_5, .ref vd_6, .int 0])), (vd_6, .inr (0, [.ref va_7, .int 0]))] := hD
        have hK : va_K (dC, dI) classes [(vc_8, .byte), (cA36, .int), (cA38, .long), (cA40, .int), (cA28, .int), (cA30, .int), (cA32, .int), (cA34, .int), (cA26, .int), (ca_24, .byte), (ca_19, .byte)] s := hK
        have hP9 := hP.sub (ws' := [(h0, .inr (3, [.ref q1, .ref q3, .int 0, .int 0, .ref q9, .ref q11, .ref q13, .ref q15, .ref q21, .ref q25, .ref q27, .ref q29, .ref q31, .ref q33, .int (nI s2_42), .ref q35, .ref q37, .ref q39, .int 0])), (q27, .inl (cA28, 64, .inl g1_44)), (q29, .inl (cA30, 64, .inl g2_45)), (q31, .inl (cA32, 64, .inl g3_46)), (q33, .inl (cA34, 64, .inl g4_47)), (q25, .inl (cA26, 256, .inl g5_48)), (q21, .inr (0, [.ref qa_23, .int (nI k2_43)])), (qa_23, .inl (ca_24, 512, .inl g6_49)), (q15, .inr (0, [.ref qa_18, .int (nI 280)])), (qa_18, .inl (ca_19, 280, .inl g)), (q1, .inr (1, [.ref dE, .int 0, .int (0 + 1)])), (q9, .inr (1, [.ref dE, .int 0, .int (0 + 1)])), (q11, .inr (1, [.ref dE, .int 0, .int (0 + 1)])), (q3, .inr (2, [.ref al_5, .ref vd_6, .int 0])), (vd_6, .inr (0, [.ref va_7, .int 0]))]) [6, 7, 8, 9, 10, 11, 12, 13, 14, 15, 16, 17, 18, 19, 20] rfl
        have hD9 := hD.sub (ws' := [(h0, .inr (3, [.ref q1, .ref q3, .int 0, .int 0, .ref q9, .ref q11, .ref q13, .ref q15, .ref q21, .ref q25, .ref q27, .ref q29, .ref q31, .ref q33, .int (nI s2_42), .ref q35, .ref q37, .ref q39, .int 0])), (q27, .inl (cA28, 64, .inl g1_44)), (q29, .inl (cA30, 64, .inl g2_45)), (q31, .inl (cA32, 64, .inl g3_46)), (q33, .inl (cA34, 64, .inl g4_47)), (q25, .inl (cA26, 256, .inl g5_48)), (q21, .inr (0, [.ref qa_23, .int (nI k2_43)])), (qa_23, .inl (ca_24, 512, .inl g6_49)), (q15, .inr (0, [.ref qa_18, .int (nI 280)])), (qa_18, .inl (ca_19, 280, .inl g)), (q1, .inr (1, [.ref dE, .int 0, .int (0 + 1)])), (q9, .inr (1, [.ref dE, .int 0, .int (0 + 1)])), (q11, .inr (1, [.ref dE, .int 0, .int (0 + 1)])), (q3, .inr (2, [.ref al_5, .ref vd_6, .int 0])), (vd_6, .inr (0, [.ref va_7, .int 0]))]) [6, 7, 8, 9, 10, 11, 12, 13, 14, 15, 16, 17, 18, 19, 20] (by decide) rfl
        have hK9 := hK.sub (tys' := [(cA28, .int), (cA30, .int), (cA32, .int), (cA34, .int), (cA26, .int), (ca_24, .byte), (ca_19, .byte)]) [4, 5, 6, 7, 8, 9, 10] rfl
        refine W.widen (k := 20) (n := 1536) (by omega) (by omega) ?_
        exact W.vret hx hb hr (fun t ht hW => ⟨⟨(), rfl, trivial, q1, q3, q9, q11, q13, q15, q21, q25, q27, q29, q31, q33, q35, q37, q39, s2_42, k2_43, g1_44, g2_45, g3_46, g4_47, g5_48, g6_49, qa_18, ca_19, g, qa_23, ca_24, cA28, cA30, cA32, cA34, cA26, (0 + 1), (0 + 1), (0 + 1), al_5, vd_6, va_7, hg, by rw [ht]; exact hP9, va_K.moved hW.alike hK9, hD9⟩, hS.F ht⟩) hS.2.2 d_Schema_init_188
      · have h2 : i < 280 := by have := (not_congr (nI_leI (a := 280) (b := i) (by omega) (by omega))).mp h1; omega
        refine lv_aload_n hx hb d_Schema_init_86 rfl (lv_at hl 1 rfl) ?_
        refine va_get (D := (dC, dI)) (ci := 3) (v := .ref q15) (C := R_Schema) (T := F_Schema) (N := 19) hx hb htw i_Schema hown hK hP 0 rfl rfl 7 (by decide) (htw _ wd_2_29) (fun _ h9 => h9) rfl d_Schema_init_87 ?_
        refine va_ldcS hx hb hown hx7 d_Schema_init_90 ?_
        refine lv_iload_n hx hb d_Schema_init_92 rfl (lv_at hl 0 rfl) ?_
        have hc0 : 10 + 0 ≤ 20 := by omega
        have hs0 : 366 + 0 ≤ 1536 := by omega
        have hPc := hP.sub (ws' := []) [] rfl
        have hDc := hD.sub (ws' := []) [] (by decide) rfl
        have hKc := hK.sub (tys' := []) [] rfl
        have hFc := va_free (wc := []) hD hS hA [] rfl
        refine va_calli (va_runV (As := [.int (nI i)]) (rest := [.ref q15]) ⟨hx, hb, hml, hown, htw⟩ (c_Str_charAt l dC dI H.size wk wv 280 tz_wb i (by first | omega | assumption) (by first | omega | assumption)) (cwV 1 htw (tw_V wd_1_158 wd_1_159 wd_1_160 wd_1_8 k_Str_charAt) rfl rfl rfl (by decide +kernel) ⟨Nat.le_of_ble_eq_true rfl, Nat.le_of_ble_eq_true rfl⟩) ⟨fun a U g mk q => by obtain ⟨q0, q1, qP, qK, qD, hq0, hq1, hq2, hq3, hq4, hq5⟩ := q; exact ⟨q0, q1, qP, va_K.moved (u := U) (U := U.calling g mk a) (Vm.Alike.refl U.vm) qK, qD, va_Z.moved (u := U) (U := U.calling g mk a) (Vm.Alike.refl U.vm) hq0, va_O.moved (u := U) (U := U.calling g mk a) (Vm.Alike.refl U.vm) hq1, va_OF.moved (u := U) (U := U.calling g mk a) (Vm.Alike.refl U.vm) hq2, va_OF.moved (u := U) (U := U.calling g mk a) (Vm.Alike.refl U.vm) hq3, va_T.moved (u := U) (U := U.calling g mk a) (Vm.Alike.refl U.vm) hq4, va_Zq.moved (u := U) (U := U.calling g mk a) (Vm.Alike.refl U.vm) hq5⟩, (by obtain ⟨c9, g1, g2, g3, -⟩ := va_O.kept hx3 hS.2.1; exact ⟨c9, g1, g2, g3⟩), fun U hU hW => ⟨rfl, by rw [hU], by rw [hU]; exact hPc, va_K.moved hW.alike hKc, hDc.weaken (fun _ _ _ _ => trivial), by rw [hU]; exact va_Z.moved hW.alike ((va_Z.kept hx1 hS.2.1).narrow hFc), by rw [hU]; exact va_O.moved hW.alike ((va_O.kept hx3 hS.2.1).narrow hFc), by rw [hU]; exact va_OF.moved hW.alike ((va_OF.kept hx4 hS.2.1).narrow hFc), by rw [hU]; exact va_OF.moved hW.alike ((va_OF.kept hx5 hS.2.1).narrow hFc), by rw [hU]; exact va_T.moved hW.alike ((va_T.kept hx6 hS.2.1).narrow hFc), by rw [hU]; exact va_Zq.moved hW.alike ((va_Zq.kept hx2 hS.2.1).narrow hFc)⟩⟩ rfl rfl hl.1 rfl (lv_room (Nat.le_of_ble_eq_true rfl)) d_Schema_init_93 ⟨hc0, hs0⟩) hS (fun q _ h => hFc q h) hFc (fun r50 u t H1 locs ht hvm hw hB hz1 hk1 hS => ?_)
        obtain ⟨hP1, hK1, hD1⟩ := hB
        rw [ht] at hP1
        have hK1 := va_K.moved hvm.symm hK1
        obtain ⟨hP, hD⟩ := va_join (wr := [(h0, .inr (3, [.ref q1, .ref q3, .int 0, .int 0, .ref q9, .ref q11, .ref q13, .ref q15, .null, .null, .null, .null, .null, .null, .int 0, .null, .null, .null, .int 0])), (q1, .inr (1, [.ref dE, .int 0, .int 0])), (q3, .inr (2, [.ref al_5, .ref vd_6, .int 0])), (al_5, .inr (1, [.ref dE, .int 0, .int 0])), (vd_6, .inr (0, [.ref va_7, .int 0])), (va_7, .inl (vc_8, 64, .inl (fun _ => 0))), (q9, .inr (1, [.ref dE, .int 0, .int 0])), (q11, .inr (1, [.ref dE, .int 0, .int 0])), (q13, .inr (1, [.ref dE, .int 0, .int 0])), (q15, .inr (0, [.ref qa_18, .int (nI i)])), (qa_18, .inl (ca_19, 280, .inl g))]) (w1 := []) hP hD [] [0, 1, 2, 3, 4, 5, 6, 7, 8, 9, 10] rfl rfl (by decide) (by decide) hk1 hFc hP1 hD1
        have hK := (hK.sub (tys' := [(vc_8, .byte), (ca_19, .byte)]) [0, 1] rfl).app hK1
        generalize H1 = H at hP hS ⊢
        have hP : va_P (dC, dI) classes [(h0, .inr (3, [.ref q1, .ref q3, .int 0, .int 0, .ref q9, .ref q11, .ref q13, .ref q15, .null, .null, .null, .null, .null, .null, .int 0, .null, .null, .null, .int 0])), (q1, .inr (1, [.ref dE, .int 0, .int 0])), (q3, .inr (2, [.ref al_5, .ref vd_6, .int 0])), (al_5, .inr (1, [.ref dE, .int 0, .int 0])), (vd_6, .inr (0, [.ref va_7, .int 0])), (va_7, .inl (vc_8, 64, .inl (fun _ => 0))), (q9, .inr (1, [.ref dE, .int 0, .int 0])), (q11, .inr (1, [.ref dE, .int 0, .int 0])), (q13, .inr (1, [.ref dE, .int 0, .int 0])), (q15, .inr (0, [.ref qa_18, .int (nI i)])), (qa_18, .inl (ca_19, 280, .inl g))] H := hP
        have hD : va_D A [(h0, .inr (3, [.ref q1, .ref q3, .int 0, .int 0, .ref q9, .ref q11, .ref q13, .ref q15, .null, .null, .null, .null, .null, .null, .int 0, .null, .null, .null, .int 0])), (q1, .inr (1, [.ref dE, .int 0, .int 0])), (q3, .inr (2, [.ref al_5, .ref vd_6, .int 0])), (al_5, .inr (1, [.ref dE, .int 0, .int 0])), (vd_6, .inr (0, [.ref va_7, .int 0])), (va_7, .inl (vc_8, 64, .inl (fun _ => 0))), (q9, .inr (1, [.ref dE, .int 0, .int 0])), (q11, .inr (1, [.ref dE, .int 0, .int 0])), (q13, .inr (1, [.ref dE, .int 0, .int 0])), (q15, .inr (0, [.ref qa_18, .int (nI i)])), (qa_18, .inl (ca_19, 280, .inl g))] := hD
        have hK : va_K (dC, dI) classes [(vc_8, .byte), (ca_19, .byte)] s := hK
        subst hw
        refine lv_topi (fun z9 e9 => ?_)
        have e9 : z9 = tz_wb i := e9.trans (tz_ch h2)
        subst e9
        have hc0 : 10 + 0 ≤ 20 := by omega
        have hs0 : 366 + 0 ≤ 1536 := by omega
        have hPc := hP.sub (ws' := [(q15, .inr (0, [.ref qa_18, .int (nI i)])), (qa_18, .inl (ca_19, 280, .inl g))]) [9, 10] rfl
        have hDc := hD.sub (ws' := [(q15, .inr (0, [.ref qa_18, .int (nI i)])), (qa_18, .inl (ca_19, 280, .inl g))]) [9, 10] (by decide) rfl
        have hKc := hK.sub (tys' := [(ca_19, .byte)]) [1] rfl
        have hFc := va_free (wc := [(q15, .inr (0, [.ref qa_18, .int (nI i)])), (qa_18, .inl (ca_19, 280, .inl g))]) hD hS hA [9, 10] rfl
        refine va_callv (va_runV (As := [.int (tz_wb i)]) (rest := []) ⟨hx, hb, hml, hown, htw⟩ (c_Bytes_put l dC dI H.size q15 qa_18 ca_19 280 g i (tz_wb i) (by first | omega | assumption) (by first | omega | assumption)) (cwV 1 htw (tw_V wd_1_196 wd_1_197 wd_1_198 wd_1_2 k_Bytes_put) rfl rfl rfl (by decide +kernel) ⟨Nat.le_of_ble_eq_true rfl, Nat.le_of_ble_eq_true rfl⟩) ⟨fun a U g mk q => by obtain ⟨q0, q1, qP, qK, qD⟩ := q; exact ⟨q0, q1, qP, va_K.moved (u := U) (U := U.calling g mk a) (Vm.Alike.refl U.vm) qK, qD⟩, va_recv hK hP (q := (R_Bytes, F_Bytes, 2)) (ci := 0) (q0 := 9) rfl rfl, fun U hU hW => ⟨rfl, by rw [hU], by rw [hU]; exact hPc, va_K.moved hW.alike hKc, hDc.weaken (fun _ _ _ _ => trivial)⟩⟩ rfl rfl hl.1 rfl (lv_room (Nat.le_of_ble_eq_true rfl)) d_Schema_init_96 ⟨hc0, hs0⟩) hS (fun q _ h => hFc q h) hFc (fun u t H1 locs ht hvm hw hB hz1 hk1 hS => ?_)
        obtain ⟨hP1, hK1, hD1⟩ := hB
        rw [ht] at hP1
        have hK1 := va_K.moved hvm.symm hK1
        obtain ⟨hP, hD⟩ := va_join (wr := [(h0, .inr (3, [.ref q1, .ref q3, .int 0, .int 0, .ref q9, .ref q11, .ref q13, .ref q15, .null, .null, .null, .null, .null, .null, .int 0, .null, .null, .null, .int 0])), (q1, .inr (1, [.ref dE, .int 0, .int 0])), (q3, .inr (2, [.ref al_5, .ref vd_6, .int 0])), (al_5, .inr (1, [.ref dE, .int 0, .int 0])), (vd_6, .inr (0, [.ref va_7, .int 0])), (va_7, .inl (vc_8, 64, .inl (fun _ => 0))), (q9, .inr (1, [.ref dE, .int 0, .int 0])), (q11, .inr (1, [.ref dE, .int 0, .int 0])), (q13, .inr (1, [.ref dE, .int 0, .int 0]))]) (w1 := [(q15, .inr (0, [.ref qa_18, .int (nI (i + 1))])), (qa_18, .inl (ca_19, 280, .inl (upd g (nI i).toNatClampNeg (vp_nar .byte (((tz_wb i) : Int32).toInt8.toInt32)))))]) hP hD [9, 10] [0, 1, 2, 3, 4, 5, 6, 7, 8] rfl rfl (by decide) (by decide) hk1 hFc hP1 hD1
        have hK := (hK.sub (tys' := [(vc_8, .byte)]) [0] rfl).app hK1
        generalize H1 = H at hP hS ⊢
        have hP : va_P (dC, dI) classes [(h0, .inr (3, [.ref q1, .ref q3, .int 0, .int 0, .ref q9, .ref q11, .ref q13, .ref q15, .null, .null, .null, .null, .null, .null, .int 0, .null, .null, .null, .int 0])), (q1, .inr (1, [.ref dE, .int 0, .int 0])), (q3, .inr (2, [.ref al_5, .ref vd_6, .int 0])), (al_5, .inr (1, [.ref dE, .int 0, .int 0])), (vd_6, .inr (0, [.ref va_7, .int 0])), (va_7, .inl (vc_8, 64, .inl (fun _ => 0))), (q9, .inr (1, [.ref dE, .int 0, .int 0])), (q11, .inr (1, [.ref dE, .int 0, .int 0])), (q13, .inr (1, [.ref dE, .int 0, .int 0])), (q15, .inr (0, [.ref qa_18, .int (nI (i + 1))])), (qa_18, .inl (ca_19, 280, .inl (upd g (nI i).toNatClampNeg (vp_nar .byte (((tz_wb i) : Int32).toInt8.toInt32)))))] H := hP
        have hD : va_D A [(h0, .inr (3, [.ref q1, .ref q3, .int 0, .int 0, .ref q9, .ref q11, .ref q13, .ref q15, .null, .null, .null, .null, .null, .null, .int 0, .null, .null, .null, .int 0])), (q1, .inr (1, [.ref dE, .int 0, .int 0])), (q3, .inr (2, [.ref al_5, .ref vd_6, .int 0])), (al_5, .inr (1, [.ref dE, .int 0, .int 0])), (vd_6, .inr (0, [.ref va_7, .int 0])), (va_7, .inl (vc_8, 64, .inl (fun _ => 0))), (q9, .inr (1, [.ref dE, .int 0, .int 0])), (q11, .inr (1, [.ref dE, .int 0, .int 0])), (q13, .inr (1, [.ref dE, .int 0, .int 0])), (q15, .inr (0, [.ref qa_18, .int (nI (i + 1))])), (qa_18, .inl (ca_19, 280, .inl (upd g (nI i).toNatClampNeg (vp_nar .byte (((tz_wb i) : Int32).toInt8.toInt32)))))] := hD
        have hK : va_K (dC, dI) classes [(vc_8, .byte), (ca_19, .byte)] s := hK
        refine lv_iinc (k := 0) (v := nI (i + 1)) hx hb d_Schema_init_99 hl rfl (nI_1 i) (by decide) rfl (fun ls hl => ?_)
        have hl : lv_has ls 2 [(1, .int (nI (i + 1))), (0, .ref h0)] := hl
        refine lv_goto (tgt := 77) hx hb d_Schema_init_102 rfl ?_
        exact ih (i + 1) (upd g (nI i).toNatClampNeg (vp_nar .byte (((tz_wb i) : Int32).toInt8.toInt32))) _ _ _ (by omega) (tz_pt h2 hg) (by omega) (lv_sub hl [0, 1] rfl) (hP.sub [0, 1, 2, 3, 4, 5, 6, 7, 8, 9, 10] rfl) (hD.sub [0, 1, 2, 3, 4, 5, 6, 7, 8, 9, 10] (by decide) rfl) hS
  exact lp ((280 - 0) + 1) 0 ((fun _ => 0)) _ _ _ (by omega) (fun j hj => absurd hj (Nat.not_lt_zero j)) (Nat.lt_succ_self _) (lv_sub hl [0, 1] rfl) (hP.sub [0, 1, 2, 3, 4, 5, 6, 7, 8, 9, 10] rfl) (hD.sub [0, 1, 2, 3, 4, 5, 6, 7, 8, 9, 10] (by decide) rfl) hS
end
section
/-! by program (wip/p1) -/
theorem wd_1_50 : Cond.methodLink "SyntaxForge" 1 ⟨"java/lang/Object", "<init>", "()V"⟩ ∈ tw_tbl := tw_t1 (List.mem_of_getElem? (i := 50) rfl) rfl
theorem wd_1_53 : Cond.classLink "SyntaxForge" 7 "SyntaxForge$Bytes" ∈ tw_tbl := tw_t1 (List.mem_of_getElem? (i := 53) rfl) rfl
theorem wd_1_55 : Cond.methodLink "SyntaxForge" 9 ⟨"SyntaxForge$Bytes", "<init>", "(I)V"⟩ ∈ tw_tbl := tw_t1 (List.mem_of_getElem? (i := 55) rfl) rfl
theorem wd_3_6 : Cond.fieldLink "SyntaxForge" 12 "SyntaxForge" "tape" "LSyntaxForge$Bytes;" ∈ tw_tbl := tw_t3 (List.mem_of_getElem? (i := 6) rfl) rfl
theorem wd_3_7 : Cond.fieldLink "SyntaxForge" 18 "SyntaxForge" "taken" "LSyntaxForge$Bytes;" ∈ tw_tbl := tw_t3 (List.mem_of_getElem? (i := 7) rfl) rfl
theorem wd_3_8 : Cond.fieldLink "SyntaxForge" 21 "SyntaxForge" "result" "LSyntaxForge$Bytes;" ∈ tw_tbl := tw_t3 (List.mem_of_getElem? (i := 8) rfl) rfl
theorem wd_3_9 : Cond.fieldLink "SyntaxForge" 24 "SyntaxForge" "out" "LSyntaxForge$Bytes;" ∈ tw_tbl := tw_t3 (List.mem_of_getElem? (i := 9) rfl) rfl
theorem wd_3_10 : Cond.fieldLink "SyntaxForge" 27 "SyntaxForge" "hasText" "Z" ∈ tw_tbl := tw_t3 (List.mem_of_getElem? (i := 10) rfl) rfl
theorem wd_1_81 : Cond.classLink "SyntaxForge" 31 "SyntaxForge$Schema" ∈ tw_tbl := tw_t1 (List.mem_of_getElem? (i := 81) rfl) rfl
theorem wd_1_82 : Cond.instantiable "SyntaxForge$Schema" 19 ∈ tw_tbl := tw_t1 (List.mem_of_getElem? (i := 82) rfl) rfl
theorem wd_1_83 : Cond.methodLink "SyntaxForge" 33 ⟨"SyntaxForge$Schema", "<init>", "()V"⟩ ∈ tw_tbl := tw_t1 (List.mem_of_getElem? (i := 83) rfl) rfl
theorem wd_1_84 : Cond.instanceMethod ⟨"SyntaxForge$Schema", "<init>", "()V"⟩ ∈ tw_tbl := tw_t1 (List.mem_of_getElem? (i := 84) rfl) rfl
theorem wd_3_11 : Cond.fieldLink "SyntaxForge" 34 "SyntaxForge" "schema" "LSyntaxForge$Schema;" ∈ tw_tbl := tw_t3 (List.mem_of_getElem? (i := 11) rfl) rfl
theorem wd_3_12 : Cond.fieldLink "SyntaxForge" 38 "SyntaxForge" "spare" "LSyntaxForge$Schema;" ∈ tw_tbl := tw_t3 (List.mem_of_getElem? (i := 12) rfl) rfl
theorem wd_2_82 : Cond.classLink "SyntaxForge" 41 "SyntaxForge$Scanner" ∈ tw_tbl := tw_t2 (List.mem_of_getElem? (i := 82) rfl) rfl
theorem wd_2_83 : Cond.instantiable "SyntaxForge$Scanner" 8 ∈ tw_tbl := tw_t2 (List.mem_of_getElem? (i := 83) rfl) rfl
theorem wd_1_15 : Cond.initialized "SyntaxForge$Scanner" ∈ tw_tbl := tw_t1 (List.mem_of_getElem? (i := 15) rfl) rfl
theorem wd_2_84 : Cond.methodLink "SyntaxForge" 43 ⟨"SyntaxForge$Scanner", "<init>", "()V"⟩ ∈ tw_tbl := tw_t2 (List.mem_of_getElem? (i := 84) rfl) rfl
theorem wd_2_85 : Cond.instanceMethod ⟨"SyntaxForge$Scanner", "<init>", "()V"⟩ ∈ tw_tbl := tw_t2 (List.mem_of_getElem? (i := 85) rfl) rfl
theorem wd_3_13 : Cond.fieldLink "SyntaxForge" 44 "SyntaxForge" "scanner" "LSyntaxForge$Scanner;" ∈ tw_tbl := tw_t3 (List.mem_of_getElem? (i := 13) rfl) rfl
theorem wd_2_119 : Cond.classLink "SyntaxForge" 48 "SyntaxForge$Parser" ∈ tw_tbl := tw_t2 (List.mem_of_getElem? (i := 119) rfl) rfl
theorem wd_2_120 : Cond.instantiable "SyntaxForge$Parser" 7 ∈ tw_tbl := tw_t2 (List.mem_of_getElem? (i := 120) rfl) rfl
theorem wd_1_16 : Cond.initialized "SyntaxForge$Parser" ∈ tw_tbl := tw_t1 (List.mem_of_getElem? (i := 16) rfl) rfl
theorem wd_2_121 : Cond.methodLink "SyntaxForge" 50 ⟨"SyntaxForge$Parser", "<init>", "(LSyntaxForge$Scanner;)V"⟩ ∈ tw_tbl := tw_t2 (List.mem_of_getElem? (i := 121) rfl) rfl
theorem wd_2_122 : Cond.instanceMethod ⟨"SyntaxForge$Parser", "<init>", "(LSyntaxForge$Scanner;)V"⟩ ∈ tw_tbl := tw_t2 (List.mem_of_getElem? (i := 122) rfl) rfl
theorem wd_3_14 : Cond.fieldLink "SyntaxForge" 53 "SyntaxForge" "parser" "LSyntaxForge$Parser;" ∈ tw_tbl := tw_t3 (List.mem_of_getElem? (i := 14) rfl) rfl
theorem wd_2_149 : Cond.classLink "SyntaxForge" 57 "SyntaxForge$Values" ∈ tw_tbl := tw_t2 (List.mem_of_getElem? (i := 149) rfl) rfl
theorem wd_2_150 : Cond.methodLink "SyntaxForge" 59 ⟨"SyntaxForge$Values", "<init>", "()V"⟩ ∈ tw_tbl := tw_t2 (List.mem_of_getElem? (i := 150) rfl) rfl
theorem wd_3_15 : Cond.fieldLink "SyntaxForge" 60 "SyntaxForge" "values" "LSyntaxForge$Values;" ∈ tw_tbl := tw_t3 (List.mem_of_getElem? (i := 15) rfl) rfl
theorem wd_2_151 : Cond.classLink "SyntaxForge" 64 "SyntaxForge$Der" ∈ tw_tbl := tw_t2 (List.mem_of_getElem? (i := 151) rfl) rfl
theorem wd_2_152 : Cond.instantiable "SyntaxForge$Der" 3 ∈ tw_tbl := tw_t2 (List.mem_of_getElem? (i := 152) rfl) rfl
theorem wd_1_17 : Cond.initialized "SyntaxForge$Der" ∈ tw_tbl := tw_t1 (List.mem_of_getElem? (i := 17) rfl) rfl
theorem wd_2_153 : Cond.methodLink "SyntaxForge" 66 ⟨"SyntaxForge$Der", "<init>", "()V"⟩ ∈ tw_tbl := tw_t2 (List.mem_of_getElem? (i := 153) rfl) rfl
theorem wd_2_154 : Cond.instanceMethod ⟨"SyntaxForge$Der", "<init>", "()V"⟩ ∈ tw_tbl := tw_t2 (List.mem_of_getElem? (i := 154) rfl) rfl
theorem wd_3_16 : Cond.fieldLink "SyntaxForge" 67 "SyntaxForge" "der" "LSyntaxForge$Der;" ∈ tw_tbl := tw_t3 (List.mem_of_getElem? (i := 16) rfl) rfl
theorem wd_2_168 : Cond.classLink "SyntaxForge" 71 "SyntaxForge$BerReader" ∈ tw_tbl := tw_t2 (List.mem_of_getElem? (i := 168) rfl) rfl
theorem wd_2_169 : Cond.instantiable "SyntaxForge$BerReader" 11 ∈ tw_tbl := tw_t2 (List.mem_of_getElem? (i := 169) rfl) rfl
theorem wd_1_18 : Cond.initialized "SyntaxForge$BerReader" ∈ tw_tbl := tw_t1 (List.mem_of_getElem? (i := 18) rfl) rfl
theorem wd_2_170 : Cond.methodLink "SyntaxForge" 73 ⟨"SyntaxForge$BerReader", "<init>", "(LSyntaxForge$Values;LSyntaxForge$Der;)V"⟩ ∈ tw_tbl := tw_t2 (List.mem_of_getElem? (i := 170) rfl) rfl
theorem wd_2_171 : Cond.instanceMethod ⟨"SyntaxForge$BerReader", "<init>", "(LSyntaxForge$Values;LSyntaxForge$Der;)V"⟩ ∈ tw_tbl := tw_t2 (List.mem_of_getElem? (i := 171) rfl) rfl
theorem wd_3_17 : Cond.fieldLink "SyntaxForge" 76 "SyntaxForge" "berReader" "LSyntaxForge$BerReader;" ∈ tw_tbl := tw_t3 (List.mem_of_getElem? (i := 17) rfl) rfl
theorem wd_2_208 : Cond.classLink "SyntaxForge" 80 "SyntaxForge$PerWriter" ∈ tw_tbl := tw_t2 (List.mem_of_getElem? (i := 208) rfl) rfl
theorem wd_2_209 : Cond.instantiable "SyntaxForge$PerWriter" 2 ∈ tw_tbl := tw_t2 (List.mem_of_getElem? (i := 209) rfl) rfl
theorem wd_1_19 : Cond.initialized "SyntaxForge$PerWriter" ∈ tw_tbl := tw_t1 (List.mem_of_getElem? (i := 19) rfl) rfl
theorem wd_2_210 : Cond.methodLink "SyntaxForge" 82 ⟨"SyntaxForge$PerWriter", "<init>", "()V"⟩ ∈ tw_tbl := tw_t2 (List.mem_of_getElem? (i := 210) rfl) rfl
theorem wd_2_211 : Cond.instanceMethod ⟨"SyntaxForge$PerWriter", "<init>", "()V"⟩ ∈ tw_tbl := tw_t2 (List.mem_of_getElem? (i := 211) rfl) rfl
theorem wd_3_18 : Cond.fieldLink "SyntaxForge" 83 "SyntaxForge" "perWriter" "LSyntaxForge$PerWriter;" ∈ tw_tbl := tw_t3 (List.mem_of_getElem? (i := 18) rfl) rfl
theorem wd_2_221 : Cond.classLink "SyntaxForge" 87 "SyntaxForge$PerReader" ∈ tw_tbl := tw_t2 (List.mem_of_getElem? (i := 221) rfl) rfl
theorem wd_2_222 : Cond.instantiable "SyntaxForge$PerReader" 6 ∈ tw_tbl := tw_t2 (List.mem_of_getElem? (i := 222) rfl) rfl
theorem wd_1_20 : Cond.initialized "SyntaxForge$PerReader" ∈ tw_tbl := tw_t1 (List.mem_of_getElem? (i := 20) rfl) rfl
theorem wd_2_223 : Cond.methodLink "SyntaxForge" 89 ⟨"SyntaxForge$PerReader", "<init>", "(LSyntaxForge$Values;)V"⟩ ∈ tw_tbl := tw_t2 (List.mem_of_getElem? (i := 223) rfl) rfl
theorem wd_2_224 : Cond.instanceMethod ⟨"SyntaxForge$PerReader", "<init>", "(LSyntaxForge$Values;)V"⟩ ∈ tw_tbl := tw_t2 (List.mem_of_getElem? (i := 224) rfl) rfl
theorem wd_3_19 : Cond.fieldLink "SyntaxForge" 92 "SyntaxForge" "perReader" "LSyntaxForge$PerReader;" ∈ tw_tbl := tw_t3 (List.mem_of_getElem? (i := 19) rfl) rfl
def y_SF_init : MethodName := ⟨"SyntaxForge", "<init>", "()V"⟩
abbrev b_SF_init : ByteArray := prog_1_method_1_code
abbrev cd_SF_init : Cond := .code y_SF_init b_SF_init 1 none
abbrev ws_SF_init : List Cond := cd_SF_init :: tw_tbl
theorem k_SF_init : cd_SF_init ∈ tw_tbl := tw_t1 (List.mem_of_getElem? (i := 49) rfl) rfl
theorem d_SF_init_0 : decode b_SF_init 0 = .ok (.aload_n 0, 1) := by decide +kernel
theorem d_SF_init_1 : decode b_SF_init 1 = .ok (.invokespecial 1, 3) := by decide +kernel
theorem d_SF_init_4 : decode b_SF_init 4 = .ok (.aload_n 0, 1) := by decide +kernel
theorem d_SF_init_5 : decode b_SF_init 5 = .ok (.new 7, 3) := by decide +kernel
theorem d_SF_init_8 : decode b_SF_init 8 = .ok (.dup, 1) := by decide +kernel
theorem d_SF_init_9 : decode b_SF_init 9 = .ok (.sipush 256, 3) := by decide +kernel
theorem d_SF_init_12 : decode b_SF_init 12 = .ok (.invokespecial 9, 3) := by decide +kernel
theorem d_SF_init_15 : decode b_SF_init 15 = .ok (.putfield 12, 3) := by decide +kernel
theorem d_SF_init_18 : decode b_SF_init 18 = .ok (.aload_n 0, 1) := by decide +kernel
theorem d_SF_init_19 : decode b_SF_init 19 = .ok (.new 7, 3) := by decide +kernel
theorem d_SF_init_22 : decode b_SF_init 22 = .ok (.dup, 1) := by decide +kernel
theorem d_SF_init_23 : decode b_SF_init 23 = .ok (.sipush 256, 3) := by decide +kernel
theorem d_SF_init_26 : decode b_SF_init 26 = .ok (.invokespecial 9, 3) := by decide +kernel
theorem d_SF_init_29 : decode b_SF_init 29 = .ok (.putfield 18, 3) := by decide +kernel
theorem d_SF_init_32 : decode b_SF_init 32 = .ok (.aload_n 0, 1) := by decide +kernel
theorem d_SF_init_33 : decode b_SF_init 33 = .ok (.new 7, 3) := by decide +kernel
theorem d_SF_init_36 : decode b_SF_init 36 = .ok (.dup, 1) := by decide +kernel
theorem d_SF_init_37 : decode b_SF_init 37 = .ok (.sipush 256, 3) := by decide +kernel
theorem d_SF_init_40 : decode b_SF_init 40 = .ok (.invokespecial 9, 3) := by decide +kernel
theorem d_SF_init_43 : decode b_SF_init 43 = .ok (.putfield 21, 3) := by decide +kernel
theorem d_SF_init_46 : decode b_SF_init 46 = .ok (.aload_n 0, 1) := by decide +kernel
theorem d_SF_init_47 : decode b_SF_init 47 = .ok (.new 7, 3) := by decide +kernel
theorem d_SF_init_50 : decode b_SF_init 50 = .ok (.dup, 1) := by decide +kernel
theorem d_SF_init_51 : decode b_SF_init 51 = .ok (.sipush 256, 3) := by decide +kernel
theorem d_SF_init_54 : decode b_SF_init 54 = .ok (.invokespecial 9, 3) := by decide +kernel
theorem d_SF_init_57 : decode b_SF_init 57 = .ok (.putfield 24, 3) := by decide +kernel
theorem d_SF_init_60 : decode b_SF_init 60 = .ok (.aload_n 0, 1) := by decide +kernel
theorem d_SF_init_61 : decode b_SF_init 61 = .ok (.iconst 0, 1) := by decide +kernel
theorem d_SF_init_62 : decode b_SF_init 62 = .ok (.putfield 27, 3) := by decide +kernel
theorem d_SF_init_65 : decode b_SF_init 65 = .ok (.aload_n 0, 1) := by decide +kernel
theorem d_SF_init_66 : decode b_SF_init 66 = .ok (.new 31, 3) := by decide +kernel
theorem d_SF_init_69 : decode b_SF_init 69 = .ok (.dup, 1) := by decide +kernel
theorem d_SF_init_70 : decode b_SF_init 70 = .ok (.invokespecial 33, 3) := by decide +kernel
theorem d_SF_init_73 : decode b_SF_init 73 = .ok (.putfield 34, 3) := by decide +kernel
theorem d_SF_init_76 : decode b_SF_init 76 = .ok (.aload_n 0, 1) := by decide +kernel
theorem d_SF_init_77 : decode b_SF_init 77 = .ok (.new 31, 3) := by decide +kernel
theorem d_SF_init_80 : decode b_SF_init 80 = .ok (.dup, 1) := by decide +kernel
theorem d_SF_init_81 : decode b_SF_init 81 = .ok (.invokespecial 33, 3) := by decide +kernel
theorem d_SF_init_84 : decode b_SF_init 84 = .ok (.putfield 38, 3) := by decide +kernel
theorem d_SF_init_87 : decode b_SF_init 87 = .ok (.aload_n 0, 1) := by decide +kernel
theorem d_SF_init_88 : decode b_SF_init 88 = .ok (.new 41, 3) := by decide +kernel
theorem d_SF_init_91 : decode b_SF_init 91 = .ok (.dup, 1) := by decide +kernel
theorem d_SF_init_92 : decode b_SF_init 92 = .ok (.invokespecial 43, 3) := by decide +kernel
theorem d_SF_init_95 : decode b_SF_init 95 = .ok (.putfield 44, 3) := by decide +kernel
theorem d_SF_init_98 : decode b_SF_init 98 = .ok (.aload_n 0, 1) := by decide +kernel
theorem d_SF_init_99 : decode b_SF_init 99 = .ok (.new 48, 3) := by decide +kernel
theorem d_SF_init_102 : decode b_SF_init 102 = .ok (.dup, 1) := by decide +kernel
theorem d_SF_init_103 : decode b_SF_init 103 = .ok (.aload_n 0, 1) := by decide +kernel
theorem d_SF_init_104 : decode b_SF_init 104 = .ok (.getfield 44, 3) := by decide +kernel
theorem d_SF_init_107 : decode b_SF_init 107 = .ok (.invokespecial 50, 3) := by decide +kernel
theorem d_SF_init_110 : decode b_SF_init 110 = .ok (.putfield 53, 3) := by decide +kernel
theorem d_SF_init_113 : decode b_SF_init 113 = .ok (.aload_n 0, 1) := by decide +kernel
theorem d_SF_init_114 : decode b_SF_init 114 = .ok (.new 57, 3) := by decide +kernel
theorem d_SF_init_117 : decode b_SF_init 117 = .ok (.dup, 1) := by decide +kernel
theorem d_SF_init_118 : decode b_SF_init 118 = .ok (.invokespecial 59, 3) := by decide +kernel
theorem d_SF_init_121 : decode b_SF_init 121 = .ok (.putfield 60, 3) := by decide +kernel
theorem d_SF_init_124 : decode b_SF_init 124 = .ok (.aload_n 0, 1) := by decide +kernel
theorem d_SF_init_125 : decode b_SF_init 125 = .ok (.new 64, 3) := by decide +kernel
theorem d_SF_init_128 : decode b_SF_init 128 = .ok (.dup, 1) := by decide +kernel
theorem d_SF_init_129 : decode b_SF_init 129 = .ok (.invokespecial 66, 3) := by decide +kernel
theorem d_SF_init_132 : decode b_SF_init 132 = .ok (.putfield 67, 3) := by decide +kernel
theorem d_SF_init_135 : decode b_SF_init 135 = .ok (.aload_n 0, 1) := by decide +kernel
theorem d_SF_init_136 : decode b_SF_init 136 = .ok (.new 71, 3) := by decide +kernel
theorem d_SF_init_139 : decode b_SF_init 139 = .ok (.dup, 1) := by decide +kernel
theorem d_SF_init_140 : decode b_SF_init 140 = .ok (.aload_n 0, 1) := by decide +kernel
theorem d_SF_init_141 : decode b_SF_init 141 = .ok (.getfield 60, 3) := by decide +kernel
theorem d_SF_init_144 : decode b_SF_init 144 = .ok (.aload_n 0, 1) := by decide +kernel
theorem d_SF_init_145 : decode b_SF_init 145 = .ok (.getfield 67, 3) := by decide +kernel
theorem d_SF_init_148 : decode b_SF_init 148 = .ok (.invokespecial 73, 3) := by decide +kernel
theorem d_SF_init_151 : decode b_SF_init 151 = .ok (.putfield 76, 3) := by decide +kernel
theorem d_SF_init_154 : decode b_SF_init 154 = .ok (.aload_n 0, 1) := by decide +kernel
theorem d_SF_init_155 : decode b_SF_init 155 = .ok (.new 80, 3) := by decide +kernel
theorem d_SF_init_158 : decode b_SF_init 158 = .ok (.dup, 1) := by decide +kernel
theorem d_SF_init_159 : decode b_SF_init 159 = .ok (.invokespecial 82, 3) := by decide +kernel
theorem d_SF_init_162 : decode b_SF_init 162 = .ok (.putfield 83, 3) := by decide +kernel
theorem d_SF_init_165 : decode b_SF_init 165 = .ok (.aload_n 0, 1) := by decide +kernel
theorem d_SF_init_166 : decode b_SF_init 166 = .ok (.new 87, 3) := by decide +kernel
theorem d_SF_init_169 : decode b_SF_init 169 = .ok (.dup, 1) := by decide +kernel
theorem d_SF_init_170 : decode b_SF_init 170 = .ok (.aload_n 0, 1) := by decide +kernel
theorem d_SF_init_171 : decode b_SF_init 171 = .ok (.getfield 60, 3) := by decide +kernel
theorem d_SF_init_174 : decode b_SF_init 174 = .ok (.invokespecial 89, 3) := by decide +kernel
theorem d_SF_init_177 : decode b_SF_init 177 = .ok (.putfield 92, 3) := by decide +kernel
theorem d_SF_init_180 : decode b_SF_init 180 = .ok (.return_, 1) := by decide +kernel
set_option maxHeartbeats 4000000 in
set_option maxRecDepth 100000 in
theorem c_SF_init (l : Launch) (dC : Nat → ClassId) (dI : Nat → Nat → Nat) (sz : Nat) (x0 : Nat) (dE : Nat) (wk : Nat) (wv : Nat) : Met l y_SF_init ws_SF_init ({ frames := 6, cells := 69, slots := 4673, locals := 136 }) (va_Pc [.ref x0] (fun U => U.heap.size = sz ∧ va_P (dC, dI) classes [(x0, .inr (10, [.null, .null, .null, .null, .int 0, .null, .null, .null, .null, .null, .null, .null, .null, .null]))] U.heap ∧ va_K (dC, dI) classes [] U ∧ va_D (fun _ => True) [(x0, .inr (10, [.null, .null, .null, .null, .int 0, .null, .null, .null, .null, .null, .null, .null, .null, .null]))] ∧ va_Z "java/util/ArrayList" "DEFAULTCAPACITY_EMPTY_ELEMENTDATA" "[Ljava/lang/Object;" (.ref dE) (va_A [(x0, .inr (10, [.null, .null, .null, .null, .int 0, .null, .null, .null, .null, .null, .null, .null, .null, .null]))] sz) U U.heap ∧ va_Z "java/lang/String" "COMPACT_STRINGS" "Z" (.int 1) (va_A [(x0, .inr (10, [.null, .null, .null, .null, .int 0, .null, .null, .null, .null, .null, .null, .null, .null, .null]))] sz) U U.heap ∧ va_Zq "jdk/internal/util/Preconditions" "SIOOBE_FORMATTER" "Ljava/util/function/BiFunction;" (va_A [(x0, .inr (10, [.null, .null, .null, .null, .int 0, .null, .null, .null, .null, .null, .null, .null, .null, .null]))] sz) U U.heap ∧ va_O "java/lang/String" wk (va_A [(x0, .inr (10, [.null, .null, .null, .null, .int 0, .null, .null, .null, .null, .null, .null, .null, .null, .null]))] sz) U U.heap ∧ va_OF "java/lang/String" "coder" "B" (.int 0) wk (va_A [(x0, .inr (10, [.null, .null, .null, .null, .int 0, .null, .null, .null, .null, .null, .null, .null, .null, .null]))] sz) U U.heap ∧ va_OF "java/lang/String" "value" "[B" (.ref wv) wk (va_A [(x0, .inr (10, [.null, .null, .null, .null, .int 0, .null, .null, .null, .null, .null, .null, .null, .null, .null]))] sz) U U.heap ∧ va_T .byte wv 280 (fun j => .int (tz_wb j)) (va_A [(x0, .inr (10, [.null, .null, .null, .null, .int 0, .null, .null, .null, .null, .null, .null, .null, .null, .null]))] sz) U U.heap ∧ vk_R "SyntaxForge$Schema" 36 "DEFINITIONS EXPLICIT IMPLICIT AUTOMATIC TAGS BEGIN END UNIVERSAL APPLICATION PRIVATE INTEGER ENUMERATED BIT STRING OCTET OBJECT IDENTIFIER SEQUENCE SET OF CHOICE SIZE OPTIONAL DEFAULT BOOLEAN TRUE FALSE NULL MIN MAX UTF8String PrintableString IA5String NumericString VisibleString" wk U ∧ va_AO "SyntaxForge$Value" U)) (va_Qv (fun _ : Unit => True) (fun _ t => ∃ (tp : Nat) (tpa : Nat) (tk : Nat) (tka : Nat) (rs : Nat) (rsa : Nat) (ou : Nat) (sc0 : Nat) (h0 : Nat) (sn0 : Nat) (pa0 : Nat) (vl : Nat) (de : Nat) (br : Nat) (pw : Nat) (pr : Nat) (kk1 : Nat) (kk2 : Nat) (kk3 : Nat) (un : Nat) (ctp : ClassId) (ctk : ClassId) (ck1 : ClassId) (ck2 : ClassId) (ck3 : ClassId) (a1 : Nat) (dv : Nat) (a2 : Nat) (a3 : Nat) (a4 : Nat) (wd : Nat) (lt : Nat) (bu : Nat) (st : Nat) (le : Nat) (nx : Nat) (ow : Nat) (sp : Nat) (ky : Nat) (sm : Nat) (s2 : Nat) (k2 : Nat) (g1 : Nat → Int32) (g2 : Nat → Int32) (g3 : Nat → Int32) (g4 : Nat → Int32) (g5 : Nat → Int32) (g6 : Nat → Int32) (wda : Nat) (cwd : ClassId) (wf : Nat → Int32) (lta : Nat) (clt : ClassId) (cst : ClassId) (cle : ClassId) (cnx : ClassId) (cow : ClassId) (cbu : ClassId) (m1 : Int32) (m2 : Int32) (m3 : Int32) (dal : Nat) (dvd : Nat) (dva : Nat), (∀ j, j < 280 → wf j = tz_wb j) ∧ va_P (dC, dI) classes [(x0, .inr (10, [.ref tp, .ref tk, .ref rs, .ref ou, .int 0, .ref sc0, .ref h0, .ref sn0, .ref pa0, .ref vl, .ref de, .ref br, .ref pw, .ref pr])), (tp, .inr (0, [.ref tpa, .int 0])), (tpa, .inl (ctp, 256, .inl ((fun _ => 0)))), (tk, .inr (0, [.ref tka, .int 0])), (tka, .inl (ctk, 256, .inl ((fun _ => 0)))), (rs, .inr (0, [.ref rsa, .int 0])), (sn0, .inr (4, [.ref kk1, .ref kk2, .ref kk3, .int 0, .int ((-1)), .null, .null, .int 0])), (kk1, .inl (ck1, 64, .inl ((fun _ => 0)))), (kk2, .inl (ck2, 64, .inl ((fun _ => 0)))), (kk3, .inl (ck3, 64, .inr (.inl ((fun _ => 0))))), (pa0, .inr (5, [.ref sn0, .ref un, .null, .null, .null, .int 0, .int 0])), (h0, .inr (3, [.ref a1, .ref dv, .int 0, .int 0, .ref a2, .ref a3, .ref a4, .ref wd, .ref lt, .ref bu, .ref st, .ref le, .ref nx, .ref ow, .int (nI s2), .ref sp, .ref ky, .ref sm, .int 0])), (st, .inl (cst, 64, .inl g1)), (le, .inl (cle, 64, .inl g2)), (nx, .inl (cnx, 64, .inl g3)), (ow, .inl (cow, 64, .inl g4)), (bu, .inl (cbu, 256, .inl g5)), (lt, .inr (0, [.ref lta, .int (nI k2)])), (lta, .inl (clt, 512, .inl g6)), (wd, .inr (0, [.ref wda, .int (nI 280)])), (wda, .inl (cwd, 280, .inl wf)), (a1, .inr (1, [.ref dE, .int 0, .int m1])), (a2, .inr (1, [.ref dE, .int 0, .int m2])), (a3, .inr (1, [.ref dE, .int 0, .int m3])), (dv, .inr (2, [.ref dal, .ref dvd, .int 0])), (dvd, .inr (0, [.ref dva, .int 0]))] t.heap ∧ va_K (dC, dI) classes [(ctp, .byte), (ctk, .byte), (ck1, .int), (ck2, .int), (ck3, .long), (cst, .int), (cle, .int), (cnx, .int), (cow, .int), (cbu, .int), (clt, .byte), (cwd, .byte)] t ∧ va_D (va_A [(x0, .inr (10, [.null, .null, .null, .null, .int 0, .null, .null, .null, .null, .null, .null, .null, .null, .null]))] sz) [(x0, .inr (10, [.ref tp, .ref tk, .ref rs, .ref ou, .int 0, .ref sc0, .ref h0, .ref sn0, .ref pa0, .ref vl, .ref de, .ref br, .ref pw, .ref pr])), (tp, .inr (0, [.ref tpa, .int 0])), (tpa, .inl (ctp, 256, .inl ((fun _ => 0)))), (tk, .inr (0, [.ref tka, .int 0])), (tka, .inl (ctk, 256, .inl ((fun _ => 0)))), (rs, .inr (0, [.ref rsa, .int 0])), (sn0, .inr (4, [.ref kk1, .ref kk2, .ref kk3, .int 0, .int ((-1)), .null, .null, .int 0])), (kk1, .inl (ck1, 64, .inl ((fun _ => 0)))), (kk2, .inl (ck2, 64, .inl ((fun _ => 0)))), (kk3, .inl (ck3, 64, .inr (.inl ((fun _ => 0))))), (pa0, .inr (5, [.ref sn0, .ref un, .null, .null, .null, .int 0, .int 0])), (h0, .inr (3, [.ref a1, .ref dv, .int 0, .int 0, .ref a2, .ref a3, .ref a4, .ref wd, .ref lt, .ref bu, .ref st, .ref le, .ref nx, .ref ow, .int (nI s2), .ref sp, .ref ky, .ref sm, .int 0])), (st, .inl (cst, 64, .inl g1)), (le, .inl (cle, 64, .inl g2)), (nx, .inl (cnx, 64, .inl g3)), (ow, .inl (cow, 64, .inl g4)), (bu, .inl (cbu, 256, .inl g5)), (lt, .inr (0, [.ref lta, .int (nI k2)])), (lta, .inl (clt, 512, .inl g6)), (wd, .inr (0, [.ref wda, .int (nI 280)])), (wda, .inl (cwd, 280, .inl wf)), (a1, .inr (1, [.ref dE, .int 0, .int m1])), (a2, .inr (1, [.ref dE, .int 0, .int m2])), (a3, .inr (1, [.ref dE, .int 0, .int m3])), (dv, .inr (2, [.ref dal, .ref dvd, .int 0])), (dvd, .inr (0, [.ref dva, .int 0]))]) (va_A [(x0, .inr (10, [.null, .null, .null, .null, .int 0, .null, .null, .null, .null, .null, .null, .null, .null, .null]))] sz)) 69 4673 (va_A [(x0, .inr (10, [.null, .null, .null, .null, .int 0, .null, .null, .null, .null, .null, .null, .null, .null, .null]))] sz) := by
  refine Met.ofW (cc := b_SF_init) (maxL := 1) (ret := none) (by decide) rfl ?_
  intro p e s m args below meth c s₁ B hml hv
  obtain ⟨rfl, hsz, hP, hK, hD0, hx0, hx1, hx2, hx3, hx4, hx5, hx6, hx7, hx8⟩ := hv
  have hx := B.exec
  have hb := B.bytes
  have hr := B.returns
  have hts := atoms_spec (ws := ws_SF_init) B.pre
  have htw : ∀ w ∈ tw_tbl, w.before [.ref x0].toArray s = true := fun w h => hts w (List.mem_cons_of_mem _ h)
  have hown : s.vm.findClass R_SF = some m.cls := findClass_of_methodNamed B.named
  have hlocks := B.notSynchronized
  have hin : meth.name = "<init>" := (name_of_methodNamed B.named B.method).1
  subst hsz
  have hD := hD0.self (sz := s.heap.size)
  generalize hAe : va_A [(x0, .inr (10, [.null, .null, .null, .null, .int 0, .null, .null, .null, .null, .null, .null, .null, .null, .null]))] s.heap.size = A at hD hx0 hx1 hx2 hx3 hx4 hx5 hx6 hx7 hx8 ⊢
  have hA : ∀ q : Nat, s.heap.size ≤ q → A q := fun q h => by rw [← hAe]; exact Or.inr h
  have hS : va_S A s.heap s.heap [] := va_S.rf
  have hP : va_P (dC, dI) classes [(x0, .inr (10, [.null, .null, .null, .null, .int 0, .null, .null, .null, .null, .null, .null, .null, .null, .null]))] s.heap := hP
  have hl := lv_entry ([.ref x0]) (n := 1) (Nat.le_of_ble_eq_true rfl)
  rw [lg_entry_eq]
  generalize (lg_sl ([.ref x0]) ++ List.replicate (1 - (lg_sl ([.ref x0])).length) Slot.unset).toArray = ls at hl ⊢
  have hl : lv_has ls 1 [(0, .ref x0)] := hl
  refine lv_aload_n hx hb d_SF_init_0 rfl (lv_at hl 0 rfl) ?_
  refine W.objInit hx hb hown (htw _ wd_1_50) (htw _ wd_1_51) (htw _ wd_1_52) rfl (by rw [hml]; exact hl.1) rfl d_SF_init_1 (Nat.le_of_ble_eq_true rfl) (Nat.le_of_ble_eq_true rfl) ?_
  refine W.eq (g2 := F0 m 4 ls []) rfl ?_
  refine lv_aload_n hx hb d_SF_init_4 rfl (lv_at hl 0 rfl) ?_
  have hc0 : 0 + 1 ≤ 69 := by omega
  have hs0 : 0 + 2 ≤ 4673 := by omega
  refine va_new (ci := 0) (fs := [.null, .int 0]) (C := R_Bytes) (T := F_Bytes) (N := 2) hx hb htw i_Bytes t_Bytes t_Bytes_ok hown (htw _ wd_1_53) (htw _ wd_1_54) (htw _ wd_1_2) hK hP hD hS hA rfl (by decide) hc0 hs0 d_SF_init_5 (fun q1 H hP hD hS => ?_)
  have hP : va_P (dC, dI) classes [(x0, .inr (10, [.null, .null, .null, .null, .int 0, .null, .null, .null, .null, .null, .null, .null, .null, .null])), (q1, .inr (0, [.null, .int 0]))] H := hP
  have hD : va_D A [(x0, .inr (10, [.null, .null, .null, .null, .int 0, .null, .null, .null, .null, .null, .null, .null, .null, .null])), (q1, .inr (0, [.null, .int 0]))] := hD
  refine lv_dup hx hb d_SF_init_8 rfl ?_
  refine lv_sipush (v := 256) hx hb d_SF_init_9 (by decide) ?_
  have hc0 : 1 + 1 ≤ 69 := by omega
  have hs0 : 2 + 256 ≤ 4673 := by omega
  have hPc := hP.sub (ws' := [(q1, .inr (0, [.null, .int 0]))]) [1] rfl
  have hDc := hD.sub (ws' := [(q1, .inr (0, [.null, .int 0]))]) [1] (by decide) rfl
  have hKc := hK.sub (tys' := []) [] rfl
  have hFc := va_free (wc := [(q1, .inr (0, [.null, .int 0]))]) hD hS hA [1] rfl
  refine va_callv (va_runI (As := [.int 256]) (rest := [.ref q1, .ref x0]) ⟨hx, hb, hml, hown, htw⟩ (c_Bytes_init l dC dI H.size q1 256 (by first | omega | assumption)) (cwI 1 htw (tw_inL k_Bytes_init) rfl rfl rfl (htw _ wd_1_2) (htw _ wd_1_55) (htw _ wd_1_56) rfl (by decide +kernel) ⟨Nat.le_of_ble_eq_true rfl, Nat.le_of_ble_eq_true rfl⟩) ⟨fun a U g mk q => by obtain ⟨q0, q1, qP, qK, qD⟩ := q; exact ⟨q0, q1, qP, va_K.moved (u := U) (U := U.calling g mk a) (Vm.Alike.refl U.vm) qK, qD⟩, fun U hU hW => ⟨rfl, by rw [hU], by rw [hU]; exact hPc, va_K.moved hW.alike hKc, hDc.weaken (fun _ _ _ _ => trivial)⟩⟩ rfl rfl hl.1 rfl (lv_room (Nat.le_of_ble_eq_true rfl)) d_SF_init_12 ⟨hc0, hs0⟩) hS (fun q _ h => hFc q h) hFc (fun u t H1 locs ht hvm hw hB hz1 hk1 hS => ?_)
  obtain ⟨qa_3, ca_4, hP1, hK1, hD1⟩ := hB
  rw [ht] at hP1
  have hK1 := va_K.moved hvm.symm hK1
  obtain ⟨hP, hD⟩ := va_join (wr := [(x0, .inr (10, [.null, .null, .null, .null, .int 0, .null, .null, .null, .null, .null, .null, .null, .null, .null]))]) (w1 := [(q1, .inr (0, [.ref qa_3, .int 0])), (qa_3, .inl (ca_4, 256, .inl (fun _ => 0)))]) hP hD [1] [0] rfl rfl (by decide) (by decide) hk1 hFc hP1 hD1
  have hK := (hK.sub (tys' := []) [] rfl).app hK1
  generalize H1 = H at hP hS ⊢
  have hP : va_P (dC, dI) classes [(x0, .inr (10, [.null, .null, .null, .null, .int 0, .null, .null, .null, .null, .null, .null, .null, .null, .null])), (q1, .inr (0, [.ref qa_3, .int 0])), (qa_3, .inl (ca_4, 256, .inl (fun _ => 0)))] H := hP
  have hD : va_D A [(x0, .inr (10, [.null, .null, .null, .null, .int 0, .null, .null, .null, .null, .null, .null, .null, .null, .null])), (q1, .inr (0, [.ref qa_3, .int 0])), (qa_3, .inl (ca_4, 256, .inl (fun _ => 0)))] := hD
  have hK : va_K (dC, dI) classes [(ca_4, .byte)] s := hK
  refine va_put (D := (dC, dI)) (ci := 10) (v := .ref q1) (ty := .object "SyntaxForge$Bytes") (C := R_SF) (T := F_SF) (N := 14) hx hb htw i_SF t_SF t_SF_ok n_SF hown hK hP hD hS 0 rfl rfl 0 (by decide) (htw _ wd_3_6) (fun _ h9 => h9) rfl (by decide +kernel) rfl rfl (Nat.le_of_ble_eq_true rfl) d_SF_init_15 (fun H locs hP hD hS => ?_)
  have hP : va_P (dC, dI) classes [(x0, .inr (10, [.ref q1, .null, .null, .null, .int 0, .null, .null, .null, .null, .null, .null, .null, .null, .null])), (q1, .inr (0, [.ref qa_3, .int 0])), (qa_3, .inl (ca_4, 256, .inl (fun _ => 0)))] H := hP
  have hD : va_D A [(x0, .inr (10, [.ref q1, .null, .null, .null, .int 0, .null, .null, .null, .null, .null, .null, .null, .null, .null])), (q1, .inr (0, [.ref qa_3, .int 0])), (qa_3, .inl (ca_4, 256, .inl (fun _ => 0)))] := hD
  refine lv_aload_n hx hb d_SF_init_18 rfl (lv_at hl 0 rfl) ?_
  have hc0 : 2 + 1 ≤ 69 := by omega
  have hs0 : 258 + 2 ≤ 4673 := by omega
  refine va_new (ci := 0) (fs := [.null, .int 0]) (C := R_Bytes) (T := F_Bytes) (N := 2) hx hb htw i_Bytes t_Bytes t_Bytes_ok hown (htw _ wd_1_53) (htw _ wd_1_54) (htw _ wd_1_2) hK hP hD hS hA rfl (by decide) hc0 hs0 d_SF_init_19 (fun q5 H hP hD hS => ?_)
  have hP : va_P (dC, dI) classes [(x0, .inr (10, [.ref q1, .null, .null, .null, .int 0, .null, .null, .null, .null, .null, .null, .null, .null, .null])), (q1, .inr (0, [.ref qa_3, .int 0])), (qa_3, .inl (ca_4, 256, .inl (fun _ => 0))), (q5, .inr (0, [.null, .int 0]))] H := hP
  have hD : va_D A [(x0, .inr (10, [.ref q1, .null, .null, .null, .int 0, .null, .null, .null, .null, .null, .null, .null, .null, .null])), (q1, .inr (0, [.ref qa_3, .int 0])), (qa_3, .inl (ca_4, 256, .inl (fun _ => 0))), (q5, .inr (0, [.null, .int 0]))] := hD
  refine lv_dup hx hb d_SF_init_22 rfl ?_
  refine lv_sipush (v := 256) hx hb d_SF_init_23 (by decide) ?_
  have hc0 : 3 + 1 ≤ 69 := by omega
  have hs0 : 260 + 256 ≤ 4673 := by omega
  have hPc := hP.sub (ws' := [(q5, .inr (0, [.null, .int 0]))]) [3] rfl
  have hDc := hD.sub (ws' := [(q5, .inr (0, [.null, .int 0]))]) [3] (by decide) rfl
  have hKc := hK.sub (tys' := []) [] rfl
  have hFc := va_free (wc := [(q5, .inr (0, [.null, .int 0]))]) hD hS hA [3] rfl
  refine va_callv (va_runI (As := [.int 256]) (rest := [.ref q5, .ref x0]) ⟨hx, hb, hml, hown, htw⟩ (c_Bytes_init l dC dI H.size q5 256 (by first | omega | assumption)) (cwI 1 htw (tw_inL k_Bytes_init) rfl rfl rfl (htw _ wd_1_2) (htw _ wd_1_55) (htw _ wd_1_56) rfl (by decide +kernel) ⟨Nat.le_of_ble_eq_true rfl, Nat.le_of_ble_eq_true rfl⟩) ⟨fun a U g mk q => by obtain ⟨q0, q1, qP, qK, qD⟩ := q; exact ⟨q0, q1, qP, va_K.moved (u := U) (U := U.calling g mk a) (Vm.Alike.refl U.vm) qK, qD⟩, fun U hU hW => ⟨rfl, by rw [hU], by rw [hU]; exact hPc, va_K.moved hW.alike hKc, hDc.weaken (fun _ _ _ _ => trivial)⟩⟩ rfl rfl hl.1 rfl (lv_room (Nat.le_of_ble_eq_true rfl)) d_SF_init_26 ⟨hc0, hs0⟩) hS (fun q _ h => hFc q h) hFc (fun u t H1 locs ht hvm hw hB hz1 hk1 hS => ?_)
  obtain ⟨qa_7, ca_8, hP1, hK1, hD1⟩ := hB
  rw [ht] at hP1
  have hK1 := va_K.moved hvm.symm hK1
  obtain ⟨hP, hD⟩ := va_join (wr := [(x0, .inr (10, [.ref q1, .null, .null, .null, .int 0, .null, .null, .null, .null, .null, .null, .null, .null, .null])), (q1, .inr (0, [.ref qa_3, .int 0])), (qa_3, .inl (ca_4, 256, .inl (fun _ => 0)))]) (w1 := [(q5, .inr (0, [.ref qa_7, .int 0])), (qa_7, .inl (ca_8, 256, .inl (fun _ => 0)))]) hP hD [3] [0, 1, 2] rfl rfl (by decide) (by decide) hk1 hFc hP1 hD1
  have hK := (hK.sub (tys' := [(ca_4, .byte)]) [0] rfl).app hK1
  generalize H1 = H at hP hS ⊢
  have hP : va_P (dC, dI) classes [(x0, .inr (10, [.ref q1, .null, .null, .null, .int 0, .null, .null, .null, .null, .null, .null, .null, .null, .null])), (q1, .inr (0, [.ref qa_3, .int 0])), (qa_3, .inl (ca_4, 256, .inl (fun _ => 0))), (q5, .inr (0, [.ref qa_7, .int 0])), (qa_7, .inl (ca_8, 256, .inl (fun _ => 0)))] H := hP
  have hD : va_D A [(x0, .inr (10, [.ref q1, .null, .null, .null, .int 0, .null, .null, .null, .null, .null, .null, .null, .null, .null])), (q1, .inr (0, [.ref qa_3, .int 0])), (qa_3, .inl (ca_4, 256, .inl (fun _ => 0))), (q5, .inr (0, [.ref qa_7, .int 0])), (qa_7, .inl (ca_8, 256, .inl (fun _ => 0)))] := hD
  have hK : va_K (dC, dI) classes [(ca_4, .byte), (ca_8, .byte)] s := hK
  refine va_put (D := (dC, dI)) (ci := 10) (v := .ref q5) (ty := .object "SyntaxForge$Bytes") (C := R_SF) (T := F_SF) (N := 14) hx hb htw i_SF t_SF t_SF_ok n_SF hown hK hP hD hS 0 rfl rfl 1 (by decide) (htw _ wd_3_7) (fun _ h9 => h9) rfl (by decide +kernel) rfl rfl (Nat.le_of_ble_eq_true rfl) d_SF_init_29 (fun H locs hP hD hS => ?_)
  have hP : va_P (dC, dI) classes [(x0, .inr (10, [.ref q1, .ref q5, .null, .null, .int 0, .null, .null, .null, .null, .null, .null, .null, .null, .null])), (q1, .inr (0, [.ref qa_3, .int 0])), (qa_3, .inl (ca_4, 256, .inl (fun _ => 0))), (q5, .inr (0, [.ref qa_7, .int 0])), (qa_7, .inl (ca_8, 256, .inl (fun _ => 0)))] H := hP
  have hD : va_D A [(x0, .inr (10, [.ref q1, .ref q5, .null, .null, .int 0, .null, .null, .null, .null, .null, .null, .null, .null, .null])), (q1, .inr (0, [.ref qa_3, .int 0])), (qa_3, .inl (ca_4, 256, .inl (fun _ => 0))), (q5, .inr (0, [.ref qa_7, .int 0])), (qa_7, .inl (ca_8, 256, .inl (fun _ => 0)))] := hD
  refine lv_aload_n hx hb d_SF_init_32 rfl (lv_at hl 0 rfl) ?_
  have hc0 : 4 + 1 ≤ 69 := by omega
  have hs0 : 516 + 2 ≤ 4673 := by omega
  refine va_new (ci := 0) (fs := [.null, .int 0]) (C := R_Bytes) (T := F_Bytes) (N := 2) hx hb htw i_Bytes t_Bytes t_Bytes_ok hown (htw _ wd_1_53) (htw _ wd_1_54) (htw _ wd_1_2) hK hP hD hS hA rfl (by decide) hc0 hs0 d_SF_init_33 (fun q9 H hP hD hS => ?_)
  have hP : va_P (dC, dI) classes [(x0, .inr (10, [.ref q1, .ref q5, .null, .null, .int 0, .null, .null, .null, .null, .null, .null, .null, .null, .null])), (q1, .inr (0, [.ref qa_3, .int 0])), (qa_3, .inl (ca_4, 256, .inl (fun _ => 0))), (q5, .inr (0, [.ref qa_7, .int 0])), (qa_7, .inl (ca_8, 256, .inl (fun _ => 0))), (q9, .inr (0, [.null, .int 0]))] H := hP
  have hD : va_D A [(x0, .inr (10, [.ref q1, .ref q5, .null, .null, .int 0, .null, .null, .null, .null, .null, .null, .null, .null, .null])), (q1, .inr (0, [.ref qa_3, .int 0])), (qa_3, .inl (ca_4, 256, .inl (fun _ => 0))), (q5, .inr (0, [.ref qa_7, .int 0])), (qa_7, .inl (ca_8, 256, .inl (fun _ => 0))), (q9, .inr (0, [.null, .int 0]))] := hD
  refine lv_dup hx hb d_SF_init_36 rfl ?_
  refine lv_sipush (v := 256) hx hb d_SF_init_37 (by decide) ?_
  have hc0 : 5 + 1 ≤ 69 := by omega
  have hs0 : 518 + 256 ≤ 4673 := by omega
  have hPc := hP.sub (ws' := [(q9, .inr (0, [.null, .int 0]))]) [5] rfl
  have hDc := hD.sub (ws' := [(q9, .inr (0, [.null, .int 0]))]) [5] (by decide) rfl
  have hKc := hK.sub (tys' := []) [] rfl
  have hFc := va_free (wc := [(q9, .inr (0, [.null, .int 0]))]) hD hS hA [5] rfl
  refine va_callv (va_runI (As := [.int 256]) (rest := [.ref q9, .ref x0]) ⟨hx, hb, hml, hown, htw⟩ (c_Bytes_init l dC dI H.size q9 256 (by first | omega | assumption)) (cwI 1 htw (tw_inL k_Bytes_init) rfl rfl rfl (htw _ wd_1_2) (htw _ wd_1_55) (htw _ wd_1_56) rfl (by decide +kernel) ⟨Nat.le_of_ble_eq_true rfl, Nat.le_of_ble_eq_true rfl⟩) ⟨fun a U g mk q => by obtain ⟨q0, q1, qP, qK, qD⟩ := q; exact ⟨q0, q1, qP, va_K.moved (u := U) (U := U.calling g mk a) (Vm.Alike.refl U.vm) qK, qD⟩, fun U hU hW => ⟨rfl, by rw [hU], by rw [hU]; exact hPc, va_K.moved hW.alike hKc, hDc.weaken (fun _ _ _ _ => trivial)⟩⟩ rfl rfl hl.1 rfl (lv_room (Nat.le_of_ble_eq_true rfl)) d_SF_init_40 ⟨hc0, hs0⟩) hS (fun q _ h => hFc q h) hFc (fun u t H1 locs ht hvm hw hB hz1 hk1 hS => ?_)
  obtain ⟨qa_11, ca_12, hP1, hK1, hD1⟩ := hB
  rw [ht] at hP1
  have hK1 := va_K.moved hvm.symm hK1
  obtain ⟨hP, hD⟩ := va_join (wr := [(x0, .inr (10, [.ref q1, .ref q5, .null, .null, .int 0, .null, .null, .null, .null, .null, .null, .null, .null, .null])), (q1, .inr (0, [.ref qa_3, .int 0])), (qa_3, .inl (ca_4, 256, .inl (fun _ => 0))), (q5, .inr (0, [.ref qa_7, .int 0])), (qa_7, .inl (ca_8, 256, .inl (fun _ => 0)))]) (w1 := [(q9, .inr (0, [.ref qa_11, .int 0])), (qa_11, .inl (ca_12, 256, .inl (fun _ => 0)))]) hP hD [5] [0, 1, 2, 3, 4] rfl rfl (by decide) (by decide) hk1 hFc hP1 hD1
  have hK := (hK.sub (tys' := [(ca_4, .byte), (ca_8, .byte)]) [0, 1] rfl).app hK1
  generalize H1 = H at hP hS ⊢
  have hP : va_P (dC, dI) classes [(x0, .inr (10, [.ref q1, .ref q5, .null, .null, .int 0, .null, .null, .null, .null, .null, .null, .null, .null, .null])), (q1, .inr (0, [.ref qa_3, .int 0])), (qa_3, .inl (ca_4, 256, .inl (fun _ => 0))), (q5, .inr (0, [.ref qa_7, .int 0])), (qa_7, .inl (ca_8, 256, .inl (fun _ => 0))), (q9, .inr (0, [.ref qa_11, .int 0])), (qa_11, .inl (ca_12, 256, .inl (fun _ => 0)))] H := hP
  have hD : va_D A [(x0, .inr (10, [.ref q1, .ref q5, .null, .null, .int 0, .null, .null, .null, .null, .null, .null, .null, .null, .null])), (q1, .inr (0, [.ref qa_3, .int 0])), (qa_3, .inl (ca_4, 256, .inl (fun _ => 0))), (q5, .inr (0, [.ref qa_7, .int 0])), (qa_7, .inl (ca_8, 256, .inl (fun _ => 0))), (q9, .inr (0, [.ref qa_11, .int 0])), (qa_11, .inl (ca_12, 256, .inl (fun _ => 0)))] := hD
  have hK : va_K (dC, dI) classes [(ca_4, .byte), (ca_8, .byte), (ca_12, .byte)] s := hK
  refine va_put (D := (dC, dI)) (ci := 10) (v := .ref q9) (ty := .object "SyntaxForge$Bytes") (C := R_SF) (T := F_SF) (N := 14) hx hb htw i_SF t_SF t_SF_ok n_SF hown hK hP hD hS 0 rfl rfl 2 (by decide) (htw _ wd_3_8) (fun _ h9 => h9) rfl (by decide +kernel) rfl rfl (Nat.le_of_ble_eq_true rfl) d_SF_init_43 (fun H locs hP hD hS => ?_)
  have hP : va_P (dC, dI) classes [(x0, .inr (10, [.ref q1, .ref q5, .ref q9, .null, .int 0, .null, .null, .null, .null, .null, .null, .null, .null, .null])), (q1, .inr (0, [.ref qa_3, .int 0])), (qa_3, .inl (ca_4, 256, .inl (fun _ => 0))), (q5, .inr (0, [.ref qa_7, .int 0])), (qa_7, .inl (ca_8, 256, .inl (fun _ => 0))), (q9, .inr (0, [.ref qa_11, .int 0])), (qa_11, .inl (ca_12, 256, .inl (fun _ => 0)))] H := hP
  have hD : va_D A [(x0, .inr (10, [.ref q1, .ref q5, .ref q9, .null, .int 0, .null, .null, .null, .null, .null, .null, .null, .null, .null])), (q1, .inr (0, [.ref qa_3, .int 0])), (qa_3, .inl (ca_4, 256, .inl (fun _ => 0))), (q5, .inr (0, [.ref qa_7, .int 0])), (qa_7, .inl (ca_8, 256, .inl (fun _ => 0))), (q9, .inr (0, [.ref qa_11, .int 0])), (qa_11, .inl (ca_12, 256, .inl (fun _ => 0)))] := hD
  refine lv_aload_n hx hb d_SF_init_46 rfl (lv_at hl 0 rfl) ?_
  have hc0 : 6 + 1 ≤ 69 := by omega
  have hs0 : 774 + 2 ≤ 4673 := by omega
  refine va_new (ci := 0) (fs := [.null, .int 0]) (C := R_Bytes) (T := F_Bytes) (N := 2) hx hb htw i_Bytes t_Bytes t_Bytes_ok hown (htw _ wd_1_53) (htw _ wd_1_54) (htw _ wd_1_2) hK hP hD hS hA rfl (by decide) hc0 hs0 d_SF_init_47 (fun q13 H hP hD hS => ?_)
  have hP : va_P (dC, dI) classes [(x0, .inr (10, [.ref q1, .ref q5, .ref q9, .null, .int 0, .null, .null, .null, .null, .null, .null, .null, .null, .null])), (q1, .inr (0, [.ref qa_3, .int 0])), (qa_3, .inl (ca_4, 256, .inl (fun _ => 0))), (q5, .inr (0, [.ref qa_7, .int 0])), (qa_7, .inl (ca_8, 256, .inl (fun _ => 0))), (q9, .inr (0, [.ref qa_11, .int 0])), (qa_11, .inl (ca_12, 256, .inl (fun _ => 0))), (q13, .inr (0, [.null, .int 0]))] H := hP
  have hD : va_D A [(x0, .inr (10, [.ref q1, .ref q5, .ref q9, .null, .int 0, .null, .null, .null, .null, .null, .null, .null, .null, .null])), (q1, .inr (0, [.ref qa_3, .int 0])), (qa_3, .inl (ca_4, 256, .inl (fun _ => 0))), (q5, .inr (0, [.ref qa_7, .int 0])), (qa_7, .inl (ca_8, 256, .inl (fun _ => 0))), (q9, .inr (0, [.ref qa_11, .int 0])), (qa_11, .inl (ca_12, 256, .inl (fun _ => 0))), (q13, .inr (0, [.null, .int 0]))] := hD
  refine lv_dup hx hb d_SF_init_50 rfl ?_
  refine lv_sipush (v := 256) hx hb d_SF_init_51 (by decide) ?_
  have hc0 : 7 + 1 ≤ 69 := by omega
  have hs0 : 776 + 256 ≤ 4673 := by omega
  have hPc := hP.sub (ws' := [(q13, .inr (0, [.null, .int 0]))]) [7] rfl
  have hDc := hD.sub (ws' := [(q13, .inr (0, [.null, .int 0]))]) [7] (by decide) rfl
  have hKc := hK.sub (tys' := []) [] rfl
  have hFc := va_free (wc := [(q13, .inr (0, [.null, .int 0]))]) hD hS hA [7] rfl
  refine va_callv (va_runI (As := [.int 256]) (rest := [.ref q13, .ref x0]) ⟨hx, hb, hml, hown, htw⟩ (c_Bytes_init l dC dI H.size q13 256 (by first | omega | assumption)) (cwI 1 htw (tw_inL k_Bytes_init) rfl rfl rfl (htw _ wd_1_2) (htw _ wd_1_55) (htw _ wd_1_56) rfl (by decide +kernel) ⟨Nat.le_of_ble_eq_true rfl, Nat.le_of_ble_eq_true rfl⟩) ⟨fun a U g mk q => by obtain ⟨q0, q1, qP, qK, qD⟩ := q; exact ⟨q0, q1, qP, va_K.moved (u := U) (U := U.calling g mk a) (Vm.Alike.refl U.vm) qK, qD⟩, fun U hU hW => ⟨rfl, by rw [hU], by rw [hU]; exact hPc, va_K.moved hW.alike hKc, hDc.weaken (fun _ _ _ _ => trivial)⟩⟩ rfl rfl hl.1 rfl (lv_room (Nat.le_of_ble_eq_true rfl)) d_SF_init_54 ⟨hc0, hs0⟩) hS (fun q _ h => hFc q h) hFc (fun u t H1 locs ht hvm hw hB hz1 hk1 hS => ?_)
  obtain ⟨qa_15, ca_16, hP1, hK1, hD1⟩ := hB
  rw [ht] at hP1
  have hK1 := va_K.moved hvm.symm hK1
  obtain ⟨hP, hD⟩ := va_join (wr := [(x0, .inr (10, [.ref q1, .ref q5, .ref q9, .null, .int 0, .null, .null, .null, .null, .null, .null, .null, .null, .null])), (q1, .inr (0, [.ref qa_3, .int 0])), (qa_3, .inl (ca_4, 256, .inl (fun _ => 0))), (q5, .inr (0, [.ref qa_7, .int 0])), (qa_7, .inl (ca_8, 256, .inl (fun _ => 0))), (q9, .inr (0, [.ref qa_11, .int 0])), (qa_11, .inl (ca_12, 256, .inl (fun _ => 0)))]) (w1 := [(q13, .inr (0, [.ref qa_15, .int 0])), (qa_15, .inl (ca_16, 256, .inl (fun _ => 0)))]) hP hD [7] [0, 1, 2, 3, 4, 5, 6] rfl rfl (by decide) (by decide) hk1 hFc hP1 hD1
  have hK := (hK.sub (tys' := [(ca_4, .byte), (ca_8, .byte), (ca_12, .byte)]) [0, 1, 2] rfl).app hK1
  generalize H1 = H at hP hS ⊢
  have hP : va_P (dC, dI) classes [(x0, .inr (10, [.ref q1, .ref q5, .ref q9, .null, .int 0, .null, .null, .null, .null, .null, .null, .null, .null, .null])), (q1, .inr (0, [.ref qa_3, .int 0])), (qa_3, .inl (ca_4, 256, .inl (fun _ => 0))), (q5, .inr (0, [.ref qa_7, .int 0])), (qa_7, .inl (ca_8, 256, .inl (fun _ => 0))), (q9, .inr (0, [.ref qa_11, .int 0])), (qa_11, .inl (ca_12, 256, .inl (fun _ => 0))), (q13, .inr (0, [.ref qa_15, .int 0])), (qa_15, .inl (ca_16, 256, .inl (fun _ => 0)))] H := hP
  have hD : va_D A [(x0, .inr (10, [.ref q1, .ref q5, .ref q9, .null, .int 0, .null, .null, .null, .null, .null, .null, .null, .null, .null])), (q1, .inr (0, [.ref qa_3, .int 0])), (qa_3, .inl (ca_4, 256, .inl (fun _ => 0))), (q5, .inr (0, [.ref qa_7, .int 0])), (qa_7, .inl (ca_8, 256, .inl (fun _ => 0))), (q9, .inr (0, [.ref qa_11, .int 0])), (qa_11, .inl (ca_12, 256, .inl (fun _ => 0))), (q13, .inr (0, [.ref qa_15, .int 0])), (qa_15, .inl (ca_16, 256, .inl (fun _ => 0)))] := hD
  have hK : va_K (dC, dI) classes [(ca_4, .byte), (ca_8, .byte), (ca_12, .byte), (ca_16, .byte)] s := hK
  refine va_put (D := (dC, dI)) (ci := 10) (v := .ref q13) (ty := .object "SyntaxForge$Bytes") (C := R_SF) (T := F_SF) (N := 14) hx hb htw i_SF t_SF t_SF_ok n_SF hown hK hP hD hS 0 rfl rfl 3 (by decide) (htw _ wd_3_9) (fun _ h9 => h9) rfl (by decide +kernel) rfl rfl (Nat.le_of_ble_eq_true rfl) d_SF_init_57 (fun H locs hP hD hS => ?_)
  have hP : va_P (dC, dI) classes [(x0, .inr (10, [.ref q1, .ref q5, .ref q9, .ref q13, .int 0, .null, .null, .null, .null, .null, .null, .null, .null, .null])), (q1, .inr (0, [.ref qa_3, .int 0])), (qa_3, .inl (ca_4, 256, .inl (fun _ => 0))), (q5, .inr (0, [.ref qa_7, .int 0])), (qa_7, .inl (ca_8, 256, .inl (fun _ => 0))), (q9, .inr (0, [.ref qa_11, .int 0])), (qa_11, .inl (ca_12, 256, .inl (fun _ => 0))), (q13, .inr (0, [.ref qa_15, .int 0])), (qa_15, .inl (ca_16, 256, .inl (fun _ => 0)))] H := hP
  have hD : va_D A [(x0, .inr (10, [.ref q1, .ref q5, .ref q9, .ref q13, .int 0, .null, .null, .null, .null, .null, .null, .null, .null, .null])), (q1, .inr (0, [.ref qa_3, .int 0])), (qa_3, .inl (ca_4, 256, .inl (fun _ => 0))), (q5, .inr (0, [.ref qa_7, .int 0])), (qa_7, .inl (ca_8, 256, .inl (fun _ => 0))), (q9, .inr (0, [.ref qa_11, .int 0])), (qa_11, .inl (ca_12, 256, .inl (fun _ => 0))), (q13, .inr (0, [.ref qa_15, .int 0])), (qa_15, .inl (ca_16, 256, .inl (fun _ => 0)))] := hD
  refine lv_aload_n hx hb d_SF_init_60 rfl (lv_at hl 0 rfl) ?_
  refine lv_iconst (v := 0) hx hb d_SF_init_61 (by decide) ?_
  refine va_put (D := (dC, dI)) (ci := 10) (v := .int 0) (ty := .boolean) (C := R_SF) (T := F_SF) (N := 14) hx hb htw i_SF t_SF t_SF_ok n_SF hown hK hP hD hS 0 rfl rfl 4 (by decide) (htw _ wd_3_10) (fun _ h9 => h9) rfl (by decide +kernel) rfl rfl (Nat.le_of_ble_eq_true rfl) d_SF_init_62 (fun H locs hP hD hS => ?_)
  have hP : va_P (dC, dI) classes [(x0, .inr (10, [.ref q1, .ref q5, .ref q9, .ref q13, .int 0, .null, .null, .null, .null, .null, .null, .null, .null, .null])), (q1, .inr (0, [.ref qa_3, .int 0])), (qa_3, .inl (ca_4, 256, .inl (fun _ => 0))), (q5, .inr (0, [.ref qa_7, .int 0])), (qa_7, .inl (ca_8, 256, .inl (fun _ => 0))), (q9, .inr (0, [.ref qa_11, .int 0])), (qa_11, .inl (ca_12, 256, .inl (fun _ => 0))), (q13, .inr (0, [.ref qa_15, .int 0])), (qa_15, .inl (ca_16, 256, .inl (fun _ => 0)))] H := hP
  have hD : va_D A [(x0, .inr (10, [.ref q1, .ref q5, .ref q9, .ref q13, .int 0, .null, .null, .null, .null, .null, .null, .null, .null, .null])), (q1, .inr (0, [.ref qa_3, .int 0])), (qa_3, .inl (ca_4, 256, .inl (fun _ => 0))), (q5, .inr (0, [.ref qa_7, .int 0])), (qa_7, .inl (ca_8, 256, .inl (fun _ => 0))), (q9, .inr (0, [.ref qa_11, .int 0])), (qa_11, .inl (ca_12, 256, .inl (fun _ => 0))), (q13, .inr (0, [.ref qa_15, .int 0])), (qa_15, .inl (ca_16, 256, .inl (fun _ => 0)))] := hD
  refine lv_aload_n hx hb d_SF_init_65 rfl (lv_at hl 0 rfl) ?_
  have hc0 : 8 + 1 ≤ 69 := by omega
  have hs0 : 1032 + 19 ≤ 4673 := by omega
  refine va_new (ci := 3) (fs := [.null, .null, .int 0, .int 0, .null, .null, .null, .null, .null, .null, .null, .null, .null, .null, .int 0, .null, .null, .null, .int 0]) (C := R_Schema) (T := F_Schema) (N := 19) hx hb htw i_Schema t_Schema t_Schema_ok hown (htw _ wd_1_81) (htw _ wd_1_82) (htw _ wd_1_3) hK hP hD hS hA rfl (by decide) hc0 hs0 d_SF_init_66 (fun q17 H hP hD hS => ?_)
  have hP : va_P (dC, dI) classes [(x0, .inr (10, [.ref q1, .ref q5, .ref q9, .ref q13, .int 0, .null, .null, .null, .null, .null, .null, .null, .null, .null])), (q1, .inr (0, [.ref qa_3, .int 0])), (qa_3, .inl (ca_4, 256, .inl (fun _ => 0))), (q5, .inr (0, [.ref qa_7, .int 0])), (qa_7, .inl (ca_8, 256, .inl (fun _ => 0))), (q9, .inr (0, [.ref qa_11, .int 0])), (qa_11, .inl (ca_12, 256, .inl (fun _ => 0))), (q13, .inr (0, [.ref qa_15, .int 0])), (qa_15, .inl (ca_16, 256, .inl (fun _ => 0))), (q17, .inr (3, [.null, .null, .int 0, .int 0, .null, .null, .null, .null, .null, .null, .null, .null, .null, .null, .int 0, .null, .null, .null, .int 0]))] H := hP
  have hD : va_D A [(x0, .inr (10, [.ref q1, .ref q5, .ref q9, .ref q13, .int 0, .null, .null, .null, .null, .null, .null, .null, .null, .null])), (q1, .inr (0, [.ref qa_3, .int 0])), (qa_3, .inl (ca_4, 256, .inl (fun _ => 0))), (q5, .inr (0, [.ref qa_7, .int 0])), (qa_7, .inl (ca_8, 256, .inl (fun _ => 0))), (q9, .inr (0, [.ref qa_11, .int 0])), (qa_11, .inl (ca_12, 256, .inl (fun _ => 0))), (q13, .inr (0, [.ref qa_15, .int 0])), (qa_15, .inl (ca_16, 256, .inl (fun _ => 0))), (q17, .inr (3, [.null, .null, .int 0, .int 0, .null, .null, .null, .null, .null, .null, .null, .null, .null, .null, .int 0, .null, .null, .null, .int 0]))] := hD
  refine lv_dup hx hb d_SF_init_69 rfl ?_
  have hc0 : 9 + 20 ≤ 69 := by omega
  have hs0 : 1051 + 1536 ≤ 4673 := by omega
  have hPc := hP.sub (ws' := [(q17, .inr (3, [.null, .null, .int 0, .int 0, .null, .null, .null, .null, .null, .null, .null, .null, .null, .null, .int 0, .null, .null, .null, .int 0]))]) [9] rfl
  have hDc := hD.sub (ws' := [(q17, .inr (3, [.null, .null, .int 0, .int 0, .null, .null, .null, .null, .null, .null, .null, .null, .null, .null, .int 0, .null, .null, .null, .int 0]))]) [9] (by decide) rfl
  have hKc := hK.sub (tys' := []) [] rfl
  have hFc := va_free (wc := [(q17, .inr (3, [.null, .null, .int 0, .int 0, .null, .null, .null, .null, .null, .null, .null, .null, .null, .null, .int 0, .null, .null, .null, .int 0]))]) hD hS hA [9] rfl
  refine va_callv (va_runI (As := []) (rest := [.ref q17, .ref x0]) ⟨hx, hb, hml, hown, htw⟩ (c_Schema_init l dC dI H.size q17 dE wk wv) (cwI 0 htw (tw_inL k_Schema_init) rfl rfl rfl (htw _ wd_1_3) (htw _ wd_1_83) (htw _ wd_1_84) rfl (by decide +kernel) ⟨Nat.le_of_ble_eq_true rfl, Nat.le_of_ble_eq_true rfl⟩) ⟨fun a U g mk q => by obtain ⟨q0, q1, qP, qK, qD, hq0, hq1, hq2, hq3, hq4, hq5, hq6, hq7⟩ := q; exact ⟨q0, q1, qP, va_K.moved (u := U) (U := U.calling g mk a) (Vm.Alike.refl U.vm) qK, qD, va_Z.moved (u := U) (U := U.calling g mk a) (Vm.Alike.refl U.vm) hq0, va_Z.moved (u := U) (U := U.calling g mk a) (Vm.Alike.refl U.vm) hq1, va_Zq.moved (u := U) (U := U.calling g mk a) (Vm.Alike.refl U.vm) hq2, va_O.moved (u := U) (U := U.calling g mk a) (Vm.Alike.refl U.vm) hq3, va_OF.moved (u := U) (U := U.calling g mk a) (Vm.Alike.refl U.vm) hq4, va_OF.moved (u := U) (U := U.calling g mk a) (Vm.Alike.refl U.vm) hq5, va_T.moved (u := U) (U := U.calling g mk a) (Vm.Alike.refl U.vm) hq6, vk_R.same (u := U) rfl hq7⟩, fun U hU hW => ⟨rfl, by rw [hU], by rw [hU]; exact hPc, va_K.moved hW.alike hKc, hDc.weaken (fun _ _ _ _ => trivial), by rw [hU]; exact va_Z.moved hW.alike ((va_Z.kept hx0 hS.2.1).narrow hFc), by rw [hU]; exact va_Z.moved hW.alike ((va_Z.kept hx1 hS.2.1).narrow hFc), by rw [hU]; exact va_Zq.moved hW.alike ((va_Zq.kept hx2 hS.2.1).narrow hFc), by rw [hU]; exact va_O.moved hW.alike ((va_O.kept hx3 hS.2.1).narrow hFc), by rw [hU]; exact va_OF.moved hW.alike ((va_OF.kept hx4 hS.2.1).narrow hFc), by rw [hU]; exact va_OF.moved hW.alike ((va_OF.kept hx5 hS.2.1).narrow hFc), by rw [hU]; exact va_T.moved hW.alike ((va_T.kept hx6 hS.2.1).narrow hFc), vk_R.warm hW hx7⟩⟩ rfl rfl hl.1 rfl (lv_room (Nat.le_of_ble_eq_true rfl)) d_SF_init_70 ⟨hc0, hs0⟩) hS (fun q _ h => hFc q h) hFc (fun u t H1 locs ht hvm hw hB hz1 hk1 hS => ?_)
  obtain ⟨a1_19, dv_20, a2_21, a3_22, a4_23, wd_24, lt_25, bu_26, st_27, le_28, nx_29, ow_30, sp_31, ky_32, sm_33, s2_34, k2_35, g1_36, g2_37, g3_38, g4_39, g5_40, g6_41, wda_42, cwd_43, wf_44, lta_45, clt_46, cst_47, cle_48, cnx_49, cow_50, cbu_51, m1_52, m2_53, m3_54, dal_55, dvd_56, dva_57, hp58, hP1, hK1, hD1⟩ := hB
  rw [ht] at hP1
  have hK1 := va_K.moved hvm.symm hK1
  obtain ⟨hP, hD⟩ := va_join (wr := [(x0, .inr (10, [.ref q1, .ref q5, .ref q9, .ref q13, .int 0, .null, .null, .null, .null, .null, .null, .null, .null, .null])), (q1, .inr (0, [.ref qa_3, .int 0])), (qa_3, .inl (ca_4, 256, .inl (fun _ => 0))), (q5, .inr (0, [.ref qa_7, .int 0])), (qa_7, .inl (ca_8, 256, .inl (fun _ => 0))), (q9, .inr (0, [.ref qa_11, .int 0])), (qa_11, .inl (ca_12, 256, .inl (fun _ => 0))), (q13, .inr (0, [.ref qa_15, .int 0])), (qa_15, .inl (ca_16, 256, .inl (fun _ => 0)))]) (w1 := [(q17, .inr (3, [.ref a1_19, .ref dv_20, .int 0, .int 0, .ref a2_21, .ref a3_22, .ref a4_23, .ref wd_24, .ref lt_25, .ref bu_26, .ref st_27, .ref le_28, .ref nx_29, .ref ow_30, .int (nI s2_34), .ref sp_31, .ref ky_32, .ref sm_33, .int 0])), (st_27, .inl (cst_47, 64, .inl g1_36)), (le_28, .inl (cle_48, 64, .inl g2_37)), (nx_29, .inl (cnx_49, 64, .inl g3_38)), (ow_30, .inl (cow_50, 64, .inl g4_39)), (bu_26, .inl (cbu_51, 256, .inl g5_40)), (lt_25, .inr (0, [.ref lta_45, .int (nI k2_35)])), (lta_45, .inl (clt_46, 512, .inl g6_41)), (wd_24, .inr (0, [.ref wda_42, .int (nI 280)])), (wda_42, .inl (cwd_43, 280, .inl wf_44)), (a1_19, .inr (1, [.ref dE, .int 0, .int m1_52])), (a2_21, .inr (1, [.ref dE, .int 0, .int m2_53])), (a3_22, .inr (1, [.ref dE, .int 0, .int m3_54])), (dv_20, .inr (2, [.ref dal_55, .ref dvd_56, .int 0])), (dvd_56, .inr (0, [.ref dva_57, .int 0]))]) hP hD [9] [0, 1, 2, 3, 4, 5, 6, 7, 8] rfl rfl (by decide) (by decide) hk1 hFc hP1 hD1
  have hK := (hK.sub (tys' := [(ca_4, .byte), (ca_8, .byte), (ca_12, .byte), (ca_16, .byte)]) [0, 1, 2, 3] rfl).app hK1
  generalize H1 = H at hP hS ⊢
  have hP : va_P (dC, dI) classes [(x0, .inr (10, [.ref q1, .ref q5, .ref q9, .ref q13, .int 0, .null, .null, .null, .null, .null, .null, .null, .null, .null])), (q1, .inr (0, [.ref qa_3, .int 0])), (qa_3, .inl (ca_4, 256, .inl (fun _ => 0))), (q5, .inr (0, [.ref qa_7, .int 0])), (qa_7, .inl (ca_8, 256, .inl (fun _ => 0))), (q9, .inr (0, [.ref qa_11, .int 0])), (qa_11, .inl (ca_12, 256, .inl (fun _ => 0))), (q13, .inr (0, [.ref qa_15, .int 0])), (qa_15, .inl (ca_16, 256, .inl (fun _ => 0))), (q17, .inr (3, [.ref a1_19, .ref dv_20, .int 0, .int 0, .ref a2_21, .ref a3_22, .ref a4_23, .ref wd_24, .ref lt_25, .ref bu_26, .ref st_27, .ref le_28, .ref nx_29, .ref ow_30, .int (nI s2_34), .ref sp_31, .ref ky_32, .ref sm_33, .int 0])), (st_27, .inl (cst_47, 64, .inl g1_36)), (le_28, .inl (cle_48, 64, .inl g2_37)), (nx_29, .inl (cnx_49, 64, .inl g3_38)), (ow_30, .inl (cow_50, 64, .inl g4_39)), (bu_26, .inl (cbu_51, 256, .inl g5_40)), (lt_25, .inr (0, [.ref lta_45, .int (nI k2_35)])), (lta_45, .inl (clt_46, 512, .inl g6_41)), (wd_24, .inr (0, [.ref wda_42, .int (nI 280)])), (wda_42, .inl (cwd_43, 280, .inl wf_44)), (a1_19, .inr (1, [.ref dE, .int 0, .int m1_52])), (a2_21, .inr (1, [.ref dE, .int 0, .int m2_53])), (a3_22, .inr (1, [.ref dE, .int 0, .int m3_54])), (dv_20, .inr (2, [.ref dal_55, .ref dvd_56, .int 0])), (dvd_56, .inr (0, [.ref dva_57, .int 0]))] H := hP
  have hD : va_D A [(x0, .inr (10, [.ref q1, .ref q5, .ref q9, .ref q13, .int 0, .null, .null, .null, .null, .null, .null, .null, .null, .null])), (q1, .inr (0, [.ref qa_3, .int 0])), (qa_3, .inl (ca_4, 256, .inl (fun _ => 0))), (q5, .inr (0, [.ref qa_7, .int 0])), (qa_7, .inl (ca_8, 256, .inl (fun _ => 0))), (q9, .inr (0, [.ref qa_11, .int 0])), (qa_11, .inl (ca_12, 256, .inl (fun _ => 0))), (q13, .inr (0, [.ref qa_15, .int 0])), (qa_15, .inl (ca_16, 256, .inl (fun _ => 0))), (q17, .inr (3, [.ref a1_19, .ref dv_20, .int 0, .int 0, .ref a2_21, .ref a3_22, .ref a4_23, .ref wd_24, .ref lt_25, .ref bu_26, .ref st_27, .ref le_28, .ref nx_29, .ref ow_30, .int (nI s2_34), .ref sp_31, .ref ky_32, .ref sm_33, .int 0])), (st_27, .inl (cst_47, 64, .inl g1_36)), (le_28, .inl (cle_48, 64, .inl g2_37)), (nx_29, .inl (cnx_49, 64, .inl g3_38)), (ow_30, .inl (cow_50, 64, .inl g4_39)), (bu_26, .inl (cbu_51, 256, .inl g5_40)), (lt_25, .inr (0, [.ref lta_45, .int (nI k2_35)])), (lta_45, .inl (clt_46, 512, .inl g6_41)), (wd_24, .inr (0, [.ref wda_42, .int (nI 280)])), (wda_42, .inl (cwd_43, 280, .inl wf_44)), (a1_19, .inr (1, [.ref dE, .int 0, .int m1_52])), (a2_21, .inr (1, [.ref dE, .int 0, .int m2_53])), (a3_22, .inr (1, [.ref dE, .int 0, .int m3_54])), (dv_20, .inr (2, [.ref dal_55, .ref dvd_56, .int 0])), (dvd_56, .inr (0, [.ref dva_57, .int 0]))] := hD
  have hK : va_K (dC, dI) classes [(ca_4, .byte), (ca_8, .byte), (ca_12, .byte), (ca_16, .byte), (cst_47, .int), (cle_48, .int), (cnx_49, .int), (cow_50, .int), (cbu_51, .int), (clt_46, .byte), (cwd_43, .byte)] s := hK
  refine va_put (D := (dC, dI)) (ci := 10) (v := .ref q17) (ty := .object "SyntaxForge$Schema") (C := R_SF) (T := F_SF) (N := 14) hx hb htw i_SF t_SF t_SF_ok n_SF hown hK hP hD hS 0 rfl rfl 5 (by decide) (htw _ wd_3_11) (fun _ h9 => h9) rfl (by decide +kernel) rfl rfl (Nat.le_of_ble_eq_true rfl) d_SF_init_73 (fun H locs hP hD hS => ?_)
  have hP : va_P (dC, dI) classes [(x0, .inr (10, [.ref q1, .ref q5, .ref q9, .ref q13, .int 0, .ref q17, .null, .null, .null, .null, .null, .null, .null, .null])), (q1, .inr (0, [.ref qa_3, .int 0])), (qa_3, .inl (ca_4, 256, .inl (fun _ => 0))), (q5, .inr (0, [.ref qa_7, .int 0])), (qa_7, .inl (ca_8, 256, .inl (fun _ => 0))), (q9, .inr (0, [.ref qa_11, .int 0])), (qa_11, .inl (ca_12, 256, .inl (fun _ => 0))), (q13, .inr (0, [.ref qa_15, .int 0])), (qa_15, .inl (ca_16, 256, .inl (fun _ => 0))), (q17, .inr (3, [.ref a1_19, .ref dv_20, .int 0, .int 0, .ref a2_21, .ref a3_22, .ref a4_23, .ref wd_24, .ref lt_25, .ref bu_26, .ref st_27, .ref le_28, .ref nx_29, .ref ow_30, .int (nI s2_34), .ref sp_31, .ref ky_32, .ref sm_33, .int 0])), (st_27, .inl (cst_47, 64, .inl g1_36)), (le_28, .inl (cle_48, 64, .inl g2_37)), (nx_29, .inl (cnx_49, 64, .inl g3_38)), (ow_30, .inl (cow_50, 64, .inl g4_39)), (bu_26, .inl (cbu_51, 256, .inl g5_40)), (lt_25, .inr (0, [.ref lta_45, .int (nI k2_35)])), (lta_45, .inl (clt_46, 512, .inl g6_41)), (wd_24, .inr (0, [.ref wda_42, .int (nI 280)])), (wda_42, .inl (cwd_43, 280, .inl wf_44)), (a1_19, .inr (1, [.ref dE, .int 0, .int m1_52])), (a2_21, .inr (1, [.ref dE, .int 0, .int m2_53])), (a3_22, .inr (1, [.ref dE, .int 0, .int m3_54])), (dv_20, .inr (2, [.ref dal_55, .ref dvd_56, .int 0])), (dvd_56, .inr (0, [.ref dva_57, .int 0]))] H := hP
  have hD : va_D A [(x0, .inr (10, [.ref q1, .ref q5, .ref q9, .ref q13, .int 0, .ref q17, .null, .null, .null, .null, .null, .null, .null, .null])), (q1, .inr (0, [.ref qa_3, .int 0])), (qa_3, .inl (ca_4, 256, .inl (fun _ => 0))), (q5, .inr (0, [.ref qa_7, .int 0])), (qa_7, .inl (ca_8, 256, .inl (fun _ => 0))), (q9, .inr (0, [.ref qa_11, .int 0])), (qa_11, .inl (ca_12, 256, .inl (fun _ => 0))), (q13, .inr (0, [.ref qa_15, .int 0])), (qa_15, .inl (ca_16, 256, .inl (fun _ => 0))), (q17, .inr (3, [.ref a1_19, .ref dv_20, .int 0, .int 0, .ref a2_21, .ref a3_22, .ref a4_23, .ref wd_24, .ref lt_25, .ref bu_26, .ref st_27, .ref le_28, .ref nx_29, .ref ow_30, .int (nI s2_34), .ref sp_31, .ref ky_32, .ref sm_33, .int 0])), (st_27, .inl (cst_47, 64, .inl g1_36)), (le_28, .inl (cle_48, 64, .inl g2_37)), (nx_29, .inl (cnx_49, 64, .inl g3_38)), (ow_30, .inl (cow_50, 64, .inl g4_39)), (bu_26, .inl (cbu_51, 256, .inl g5_40)), (lt_25, .inr (0, [.ref lta_45, .int (nI k2_35)])), (lta_45, .inl (clt_46, 512, .inl g6_41)), (wd_24, .inr (0, [.ref wda_42, .int (nI 280)])), (wda_42, .inl (cwd_43, 280, .inl wf_44)), (a1_19, .inr (1, [.ref dE, .int 0, .int m1_52])), (a2_21, .inr (1, [.ref dE, .int 0, .int m2_53])), (a3_22, .inr (1, [.ref dE, .int 0, .int m3_54])), (dv_20, .inr (2, [.ref dal_55, .ref dvd_56, .int 0])), (dvd_56, .inr (0, [.ref dva_57, .int 0]))] := hD
  refine lv_aload_n hx hb d_SF_init_76 rfl (lv_at hl 0 rfl) ?_
  have hc0 : 29 + 1 ≤ 69 := by omega
  have hs0 : 2587 + 19 ≤ 4673 := by omega
  refine va_new (ci := 3) (fs := [.null, .null, .int 0, .int 0, .null, .null, .null, .null, .null, .null, .null, .null, .null, .null, .int 0, .null, .null, .null, .int 0]) (C := R_Schema) (T := F_Schema) (N := 19) hx hb htw i_Schema t_Schema t_Schema_ok hown (htw _ wd_1_81) (htw _ wd_1_82) (htw _ wd_1_3) hK hP hD hS hA rfl (by decide) hc0 hs0 d_SF_init_77 (fun q59 H hP hD hS => ?_)
  have hP : va_P (dC, dI) classes [(x0, .inr (10, [.ref q1, .ref q5, .ref q9, .ref q13, .int 0, .ref q17, .null, .null, .null, .null, .null, .null, .null, .null])), (q1, .inr (0, [.ref qa_3, .int 0])), (qa_3, .inl (ca_4, 256, .inl (fun _ => 0))), (q5, .inr (0, [.ref qa_7, .int 0])), (qa_7, .inl (ca_8, 256, .inl (fun _ => 0))), (q9, .inr (0, [.ref qa_11, .int 0])), (qa_11, .inl (ca_12, 256, .inl (fun _ => 0))), (q13, .inr (0, [.ref qa_15, .int 0])), (qa_15, .inl (ca_16, 256, .inl (fun _ => 0))), (q17, .inr (3, [.ref a1_19, .ref dv_20, .int 0, .int 0, .ref a2_21, .ref a3_22, .ref a4_23, .ref wd_24, .ref lt_25, .ref bu_26, .ref st_27, .ref le_28, .ref nx_29, .ref ow_30, .int (nI s2_34), .ref sp_31, .ref ky_32, .ref sm_33, .int 0])), (st_27, .inl (cst_47, 64, .inl g1_36)), (le_28, .inl (cle_48, 64, .inl g2_37)), (nx_29, .inl (cnx_49, 64, .inl g3_38)), (ow_30, .inl (cow_50, 64, .inl g4_39)), (bu_26, .inl (cbu_51, 256, .inl g5_40)), (lt_25, .inr (0, [.ref lta_45, .int (nI k2_35)])), (lta_45, .inl (clt_46, 512, .inl g6_41)), (wd_24, .inr (0, [.ref wda_42, .int (nI 280)])), (wda_42, .inl (cwd_43, 280, .inl wf_44)), (a1_19, .inr (1, [.ref dE, .int 0, .int m1_52])), (a2_21, .inr (1, [.ref dE, .int 0, .int m2_53])), (a3_22, .inr (1, [.ref dE, .int 0, .int m3_54])), (dv_20, .inr (2, [.ref dal_55, .ref dvd_56, .int 0])), (dvd_56, .inr (0, [.ref dva_57, .int 0])), (q59, .inr (3, [.null, .null, .int 0, .int 0, .null, .null, .null, .null, .null, .null, .null, .null, .null, .null, .int 0, .null, .null, .null, .int 0]))] H := hP
  have hD : va_D A [(x0, .inr (10, [.ref q1, .ref q5, .ref q9, .ref q13, .int 0, .ref q17, .null, .null, .null, .null, .null, .null, .null, .null])), (q1, .inr (0, [.ref qa_3, .int 0])), (qa_3, .inl (ca_4, 256, .inl (fun _ => 0))), (q5, .inr (0, [.ref qa_7, .int 0])), (qa_7, .inl (ca_8, 256, .inl (fun _ => 0))), (q9, .inr (0, [.ref qa_11, .int 0])), (qa_11, .inl (ca_12, 256, .inl (fun _ => 0))), (q13, .inr (0, [.ref qa_15, .int 0])), (qa_15, .inl (ca_16, 256, .inl (fun _ => 0))), (q17, .inr (3, [.ref a1_19, .ref dv_20, .int 0, .int 0, .ref a2_21, .ref a3_22, .ref a4_23, .ref wd_24, .ref lt_25, .ref bu_26, .ref st_27, .ref le_28, .ref nx_29, .ref ow_30, .int (nI s2_34), .ref sp_31, .ref ky_32, .ref sm_33, .int 0])), (st_27, .inl (cst_47, 64, .inl g1_36)), (le_28, .inl (cle_48, 64, .inl g2_37)), (nx_29, .inl (cnx_49, 64, .inl g3_38)), (ow_30, .inl (cow_50, 64, .inl g4_39)), (bu_26, .inl (cbu_51, 256, .inl g5_40)), (lt_25, .inr (0, [.ref lta_45, .int (nI k2_35)])), (lta_45, .inl (clt_46, 512, .inl g6_41)), (wd_24, .inr (0, [.ref wda_42, .int (nI 280)])), (wda_42, .inl (cwd_43, 280, .inl wf_44)), (a1_19, .inr (1, [.ref dE, .int 0, .int m1_52])), (a2_21, .inr (1, [.ref dE, .int 0, .int m2_53])), (a3_22, .inr (1, [.ref dE, .int 0, .int m3_54])), (dv_20, .inr (2, [.ref dal_55, .ref dvd_56, .int 0])), (dvd_56, .inr (0, [.ref dva_57, .int 0])), (q59, .inr (3, [.null, .null, .int 0, .int 0, .null, .null, .null, .null, .null, .null, .null, .null, .null, .null, .int 0, .null, .null, .null, .int 0]))] := hD
  refine lv_dup hx hb d_SF_init_80 rfl ?_
  have hc0 : 30 + 20 ≤ 69 := by omega
  have hs0 : 2606 + 1536 ≤ 4673 := by omega
  have hPc := hP.sub (ws' := [(q59, .inr (3, [.null, .null, .int 0, .int 0, .null, .null, .null, .null, .null, .null, .null, .null, .null, .null, .int 0, .null, .null, .null, .int 0]))]) [24] rfl
  have hDc := hD.sub (ws' := [(q59, .inr (3, [.null, .null, .int 0, .int 0, .null, .null, .null, .null, .null, .null, .null, .null, .null, .null, .int 0, .null, .null, .null, .int 0]))]) [24] (by decide) rfl
  have hKc := hK.sub (tys' := []) [] rfl
  have hFc := va_free (wc := [(q59, .inr (3, [.null, .null, .int 0, .int 0, .null, .null, .null, .null, .null, .null, .null, .null, .null, .null, .int 0, .null, .null, .null, .int 0]))]) hD hS hA [24] rfl
  refine va_callv (va_runI (As := []) (rest := [.ref q59, .ref x0]) ⟨hx, hb, hml, hown, htw⟩ (c_Schema_init l dC dI H.size q59 dE wk wv) (cwI 0 htw (tw_inL k_Schema_init) rfl rfl rfl (htw _ wd_1_3) (htw _ wd_1_83) (htw _ wd_1_84) rfl (by decide +kernel) ⟨Nat.le_of_ble_eq_true rfl, Nat.le_of_ble_eq_true rfl⟩) ⟨fun a U g mk q => by obtain ⟨q0, q1, qP, qK, qD, hq0, hq1, hq2, hq3, hq4, hq5, hq6, hq7⟩ := q; exact ⟨q0, q1, qP, va_K.moved (u := U) (U := U.calling g mk a) (Vm.Alike.refl U.vm) qK, qD, va_Z.moved (u := U) (U := U.calling g mk a) (Vm.Alike.refl U.vm) hq0, va_Z.moved (u := U) (U := U.calling g mk a) (Vm.Alike.refl U.vm) hq1, va_Zq.moved (u := U) (U := U.calling g mk a) (Vm.Alike.refl U.vm) hq2, va_O.moved (u := U) (U := U.calling g mk a) (Vm.Alike.refl U.vm) hq3, va_OF.moved (u := U) (U := U.calling g mk a) (Vm.Alike.refl U.vm) hq4, va_OF.moved (u := U) (U := U.calling g mk a) (Vm.Alike.refl U.vm) hq5, va_T.moved (u := U) (U := U.calling g mk a) (Vm.Alike.refl U.vm) hq6, vk_R.same (u := U) rfl hq7⟩, fun U hU hW => ⟨rfl, by rw [hU], by rw [hU]; exact hPc, va_K.moved hW.alike hKc, hDc.weaken (fun _ _ _ _ => trivial), by rw [hU]; exact va_Z.moved hW.alike ((va_Z.kept hx0 hS.2.1).narrow hFc), by rw [hU]; exact va_Z.moved hW.alike ((va_Z.kept hx1 hS.2.1).narrow hFc), by rw [hU]; exact va_Zq.moved hW.alike ((va_Zq.kept hx2 hS.2.1).narrow hFc), by rw [hU]; exact va_O.moved hW.alike ((va_O.kept hx3 hS.2.1).narrow hFc), by rw [hU]; exact va_OF.moved hW.alike ((va_OF.kept hx4 hS.2.1).narrow hFc), by rw [hU]; exact va_OF.moved hW.alike ((va_OF.kept hx5 hS.2.1).narrow hFc), by rw [hU]; exact va_T.moved hW.alike ((va_T.kept hx6 hS.2.1).narrow hFc), vk_R.warm hW hx7⟩⟩ rfl rfl hl.1 rfl (lv_room (Nat.le_of_ble_eq_true rfl)) d_SF_init_81 ⟨hc0, hs0⟩) hS (fun q _ h => hFc q h) hFc (fun u t H1 locs ht hvm hw hB hz1 hk1 hS => ?_)
  obtain ⟨a1_61, dv_62, a2_63, a3_64, a4_65, wd_66, lt_67, bu_68, st_69, le_70, nx_71, ow_72, sp_73, ky_74, sm_75, s2_76, k2_77, g1_78, g2_79, g3_80, g4_81, g5_82, g6_83, wda_84, cwd_85, wf_86, lta_87, clt_88, cst_89, cle_90, cnx_91, cow_92, cbu_93, m1_94, m2_95, m3_96, dal_97, dvd_98, dva_99, hp100, hP1, hK1, hD1⟩ := hB
  rw [ht] at hP1
  have hK1 := va_K.moved hvm.symm hK1
  obtain ⟨hP, hD⟩ := va_join (wr := [(x0, .inr (10, [.ref q1, .ref q5, .ref q9, .ref q13, .int 0, .ref q17, .null, .null, .null, .null, .null, .null, .null, .null])), (q1, .inr (0, [.ref qa_3, .int 0])), (qa_3, .inl (ca_4, 256, .inl (fun _ => 0))), (q5, .inr (0, [.ref qa_7, .int 0])), (qa_7, .inl (ca_8, 256, .inl (fun _ => 0))), (q9, .inr (0, [.ref qa_11, .int 0])), (qa_11, .inl (ca_12, 256, .inl (fun _ => 0))), (q13, .inr (0, [.ref qa_15, .int 0])), (qa_15, .inl (ca_16, 256, .inl (fun _ => 0))), (q17, .inr (3, [.ref a1_19, .ref dv_20, .int 0, .int 0, .ref a2_21, .ref a3_22, .ref a4_23, .ref wd_24, .ref lt_25, .ref bu_26, .ref st_27, .ref le_28, .ref nx_29, .ref ow_30, .int (nI s2_34), .ref sp_31, .ref ky_32, .ref sm_33, .int 0])), (st_27, .inl (cst_47, 64, .inl g1_36)), (le_28, .inl (cle_48, 64, .inl g2_37)), (nx_29, .inl (cnx_49, 64, .inl g3_38)), (ow_30, .inl (cow_50, 64, .inl g4_39)), (bu_26, .inl (cbu_51, 256, .inl g5_40)), (lt_25, .inr (0, [.ref lta_45, .int (nI k2_35)])), (lta_45, .inl (clt_46, 512, .inl g6_41)), (wd_24, .inr (0, [.ref wda_42, .int (nI 280)])), (wda_42, .inl (cwd_43, 280, .inl wf_44)), (a1_19, .inr (1, [.ref dE, .int 0, .int m1_52])), (a2_21, .inr (1, [.ref dE, .int 0, .int m2_53])), (a3_22, .inr (1, [.ref dE, .int 0, .int m3_54])), (dv_20, .inr (2, [.ref dal_55, .ref dvd_56, .int 0])), (dvd_56, .inr (0, [.ref dva_57, .int 0]))]) (w1 := [(q59, .inr (3, [.ref a1_61, .ref dv_62, .int 0, .int 0, .ref a2_63, .ref a3_64, .ref a4_65, .ref wd_66, .ref lt_67, .ref bu_68, .ref st_69, .ref le_70, .ref nx_71, .ref ow_72, .int (nI s2_76), .ref sp_73, .ref ky_74, .ref sm_75, .int 0])), (st_69, .inl (cst_89, 64, .inl g1_78)), (le_70, .inl (cle_90, 64, .inl g2_79)), (nx_71, .inl (cnx_91, 64, .inl g3_80)), (ow_72, .inl (cow_92, 64, .inl g4_81)), (bu_68, .inl (cbu_93, 256, .inl g5_82)), (lt_67, .inr (0, [.ref lta_87, .int (nI k2_77)])), (lta_87, .inl (clt_88, 512, .inl g6_83)), (wd_66, .inr (0, [.ref wda_84, .int (nI 280)])), (wda_84, .inl (cwd_85, 280, .inl wf_86)), (a1_61, .inr (1, [.ref dE, .int 0, .int m1_94])), (a2_63, .inr (1, [.ref dE, .int 0, .int m2_95])), (a3_64, .inr (1, [.ref dE, .int 0, .int m3_96])), (dv_62, .inr (2, [.ref dal_97, .ref dvd_98, .int 0])), (dvd_98, .inr (0, [.ref dva_99, .int 0]))]) hP hD [24] [0, 1, 2, 3, 4, 5, 6, 7, 8, 9, 10, 11, 12, 13, 14, 15, 16, 17, 18, 19, 20, 21, 22, 23] rfl rfl (by decide) (by decide) hk1 hFc hP1 hD1
  have hK := (hK.sub (tys' := [(ca_4, .byte), (ca_8, .byte), (ca_12, .byte), (ca_16, .byte), (cst_47, .int), (cle_48, .int), (cnx_49, .int), (cow_50, .int), (cbu_51, .int), (clt_46, .byte), (cwd_43, .byte)]) [0, 1, 2, 3, 4, 5, 6, 7, 8, 9, 10] rfl).app hK1
  generalize H1 = H at hP hS ⊢
  have hP : va_P (dC, dI) classes [(x0, .inr (10, [.ref q1, .ref q5, .ref q9, .ref q13, .int 0, .ref q17, .null, .null, .null, .null, .null, .null, .null, .null])), (q1, .inr (0, [.ref qa_3, .int 0])), (qa_3, .inl (ca_4, 256, .inl (fun _ => 0))), (q5, .inr (0, [.ref qa_7, .int 0])), (qa_7, .inl (ca_8, 256, .inl (fun _ => 0))), (q9, .inr (0, [.ref qa_11, .int 0])), (qa_11, .inl (ca_12, 256, .inl (fun _ => 0))), (q13, .inr (0, [.ref qa_15, .int 0])), (qa_15, .inl (ca_16, 256, .inl (fun _ => 0))), (q17, .inr (3, [.ref a1_19, .ref dv_20, .int 0, .int 0, .ref a2_21, .ref a3_22, .ref a4_23, .ref wd_24, .ref lt_25, .ref bu_26, .ref st_27, .ref le_28, .ref nx_29, .ref ow_30, .int (nI s2_34), .ref sp_31, .ref ky_32, .ref sm_33, .int 0])), (st_27, .inl (cst_47, 64, .inl g1_36)), (le_28, .inl (cle_48, 64, .inl g2_37)), (nx_29, .inl (cnx_49, 64, .inl g3_38)), (ow_30, .inl (cow_50, 64, .inl g4_39)), (bu_26, .inl (cbu_51, 256, .inl g5_40)), (lt_25, .inr (0, [.ref lta_45, .int (nI k2_35)])), (lta_45, .inl (clt_46, 512, .inl g6_41)), (wd_24, .inr (0, [.ref wda_42, .int (nI 280)])), (wda_42, .inl (cwd_43, 280, .inl wf_44)), (a1_19, .inr (1, [.ref dE, .int 0, .int m1_52])), (a2_21, .inr (1, [.ref dE, .int 0, .int m2_53])), (a3_22, .inr (1, [.ref dE, .int 0, .int m3_54])), (dv_20, .inr (2, [.ref dal_55, .ref dvd_56, .int 0])), (dvd_56, .inr (0, [.ref dva_57, .int 0])), (q59, .inr (3, [.ref a1_61, .ref dv_62, .int 0, .int 0, .ref a2_63, .ref a3_64, .ref a4_65, .ref wd_66, .ref lt_67, .ref bu_68, .ref st_69, .ref le_70, .ref nx_71, .ref ow_72, .int (nI s2_76), .ref sp_73, .ref ky_74, .ref sm_75, .int 0])), (st_69, .inl (cst_89, 64, .inl g1_78)), (le_70, .inl (cle_90, 64, .inl g2_79)), (nx_71, .inl (cnx_91, 64, .inl g3_80)), (ow_72, .inl (cow_92, 64, .inl g4_81)), (bu_68, .inl (cbu_93, 256, .inl g5_82)), (lt_67, .inr (0, [.ref lta_87, .int (nI k2_77)])), (lta_87, .inl (clt_88, 512, .inl g6_83)), (wd_66, .inr (0, [.ref wda_84, .int (nI 280)])), (wda_84, .inl (cwd_85, 280, .inl wf_86)), (a1_61, .inr (1, [.ref dE, .int 0, .int m1_94])), (a2_63, .inr (1, [.ref dE, .int 0, .int m2_95])), (a3_64, .inr (1, [.ref dE, .int 0, .int m3_96])), (dv_62, .inr (2, [.ref dal_97, .ref dvd_98, .int 0])), (dvd_98, .inr (0, [.ref dva_99, .int 0]))] H := hP
  have hD : va_D A [(x0, .inr (10, [.ref q1, .ref q5, .ref q9, .ref q13, .int 0, .ref q17, .null, .null, .null, .null, .null, .null, .null, .null])), (q1, .inr (0, [.ref qa_3, .int 0])), (qa_3, .inl (ca_4, 256, .inl (fun _ => 0))), (q5, .inr (0, [.ref qa_7, .int 0])), (qa_7, .inl (ca_8, 256, .inl (fun _ => 0))), (q9, .inr (0, [.ref qa_11, .int 0])), (qa_11, .inl (ca_12, 256, .inl (fun _ => 0))), (q13, .inr (0, [.ref qa_15, .int 0])), (qa_15, .inl (ca_16, 256, .inl (fun _ => 0))), (q17, .inr (3, [.ref a1_19, .ref dv_20, .int 0, .int 0, .ref a2_21, .ref a3_22, .ref a4_23, .ref wd_24, .ref lt_25, .ref bu_26, .ref st_27, .ref le_28, .ref nx_29, .ref ow_30, .int (nI s2_34), .ref sp_31, .ref ky_32, .ref sm_33, .int 0])), (st_27, .inl (cst_47, 64, .inl g1_36)), (le_28, .inl (cle_48, 64, .inl g2_37)), (nx_29, .inl (cnx_49, 64, .inl g3_38)), (ow_30, .inl (cow_50, 64, .inl g4_39)), (bu_26, .inl (cbu_51, 256, .inl g5_40)), (lt_25, .inr (0, [.ref lta_45, .int (nI k2_35)])), (lta_45, .inl (clt_46, 512, .inl g6_41)), (wd_24, .inr (0, [.ref wda_42, .int (nI 280)])), (wda_42, .inl (cwd_43, 280, .inl wf_44)), (a1_19, .inr (1, [.ref dE, .int 0, .int m1_52])), (a2_21, .inr (1, [.ref dE, .int 0, .int m2_53])), (a3_22, .inr (1, [.ref dE, .int 0, .int m3_54])), (dv_20, .inr (2, [.ref dal_55, .ref dvd_56, .int 0])), (dvd_56, .inr (0, [.ref dva_57, .int 0])), (q59, .inr (3, [.ref a1_61, .ref dv_62, .int 0, .int 0, .ref a2_63, .ref a3_64, .ref a4_65, .ref wd_66, .ref lt_67, .ref bu_68, .ref st_69, .ref le_70, .ref nx_71, .ref ow_72, .int (nI s2_76), .ref sp_73, .ref ky_74, .ref sm_75, .int 0])), (st_69, .inl (cst_89, 64, .inl g1_78)), (le_70, .inl (cle_90, 64, .inl g2_79)), (nx_71, .inl (cnx_91, 64, .inl g3_80)), (ow_72, .inl (cow_92, 64, .inl g4_81)), (bu_68, .inl (cbu_93, 256, .inl g5_82)), (lt_67, .inr (0, [.ref lta_87, .int (nI k2_77)])), (lta_87, .inl (clt_88, 512, .inl g6_83)), (wd_66, .inr (0, [.ref wda_84, .int (nI 280)])), (wda_84, .inl (cwd_85, 280, .inl wf_86)), (a1_61, .inr (1, [.ref dE, .int 0, .int m1_94])), (a2_63, .inr (1, [.ref dE, .int 0, .int m2_95])), (a3_64, .inr (1, [.ref dE, .int 0, .int m3_96])), (dv_62, .inr (2, [.ref dal_97, .ref dvd_98, .int 0])), (dvd_98, .inr (0, [.ref dva_99, .int 0]))] := hD
  have hK : va_K (dC, dI) classes [(ca_4, .byte), (ca_8, .byte), (ca_12, .byte), (ca_16, .byte), (cst_47, .int), (cle_48, .int), (cnx_49, .int), (cow_50, .int), (cbu_51, .int), (clt_46, .byte), (cwd_43, .byte), (cst_89, .int), (cle_90, .int), (cnx_91, .int), (cow_92, .int), (cbu_93, .int), (clt_88, .byte), (cwd_85, .byte)] s := hK
  refine va_put (D := (dC, dI)) (ci := 10) (v := .ref q59) (ty := .object "SyntaxForge$Schema") (C := R_SF) (T := F_SF) (N := 14) hx hb htw i_SF t_SF t_SF_ok n_SF hown hK hP hD hS 0 rfl rfl 6 (by decide) (htw _ wd_3_12) (fun _ h9 => h9) rfl (by decide +kernel) rfl rfl (Nat.le_of_ble_eq_true rfl) d_SF_init_84 (fun H locs hP hD hS => ?_)
  have hP : va_P (dC, dI) classes [(x0, .inr (10, [.ref q1, .ref q5, .ref q9, .ref q13, .int 0, .ref q17, .ref q59, .null, .null, .null, .null, .null, .null, .null])), (q1, .inr (0, [.ref qa_3, .int 0])), (qa_3, .inl (ca_4, 256, .inl (fun _ => 0))), (q5, .inr (0, [.ref qa_7, .int 0])), (qa_7, .inl (ca_8, 256, .inl (fun _ => 0))), (q9, .inr (0, [.ref qa_11, .int 0])), (qa_11, .inl (ca_12, 256, .inl (fun _ => 0))), (q13, .inr (0, [.ref qa_15, .int 0])), (qa_15, .inl (ca_16, 256, .inl (fun _ => 0))), (q17, .inr (3, [.ref a1_19, .ref dv_20, .int 0, .int 0, .ref a2_21, .ref a3_22, .ref a4_23, .ref wd_24, .ref lt_25, .ref bu_26, .ref st_27, .ref le_28, .ref nx_29, .ref ow_30, .int (nI s2_34), .ref sp_31, .ref ky_32, .ref sm_33, .int 0])), (st_27, .inl (cst_47, 64, .inl g1_36)), (le_28, .inl (cle_48, 64, .inl g2_37)), (nx_29, .inl (cnx_49, 64, .inl g3_38)), (ow_30, .inl (cow_50, 64, .inl g4_39)), (bu_26, .inl (cbu_51, 256, .inl g5_40)), (lt_25, .inr (0, [.ref lta_45, .int (nI k2_35)])), (lta_45, .inl (clt_46, 512, .inl g6_41)), (wd_24, .inr (0, [.ref wda_42, .int (nI 280)])), (wda_42, .inl (cwd_43, 280, .inl wf_44)), (a1_19, .inr (1, [.ref dE, .int 0, .int m1_52])), (a2_21, .inr (1, [.ref dE, .int 0, .int m2_53])), (a3_22, .inr (1, [.ref dE, .int 0, .int m3_54])), (dv_20, .inr (2, [.ref dal_55, .ref dvd_56, .int 0])), (dvd_56, .inr (0, [.ref dva_57, .int 0])), (q59, .inr (3, [.ref a1_61, .ref dv_62, .int 0, .int 0, .ref a2_63, .ref a3_64, .ref a4_65, .ref wd_66, .ref lt_67, .ref bu_68, .ref st_69, .ref le_70, .ref nx_71, .ref ow_72, .int (nI s2_76), .ref sp_73, .ref ky_74, .ref sm_75, .int 0])), (st_69, .inl (cst_89, 64, .inl g1_78)), (le_70, .inl (cle_90, 64, .inl g2_79)), (nx_71, .inl (cnx_91, 64, .inl g3_80)), (ow_72, .inl (cow_92, 64, .inl g4_81)), (bu_68, .inl (cbu_93, 256, .inl g5_82)), (lt_67, .inr (0, [.ref lta_87, .int (nI k2_77)])), (lta_87, .inl (clt_88, 512, .inl g6_83)), (wd_66, .inr (0, [.ref wda_84, .int (nI 280)])), (wda_84, .inl (cwd_85, 280, .inl wf_86)), (a1_61, .inr (1, [.ref dE, .int 0, .int m1_94])), (a2_63, .inr (1, [.ref dE, .int 0, .int m2_95])), (a3_64, .inr (1, [.ref dE, .int 0, .int m3_96])), (dv_62, .inr (2, [.ref dal_97, .ref dvd_98, .int 0])), (dvd_98, .inr (0, [.ref dva_99, .int 0]))] H := hP
  have hD : va_D A [(x0, .inr (10, [.ref q1, .ref q5, .ref q9, .ref q13, .int 0, .ref q17, .ref q59, .null, .null, .null, .null, .null, .null, .null])), (q1, .inr (0, [.ref qa_3, .int 0])), (qa_3, .inl (ca_4, 256, .inl (fun _ => 0))), (q5, .inr (0, [.ref qa_7, .int 0])), (qa_7, .inl (ca_8, 256, .inl (fun _ => 0))), (q9, .inr (0, [.ref qa_11, .int 0])), (qa_11, .inl (ca_12, 256, .inl (fun _ => 0))), (q13, .inr (0, [.ref qa_15, .int 0])), (qa_15, .inl (ca_16, 256, .inl (fun _ => 0))), (q17, .inr (3, [.ref a1_19, .ref dv_20, .int 0, .int 0, .ref a2_21, .ref a3_22, .ref a4_23, .ref wd_24, .ref lt_25, .ref bu_26, .ref st_27, .ref le_28, .ref nx_29, .ref ow_30, .int (nI s2_34), .ref sp_31, .ref ky_32, .ref sm_33, .int 0])), (st_27, .inl (cst_47, 64, .inl g1_36)), (le_28, .inl (cle_48, 64, .inl g2_37)), (nx_29, .inl (cnx_49, 64, .inl g3_38)), (ow_30, .inl (cow_50, 64, .inl g4_39)), (bu_26, .inl (cbu_51, 256, .inl g5_40)), (lt_25, .inr (0, [.ref lta_45, .int (nI k2_35)])), (lta_45, .inl (clt_46, 512, .inl g6_41)), (wd_24, .inr (0, [.ref wda_42, .int (nI 280)])), (wda_42, .inl (cwd_43, 280, .inl wf_44)), (a1_19, .inr (1, [.ref dE, .int 0, .int m1_52])), (a2_21, .inr (1, [.ref dE, .int 0, .int m2_53])), (a3_22, .inr (1, [.ref dE, .int 0, .int m3_54])), (dv_20, .inr (2, [.ref dal_55, .ref dvd_56, .int 0])), (dvd_56, .inr (0, [.ref dva_57, .int 0])), (q59, .inr (3, [.ref a1_61, .ref dv_62, .int 0, .int 0, .ref a2_63, .ref a3_64, .ref a4_65, .ref wd_66, .ref lt_67, .ref bu_68, .ref st_69, .ref le_70, .ref nx_71, .ref ow_72, .int (nI s2_76), .ref sp_73, .ref ky_74, .ref sm_75, .int 0])), (st_69, .inl (cst_89, 64, .inl g1_78)), (le_70, .inl (cle_90, 64, .inl g2_79)), (nx_71, .inl (cnx_91, 64, .inl g3_80)), (ow_72, .inl (cow_92, 64, .inl g4_81)), (bu_68, .inl (cbu_93, 256, .inl g5_82)), (lt_67, .inr (0, [.ref lta_87, .int (nI k2_77)])), (lta_87, .inl (clt_88, 512, .inl g6_83)), (wd_66, .inr (0, [.ref wda_84, .int (nI 280)])), (wda_84, .inl (cwd_85, 280, .inl wf_86)), (a1_61, .inr (1, [.ref dE, .int 0, .int m1_94])), (a2_63, .inr (1, [.ref dE, .int 0, .int m2_95])), (a3_64, .inr (1, [.ref dE, .int 0, .int m3_96])), (dv_62, .inr (2, [.ref dal_97, .ref dvd_98, .int 0])), (dvd_98, .inr (0, [.ref dva_99, .int 0]))] := hD
  refine lv_aload_n hx hb d_SF_init_87 rfl (lv_at hl 0 rfl) ?_
  have hc0 : 50 + 1 ≤ 69 := by omega
  have hs0 : 4142 + 8 ≤ 4673 := by omega
  refine va_new (ci := 4) (fs := [.null, .null, .null, .int 0, .int 0, .null, .null, .int 0]) (C := R_Scanner) (T := F_Scanner) (N := 8) hx hb htw i_Scanner t_Scanner t_Scanner_ok hown (htw _ wd_2_82) (htw _ wd_2_83) (htw _ wd_1_15) hK hP hD hS hA rfl (by decide) hc0 hs0 d_SF_init_88 (fun q101 H hP hD hS => ?_)
  have hP : va_P (dC, dI) classes [(x0, .inr (10, [.ref q1, .ref q5, .ref q9, .ref q13, .int 0, .ref q17, .ref q59, .null, .null, .null, .null, .null, .null, .null])), (q1, .inr (0, [.ref qa_3, .int 0])), (qa_3, .inl (ca_4, 256, .inl (fun _ => 0))), (q5, .inr (0, [.ref qa_7, .int 0])), (qa_7, .inl (ca_8, 256, .inl (fun _ => 0))), (q9, .inr (0, [.ref qa_11, .int 0])), (qa_11, .inl (ca_12, 256, .inl (fun _ => 0))), (q13, .inr (0, [.ref qa_15, .int 0])), (qa_15, .inl (ca_16, 256, .inl (fun _ => 0))), (q17, .inr (3, [.ref a1_19, .ref dv_20, .int 0, .int 0, .ref a2_21, .ref a3_22, .ref a4_23, .ref wd_24, .ref lt_25, .ref bu_26, .ref st_27, .ref le_28, .ref nx_29, .ref ow_30, .int (nI s2_34), .ref sp_31, .ref ky_32, .ref sm_33, .int 0])), (st_27, .inl (cst_47, 64, .inl g1_36)), (le_28, .inl (cle_48, 64, .inl g2_37)), (nx_29, .inl (cnx_49, 64, .inl g3_38)), (ow_30, .inl (cow_50, 64, .inl g4_39)), (bu_26, .inl (cbu_51, 256, .inl g5_40)), (lt_25, .inr (0, [.ref lta_45, .int (nI k2_35)])), (lta_45, .inl (clt_46, 512, .inl g6_41)), (wd_24, .inr (0, [.ref wda_42, .int (nI 280)])), (wda_42, .inl (cwd_43, 280, .inl wf_44)), (a1_19, .inr (1, [.ref dE, .int 0, .int m1_52])), (a2_21, .inr (1, [.ref dE, .int 0, .int m2_53])), (a3_22, .inr (1, [.ref dE, .int 0, .int m3_54])), (dv_20, .inr (2, [.ref dal_55, .ref dvd_56, .int 0])), (dvd_56, .inr (0, [.ref dva_57, .int 0])), (q59, .inr (3, [.ref a1_61, .ref dv_62, .int 0, .int 0, .ref a2_63, .ref a3_64, .ref a4_65, .ref wd_66, .ref lt_67, .ref bu_68, .ref st_69, .ref le_70, .ref nx_71, .ref ow_72, .int (nI s2_76), .ref sp_73, .ref ky_74, .ref sm_75, .int 0])), (st_69, .inl (cst_89, 64, .inl g1_78)), (le_70, .inl (cle_90, 64, .inl g2_79)), (nx_71, .inl (cnx_91, 64, .inl g3_80)), (ow_72, .inl (cow_92, 64, .inl g4_81)), (bu_68, .inl (cbu_93, 256, .inl g5_82)), (lt_67, .inr (0, [.ref lta_87, .int (nI k2_77)])), (lta_87, .inl (clt_88, 512, .inl g6_83)), (wd_66, .inr (0, [.ref wda_84, .int (nI 280)])), (wda_84, .inl (cwd_85, 280, .inl wf_86)), (a1_61, .inr (1, [.ref dE, .int 0, .int m1_94])), (a2_63, .inr (1, [.ref dE, .int 0, .int m2_95])), (a3_64, .inr (1, [.ref dE, .int 0, .int m3_96])), (dv_62, .inr (2, [.ref dal_97, .ref dvd_98, .int 0])), (dvd_98, .inr (0, [.ref dva_99, .int 0])), (q101, .inr (4, [.null, .null, .null, .int 0, .int 0, .null, .null, .int 0]))] H := hP
  have hD : va_D A [(x0, .inr (10, [.ref q1, .ref q5, .ref q9, .ref q13, .int 0, .ref q17, .ref q59, .null, .null, .null, .null, .null, .null, .null])), (q1, .inr (0, [.ref qa_3, .int 0])), (qa_3, .inl (ca_4, 256, .inl (fun _ => 0))), (q5, .inr (0, [.ref qa_7, .int 0])), (qa_7, .inl (ca_8, 256, .inl (fun _ => 0))), (q9, .inr (0, [.ref qa_11, .int 0])), (qa_11, .inl (ca_12, 256, .inl (fun _ => 0))), (q13, .inr (0, [.ref qa_15, .int 0])), (qa_15, .inl (ca_16, 256, .inl (fun _ => 0))), (q17, .inr (3, [.ref a1_19, .ref dv_20, .int 0, .int 0, .ref a2_21, .ref a3_22, .ref a4_23, .ref wd_24, .ref lt_25, .ref bu_26, .ref st_27, .ref le_28, .ref nx_29, .ref ow_30, .int (nI s2_34), .ref sp_31, .ref ky_32, .ref sm_33, .int 0])), (st_27, .inl (cst_47, 64, .inl g1_36)), (le_28, .inl (cle_48, 64, .inl g2_37)), (nx_29, .inl (cnx_49, 64, .inl g3_38)), (ow_30, .inl (cow_50, 64, .inl g4_39)), (bu_26, .inl (cbu_51, 256, .inl g5_40)), (lt_25, .inr (0, [.ref lta_45, .int (nI k2_35)])), (lta_45, .inl (clt_46, 512, .inl g6_41)), (wd_24, .inr (0, [.ref wda_42, .int (nI 280)])), (wda_42, .inl (cwd_43, 280, .inl wf_44)), (a1_19, .inr (1, [.ref dE, .int 0, .int m1_52])), (a2_21, .inr (1, [.ref dE, .int 0, .int m2_53])), (a3_22, .inr (1, [.ref dE, .int 0, .int m3_54])), (dv_20, .inr (2, [.ref dal_55, .ref dvd_56, .int 0])), (dvd_56, .inr (0, [.ref dva_57, .int 0])), (q59, .inr (3, [.ref a1_61, .ref dv_62, .int 0, .int 0, .ref a2_63, .ref a3_64, .ref a4_65, .ref wd_66, .ref lt_67, .ref bu_68, .ref st_69, .ref le_70, .ref nx_71, .ref ow_72, .int (nI s2_76), .ref sp_73, .ref ky_74, .ref sm_75, .int 0])), (st_69, .inl (cst_89, 64, .inl g1_78)), (le_70, .inl (cle_90, 64, .inl g2_79)), (nx_71, .inl (cnx_91, 64, .inl g3_80)), (ow_72, .inl (cow_92, 64, .inl g4_81)), (bu_68, .inl (cbu_93, 256, .inl g5_82)), (lt_67, .inr (0, [.ref lta_87, .int (nI k2_77)])), (lta_87, .inl (clt_88, 512, .inl g6_83)), (wd_66, .inr (0, [.ref wda_84, .int (nI 280)])), (wda_84, .inl (cwd_85, 280, .inl wf_86)), (a1_61, .inr (1, [.ref dE, .int 0, .int m1_94])), (a2_63, .inr (1, [.ref dE, .int 0, .int m2_95])), (a3_64, .inr (1, [.ref dE, .int 0, .int m3_96])), (dv_62, .inr (2, [.ref dal_97, .ref dvd_98, .int 0])), (dvd_98, .inr (0, [.ref dva_99, .int 0])), (q101, .inr (4, [.null, .null, .null, .int 0, .int 0, .null, .null, .int 0]))] := hD
  refine lv_dup hx hb d_SF_init_91 rfl ?_
  have hc0 : 51 + 3 ≤ 69 := by omega
  have hs0 : 4150 + 192 ≤ 4673 := by omega
  have hPc := hP.sub (ws' := [(q101, .inr (4, [.null, .null, .null, .int 0, .int 0, .null, .null, .int 0]))]) [39] rfl
  have hDc := hD.sub (ws' := [(q101, .inr (4, [.null, .null, .null, .int 0, .int 0, .null, .null, .int 0]))]) [39] (by decide) rfl
  have hKc := hK.sub (tys' := []) [] rfl
  have hFc := va_free (wc := [(q101, .inr (4, [.null, .null, .null, .int 0, .int 0, .null, .null, .int 0]))]) hD hS hA [39] rfl
  refine va_callv (va_runI (As := []) (rest := [.ref q101, .ref x0]) ⟨hx, hb, hml, hown, htw⟩ (c_Scanner_init l dC dI H.size q101) (cwI 0 htw (tw_inL k_Scanner_init) rfl rfl rfl (htw _ wd_1_15) (htw _ wd_2_84) (htw _ wd_2_85) rfl (by decide +kernel) ⟨Nat.le_of_ble_eq_true rfl, Nat.le_of_ble_eq_true rfl⟩) ⟨fun a U g mk q => by obtain ⟨q0, q1, qP, qK, qD⟩ := q; exact ⟨q0, q1, qP, va_K.moved (u := U) (U := U.calling g mk a) (Vm.Alike.refl U.vm) qK, qD⟩, fun U hU hW => ⟨rfl, by rw [hU], by rw [hU]; exact hPc, va_K.moved hW.alike hKc, hDc.weaken (fun _ _ _ _ => trivial)⟩⟩ rfl rfl hl.1 rfl (lv_room (Nat.le_of_ble_eq_true rfl)) d_SF_init_92 ⟨hc0, hs0⟩) hS (fun q _ h => hFc q h) hFc (fun u t H1 locs ht hvm hw hB hz1 hk1 hS => ?_)
  obtain ⟨k1_103, k2_104, k3_105, c1_106, c2_107, c3_108, hP1, hK1, hD1⟩ := hB
  rw [ht] at hP1
  have hK1 := va_K.moved hvm.symm hK1
  obtain ⟨hP, hD⟩ := va_join (wr := [(x0, .inr (10, [.ref q1, .ref q5, .ref q9, .ref q13, .int 0, .ref q17, .ref q59, .null, .null, .null, .null, .null, .null, .null])), (q1, .inr (0, [.ref qa_3, .int 0])), (qa_3, .inl (ca_4, 256, .inl (fun _ => 0))), (q5, .inr (0, [.ref qa_7, .int 0])), (qa_7, .inl (ca_8, 256, .inl (fun _ => 0))), (q9, .inr (0, [.ref qa_11, .int 0])), (qa_11, .inl (ca_12, 256, .inl (fun _ => 0))), (q13, .inr (0, [.ref qa_15, .int 0])), (qa_15, .inl (ca_16, 256, .inl (fun _ => 0))), (q17, .inr (3, [.ref a1_19, .ref dv_20, .int 0, .int 0, .ref a2_21, .ref a3_22, .ref a4_23, .ref wd_24, .ref lt_25, .ref bu_26, .ref st_27, .ref le_28, .ref nx_29, .ref ow_30, .int (nI s2_34), .ref sp_31, .ref ky_32, .ref sm_33, .int 0])), (st_27, .inl (cst_47, 64, .inl g1_36)), (le_28, .inl (cle_48, 64, .inl g2_37)), (nx_29, .inl (cnx_49, 64, .inl g3_38)), (ow_30, .inl (cow_50, 64, .inl g4_39)), (bu_26, .inl (cbu_51, 256, .inl g5_40)), (lt_25, .inr (0, [.ref lta_45, .int (nI k2_35)])), (lta_45, .inl (clt_46, 512, .inl g6_41)), (wd_24, .inr (0, [.ref wda_42, .int (nI 280)])), (wda_42, .inl (cwd_43, 280, .inl wf_44)), (a1_19, .inr (1, [.ref dE, .int 0, .int m1_52])), (a2_21, .inr (1, [.ref dE, .int 0, .int m2_53])), (a3_22, .inr (1, [.ref dE, .int 0, .int m3_54])), (dv_20, .inr (2, [.ref dal_55, .ref dvd_56, .int 0])), (dvd_56, .inr (0, [.ref dva_57, .int 0])), (q59, .inr (3, [.ref a1_61, .ref dv_62, .int 0, .int 0, .ref a2_63, .ref a3_64, .ref a4_65, .ref wd_66, .ref lt_67, .ref bu_68, .ref st_69, .ref le_70, .ref nx_71, .ref ow_72, .int (nI s2_76), .ref sp_73, .ref ky_74, .ref sm_75, .int 0])), (st_69, .inl (cst_89, 64, .inl g1_78)), (le_70, .inl (cle_90, 64, .inl g2_79)), (nx_71, .inl (cnx_91, 64, .inl g3_80)), (ow_72, .inl (cow_92, 64, .inl g4_81)), (bu_68, .inl (cbu_93, 256, .inl g5_82)), (lt_67, .inr (0, [.ref lta_87, .int (nI k2_77)])), (lta_87, .inl (clt_88, 512, .inl g6_83)), (wd_66, .inr (0, [.ref wda_84, .int (nI 280)])), (wda_84, .inl (cwd_85, 280, .inl wf_86)), (a1_61, .inr (1, [.ref dE, .int 0, .int m1_94])), (a2_63, .inr (1, [.ref dE, .int 0, .int m2_95])), (a3_64, .inr (1, [.ref dE, .int 0, .int m3_96])), (dv_62, .inr (2, [.ref dal_97, .ref dvd_98, .int 0])), (dvd_98, .inr (0, [.ref dva_99, .int 0]))]) (w1 := [(q101, .inr (4, [.ref k1_103, .ref k2_104, .ref k3_105, .int 0, .int ((-1)), .null, .null, .int 0])), (k1_103, .inl (c1_106, 64, .inl (fun _ => 0))), (k2_104, .inl (c2_107, 64, .inl (fun _ => 0))), (k3_105, .inl (c3_108, 64, .inr (.inl (fun _ => 0))))]) hP hD [39] [0, 1, 2, 3, 4, 5, 6, 7, 8, 9, 10, 11, 12, 13, 14, 15, 16, 17, 18, 19, 20, 21, 22, 23, 24, 25, 26, 27, 28, 29, 30, 31, 32, 33, 34, 35, 36, 37, 38] rfl rfl (by decide) (by decide) hk1 hFc hP1 hD1
  have hK := (hK.sub (tys' := [(ca_4, .byte), (ca_8, .byte), (ca_12, .byte), (ca_16, .byte), (cst_47, .int), (cle_48, .int), (cnx_49, .int), (cow_50, .int), (cbu_51, .int), (clt_46, .byte), (cwd_43, .byte), (cst_89, .int), (cle_90, .int), (cnx_91, .int), (cow_92, .int), (cbu_93, .int), (clt_88, .byte), (cwd_85, .byte)]) [0, 1, 2, 3, 4, 5, 6, 7, 8, 9, 10, 11, 12, 13, 14, 15, 16, 17] rfl).app hK1
  generalize H1 = H at hP hS ⊢
  have hP : va_P (dC, dI) classes [(x0, .inr (10, [.ref q1, .ref q5, .ref q9, .ref q13, .int 0, .ref q17, .ref q59, .null, .null, .null, .null, .null, .null, .null])), (q1, .inr (0, [.ref qa_3, .int 0])), (qa_3, .inl (ca_4, 256, .inl (fun _ => 0))), (q5, .inr (0, [.ref qa_7, .int 0])), (qa_7, .inl (ca_8, 256, .inl (fun _ => 0))), (q9, .inr (0, [.ref qa_11, .int 0])), (qa_11, .inl (ca_12, 256, .inl (fun _ => 0))), (q13, .inr (0, [.ref qa_15, .int 0])), (qa_15, .inl (ca_16, 256, .inl (fun _ => 0))), (q17, .inr (3, [.ref a1_19, .ref dv_20, .int 0, .int 0, .ref a2_21, .ref a3_22, .ref a4_23, .ref wd_24, .ref lt_25, .ref bu_26, .ref st_27, .ref le_28, .ref nx_29, .ref ow_30, .int (nI s2_34), .ref sp_31, .ref ky_32, .ref sm_33, .int 0])), (st_27, .inl (cst_47, 64, .inl g1_36)), (le_28, .inl (cle_48, 64, .inl g2_37)), (nx_29, .inl (cnx_49, 64, .inl g3_38)), (ow_30, .inl (cow_50, 64, .inl g4_39)), (bu_26, .inl (cbu_51, 256, .inl g5_40)), (lt_25, .inr (0, [.ref lta_45, .int (nI k2_35)])), (lta_45, .inl (clt_46, 512, .inl g6_41)), (wd_24, .inr (0, [.ref wda_42, .int (nI 280)])), (wda_42, .inl (cwd_43, 280, .inl wf_44)), (a1_19, .inr (1, [.ref dE, .int 0, .int m1_52])), (a2_21, .inr (1, [.ref dE, .int 0, .int m2_53])), (a3_22, .inr (1, [.ref dE, .int 0, .int m3_54])), (dv_20, .inr (2, [.ref dal_55, .ref dvd_56, .int 0])), (dvd_56, .inr (0, [.ref dva_57, .int 0])), (q59, .inr (3, [.ref a1_61, .ref dv_62, .int 0, .int 0, .ref a2_63, .ref a3_64, .ref a4_65, .ref wd_66, .ref lt_67, .ref bu_68, .ref st_69, .ref le_70, .ref nx_71, .ref ow_72, .int (nI s2_76), .ref sp_73, .ref ky_74, .ref sm_75, .int 0])), (st_69, .inl (cst_89, 64, .inl g1_78)), (le_70, .inl (cle_90, 64, .inl g2_79)), (nx_71, .inl (cnx_91, 64, .inl g3_80)), (ow_72, .inl (cow_92, 64, .inl g4_81)), (bu_68, .inl (cbu_93, 256, .inl g5_82)), (lt_67, .inr (0, [.ref lta_87, .int (nI k2_77)])), (lta_87, .inl (clt_88, 512, .inl g6_83)), (wd_66, .inr (0, [.ref wda_84, .int (nI 280)])), (wda_84, .inl (cwd_85, 280, .inl wf_86)), (a1_61, .inr (1, [.ref dE, .int 0, .int m1_94])), (a2_63, .inr (1, [.ref dE, .int 0, .int m2_95])), (a3_64, .inr (1, [.ref dE, .int 0, .int m3_96])), (dv_62, .inr (2, [.ref dal_97, .ref dvd_98, .int 0])), (dvd_98, .inr (0, [.ref dva_99, .int 0])), (q101, .inr (4, [.ref k1_103, .ref k2_104, .ref k3_105, .int 0, .int ((-1)), .null, .null, .int 0])), (k1_103, .inl (c1_106, 64, .inl (fun _ => 0))), (k2_104, .inl (c2_107, 64, .inl (fun _ => 0))), (k3_105, .inl (c3_108, 64, .inr (.inl (fun _ => 0))))] H := hP
  have hD : va_D A [(x0, .inr (10, [.ref q1, .ref q5, .ref q9, .ref q13, .int 0, .ref q17, .ref q59, .null, .null, .null, .null, .null, .null, .null])), (q1, .inr (0, [.ref qa_3, .int 0])), (qa_3, .inl (ca_4, 256, .inl (fun _ => 0))), (q5, .inr (0, [.ref qa_7, .int 0])), (qa_7, .inl (ca_8, 256, .inl (fun _ => 0))), (q9, .inr (0, [.ref qa_11, .int 0])), (qa_11, .inl (ca_12, 256, .inl (fun _ => 0))), (q13, .inr (0, [.ref qa_15, .int 0])), (qa_15, .inl (ca_16, 256, .inl (fun _ => 0))), (q17, .inr (3, [.ref a1_19, .ref dv_20, .int 0, .int 0, .ref a2_21, .ref a3_22, .ref a4_23, .ref wd_24, .ref lt_25, .ref bu_26, .ref st_27, .ref le_28, .ref nx_29, .ref ow_30, .int (nI s2_34), .ref sp_31, .ref ky_32, .ref sm_33, .int 0])), (st_27, .inl (cst_47, 64, .inl g1_36)), (le_28, .inl (cle_48, 64, .inl g2_37)), (nx_29, .inl (cnx_49, 64, .inl g3_38)), (ow_30, .inl (cow_50, 64, .inl g4_39)), (bu_26, .inl (cbu_51, 256, .inl g5_40)), (lt_25, .inr (0, [.ref lta_45, .int (nI k2_35)])), (lta_45, .inl (clt_46, 512, .inl g6_41)), (wd_24, .inr (0, [.ref wda_42, .int (nI 280)])), (wda_42, .inl (cwd_43, 280, .inl wf_44)), (a1_19, .inr (1, [.ref dE, .int 0, .int m1_52])), (a2_21, .inr (1, [.ref dE, .int 0, .int m2_53])), (a3_22, .inr (1, [.ref dE, .int 0, .int m3_54])), (dv_20, .inr (2, [.ref dal_55, .ref dvd_56, .int 0])), (dvd_56, .inr (0, [.ref dva_57, .int 0])), (q59, .inr (3, [.ref a1_61, .ref dv_62, .int 0, .int 0, .ref a2_63, .ref a3_64, .ref a4_65, .ref wd_66, .ref lt_67, .ref bu_68, .ref st_69, .ref le_70, .ref nx_71, .ref ow_72, .int (nI s2_76), .ref sp_73, .ref ky_74, .ref sm_75, .int 0])), (st_69, .inl (cst_89, 64, .inl g1_78)), (le_70, .inl (cle_90, 64, .inl g2_79)), (nx_71, .inl (cnx_91, 64, .inl g3_80)), (ow_72, .inl (cow_92, 64, .inl g4_81)), (bu_68, .inl (cbu_93, 256, .inl g5_82)), (lt_67, .inr (0, [.ref lta_87, .int (nI k2_77)])), (lta_87, .inl (clt_88, 512, .inl g6_83)), (wd_66, .inr (0, [.ref wda_84, .int (nI 280)])), (wda_84, .inl (cwd_85, 280, .inl wf_86)), (a1_61, .inr (1, [.ref dE, .int 0, .int m1_94])), (a2_63, .inr (1, [.ref dE, .int 0, .int m2_95])), (a3_64, .inr (1, [.ref dE, .int 0, .int m3_96])), (dv_62, .inr (2, [.ref dal_97, .ref dvd_98, .int 0])), (dvd_98, .inr (0, [.ref dva_99, .int 0])), (q101, .inr (4, [.ref k1_103, .ref k2_104, .ref k3_105, .int 0, .int ((-1)), .null, .null, .int 0])), (k1_103, .inl (c1_106, 64, .inl (fun _ => 0))), (k2_104, .inl (c2_107, 64, .inl (fun _ => 0))), (k3_105, .inl (c3_108, 64, .inr (.inl (fun _ => 0))))] := hD
  have hK : va_K (dC, dI) classes [(ca_4, .byte), (ca_8, .byte), (ca_12, .byte), (ca_16, .byte), (cst_47, .int), (cle_48, .int), (cnx_49, .int), (cow_50, .int), (cbu_51, .int), (clt_46, .byte), (cwd_43, .byte), (cst_89, .int), (cle_90, .int), (cnx_91, .int), (cow_92, .int), (cbu_93, .int), (clt_88, .byte), (cwd_85, .byte), (c1_106, .int), (c2_107, .int), (c3_108, .long)] s := hK
  refine va_putF (D := (dC, dI)) (ci := 10) (v := .ref q101) (ty := .object "SyntaxForge$Scanner") (C := R_SF) (T := F_SF) (N := 14) hx hb htw i_SF t_SF t_SF_ok n_SF hown hK hP hD hS 0 rfl rfl 7 (by decide) (htw _ wd_3_13) (fun _ h9 => h9) rfl hin rfl (by decide +kernel) rfl rfl (Nat.le_of_ble_eq_true rfl) d_SF_init_95 (fun H locs hP hD hS => ?_)
  have hP : va_P (dC, dI) classes [(x0, .inr (10, [.ref q1, .ref q5, .ref q9, .ref q13, .int 0, .ref q17, .ref q59, .ref q101, .null, .null, .null, .null, .null, .null])), (q1, .inr (0, [.ref qa_3, .int 0])), (qa_3, .inl (ca_4, 256, .inl (fun _ => 0))), (q5, .inr (0, [.ref qa_7, .int 0])), (qa_7, .inl (ca_8, 256, .inl (fun _ => 0))), (q9, .inr (0, [.ref qa_11, .int 0])), (qa_11, .inl (ca_12, 256, .inl (fun _ => 0))), (q13, .inr (0, [.ref qa_15, .int 0])), (qa_15, .inl (ca_16, 256, .inl (fun _ => 0))), (q17, .inr (3, [.ref a1_19, .ref dv_20, .int 0, .int 0, .ref a2_21, .ref a3_22, .ref a4_23, .ref wd_24, .ref lt_25, .ref bu_26, .ref st_27, .ref le_28, .ref nx_29, .ref ow_30, .int (nI s2_34), .ref sp_31, .ref ky_32, .ref sm_33, .int 0])), (st_27, .inl (cst_47, 64, .inl g1_36)), (le_28, .inl (cle_48, 64, .inl g2_37)), (nx_29, .inl (cnx_49, 64, .inl g3_38)), (ow_30, .inl (cow_50, 64, .inl g4_39)), (bu_26, .inl (cbu_51, 256, .inl g5_40)), (lt_25, .inr (0, [.ref lta_45, .int (nI k2_35)])), (lta_45, .inl (clt_46, 512, .inl g6_41)), (wd_24, .inr (0, [.ref wda_42, .int (nI 280)])), (wda_42, .inl (cwd_43, 280, .inl wf_44)), (a1_19, .inr (1, [.ref dE, .int 0, .int m1_52])), (a2_21, .inr (1, [.ref dE, .int 0, .int m2_53])), (a3_22, .inr (1, [.ref dE, .int 0, .int m3_54])), (dv_20, .inr (2, [.ref dal_55, .ref dvd_56, .int 0])), (dvd_56, .inr (0, [.ref dva_57, .int 0])), (q59, .inr (3, [.ref a1_61, .ref dv_62, .int 0, .int 0, .ref a2_63, .ref a3_64, .ref a4_65, .ref wd_66, .ref lt_67, .ref bu_68, .ref st_69, .ref le_70, .ref nx_71, .ref ow_72, .int (nI s2_76), .ref sp_73, .ref ky_74, .ref sm_75, .int 0])), (st_69, .inl (cst_89, 64, .inl g1_78)), (le_70, .inl (cle_90, 64, .inl g2_79)), (nx_71, .inl (cnx_91, 64, .inl g3_80)), (ow_72, .inl (cow_92, 64, .inl g4_81)), (bu_68, .inl (cbu_93, 256, .inl g5_82)), (lt_67, .inr (0, [.ref lta_87, .int (nI k2_77)])), (lta_87, .inl (clt_88, 512, .inl g6_83)), (wd_66, .inr (0, [.ref wda_84, .int (nI 280)])), (wda_84, .inl (cwd_85, 280, .inl wf_86)), (a1_61, .inr (1, [.ref dE, .int 0, .int m1_94])), (a2_63, .inr (1, [.ref dE, .int 0, .int m2_95])), (a3_64, .inr (1, [.ref dE, .int 0, .int m3_96])), (dv_62, .inr (2, [.ref dal_97, .ref dvd_98, .int 0])), (dvd_98, .inr (0, [.ref dva_99, .int 0])), (q101, .inr (4, [.ref k1_103, .ref k2_104, .ref k3_105, .int 0, .int ((-1)), .null, .null, .int 0])), (k1_103, .inl (c1_106, 64, .inl (fun _ => 0))), (k2_104, .inl (c2_107, 64, .inl (fun _ => 0))), (k3_105, .inl (c3_108, 64, .inr (.inl (fun _ => 0))))] H := hP
  have hD : va_D A [(x0, .inr (10, [.ref q1, .ref q5, .ref q9, .ref q13, .int 0, .ref q17, .ref q59, .ref q101, .null, .null, .null, .null, .null, .null])), (q1, .inr (0, [.ref qa_3, .int 0])), (qa_3, .inl (ca_4, 256, .inl (fun _ => 0))), (q5, .inr (0, [.ref qa_7, .int 0])), (qa_7, .inl (ca_8, 256, .inl (fun _ => 0))), (q9, .inr (0, [.ref qa_11, .int 0])), (qa_11, .inl (ca_12, 256, .inl (fun _ => 0))), (q13, .inr (0, [.ref qa_15, .int 0])), (qa_15, .inl (ca_16, 256, .inl (fun _ => 0))), (q17, .inr (3, [.ref a1_19, .ref dv_20, .int 0, .int 0, .ref a2_21, .ref a3_22, .ref a4_23, .ref wd_24, .ref lt_25, .ref bu_26, .ref st_27, .ref le_28, .ref nx_29, .ref ow_30, .int (nI s2_34), .ref sp_31, .ref ky_32, .ref sm_33, .int 0])), (st_27, .inl (cst_47, 64, .inl g1_36)), (le_28, .inl (cle_48, 64, .inl g2_37)), (nx_29, .inl (cnx_49, 64, .inl g3_38)), (ow_30, .inl (cow_50, 64, .inl g4_39)), (bu_26, .inl (cbu_51, 256, .inl g5_40)), (lt_25, .inr (0, [.ref lta_45, .int (nI k2_35)])), (lta_45, .inl (clt_46, 512, .inl g6_41)), (wd_24, .inr (0, [.ref wda_42, .int (nI 280)])), (wda_42, .inl (cwd_43, 280, .inl wf_44)), (a1_19, .inr (1, [.ref dE, .int 0, .int m1_52])), (a2_21, .inr (1, [.ref dE, .int 0, .int m2_53])), (a3_22, .inr (1, [.ref dE, .int 0, .int m3_54])), (dv_20, .inr (2, [.ref dal_55, .ref dvd_56, .int 0])), (dvd_56, .inr (0, [.ref dva_57, .int 0])), (q59, .inr (3, [.ref a1_61, .ref dv_62, .int 0, .int 0, .ref a2_63, .ref a3_64, .ref a4_65, .ref wd_66, .ref lt_67, .ref bu_68, .ref st_69, .ref le_70, .ref nx_71, .ref ow_72, .int (nI s2_76), .ref sp_73, .ref ky_74, .ref sm_75, .int 0])), (st_69, .inl (cst_89, 64, .inl g1_78)), (le_70, .inl (cle_90, 64, .inl g2_79)), (nx_71, .inl (cnx_91, 64, .inl g3_80)), (ow_72, .inl (cow_92, 64, .inl g4_81)), (bu_68, .inl (cbu_93, 256, .inl g5_82)), (lt_67, .inr (0, [.ref lta_87, .int (nI k2_77)])), (lta_87, .inl (clt_88, 512, .inl g6_83)), (wd_66, .inr (0, [.ref wda_84, .int (nI 280)])), (wda_84, .inl (cwd_85, 280, .inl wf_86)), (a1_61, .inr (1, [.ref dE, .int 0, .int m1_94])), (a2_63, .inr (1, [.ref dE, .int 0, .int m2_95])), (a3_64, .inr (1, [.ref dE, .int 0, .int m3_96])), (dv_62, .inr (2, [.ref dal_97, .ref dvd_98, .int 0])), (dvd_98, .inr (0, [.ref dva_99, .int 0])), (q101, .inr (4, [.ref k1_103, .ref k2_104, .ref k3_105, .int 0, .int ((-1)), .null, .null, .int 0])), (k1_103, .inl (c1_106, 64, .inl (fun _ => 0))), (k2_104, .inl (c2_107, 64, .inl (fun _ => 0))), (k3_105, .inl (c3_108, 64, .inr (.inl (fun _ => 0))))] := hD
  refine lv_aload_n hx hb d_SF_init_98 rfl (lv_at hl 0 rfl) ?_
  have hc0 : 54 + 1 ≤ 69 := by omega
  have hs0 : 4342 + 7 ≤ 4673 := by omega
  refine va_new (ci := 5) (fs := [.null, .null, .null, .null, .null, .int 0, .int 0]) (C := R_Parser) (T := F_Parser) (N := 7) hx hb htw i_Parser t_Parser t_Parser_ok hown (htw _ wd_2_119) (htw _ wd_2_120) (htw _ wd_1_16) hK hP hD hS hA rfl (by decide) hc0 hs0 d_SF_init_99 (fun q109 H hP hD hS => ?_)
  have hP : va_P (dC, dI) classes [(x0, .inr (10, [.ref q1, .ref q5, .ref q9, .ref q13, .int 0, .ref q17, .ref q59, .ref q101, .null, .null, .null, .null, .null, .null])), (q1, .inr (0, [.ref qa_3, .int 0])), (qa_3, .inl (ca_4, 256, .inl (fun _ => 0))), (q5, .inr (0, [.ref qa_7, .int 0])), (qa_7, .inl (ca_8, 256, .inl (fun _ => 0))), (q9, .inr (0, [.ref qa_11, .int 0])), (qa_11, .inl (ca_12, 256, .inl (fun _ => 0))), (q13, .inr (0, [.ref qa_15, .int 0])), (qa_15, .inl (ca_16, 256, .inl (fun _ => 0))), (q17, .inr (3, [.ref a1_19, .ref dv_20, .int 0, .int 0, .ref a2_21, .ref a3_22, .ref a4_23, .ref wd_24, .ref lt_25, .ref bu_26, .ref st_27, .ref le_28, .ref nx_29, .ref ow_30, .int (nI s2_34), .ref sp_31, .ref ky_32, .ref sm_33, .int 0])), (st_27, .inl (cst_47, 64, .inl g1_36)), (le_28, .inl (cle_48, 64, .inl g2_37)), (nx_29, .inl (cnx_49, 64, .inl g3_38)), (ow_30, .inl (cow_50, 64, .inl g4_39)), (bu_26, .inl (cbu_51, 256, .inl g5_40)), (lt_25, .inr (0, [.ref lta_45, .int (nI k2_35)])), (lta_45, .inl (clt_46, 512, .inl g6_41)), (wd_24, .inr (0, [.ref wda_42, .int (nI 280)])), (wda_42, .inl (cwd_43, 280, .inl wf_44)), (a1_19, .inr (1, [.ref dE, .int 0, .int m1_52])), (a2_21, .inr (1, [.ref dE, .int 0, .int m2_53])), (a3_22, .inr (1, [.ref dE, .int 0, .int m3_54])), (dv_20, .inr (2, [.ref dal_55, .ref dvd_56, .int 0])), (dvd_56, .inr (0, [.ref dva_57, .int 0])), (q59, .inr (3, [.ref a1_61, .ref dv_62, .int 0, .int 0, .ref a2_63, .ref a3_64, .ref a4_65, .ref wd_66, .ref lt_67, .ref bu_68, .ref st_69, .ref le_70, .ref nx_71, .ref ow_72, .int (nI s2_76), .ref sp_73, .ref ky_74, .ref sm_75, .int 0])), (st_69, .inl (cst_89, 64, .inl g1_78)), (le_70, .inl (cle_90, 64, .inl g2_79)), (nx_71, .inl (cnx_91, 64, .inl g3_80)), (ow_72, .inl (cow_92, 64, .inl g4_81)), (bu_68, .inl (cbu_93, 256, .inl g5_82)), (lt_67, .inr (0, [.ref lta_87, .int (nI k2_77)])), (lta_87, .inl (clt_88, 512, .inl g6_83)), (wd_66, .inr (0, [.ref wda_84, .int (nI 280)])), (wda_84, .inl (cwd_85, 280, .inl wf_86)), (a1_61, .inr (1, [.ref dE, .int 0, .int m1_94])), (a2_63, .inr (1, [.ref dE, .int 0, .int m2_95])), (a3_64, .inr (1, [.ref dE, .int 0, .int m3_96])), (dv_62, .inr (2, [.ref dal_97, .ref dvd_98, .int 0])), (dvd_98, .inr (0, [.ref dva_99, .int 0])), (q101, .inr (4, [.ref k1_103, .ref k2_104, .ref k3_105, .int 0, .int ((-1)), .null, .null, .int 0])), (k1_103, .inl (c1_106, 64, .inl (fun _ => 0))), (k2_104, .inl (c2_107, 64, .inl (fun _ => 0))), (k3_105, .inl (c3_108, 64, .inr (.inl (fun _ => 0)))), (q109, .inr (5, [.null, .null, .null, .null, .null, .int 0, .int 0]))] H := hP
  have hD : va_D A [(x0, .inr (10, [.ref q1, .ref q5, .ref q9, .ref q13, .int 0, .ref q17, .ref q59, .ref q101, .null, .null, .null, .null, .null, .null])), (q1, .inr (0, [.ref qa_3, .int 0])), (qa_3, .inl (ca_4, 256, .inl (fun _ => 0))), (q5, .inr (0, [.ref qa_7, .int 0])), (qa_7, .inl (ca_8, 256, .inl (fun _ => 0))), (q9, .inr (0, [.ref qa_11, .int 0])), (qa_11, .inl (ca_12, 256, .inl (fun _ => 0))), (q13, .inr (0, [.ref qa_15, .int 0])), (qa_15, .inl (ca_16, 256, .inl (fun _ => 0))), (q17, .inr (3, [.ref a1_19, .ref dv_20, .int 0, .int 0, .ref a2_21, .ref a3_22, .ref a4_23, .ref wd_24, .ref lt_25, .ref bu_26, .ref st_27, .ref le_28, .ref nx_29, .ref ow_30, .int (nI s2_34), .ref sp_31, .ref ky_32, .ref sm_33, .int 0])), (st_27, .inl (cst_47, 64, .inl g1_36)), (le_28, .inl (cle_48, 64, .inl g2_37)), (nx_29, .inl (cnx_49, 64, .inl g3_38)), (ow_30, .inl (cow_50, 64, .inl g4_39)), (bu_26, .inl (cbu_51, 256, .inl g5_40)), (lt_25, .inr (0, [.ref lta_45, .int (nI k2_35)])), (lta_45, .inl (clt_46, 512, .inl g6_41)), (wd_24, .inr (0, [.ref wda_42, .int (nI 280)])), (wda_42, .inl (cwd_43, 280, .inl wf_44)), (a1_19, .inr (1, [.ref dE, .int 0, .int m1_52])), (a2_21, .inr (1, [.ref dE, .int 0, .int m2_53])), (a3_22, .inr (1, [.ref dE, .int 0, .int m3_54])), (dv_20, .inr (2, [.ref dal_55, .ref dvd_56, .int 0])), (dvd_56, .inr (0, [.ref dva_57, .int 0])), (q59, .inr (3, [.ref a1_61, .ref dv_62, .int 0, .int 0, .ref a2_63, .ref a3_64, .ref a4_65, .ref wd_66, .ref lt_67, .ref bu_68, .ref st_69, .ref le_70, .ref nx_71, .ref ow_72, .int (nI s2_76), .ref sp_73, .ref ky_74, .ref sm_75, .int 0])), (st_69, .inl (cst_89, 64, .inl g1_78)), (le_70, .inl (cle_90, 64, .inl g2_79)), (nx_71, .inl (cnx_91, 64, .inl g3_80)), (ow_72, .inl (cow_92, 64, .inl g4_81)), (bu_68, .inl (cbu_93, 256, .inl g5_82)), (lt_67, .inr (0, [.ref lta_87, .int (nI k2_77)])), (lta_87, .inl (clt_88, 512, .inl g6_83)), (wd_66, .inr (0, [.ref wda_84, .int (nI 280)])), (wda_84, .inl (cwd_85, 280, .inl wf_86)), (a1_61, .inr (1, [.ref dE, .int 0, .int m1_94])), (a2_63, .inr (1, [.ref dE, .int 0, .int m2_95])), (a3_64, .inr (1, [.ref dE, .int 0, .int m3_96])), (dv_62, .inr (2, [.ref dal_97, .ref dvd_98, .int 0])), (dvd_98, .inr (0, [.ref dva_99, .int 0])), (q101, .inr (4, [.ref k1_103, .ref k2_104, .ref k3_105, .int 0, .int ((-1)), .null, .null, .int 0])), (k1_103, .inl (c1_106, 64, .inl (fun _ => 0))), (k2_104, .inl (c2_107, 64, .inl (fun _ => 0))), (k3_105, .inl (c3_108, 64, .inr (.inl (fun _ => 0)))), (q109, .inr (5, [.null, .null, .null, .null, .null, .int 0, .int 0]))] := hD
  refine lv_dup hx hb d_SF_init_102 rfl ?_
  refine lv_aload_n hx hb d_SF_init_103 rfl (lv_at hl 0 rfl) ?_
  refine va_get (D := (dC, dI)) (ci := 10) (v := .ref q101) (C := R_SF) (T := F_SF) (N := 14) hx hb htw i_SF hown hK hP 0 rfl rfl 7 (by decide) (htw _ wd_3_13) (fun _ h9 => h9) rfl d_SF_init_104 ?_
  have hc0 : 55 + 1 ≤ 69 := by omega
  have hs0 : 4349 + 60 ≤ 4673 := by omega
  have hPc := hP.sub (ws' := [(q109, .inr (5, [.null, .null, .null, .null, .null, .int 0, .int 0]))]) [43] rfl
  have hDc := hD.sub (ws' := [(q109, .inr (5, [.null, .null, .null, .null, .null, .int 0, .int 0]))]) [43] (by decide) rfl
  have hKc := hK.sub (tys' := []) [] rfl
  have hFc := va_free (wc := [(q109, .inr (5, [.null, .null, .null, .null, .null, .int 0, .int 0]))]) hD hS hA [43] rfl
  refine va_callv (va_runI (As := [.ref q101]) (rest := [.ref q109, .ref x0]) ⟨hx, hb, hml, hown, htw⟩ (c_Parser_init l dC dI H.size q109 q101) (cwI 1 htw (tw_inL k_Parser_init) rfl rfl rfl (htw _ wd_1_16) (htw _ wd_2_121) (htw _ wd_2_122) rfl (by decide +kernel) ⟨Nat.le_of_ble_eq_true rfl, Nat.le_of_ble_eq_true rfl⟩) ⟨fun a U g mk q => by obtain ⟨q0, q1, qP, qK, qD, hq0⟩ := q; exact ⟨q0, q1, qP, va_K.moved (u := U) (U := U.calling g mk a) (Vm.Alike.refl U.vm) qK, qD, va_AO.moved (u := U) (U := U.calling g mk a) (Vm.Alike.refl U.vm) hq0⟩, fun U hU hW => ⟨rfl, by rw [hU], by rw [hU]; exact hPc, va_K.moved hW.alike hKc, hDc.weaken (fun _ _ _ _ => trivial), va_AO.moved hW.alike hx8⟩⟩ rfl rfl hl.1 rfl (lv_room (Nat.le_of_ble_eq_true rfl)) d_SF_init_107 ⟨hc0, hs0⟩) hS (fun q _ h => hFc q h) hFc (fun u t H1 locs ht hvm hw hB hz1 hk1 hS => ?_)
  obtain ⟨d1_111, hP1, hK1, hD1⟩ := hB
  rw [ht] at hP1
  have hK1 := va_K.moved hvm.symm hK1
  obtain ⟨hP, hD⟩ := va_join (wr := [(x0, .inr (10, [.ref q1, .ref q5, .ref q9, .ref q13, .int 0, .ref q17, .ref q59, .ref q101, .null, .null, .null, .null, .null, .null])), (q1, .inr (0, [.ref qa_3, .int 0])), (qa_3, .inl (ca_4, 256, .inl (fun _ => 0))), (q5, .inr (0, [.ref qa_7, .int 0])), (qa_7, .inl (ca_8, 256, .inl (fun _ => 0))), (q9, .inr (0, [.ref qa_11, .int 0])), (qa_11, .inl (ca_12, 256, .inl (fun _ => 0))), (q13, .inr (0, [.ref qa_15, .int 0])), (qa_15, .inl (ca_16, 256, .inl (fun _ => 0))), (q17, .inr (3, [.ref a1_19, .ref dv_20, .int 0, .int 0, .ref a2_21, .ref a3_22, .ref a4_23, .ref wd_24, .ref lt_25, .ref bu_26, .ref st_27, .ref le_28, .ref nx_29, .ref ow_30, .int (nI s2_34), .ref sp_31, .ref ky_32, .ref sm_33, .int 0])), (st_27, .inl (cst_47, 64, .inl g1_36)), (le_28, .inl (cle_48, 64, .inl g2_37)), (nx_29, .inl (cnx_49, 64, .inl g3_38)), (ow_30, .inl (cow_50, 64, .inl g4_39)), (bu_26, .inl (cbu_51, 256, .inl g5_40)), (lt_25, .inr (0, [.ref lta_45, .int (nI k2_35)])), (lta_45, .inl (clt_46, 512, .inl g6_41)), (wd_24, .inr (0, [.ref wda_42, .int (nI 280)])), (wda_42, .inl (cwd_43, 280, .inl wf_44)), (a1_19, .inr (1, [.ref dE, .int 0, .int m1_52])), (a2_21, .inr (1, [.ref dE, .int 0, .int m2_53])), (a3_22, .inr (1, [.ref dE, .int 0, .int m3_54])), (dv_20, .inr (2, [.ref dal_55, .ref dvd_56, .int 0])), (dvd_56, .inr (0, [.ref dva_57, .int 0])), (q59, .inr (3, [.ref a1_61, .ref dv_62, .int 0, .int 0, .ref a2_63, .ref a3_64, .ref a4_65, .ref wd_66, .ref lt_67, .ref bu_68, .ref st_69, .ref le_70, .ref nx_71, .ref ow_72, .int (nI s2_76), .ref sp_73, .ref ky_74, .ref sm_75, .int 0])), (st_69, .inl (cst_89, 64, .inl g1_78)), (le_70, .inl (cle_90, 64, .inl g2_79)), (nx_71, .inl (cnx_91, 64, .inl g3_80)), (ow_72, .inl (cow_92, 64, .inl g4_81)), (bu_68, .inl (cbu_93, 256, .inl g5_82)), (lt_67, .inr (0, [.ref lta_87, .int (nI k2_77)])), (lta_87, .inl (clt_88, 512, .inl g6_83)), (wd_66, .inr (0, [.ref wda_84, .int (nI 280)])), (wda_84, .inl (cwd_85, 280, .inl wf_86)), (a1_61, .inr (1, [.ref dE, .int 0, .int m1_94])), (a2_63, .inr (1, [.ref dE, .int 0, .int m2_95])), (a3_64, .inr (1, [.ref dE, .int 0, .int m3_96])), (dv_62, .inr (2, [.ref dal_97, .ref dvd_98, .int 0])), (dvd_98, .inr (0, [.ref dva_99, .int 0])), (q101, .inr (4, [.ref k1_103, .ref k2_104, .ref k3_105, .int 0, .int ((-1)), .null, .null, .int 0])), (k1_103, .inl (c1_106, 64, .inl (fun _ => 0))), (k2_104, .inl (c2_107, 64, .inl (fun _ => 0))), (k3_105, .inl (c3_108, 64, .inr (.inl (fun _ => 0))))]) (w1 := [(q109, .inr (5, [.ref q101, .ref d1_111, .null, .null, .null, .int 0, .int 0]))]) hP hD [43] [0, 1, 2, 3, 4, 5, 6, 7, 8, 9, 10, 11, 12, 13, 14, 15, 16, 17, 18, 19, 20, 21, 22, 23, 24, 25, 26, 27, 28, 29, 30, 31, 32, 33, 34, 35, 36, 37, 38, 39, 40, 41, 42] rfl rfl (by decide) (by decide) hk1 hFc hP1 hD1
  have hK := (hK.sub (tys' := [(ca_4, .byte), (ca_8, .byte), (ca_12, .byte), (ca_16, .byte), (cst_47, .int), (cle_48, .int), (cnx_49, .int), (cow_50, .int), (cbu_51, .int), (clt_46, .byte), (cwd_43, .byte), (cst_89, .int), (cle_90, .int), (cnx_91, .int), (cow_92, .int), (cbu_93, .int), (clt_88, .byte), (cwd_85, .byte), (c1_106, .int), (c2_107, .int), (c3_108, .long)]) [0, 1, 2, 3, 4, 5, 6, 7, 8, 9, 10, 11, 12, 13, 14, 15, 16, 17, 18, 19, 20] rfl).app hK1
  generalize H1 = H at hP hS ⊢
  have hP : va_P (dC, dI) classes [(x0, .inr (10, [.ref q1, .ref q5, .ref q9, .ref q13, .int 0, .ref q17, .ref q59, .ref q101, .null, .null, .null, .null, .null, .null])), (q1, .inr (0, [.ref qa_3, .int 0])), (qa_3, .inl (ca_4, 256, .inl (fun _ => 0))), (q5, .inr (0, [.ref qa_7, .int 0])), (qa_7, .inl (ca_8, 256, .inl (fun _ => 0))), (q9, .inr (0, [.ref qa_11, .int 0])), (qa_11, .inl (ca_12, 256, .inl (fun _ => 0))), (q13, .inr (0, [.ref qa_15, .int 0])), (qa_15, .inl (ca_16, 256, .inl (fun _ => 0))), (q17, .inr (3, [.ref a1_19, .ref dv_20, .int 0, .int 0, .ref a2_21, .ref a3_22, .ref a4_23, .ref wd_24, .ref lt_25, .ref bu_26, .ref st_27, .ref le_28, .ref nx_29, .ref ow_30, .int (nI s2_34), .ref sp_31, .ref ky_32, .ref sm_33, .int 0])), (st_27, .inl (cst_47, 64, .inl g1_36)), (le_28, .inl (cle_48, 64, .inl g2_37)), (nx_29, .inl (cnx_49, 64, .inl g3_38)), (ow_30, .inl (cow_50, 64, .inl g4_39)), (bu_26, .inl (cbu_51, 256, .inl g5_40)), (lt_25, .inr (0, [.ref lta_45, .int (nI k2_35)])), (lta_45, .inl (clt_46, 512, .inl g6_41)), (wd_24, .inr (0, [.ref wda_42, .int (nI 280)])), (wda_42, .inl (cwd_43, 280, .inl wf_44)), (a1_19, .inr (1, [.ref dE, .int 0, .int m1_52])), (a2_21, .inr (1, [.ref dE, .int 0, .int m2_53])), (a3_22, .inr (1, [.ref dE, .int 0, .int m3_54])), (dv_20, .inr (2, [.ref dal_55, .ref dvd_56, .int 0])), (dvd_56, .inr (0, [.ref dva_57, .int 0])), (q59, .inr (3, [.ref a1_61, .ref dv_62, .int 0, .int 0, .ref a2_63, .ref a3_64, .ref a4_65, .ref wd_66, .ref lt_67, .ref bu_68, .ref st_69, .ref le_70, .ref nx_71, .ref ow_72, .int (nI s2_76), .ref sp_73, .ref ky_74, .ref sm_75, .int 0])), (st_69, .inl (cst_89, 64, .inl g1_78)), (le_70, .inl (cle_90, 64, .inl g2_79)), (nx_71, .inl (cnx_91, 64, .inl g3_80)), (ow_72, .inl (cow_92, 64, .inl g4_81)), (bu_68, .inl (cbu_93, 256, .inl g5_82)), (lt_67, .inr (0, [.ref lta_87, .int (nI k2_77)])), (lta_87, .inl (clt_88, 512, .inl g6_83)), (wd_66, .inr (0, [.ref wda_84, .int (nI 280)])), (wda_84, .inl (cwd_85, 280, .inl wf_86)), (a1_61, .inr (1, [.ref dE, .int 0, .int m1_94])), (a2_63, .inr (1, [.ref dE, .int 0, .int m2_95])), (a3_64, .inr (1, [.ref dE, .int 0, .int m3_96])), (dv_62, .inr (2, [.ref dal_97, .ref dvd_98, .int 0])), (dvd_98, .inr (0, [.ref dva_99, .int 0])), (q101, .inr (4, [.ref k1_103, .ref k2_104, .ref k3_105, .int 0, .int ((-1)), .null, .null, .int 0])), (k1_103, .inl (c1_106, 64, .inl (fun _ => 0))), (k2_104, .inl (c2_107, 64, .inl (fun _ => 0))), (k3_105, .inl (c3_108, 64, .inr (.inl (fun _ => 0)))), (q109, .inr (5, [.ref q101, .ref d1_111, .null, .null, .null, .int 0, .int 0]))] H := hP
  have hD : va_D A [(x0, .inr (10, [.ref q1, .ref q5, .ref q9, .ref q13, .int 0, .ref q17, .ref q59, .ref q101, .null, .null, .null, .null, .null, .null])), (q1, .inr (0, [.ref qa_3, .int 0])), (qa_3, .inl (ca_4, 256, .inl (fun _ => 0))), (q5, .inr (0, [.ref qa_7, .int 0])), (qa_7, .inl (ca_8, 256, .inl (fun _ => 0))), (q9, .inr (0, [.ref qa_11, .int 0])), (qa_11, .inl (ca_12, 256, .inl (fun _ => 0))), (q13, .inr (0, [.ref qa_15, .int 0])), (qa_15, .inl (ca_16, 256, .inl (fun _ => 0))), (q17, .inr (3, [.ref a1_19, .ref dv_20, .int 0, .int 0, .ref a2_21, .ref a3_22, .ref a4_23, .ref wd_24, .ref lt_25, .ref bu_26, .ref st_27, .ref le_28, .ref nx_29, .ref ow_30, .int (nI s2_34), .ref sp_31, .ref ky_32, .ref sm_33, .int 0])), (st_27, .inl (cst_47, 64, .inl g1_36)), (le_28, .inl (cle_48, 64, .inl g2_37)), (nx_29, .inl (cnx_49, 64, .inl g3_38)), (ow_30, .inl (cow_50, 64, .inl g4_39)), (bu_26, .inl (cbu_51, 256, .inl g5_40)), (lt_25, .inr (0, [.ref lta_45, .int (nI k2_35)])), (lta_45, .inl (clt_46, 512, .inl g6_41)), (wd_24, .inr (0, [.ref wda_42, .int (nI 280)])), (wda_42, .inl (cwd_43, 280, .inl wf_44)), (a1_19, .inr (1, [.ref dE, .int 0, .int m1_52])), (a2_21, .inr (1, [.ref dE, .int 0, .int m2_53])), (a3_22, .inr (1, [.ref dE, .int 0, .int m3_54])), (dv_20, .inr (2, [.ref dal_55, .ref dvd_56, .int 0])), (dvd_56, .inr (0, [.ref dva_57, .int 0])), (q59, .inr (3, [.ref a1_61, .ref dv_62, .int 0, .int 0, .ref a2_63, .ref a3_64, .ref a4_65, .ref wd_66, .ref lt_67, .ref bu_68, .ref st_69, .ref le_70, .ref nx_71, .ref ow_72, .int (nI s2_76), .ref sp_73, .ref ky_74, .ref sm_75, .int 0])), (st_69, .inl (cst_89, 64, .inl g1_78)), (le_70, .inl (cle_90, 64, .inl g2_79)), (nx_71, .inl (cnx_91, 64, .inl g3_80)), (ow_72, .inl (cow_92, 64, .inl g4_81)), (bu_68, .inl (cbu_93, 256, .inl g5_82)), (lt_67, .inr (0, [.ref lta_87, .int (nI k2_77)])), (lta_87, .inl (clt_88, 512, .inl g6_83)), (wd_66, .inr (0, [.ref wda_84, .int (nI 280)])), (wda_84, .inl (cwd_85, 280, .inl wf_86)), (a1_61, .inr (1, [.ref dE, .int 0, .int m1_94])), (a2_63, .inr (1, [.ref dE, .int 0, .int m2_95])), (a3_64, .inr (1, [.ref dE, .int 0, .int m3_96])), (dv_62, .inr (2, [.ref dal_97, .ref dvd_98, .int 0])), (dvd_98, .inr (0, [.ref dva_99, .int 0])), (q101, .inr (4, [.ref k1_103, .ref k2_104, .ref k3_105, .int 0, .int ((-1)), .null, .null, .int 0])), (k1_103, .inl (c1_106, 64, .inl (fun _ => 0))), (k2_104, .inl (c2_107, 64, .inl (fun _ => 0))), (k3_105, .inl (c3_108, 64, .inr (.inl (fun _ => 0)))), (q109, .inr (5, [.ref q101, .ref d1_111, .null, .null, .null, .int 0, .int 0]))] := hD
  have hK : va_K (dC, dI) classes [(ca_4, .byte), (ca_8, .byte), (ca_12, .byte), (ca_16, .byte), (cst_47, .int), (cle_48, .int), (cnx_49, .int), (cow_50, .int), (cbu_51, .int), (clt_46, .byte), (cwd_43, .byte), (cst_89, .int), (cle_90, .int), (cnx_91, .int), (cow_92, .int), (cbu_93, .int), (clt_88, .byte), (cwd_85, .byte), (c1_106, .int), (c2_107, .int), (c3_108, .long)] s := hK
  refine va_putF (D := (dC, dI)) (ci := 10) (v := .ref q109) (ty := .object "SyntaxForge$Parser") (C := R_SF) (T := F_SF) (N := 14) hx hb htw i_SF t_SF t_SF_ok n_SF hown hK hP hD hS 0 rfl rfl 8 (by decide) (htw _ wd_3_14) (fun _ h9 => h9) rfl hin rfl (by decide +kernel) rfl rfl (Nat.le_of_ble_eq_true rfl) d_SF_init_110 (fun H locs hP hD hS => ?_)
  have hP : va_P (dC, dI) classes [(x0, .inr (10, [.ref q1, .ref q5, .ref q9, .ref q13, .int 0, .ref q17, .ref q59, .ref q101, .ref q109, .null, .null, .null, .null, .null])), (q1, .inr (0, [.ref qa_3, .int 0])), (qa_3, .inl (ca_4, 256, .inl (fun _ => 0))), (q5, .inr (0, [.ref qa_7, .int 0])), (qa_7, .inl (ca_8, 256, .inl (fun _ => 0))), (q9, .inr (0, [.ref qa_11, .int 0])), (qa_11, .inl (ca_12, 256, .inl (fun _ => 0))), (q13, .inr (0, [.ref qa_15, .int 0])), (qa_15, .inl (ca_16, 256, .inl (fun _ => 0))), (q17, .inr (3, [.ref a1_19, .ref dv_20, .int 0, .int 0, .ref a2_21, .ref a3_22, .ref a4_23, .ref wd_24, .ref lt_25, .ref bu_26, .ref st_27, .ref le_28, .ref nx_29, .ref ow_30, .int (nI s2_34), .ref sp_31, .ref ky_32, .ref sm_33, .int 0])), (st_27, .inl (cst_47, 64, .inl g1_36)), (le_28, .inl (cle_48, 64, .inl g2_37)), (nx_29, .inl (cnx_49, 64, .inl g3_38)), (ow_30, .inl (cow_50, 64, .inl g4_39)), (bu_26, .inl (cbu_51, 256, .inl g5_40)), (lt_25, .inr (0, [.ref lta_45, .int (nI k2_35)])), (lta_45, .inl (clt_46, 512, .inl g6_41)), (wd_24, .inr (0, [.ref wda_42, .int (nI 280)])), (wda_42, .inl (cwd_43, 280, .inl wf_44)), (a1_19, .inr (1, [.ref dE, .int 0, .int m1_52])), (a2_21, .inr (1, [.ref dE, .int 0, .int m2_53])), (a3_22, .inr (1, [.ref dE, .int 0, .int m3_54])), (dv_20, .inr (2, [.ref dal_55, .ref dvd_56, .int 0])), (dvd_56, .inr (0, [.ref dva_57, .int 0])), (q59, .inr (3, [.ref a1_61, .ref dv_62, .int 0, .int 0, .ref a2_63, .ref a3_64, .ref a4_65, .ref wd_66, .ref lt_67, .ref bu_68, .ref st_69, .ref le_70, .ref nx_71, .ref ow_72, .int (nI s2_76), .ref sp_73, .ref ky_74, .ref sm_75, .int 0])), (st_69, .inl (cst_89, 64, .inl g1_78)), (le_70, .inl (cle_90, 64, .inl g2_79)), (nx_71, .inl (cnx_91, 64, .inl g3_80)), (ow_72, .inl (cow_92, 64, .inl g4_81)), (bu_68, .inl (cbu_93, 256, .inl g5_82)), (lt_67, .inr (0, [.ref lta_87, .int (nI k2_77)])), (lta_87, .inl (clt_88, 512, .inl g6_83)), (wd_66, .inr (0, [.ref wda_84, .int (nI 280)])), (wda_84, .inl (cwd_85, 280, .inl wf_86)), (a1_61, .inr (1, [.ref dE, .int 0, .int m1_94])), (a2_63, .inr (1, [.ref dE, .int 0, .int m2_95])), (a3_64, .inr (1, [.ref dE, .int 0, .int m3_96])), (dv_62, .inr (2, [.ref dal_97, .ref dvd_98, .int 0])), (dvd_98, .inr (0, [.ref dva_99, .int 0])), (q101, .inr (4, [.ref k1_103, .ref k2_104, .ref k3_105, .int 0, .int ((-1)), .null, .null, .int 0])), (k1_103, .inl (c1_106, 64, .inl (fun _ => 0))), (k2_104, .inl (c2_107, 64, .inl (fun _ => 0))), (k3_105, .inl (c3_108, 64, .inr (.inl (fun _ => 0)))), (q109, .inr (5, [.ref q101, .ref d1_111, .null, .null, .null, .int 0, .int 0]))] H := hP
  have hD : va_D A [(x0, .inr (10, [.ref q1, .ref q5, .ref q9, .ref q13, .int 0, .ref q17, .ref q59, .ref q101, .ref q109, .null, .null, .null, .null, .null])), (q1, .inr (0, [.ref qa_3, .int 0])), (qa_3, .inl (ca_4, 256, .inl (fun _ => 0))), (q5, .inr (0, [.ref qa_7, .int 0])), (qa_7, .inl (ca_8, 256, .inl (fun _ => 0))), (q9, .inr (0, [.ref qa_11, .int 0])), (qa_11, .inl (ca_12, 256, .inl (fun _ => 0))), (q13, .inr (0, [.ref qa_15, .int 0])), (qa_15, .inl (ca_16, 256, .inl (fun _ => 0))), (q17, .inr (3, [.ref a1_19, .ref dv_20, .int 0, .int 0, .ref a2_21, .ref a3_22, .ref a4_23, .ref wd_24, .ref lt_25, .ref bu_26, .ref st_27, .ref le_28, .ref nx_29, .ref ow_30, .int (nI s2_34), .ref sp_31, .ref ky_32, .ref sm_33, .int 0])), (st_27, .inl (cst_47, 64, .inl g1_36)), (le_28, .inl (cle_48, 64, .inl g2_37)), (nx_29, .inl (cnx_49, 64, .inl g3_38)), (ow_30, .inl (cow_50, 64, .inl g4_39)), (bu_26, .inl (cbu_51, 256, .inl g5_40)), (lt_25, .inr (0, [.ref lta_45, .int (nI k2_35)])), (lta_45, .inl (clt_46, 512, .inl g6_41)), (wd_24, .inr (0, [.ref wda_42, .int (nI 280)])), (wda_42, .inl (cwd_43, 280, .inl wf_44)), (a1_19, .inr (1, [.ref dE, .int 0, .int m1_52])), (a2_21, .inr (1, [.ref dE, .int 0, .int m2_53])), (a3_22, .inr (1, [.ref dE, .int 0, .int m3_54])), (dv_20, .inr (2, [.ref dal_55, .ref dvd_56, .int 0])), (dvd_56, .inr (0, [.ref dva_57, .int 0])), (q59, .inr (3, [.ref a1_61, .ref dv_62, .int 0, .int 0, .ref a2_63, .ref a3_64, .ref a4_65, .ref wd_66, .ref lt_67, .ref bu_68, .ref st_69, .ref le_70, .ref nx_71, .ref ow_72, .int (nI s2_76), .ref sp_73, .ref ky_74, .ref sm_75, .int 0])), (st_69, .inl (cst_89, 64, .inl g1_78)), (le_70, .inl (cle_90, 64, .inl g2_79)), (nx_71, .inl (cnx_91, 64, .inl g3_80)), (ow_72, .inl (cow_92, 64, .inl g4_81)), (bu_68, .inl (cbu_93, 256, .inl g5_82)), (lt_67, .inr (0, [.ref lta_87, .int (nI k2_77)])), (lta_87, .inl (clt_88, 512, .inl g6_83)), (wd_66, .inr (0, [.ref wda_84, .int (nI 280)])), (wda_84, .inl (cwd_85, 280, .inl wf_86)), (a1_61, .inr (1, [.ref dE, .int 0, .int m1_94])), (a2_63, .inr (1, [.ref dE, .int 0, .int m2_95])), (a3_64, .inr (1, [.ref dE, .int 0, .int m3_96])), (dv_62, .inr (2, [.ref dal_97, .ref dvd_98, .int 0])), (dvd_98, .inr (0, [.ref dva_99, .int 0])), (q101, .inr (4, [.ref k1_103, .ref k2_104, .ref k3_105, .int 0, .int ((-1)), .null, .null, .int 0])), (k1_103, .inl (c1_106, 64, .inl (fun _ => 0))), (k2_104, .inl (c2_107, 64, .inl (fun _ => 0))), (k3_105, .inl (c3_108, 64, .inr (.inl (fun _ => 0)))), (q109, .inr (5, [.ref q101, .ref d1_111, .null, .null, .null, .int 0, .int 0]))] := hD
  refine lv_aload_n hx hb d_SF_init_113 rfl (lv_at hl 0 rfl) ?_
  have hc0 : 56 + 1 ≤ 69 := by omega
  have hs0 : 4409 + 3 ≤ 4673 := by omega
  refine va_new (ci := 2) (fs := [.null, .null, .int 0]) (C := R_Values) (T := F_Values) (N := 3) hx hb htw i_Values t_Values t_Values_ok hown (htw _ wd_2_149) (htw _ wd_1_114) (htw _ wd_1_7) hK hP hD hS hA rfl (by decide) hc0 hs0 d_SF_init_114 (fun q112 H hP hD hS => ?_)
  have hP : va_P (dC, dI) classes [(x0, .inr (10, [.ref q1, .ref q5, .ref q9, .ref q13, .int 0, .ref q17, .ref q59, .ref q101, .ref q109, .null, .null, .null, .null, .null])), (q1, .inr (0, [.ref qa_3, .int 0])), (qa_3, .inl (ca_4, 256, .inl (fun _ => 0))), (q5, .inr (0, [.ref qa_7, .int 0])), (qa_7, .inl (ca_8, 256, .inl (fun _ => 0))), (q9, .inr (0, [.ref qa_11, .int 0])), (qa_11, .inl (ca_12, 256, .inl (fun _ => 0))), (q13, .inr (0, [.ref qa_15, .int 0])), (qa_15, .inl (ca_16, 256, .inl (fun _ => 0))), (q17, .inr (3, [.ref a1_19, .ref dv_20, .int 0, .int 0, .ref a2_21, .ref a3_22, .ref a4_23, .ref wd_24, .ref lt_25, .ref bu_26, .ref st_27, .ref le_28, .ref nx_29, .ref ow_30, .int (nI s2_34), .ref sp_31, .ref ky_32, .ref sm_33, .int 0])), (st_27, .inl (cst_47, 64, .inl g1_36)), (le_28, .inl (cle_48, 64, .inl g2_37)), (nx_29, .inl (cnx_49, 64, .inl g3_38)), (ow_30, .inl (cow_50, 64, .inl g4_39)), (bu_26, .inl (cbu_51, 256, .inl g5_40)), (lt_25, .inr (0, [.ref lta_45, .int (nI k2_35)])), (lta_45, .inl (clt_46, 512, .inl g6_41)), (wd_24, .inr (0, [.ref wda_42, .int (nI 280)])), (wda_42, .inl (cwd_43, 280, .inl wf_44)), (a1_19, .inr (1, [.ref dE, .int 0, .int m1_52])), (a2_21, .inr (1, [.ref dE, .int 0, .int m2_53])), (a3_22, .inr (1, [.ref dE, .int 0, .int m3_54])), (dv_20, .inr (2, [.ref dal_55, .ref dvd_56, .int 0])), (dvd_56, .inr (0, [.ref dva_57, .int 0])), (q59, .inr (3, [.ref a1_61, .ref dv_62, .int 0, .int 0, .ref a2_63, .ref a3_64, .ref a4_65, .ref wd_66, .ref lt_67, .ref bu_68, .ref st_69, .ref le_70, .ref nx_71, .ref ow_72, .int (nI s2_76), .ref sp_73, .ref ky_74, .ref sm_75, .int 0])), (st_69, .inl (cst_89, 64, .inl g1_78)), (le_70, .inl (cle_90, 64, .inl g2_79)), (nx_71, .inl (cnx_91, 64, .inl g3_80)), (ow_72, .inl (cow_92, 64, .inl g4_81)), (bu_68, .inl (cbu_93, 256, .inl g5_82)), (lt_67, .inr (0, [.ref lta_87, .int (nI k2_77)])), (lta_87, .inl (clt_88, 512, .inl g6_83)), (wd_66, .inr (0, [.ref wda_84, .int (nI 280)])), (wda_84, .inl (cwd_85, 280, .inl wf_86)), (a1_61, .inr (1, [.ref dE, .int 0, .int m1_94])), (a2_63, .inr (1, [.ref dE, .int 0, .int m2_95])), (a3_64, .inr (1, [.ref dE, .int 0, .int m3_96])), (dv_62, .inr (2, [.ref dal_97, .ref dvd_98, .int 0])), (dvd_98, .inr (0, [.ref dva_99, .int 0])), (q101, .inr (4, [.ref k1_103, .ref k2_104, .ref k3_105, .int 0, .int ((-1)), .null, .null, .int 0])), (k1_103, .inl (c1_106, 64, .inl (fun _ => 0))), (k2_104, .inl (c2_107, 64, .inl (fun _ => 0))), (k3_105, .inl (c3_108, 64, .inr (.inl (fun _ => 0)))), (q109, .inr (5, [.ref q101, .ref d1_111, .null, .null, .null, .int 0, .int 0])), (q112, .inr (2, [.null, .null, .int 0]))] H := hP
  have hD : va_D A [(x0, .inr (10, [.ref q1, .ref q5, .ref q9, .ref q13, .int 0, .ref q17, .ref q59, .ref q101, .ref q109, .null, .null, .null, .null, .null])), (q1, .inr (0, [.ref qa_3, .int 0])), (qa_3, .inl (ca_4, 256, .inl (fun _ => 0))), (q5, .inr (0, [.ref qa_7, .int 0])), (qa_7, .inl (ca_8, 256, .inl (fun _ => 0))), (q9, .inr (0, [.ref qa_11, .int 0])), (qa_11, .inl (ca_12, 256, .inl (fun _ => 0))), (q13, .inr (0, [.ref qa_15, .int 0])), (qa_15, .inl (ca_16, 256, .inl (fun _ => 0))), (q17, .inr (3, [.ref a1_19, .ref dv_20, .int 0, .int 0, .ref a2_21, .ref a3_22, .ref a4_23, .ref wd_24, .ref lt_25, .ref bu_26, .ref st_27, .ref le_28, .ref nx_29, .ref ow_30, .int (nI s2_34), .ref sp_31, .ref ky_32, .ref sm_33, .int 0])), (st_27, .inl (cst_47, 64, .inl g1_36)), (le_28, .inl (cle_48, 64, .inl g2_37)), (nx_29, .inl (cnx_49, 64, .inl g3_38)), (ow_30, .inl (cow_50, 64, .inl g4_39)), (bu_26, .inl (cbu_51, 256, .inl g5_40)), (lt_25, .inr (0, [.ref lta_45, .int (nI k2_35)])), (lta_45, .inl (clt_46, 512, .inl g6_41)), (wd_24, .inr (0, [.ref wda_42, .int (nI 280)])), (wda_42, .inl (cwd_43, 280, .inl wf_44)), (a1_19, .inr (1, [.ref dE, .int 0, .int m1_52])), (a2_21, .inr (1, [.ref dE, .int 0, .int m2_53])), (a3_22, .inr (1, [.ref dE, .int 0, .int m3_54])), (dv_20, .inr (2, [.ref dal_55, .ref dvd_56, .int 0])), (dvd_56, .inr (0, [.ref dva_57, .int 0])), (q59, .inr (3, [.ref a1_61, .ref dv_62, .int 0, .int 0, .ref a2_63, .ref a3_64, .ref a4_65, .ref wd_66, .ref lt_67, .ref bu_68, .ref st_69, .ref le_70, .ref nx_71, .ref ow_72, .int (nI s2_76), .ref sp_73, .ref ky_74, .ref sm_75, .int 0])), (st_69, .inl (cst_89, 64, .inl g1_78)), (le_70, .inl (cle_90, 64, .inl g2_79)), (nx_71, .inl (cnx_91, 64, .inl g3_80)), (ow_72, .inl (cow_92, 64, .inl g4_81)), (bu_68, .inl (cbu_93, 256, .inl g5_82)), (lt_67, .inr (0, [.ref lta_87, .int (nI k2_77)])), (lta_87, .inl (clt_88, 512, .inl g6_83)), (wd_66, .inr (0, [.ref wda_84, .int (nI 280)])), (wda_84, .inl (cwd_85, 280, .inl wf_86)), (a1_61, .inr (1, [.ref dE, .int 0, .int m1_94])), (a2_63, .inr (1, [.ref dE, .int 0, .int m2_95])), (a3_64, .inr (1, [.ref dE, .int 0, .int m3_96])), (dv_62, .inr (2, [.ref dal_97, .ref dvd_98, .int 0])), (dvd_98, .inr (0, [.ref dva_99, .int 0])), (q101, .inr (4, [.ref k1_103, .ref k2_104, .ref k3_105, .int 0, .int ((-1)), .null, .null, .int 0])), (k1_103, .inl (c1_106, 64, .inl (fun _ => 0))), (k2_104, .inl (c2_107, 64, .inl (fun _ => 0))), (k3_105, .inl (c3_108, 64, .inr (.inl (fun _ => 0)))), (q109, .inr (5, [.ref q101, .ref d1_111, .null, .null, .null, .int 0, .int 0])), (q112, .inr (2, [.null, .null, .int 0]))] := hD
  refine lv_dup hx hb d_SF_init_117 rfl ?_
  have hc0 : 57 + 3 ≤ 69 := by omega
  have hs0 : 4412 + 69 ≤ 4673 := by omega
  have hPc := hP.sub (ws' := [(q112, .inr (2, [.null, .null, .int 0]))]) [44] rfl
  have hDc := hD.sub (ws' := [(q112, .inr (2, [.null, .null, .int 0]))]) [44] (by decide) rfl
  have hKc := hK.sub (tys' := []) [] rfl
  have hFc := va_free (wc := [(q112, .inr (2, [.null, .null, .int 0]))]) hD hS hA [44] rfl
  refine va_callv (va_runI (As := []) (rest := [.ref q112, .ref x0]) ⟨hx, hb, hml, hown, htw⟩ (c_Values_init l dC dI H.size q112 dE) (cwI 0 htw (tw_inL k_Values_init) rfl rfl rfl (htw _ wd_1_7) (htw _ wd_2_150) (htw _ wd_1_116) rfl (by decide +kernel) ⟨Nat.le_of_ble_eq_true rfl, Nat.le_of_ble_eq_true rfl⟩) ⟨fun a U g mk q => by obtain ⟨q0, q1, qP, qK, qD, hq0⟩ := q; exact ⟨q0, q1, qP, va_K.moved (u := U) (U := U.calling g mk a) (Vm.Alike.refl U.vm) qK, qD, va_Z.moved (u := U) (U := U.calling g mk a) (Vm.Alike.refl U.vm) hq0⟩, fun U hU hW => ⟨rfl, by rw [hU], by rw [hU]; exact hPc, va_K.moved hW.alike hKc, hDc.weaken (fun _ _ _ _ => trivial), by rw [hU]; exact va_Z.moved hW.alike ((va_Z.kept hx0 hS.2.1).narrow hFc)⟩⟩ rfl rfl hl.1 rfl (lv_room (Nat.le_of_ble_eq_true rfl)) d_SF_init_118 ⟨hc0, hs0⟩) hS (fun q _ h => hFc q h) hFc (fun u t H1 locs ht hvm hw hB hz1 hk1 hS => ?_)
  obtain ⟨al_114, vd_115, va_116, vc_117, hP1, hK1, hD1⟩ := hB
  rw [ht] at hP1
  have hK1 := va_K.moved hvm.symm hK1
  obtain ⟨hP, hD⟩ := va_join (wr := [(x0, .inr (10, [.ref q1, .ref q5, .ref q9, .ref q13, .int 0, .ref q17, .ref q59, .ref q101, .ref q109, .null, .null, .null, .null, .null])), (q1, .inr (0, [.ref qa_3, .int 0])), (qa_3, .inl (ca_4, 256, .inl (fun _ => 0))), (q5, .inr (0, [.ref qa_7, .int 0])), (qa_7, .inl (ca_8, 256, .inl (fun _ => 0))), (q9, .inr (0, [.ref qa_11, .int 0])), (qa_11, .inl (ca_12, 256, .inl (fun _ => 0))), (q13, .inr (0, [.ref qa_15, .int 0])), (qa_15, .inl (ca_16, 256, .inl (fun _ => 0))), (q17, .inr (3, [.ref a1_19, .ref dv_20, .int 0, .int 0, .ref a2_21, .ref a3_22, .ref a4_23, .ref wd_24, .ref lt_25, .ref bu_26, .ref st_27, .ref le_28, .ref nx_29, .ref ow_30, .int (nI s2_34), .ref sp_31, .ref ky_32, .ref sm_33, .int 0])), (st_27, .inl (cst_47, 64, .inl g1_36)), (le_28, .inl (cle_48, 64, .inl g2_37)), (nx_29, .inl (cnx_49, 64, .inl g3_38)), (ow_30, .inl (cow_50, 64, .inl g4_39)), (bu_26, .inl (cbu_51, 256, .inl g5_40)), (lt_25, .inr (0, [.ref lta_45, .int (nI k2_35)])), (lta_45, .inl (clt_46, 512, .inl g6_41)), (wd_24, .inr (0, [.ref wda_42, .int (nI 280)])), (wda_42, .inl (cwd_43, 280, .inl wf_44)), (a1_19, .inr (1, [.ref dE, .int 0, .int m1_52])), (a2_21, .inr (1, [.ref dE, .int 0, .int m2_53])), (a3_22, .inr (1, [.ref dE, .int 0, .int m3_54])), (dv_20, .inr (2, [.ref dal_55, .ref dvd_56, .int 0])), (dvd_56, .inr (0, [.ref dva_57, .int 0])), (q59, .inr (3, [.ref a1_61, .ref dv_62, .int 0, .int 0, .ref a2_63, .ref a3_64, .ref a4_65, .ref wd_66, .ref lt_67, .ref bu_68, .ref st_69, .ref le_70, .ref nx_71, .ref ow_72, .int (nI s2_76), .ref sp_73, .ref ky_74, .ref sm_75, .int 0])), (st_69, .inl (cst_89, 64, .inl g1_78)), (le_70, .inl (cle_90, 64, .inl g2_79)), (nx_71, .inl (cnx_91, 64, .inl g3_80)), (ow_72, .inl (cow_92, 64, .inl g4_81)), (bu_68, .inl (cbu_93, 256, .inl g5_82)), (lt_67, .inr (0, [.ref lta_87, .int (nI k2_77)])), (lta_87, .inl (clt_88, 512, .inl g6_83)), (wd_66, .inr (0, [.ref wda_84, .int (nI 280)])), (wda_84, .inl (cwd_85, 280, .inl wf_86)), (a1_61, .inr (1, [.ref dE, .int 0, .int m1_94])), (a2_63, .inr (1, [.ref dE, .int 0, .int m2_95])), (a3_64, .inr (1, [.ref dE, .int 0, .int m3_96])), (dv_62, .inr (2, [.ref dal_97, .ref dvd_98, .int 0])), (dvd_98, .inr (0, [.ref dva_99, .int 0])), (q101, .inr (4, [.ref k1_103, .ref k2_104, .ref k3_105, .int 0, .int ((-1)), .null, .null, .int 0])), (k1_103, .inl (c1_106, 64, .inl (fun _ => 0))), (k2_104, .inl (c2_107, 64, .inl (fun _ => 0))), (k3_105, .inl (c3_108, 64, .inr (.inl (fun _ => 0)))), (q109, .inr (5, [.ref q101, .ref d1_111, .null, .null, .null, .int 0, .int 0]))]) (w1 := [(q112, .inr (2, [.ref al_114, .ref vd_115, .int 0])), (al_114, .inr (1, [.ref dE, .int 0, .int 0])), (vd_115, .inr (0, [.ref va_116, .int 0])), (va_116, .inl (vc_117, 64, .inl (fun _ => 0)))]) hP hD [44] [0, 1, 2, 3, 4, 5, 6, 7, 8, 9, 10, 11, 12, 13, 14, 15, 16, 17, 18, 19, 20, 21, 22, 23, 24, 25, 26, 27, 28, 29, 30, 31, 32, 33, 34, 35, 36, 37, 38, 39, 40, 41, 42, 43] rfl rfl (by decide) (by decide) hk1 hFc hP1 hD1
  have hK := (hK.sub (tys' := [(ca_4, .byte), (ca_8, .byte), (ca_12, .byte), (ca_16, .byte), (cst_47, .int), (cle_48, .int), (cnx_49, .int), (cow_50, .int), (cbu_51, .int), (clt_46, .byte), (cwd_43, .byte), (cst_89, .int), (cle_90, .int), (cnx_91, .int), (cow_92, .int), (cbu_93, .int), (clt_88, .byte), (cwd_85, .byte), (c1_106, .int), (c2_107, .int), (c3_108, .long)]) [0, 1, 2, 3, 4, 5, 6, 7, 8, 9, 10, 11, 12, 13, 14, 15, 16, 17, 18, 19, 20] rfl).app hK1
  generalize H1 = H at hP hS ⊢
  have hP : va_P (dC, dI) classes [(x0, .inr (10, [.ref q1, .ref q5, .ref q9, .ref q13, .int 0, .ref q17, .ref q59, .ref q101, .ref q109, .null, .null, .null, .null, .null])), (q1, .inr (0, [.ref qa_3, .int 0])), (qa_3, .inl (ca_4, 256, .inl (fun _ => 0))), (q5, .inr (0, [.ref qa_7, .int 0])), (qa_7, .inl (ca_8, 256, .inl (fun _ => 0))), (q9, .inr (0, [.ref qa_11, .int 0])), (qa_11, .inl (ca_12, 256, .inl (fun _ => 0))), (q13, .inr (0, [.ref qa_15, .int 0])), (qa_15, .inl (ca_16, 256, .inl (fun _ => 0))), (q17, .inr (3, [.ref a1_19, .ref dv_20, .int 0, .int 0, .ref a2_21, .ref a3_22, .ref a4_23, .ref wd_24, .ref lt_25, .ref bu_26, .ref st_27, .ref le_28, .ref nx_29, .ref ow_30, .int (nI s2_34), .ref sp_31, .ref ky_32, .ref sm_33, .int 0])), (st_27, .inl (cst_47, 64, .inl g1_36)), (le_28, .inl (cle_48, 64, .inl g2_37)), (nx_29, .inl (cnx_49, 64, .inl g3_38)), (ow_30, .inl (cow_50, 64, .inl g4_39)), (bu_26, .inl (cbu_51, 256, .inl g5_40)), (lt_25, .inr (0, [.ref lta_45, .int (nI k2_35)])), (lta_45, .inl (clt_46, 512, .inl g6_41)), (wd_24, .inr (0, [.ref wda_42, .int (nI 280)])), (wda_42, .inl (cwd_43, 280, .inl wf_44)), (a1_19, .inr (1, [.ref dE, .int 0, .int m1_52])), (a2_21, .inr (1, [.ref dE, .int 0, .int m2_53])), (a3_22, .inr (1, [.ref dE, .int 0, .int m3_54])), (dv_20, .inr (2, [.ref dal_55, .ref dvd_56, .int 0])), (dvd_56, .inr (0, [.ref dva_57, .int 0])), (q59, .inr (3, [.ref a1_61, .ref dv_62, .int 0, .int 0, .ref a2_63, .ref a3_64, .ref a4_65, .ref wd_66, .ref lt_67, .ref bu_68, .ref st_69, .ref le_70, .ref nx_71, .ref ow_72, .int (nI s2_76), .ref sp_73, .ref ky_74, .ref sm_75, .int 0])), (st_69, .inl (cst_89, 64, .inl g1_78)), (le_70, .inl (cle_90, 64, .inl g2_79)), (nx_71, .inl (cnx_91, 64, .inl g3_80)), (ow_72, .inl (cow_92, 64, .inl g4_81)), (bu_68, .inl (cbu_93, 256, .inl g5_82)), (lt_67, .inr (0, [.ref lta_87, .int (nI k2_77)])), (lta_87, .inl (clt_88, 512, .inl g6_83)), (wd_66, .inr (0, [.ref wda_84, .int (nI 280)])), (wda_84, .inl (cwd_85, 280, .inl wf_86)), (a1_61, .inr (1, [.ref dE, .int 0, .int m1_94])), (a2_63, .inr (1, [.ref dE, .int 0, .int m2_95])), (a3_64, .inr (1, [.ref dE, .int 0, .int m3_96])), (dv_62, .inr (2, [.ref dal_97, .ref dvd_98, .int 0])), (dvd_98, .inr (0, [.ref dva_99, .int 0])), (q101, .inr (4, [.ref k1_103, .ref k2_104, .ref k3_105, .int 0, .int ((-1)), .null, .null, .int 0])), (k1_103, .inl (c1_106, 64, .inl (fun _ => 0))), (k2_104, .inl (c2_107, 64, .inl (fun _ => 0))), (k3_105, .inl (c3_108, 64, .inr (.inl (fun _ => 0)))), (q109, .inr (5, [.ref q101, .ref d1_111, .null, .null, .null, .int 0, .int 0])), (q112, .inr (2, [.ref al_114, .ref vd_115, .int 0])), (al_114, .inr (1, [.ref dE, .int 0, .int 0])), (vd_115, .inr (0, [.ref va_116, .int 0])), (va_116, .inl (vc_117, 64, .inl (fun _ => 0)))] H := hP
  have hD : va_D A [(x0, .inr (10, [.ref q1, .ref q5, .ref q9, .ref q13, .int 0, .ref q17, .ref q59, .ref q101, .ref q109, .null, .null, .null, .null, .null])), (q1, .inr (0, [.ref qa_3, .int 0])), (qa_3, .inl (ca_4, 256, .inl (fun _ => 0))), (q5, .inr (0, [.ref qa_7, .int 0])), (qa_7, .inl (ca_8, 256, .inl (fun _ => 0))), (q9, .inr (0, [.ref qa_11, .int 0])), (qa_11, .inl (ca_12, 256, .inl (fun _ => 0))), (q13, .inr (0, [.ref qa_15, .int 0])), (qa_15, .inl (ca_16, 256, .inl (fun _ => 0))), (q17, .inr (3, [.ref a1_19, .ref dv_20, .int 0, .int 0, .ref a2_21, .ref a3_22, .ref a4_23, .ref wd_24, .ref lt_25, .ref bu_26, .ref st_27, .ref le_28, .ref nx_29, .ref ow_30, .int (nI s2_34), .ref sp_31, .ref ky_32, .ref sm_33, .int 0])), (st_27, .inl (cst_47, 64, .inl g1_36)), (le_28, .inl (cle_48, 64, .inl g2_37)), (nx_29, .inl (cnx_49, 64, .inl g3_38)), (ow_30, .inl (cow_50, 64, .inl g4_39)), (bu_26, .inl (cbu_51, 256, .inl g5_40)), (lt_25, .inr (0, [.ref lta_45, .int (nI k2_35)])), (lta_45, .inl (clt_46, 512, .inl g6_41)), (wd_24, .inr (0, [.ref wda_42, .int (nI 280)])), (wda_42, .inl (cwd_43, 280, .inl wf_44)), (a1_19, .inr (1, [.ref dE, .int 0, .int m1_52])), (a2_21, .inr (1, [.ref dE, .int 0, .int m2_53])), (a3_22, .inr (1, [.ref dE, .int 0, .int m3_54])), (dv_20, .inr (2, [.ref dal_55, .ref dvd_56, .int 0])), (dvd_56, .inr (0, [.ref dva_57, .int 0])), (q59, .inr (3, [.ref a1_61, .ref dv_62, .int 0, .int 0, .ref a2_63, .ref a3_64, .ref a4_65, .ref wd_66, .ref lt_67, .ref bu_68, .ref st_69, .ref le_70, .ref nx_71, .ref ow_72, .int (nI s2_76), .ref sp_73, .ref ky_74, .ref sm_75, .int 0])), (st_69, .inl (cst_89, 64, .inl g1_78)), (le_70, .inl (cle_90, 64, .inl g2_79)), (nx_71, .inl (cnx_91, 64, .inl g3_80)), (ow_72, .inl (cow_92, 64, .inl g4_81)), (bu_68, .inl (cbu_93, 256, .inl g5_82)), (lt_67, .inr (0, [.ref lta_87, .int (nI k2_77)])), (lta_87, .inl (clt_88, 512, .inl g6_83)), (wd_66, .inr (0, [.ref wda_84, .int (nI 280)])), (wda_84, .inl (cwd_85, 280, .inl wf_86)), (a1_61, .inr (1, [.ref dE, .int 0, .int m1_94])), (a2_63, .inr (1, [.ref dE, .int 0, .int m2_95])), (a3_64, .inr (1, [.ref dE, .int 0, .int m3_96])), (dv_62, .inr (2, [.ref dal_97, .ref dvd_98, .int 0])), (dvd_98, .inr (0, [.ref dva_99, .int 0])), (q101, .inr (4, [.ref k1_103, .ref k2_104, .ref k3_105, .int 0, .int ((-1)), .null, .null, .int 0])), (k1_103, .inl (c1_106, 64, .inl (fun _ => 0))), (k2_104, .inl (c2_107, 64, .inl (fun _ => 0))), (k3_105, .inl (c3_108, 64, .inr (.inl (fun _ => 0)))), (q109, .inr (5, [.ref q101, .ref d1_111, .null, .null, .null, .int 0, .int 0])), (q112, .inr (2, [.ref al_114, .ref vd_115, .int 0])), (al_114, .inr (1, [.ref dE, .int 0, .int 0])), (vd_115, .inr (0, [.ref va_116, .int 0])), (va_116, .inl (vc_117, 64, .inl (fun _ => 0)))] := hD
  have hK : va_K (dC, dI) classes [(ca_4, .byte), (ca_8, .byte), (ca_12, .byte), (ca_16, .byte), (cst_47, .int), (cle_48, .int), (cnx_49, .int), (cow_50, .int), (cbu_51, .int), (clt_46, .byte), (cwd_43, .byte), (cst_89, .int), (cle_90, .int), (cnx_91, .int), (cow_92, .int), (cbu_93, .int), (clt_88, .byte), (cwd_85, .byte), (c1_106, .int), (c2_107, .int), (c3_108, .long), (vc_117, .byte)] s := hK
  refine va_putF (D := (dC, dI)) (ci := 10) (v := .ref q112) (ty := .object "SyntaxForge$Values") (C := R_SF) (T := F_SF) (N := 14) hx hb htw i_SF t_SF t_SF_ok n_SF hown hK hP hD hS 0 rfl rfl 9 (by decide) (htw _ wd_3_15) (fun _ h9 => h9) rfl hin rfl (by decide +kernel) rfl rfl (Nat.le_of_ble_eq_true rfl) d_SF_init_121 (fun H locs hP hD hS => ?_)
  have hP : va_P (dC, dI) classes [(x0, .inr (10, [.ref q1, .ref q5, .ref q9, .ref q13, .int 0, .ref q17, .ref q59, .ref q101, .ref q109, .ref q112, .null, .null, .null, .null])), (q1, .inr (0, [.ref qa_3, .int 0])), (qa_3, .inl (ca_4, 256, .inl (fun _ => 0))), (q5, .inr (0, [.ref qa_7, .int 0])), (qa_7, .inl (ca_8, 256, .inl (fun _ => 0))), (q9, .inr (0, [.ref qa_11, .int 0])), (qa_11, .inl (ca_12, 256, .inl (fun _ => 0))), (q13, .inr (0, [.ref qa_15, .int 0])), (qa_15, .inl (ca_16, 256, .inl (fun _ => 0))), (q17, .inr (3, [.ref a1_19, .ref dv_20, .int 0, .int 0, .ref a2_21, .ref a3_22, .ref a4_23, .ref wd_24, .ref lt_25, .ref bu_26, .ref st_27, .ref le_28, .ref nx_29, .ref ow_30, .int (nI s2_34), .ref sp_31, .ref ky_32, .ref sm_33, .int 0])), (st_27, .inl (cst_47, 64, .inl g1_36)), (le_28, .inl (cle_48, 64, .inl g2_37)), (nx_29, .inl (cnx_49, 64, .inl g3_38)), (ow_30, .inl (cow_50, 64, .inl g4_39)), (bu_26, .inl (cbu_51, 256, .inl g5_40)), (lt_25, .inr (0, [.ref lta_45, .int (nI k2_35)])), (lta_45, .inl (clt_46, 512, .inl g6_41)), (wd_24, .inr (0, [.ref wda_42, .int (nI 280)])), (wda_42, .inl (cwd_43, 280, .inl wf_44)), (a1_19, .inr (1, [.ref dE, .int 0, .int m1_52])), (a2_21, .inr (1, [.ref dE, .int 0, .int m2_53])), (a3_22, .inr (1, [.ref dE, .int 0, .int m3_54])), (dv_20, .inr (2, [.ref dal_55, .ref dvd_56, .int 0])), (dvd_56, .inr (0, [.ref dva_57, .int 0])), (q59, .inr (3, [.ref a1_61, .ref dv_62, .int 0, .int 0, .ref a2_63, .ref a3_64, .ref a4_65, .ref wd_66, .ref lt_67, .ref bu_68, .ref st_69, .ref le_70, .ref nx_71, .ref ow_72, .int (nI s2_76), .ref sp_73, .ref ky_74, .ref sm_75, .int 0])), (st_69, .inl (cst_89, 64, .inl g1_78)), (le_70, .inl (cle_90, 64, .inl g2_79)), (nx_71, .inl (cnx_91, 64, .inl g3_80)), (ow_72, .inl (cow_92, 64, .inl g4_81)), (bu_68, .inl (cbu_93, 256, .inl g5_82)), (lt_67, .inr (0, [.ref lta_87, .int (nI k2_77)])), (lta_87, .inl (clt_88, 512, .inl g6_83)), (wd_66, .inr (0, [.ref wda_84, .int (nI 280)])), (wda_84, .inl (cwd_85, 280, .inl wf_86)), (a1_61, .inr (1, [.ref dE, .int 0, .int m1_94])), (a2_63, .inr (1, [.ref dE, .int 0, .int m2_95])), (a3_64, .inr (1, [.ref dE, .int 0, .int m3_96])), (dv_62, .inr (2, [.ref dal_97, .ref dvd_98, .int 0])), (dvd_98, .inr (0, [.ref dva_99, .int 0])), (q101, .inr (4, [.ref k1_103, .ref k2_104, .ref k3_105, .int 0, .int ((-1)), .null, .null, .int 0])), (k1_103, .inl (c1_106, 64, .inl (fun _ => 0))), (k2_104, .inl (c2_107, 64, .inl (fun _ => 0))), (k3_105, .inl (c3_108, 64, .inr (.inl (fun _ => 0)))), (q109, .inr (5, [.ref q101, .ref d1_111, .null, .null, .null, .int 0, .int 0])), (q112, .inr (2, [.ref al_114, .ref vd_115, .int 0])), (al_114, .inr (1, [.ref dE, .int 0, .int 0])), (vd_115, .inr (0, [.ref va_116, .int 0])), (va_116, .inl (vc_117, 64, .inl (fun _ => 0)))] H := hP
  have hD : va_D A [(x0, .inr (10, [.ref q1, .ref q5, .ref q9, .ref q13, .int 0, .ref q17, .ref q59, .ref q101, .ref q109, .ref q112, .null, .null, .null, .null])), (q1, .inr (0, [.ref qa_3, .int 0])), (qa_3, .inl (ca_4, 256, .inl (fun _ => 0))), (q5, .inr (0, [.ref qa_7, .int 0])), (qa_7, .inl (ca_8, 256, .inl (fun _ => 0))), (q9, .inr (0, [.ref qa_11, .int 0])), (qa_11, .inl (ca_12, 256, .inl (fun _ => 0))), (q13, .inr (0, [.ref qa_15, .int 0])), (qa_15, .inl (ca_16, 256, .inl (fun _ => 0))), (q17, .inr (3, [.ref a1_19, .ref dv_20, .int 0, .int 0, .ref a2_21, .ref a3_22, .ref a4_23, .ref wd_24, .ref lt_25, .ref bu_26, .ref st_27, .ref le_28, .ref nx_29, .ref ow_30, .int (nI s2_34), .ref sp_31, .ref ky_32, .ref sm_33, .int 0])), (st_27, .inl (cst_47, 64, .inl g1_36)), (le_28, .inl (cle_48, 64, .inl g2_37)), (nx_29, .inl (cnx_49, 64, .inl g3_38)), (ow_30, .inl (cow_50, 64, .inl g4_39)), (bu_26, .inl (cbu_51, 256, .inl g5_40)), (lt_25, .inr (0, [.ref lta_45, .int (nI k2_35)])), (lta_45, .inl (clt_46, 512, .inl g6_41)), (wd_24, .inr (0, [.ref wda_42, .int (nI 280)])), (wda_42, .inl (cwd_43, 280, .inl wf_44)), (a1_19, .inr (1, [.ref dE, .int 0, .int m1_52])), (a2_21, .inr (1, [.ref dE, .int 0, .int m2_53])), (a3_22, .inr (1, [.ref dE, .int 0, .int m3_54])), (dv_20, .inr (2, [.ref dal_55, .ref dvd_56, .int 0])), (dvd_56, .inr (0, [.ref dva_57, .int 0])), (q59, .inr (3, [.ref a1_61, .ref dv_62, .int 0, .int 0, .ref a2_63, .ref a3_64, .ref a4_65, .ref wd_66, .ref lt_67, .ref bu_68, .ref st_69, .ref le_70, .ref nx_71, .ref ow_72, .int (nI s2_76), .ref sp_73, .ref ky_74, .ref sm_75, .int 0])), (st_69, .inl (cst_89, 64, .inl g1_78)), (le_70, .inl (cle_90, 64, .inl g2_79)), (nx_71, .inl (cnx_91, 64, .inl g3_80)), (ow_72, .inl (cow_92, 64, .inl g4_81)), (bu_68, .inl (cbu_93, 256, .inl g5_82)), (lt_67, .inr (0, [.ref lta_87, .int (nI k2_77)])), (lta_87, .inl (clt_88, 512, .inl g6_83)), (wd_66, .inr (0, [.ref wda_84, .int (nI 280)])), (wda_84, .inl (cwd_85, 280, .inl wf_86)), (a1_61, .inr (1, [.ref dE, .int 0, .int m1_94])), (a2_63, .inr (1, [.ref dE, .int 0, .int m2_95])), (a3_64, .inr (1, [.ref dE, .int 0, .int m3_96])), (dv_62, .inr (2, [.ref dal_97, .ref dvd_98, .int 0])), (dvd_98, .inr (0, [.ref dva_99, .int 0])), (q101, .inr (4, [.ref k1_103, .ref k2_104, .ref k3_105, .int 0, .int ((-1)), .null, .null, .int 0])), (k1_103, .inl (c1_106, 64, .inl (fun _ => 0))), (k2_104, .inl (c2_107, 64, .inl (fun _ => 0))), (k3_105, .inl (c3_108, 64, .inr (.inl (fun _ => 0)))), (q109, .inr (5, [.ref q101, .ref d1_111, .null, .null, .null, .int 0, .int 0])), (q112, .inr (2, [.ref al_114, .ref vd_115, .int 0])), (al_114, .inr (1, [.ref dE, .int 0, .int 0])), (vd_115, .inr (0, [.ref va_116, .int 0])), (va_116, .inl (vc_117, 64, .inl (fun _ => 0)))] := hD
  refine lv_aload_n hx hb d_SF_init_124 rfl (lv_at hl 0 rfl) ?_
  have hc0 : 60 + 1 ≤ 69 := by omega
  have hs0 : 4481 + 3 ≤ 4673 := by omega
  refine va_new (ci := 6) (fs := [.null, .null, .null]) (C := R_Der) (T := F_Der) (N := 3) hx hb htw i_Der t_Der t_Der_ok hown (htw _ wd_2_151) (htw _ wd_2_152) (htw _ wd_1_17) hK hP hD hS hA rfl (by decide) hc0 hs0 d_SF_init_125 (fun q118 H hP hD hS => ?_)
  have hP : va_P (dC, dI) classes [(x0, .inr (10, [.ref q1, .ref q5, .ref q9, .ref q13, .int 0, .ref q17, .ref q59, .ref q101, .ref q109, .ref q112, .null, .null, .null, .null])), (q1, .inr (0, [.ref qa_3, .int 0])), (qa_3, .inl (ca_4, 256, .inl (fun _ => 0))), (q5, .inr (0, [.ref qa_7, .int 0])), (qa_7, .inl (ca_8, 256, .inl (fun _ => 0))), (q9, .inr (0, [.ref qa_11, .int 0])), (qa_11, .inl (ca_12, 256, .inl (fun _ => 0))), (q13, .inr (0, [.ref qa_15, .int 0])), (qa_15, .inl (ca_16, 256, .inl (fun _ => 0))), (q17, .inr (3, [.ref a1_19, .ref dv_20, .int 0, .int 0, .ref a2_21, .ref a3_22, .ref a4_23, .ref wd_24, .ref lt_25, .ref bu_26, .ref st_27, .ref le_28, .ref nx_29, .ref ow_30, .int (nI s2_34), .ref sp_31, .ref ky_32, .ref sm_33, .int 0])), (st_27, .inl (cst_47, 64, .inl g1_36)), (le_28, .inl (cle_48, 64, .inl g2_37)), (nx_29, .inl (cnx_49, 64, .inl g3_38)), (ow_30, .inl (cow_50, 64, .inl g4_39)), (bu_26, .inl (cbu_51, 256, .inl g5_40)), (lt_25, .inr (0, [.ref lta_45, .int (nI k2_35)])), (lta_45, .inl (clt_46, 512, .inl g6_41)), (wd_24, .inr (0, [.ref wda_42, .int (nI 280)])), (wda_42, .inl (cwd_43, 280, .inl wf_44)), (a1_19, .inr (1, [.ref dE, .int 0, .int m1_52])), (a2_21, .inr (1, [.ref dE, .int 0, .int m2_53])), (a3_22, .inr (1, [.ref dE, .int 0, .int m3_54])), (dv_20, .inr (2, [.ref dal_55, .ref dvd_56, .int 0])), (dvd_56, .inr (0, [.ref dva_57, .int 0])), (q59, .inr (3, [.ref a1_61, .ref dv_62, .int 0, .int 0, .ref a2_63, .ref a3_64, .ref a4_65, .ref wd_66, .ref lt_67, .ref bu_68, .ref st_69, .ref le_70, .ref nx_71, .ref ow_72, .int (nI s2_76), .ref sp_73, .ref ky_74, .ref sm_75, .int 0])), (st_69, .inl (cst_89, 64, .inl g1_78)), (le_70, .inl (cle_90, 64, .inl g2_79)), (nx_71, .inl (cnx_91, 64, .inl g3_80)), (ow_72, .inl (cow_92, 64, .inl g4_81)), (bu_68, .inl (cbu_93, 256, .inl g5_82)), (lt_67, .inr (0, [.ref lta_87, .int (nI k2_77)])), (lta_87, .inl (clt_88, 512, .inl g6_83)), (wd_66, .inr (0, [.ref wda_84, .int (nI 280)])), (wda_84, .inl (cwd_85, 280, .inl wf_86)), (a1_61, .inr (1, [.ref dE, .int 0, .int m1_94])), (a2_63, .inr (1, [.ref dE, .int 0, .int m2_95])), (a3_64, .inr (1, [.ref dE, .int 0, .int m3_96])), (dv_62, .inr (2, [.ref dal_97, .ref dvd_98, .int 0])), (dvd_98, .inr (0, [.ref dva_99, .int 0])), (q101, .inr (4, [.ref k1_103, .ref k2_104, .ref k3_105, .int 0, .int ((-1)), .null, .null, .int 0])), (k1_103, .inl (c1_106, 64, .inl (fun _ => 0))), (k2_104, .inl (c2_107, 64, .inl (fun _ => 0))), (k3_105, .inl (c3_108, 64, .inr (.inl (fun _ => 0)))), (q109, .inr (5, [.ref q101, .ref d1_111, .null, .null, .null, .int 0, .int 0])), (q112, .inr (2, [.ref al_114, .ref vd_115, .int 0])), (al_114, .inr (1, [.ref dE, .int 0, .int 0])), (vd_115, .inr (0, [.ref va_116, .int 0])), (va_116, .inl (vc_117, 64, .inl (fun _ => 0))), (q118, .inr (6, [.null, .null, .null]))] H := hP
  have hD : va_D A [(x0, .inr (10, [.ref q1, .ref q5, .ref q9, .ref q13, .int 0, .ref q17, .ref q59, .ref q101, .ref q109, .ref q112, .null, .null, .null, .null])), (q1, .inr (0, [.ref qa_3, .int 0])), (qa_3, .inl (ca_4, 256, .inl (fun _ => 0))), (q5, .inr (0, [.ref qa_7, .int 0])), (qa_7, .inl (ca_8, 256, .inl (fun _ => 0))), (q9, .inr (0, [.ref qa_11, .int 0])), (qa_11, .inl (ca_12, 256, .inl (fun _ => 0))), (q13, .inr (0, [.ref qa_15, .int 0])), (qa_15, .inl (ca_16, 256, .inl (fun _ => 0))), (q17, .inr (3, [.ref a1_19, .ref dv_20, .int 0, .int 0, .ref a2_21, .ref a3_22, .ref a4_23, .ref wd_24, .ref lt_25, .ref bu_26, .ref st_27, .ref le_28, .ref nx_29, .ref ow_30, .int (nI s2_34), .ref sp_31, .ref ky_32, .ref sm_33, .int 0])), (st_27, .inl (cst_47, 64, .inl g1_36)), (le_28, .inl (cle_48, 64, .inl g2_37)), (nx_29, .inl (cnx_49, 64, .inl g3_38)), (ow_30, .inl (cow_50, 64, .inl g4_39)), (bu_26, .inl (cbu_51, 256, .inl g5_40)), (lt_25, .inr (0, [.ref lta_45, .int (nI k2_35)])), (lta_45, .inl (clt_46, 512, .inl g6_41)), (wd_24, .inr (0, [.ref wda_42, .int (nI 280)])), (wda_42, .inl (cwd_43, 280, .inl wf_44)), (a1_19, .inr (1, [.ref dE, .int 0, .int m1_52])), (a2_21, .inr (1, [.ref dE, .int 0, .int m2_53])), (a3_22, .inr (1, [.ref dE, .int 0, .int m3_54])), (dv_20, .inr (2, [.ref dal_55, .ref dvd_56, .int 0])), (dvd_56, .inr (0, [.ref dva_57, .int 0])), (q59, .inr (3, [.ref a1_61, .ref dv_62, .int 0, .int 0, .ref a2_63, .ref a3_64, .ref a4_65, .ref wd_66, .ref lt_67, .ref bu_68, .ref st_69, .ref le_70, .ref nx_71, .ref ow_72, .int (nI s2_76), .ref sp_73, .ref ky_74, .ref sm_75, .int 0])), (st_69, .inl (cst_89, 64, .inl g1_78)), (le_70, .inl (cle_90, 64, .inl g2_79)), (nx_71, .inl (cnx_91, 64, .inl g3_80)), (ow_72, .inl (cow_92, 64, .inl g4_81)), (bu_68, .inl (cbu_93, 256, .inl g5_82)), (lt_67, .inr (0, [.ref lta_87, .int (nI k2_77)])), (lta_87, .inl (clt_88, 512, .inl g6_83)), (wd_66, .inr (0, [.ref wda_84, .int (nI 280)])), (wda_84, .inl (cwd_85, 280, .inl wf_86)), (a1_61, .inr (1, [.ref dE, .int 0, .int m1_94])), (a2_63, .inr (1, [.ref dE, .int 0, .int m2_95])), (a3_64, .inr (1, [.ref dE, .int 0, .int m3_96])), (dv_62, .inr (2, [.ref dal_97, .ref dvd_98, .int 0])), (dvd_98, .inr (0, [.ref dva_99, .int 0])), (q101, .inr (4, [.ref k1_103, .ref k2_104, .ref k3_105, .int 0, .int ((-1)), .null, .null, .int 0])), (k1_103, .inl (c1_106, 64, .inl (fun _ => 0))), (k2_104, .inl (c2_107, 64, .inl (fun _ => 0))), (k3_105, .inl (c3_108, 64, .inr (.inl (fun _ => 0)))), (q109, .inr (5, [.ref q101, .ref d1_111, .null, .null, .null, .int 0, .int 0])), (q112, .inr (2, [.ref al_114, .ref vd_115, .int 0])), (al_114, .inr (1, [.ref dE, .int 0, .int 0])), (vd_115, .inr (0, [.ref va_116, .int 0])), (va_116, .inl (vc_117, 64, .inl (fun _ => 0))), (q118, .inr (6, [.null, .null, .null]))] := hD
  refine lv_dup hx hb d_SF_init_128 rfl ?_
  have hc0 : 61 + 3 ≤ 69 := by omega
  have hs0 : 4484 + 48 ≤ 4673 := by omega
  have hPc := hP.sub (ws' := [(q118, .inr (6, [.null, .null, .null]))]) [48] rfl
  have hDc := hD.sub (ws' := [(q118, .inr (6, [.null, .null, .null]))]) [48] (by decide) rfl
  have hKc := hK.sub (tys' := []) [] rfl
  have hFc := va_free (wc := [(q118, .inr (6, [.null, .null, .null]))]) hD hS hA [48] rfl
  refine va_callv (va_runI (As := []) (rest := [.ref q118, .ref x0]) ⟨hx, hb, hml, hown, htw⟩ (c_Der_init l dC dI H.size q118) (cwI 0 htw (tw_inL k_Der_init) rfl rfl rfl (htw _ wd_1_17) (htw _ wd_2_153) (htw _ wd_2_154) rfl (by decide +kernel) ⟨Nat.le_of_ble_eq_true rfl, Nat.le_of_ble_eq_true rfl⟩) ⟨fun a U g mk q => by obtain ⟨q0, q1, qP, qK, qD, hq0⟩ := q; exact ⟨q0, q1, qP, va_K.moved (u := U) (U := U.calling g mk a) (Vm.Alike.refl U.vm) qK, qD, va_AO.moved (u := U) (U := U.calling g mk a) (Vm.Alike.refl U.vm) hq0⟩, fun U hU hW => ⟨rfl, by rw [hU], by rw [hU]; exact hPc, va_K.moved hW.alike hKc, hDc.weaken (fun _ _ _ _ => trivial), va_AO.moved hW.alike hx8⟩⟩ rfl rfl hl.1 rfl (lv_room (Nat.le_of_ble_eq_true rfl)) d_SF_init_129 ⟨hc0, hs0⟩) hS (fun q _ h => hFc q h) hFc (fun u t H1 locs ht hvm hw hB hz1 hk1 hS => ?_)
  obtain ⟨d1_120, d2_121, d3_122, hP1, hK1, hD1⟩ := hB
  rw [ht] at hP1
  have hK1 := va_K.moved hvm.symm hK1
  obtain ⟨hP, hD⟩ := va_join (wr := [(x0, .inr (10, [.ref q1, .ref q5, .ref q9, .ref q13, .int 0, .ref q17, .ref q59, .ref q101, .ref q109, .ref q112, .null, .null, .null, .null])), (q1, .inr (0, [.ref qa_3, .int 0])), (qa_3, .inl (ca_4, 256, .inl (fun _ => 0))), (q5, .inr (0, [.ref qa_7, .int 0])), (qa_7, .inl (ca_8, 256, .inl (fun _ => 0))), (q9, .inr (0, [.ref qa_11, .int 0])), (qa_11, .inl (ca_12, 256, .inl (fun _ => 0))), (q13, .inr (0, [.ref qa_15, .int 0])), (qa_15, .inl (ca_16, 256, .inl (fun _ => 0))), (q17, .inr (3, [.ref a1_19, .ref dv_20, .int 0, .int 0, .ref a2_21, .ref a3_22, .ref a4_23, .ref wd_24, .ref lt_25, .ref bu_26, .ref st_27, .ref le_28, .ref nx_29, .ref ow_30, .int (nI s2_34), .ref sp_31, .ref ky_32, .ref sm_33, .int 0])), (st_27, .inl (cst_47, 64, .inl g1_36)), (le_28, .inl (cle_48, 64, .inl g2_37)), (nx_29, .inl (cnx_49, 64, .inl g3_38)), (ow_30, .inl (cow_50, 64, .inl g4_39)), (bu_26, .inl (cbu_51, 256, .inl g5_40)), (lt_25, .inr (0, [.ref lta_45, .int (nI k2_35)])), (lta_45, .inl (clt_46, 512, .inl g6_41)), (wd_24, .inr (0, [.ref wda_42, .int (nI 280)])), (wda_42, .inl (cwd_43, 280, .inl wf_44)), (a1_19, .inr (1, [.ref dE, .int 0, .int m1_52])), (a2_21, .inr (1, [.ref dE, .int 0, .int m2_53])), (a3_22, .inr (1, [.ref dE, .int 0, .int m3_54])), (dv_20, .inr (2, [.ref dal_55, .ref dvd_56, .int 0])), (dvd_56, .inr (0, [.ref dva_57, .int 0])), (q59, .inr (3, [.ref a1_61, .ref dv_62, .int 0, .int 0, .ref a2_63, .ref a3_64, .ref a4_65, .ref wd_66, .ref lt_67, .ref bu_68, .ref st_69, .ref le_70, .ref nx_71, .ref ow_72, .int (nI s2_76), .ref sp_73, .ref ky_74, .ref sm_75, .int 0])), (st_69, .inl (cst_89, 64, .inl g1_78)), (le_70, .inl (cle_90, 64, .inl g2_79)), (nx_71, .inl (cnx_91, 64, .inl g3_80)), (ow_72, .inl (cow_92, 64, .inl g4_81)), (bu_68, .inl (cbu_93, 256, .inl g5_82)), (lt_67, .inr (0, [.ref lta_87, .int (nI k2_77)])), (lta_87, .inl (clt_88, 512, .inl g6_83)), (wd_66, .inr (0, [.ref wda_84, .int (nI 280)])), (wda_84, .inl (cwd_85, 280, .inl wf_86)), (a1_61, .inr (1, [.ref dE, .int 0, .int m1_94])), (a2_63, .inr (1, [.ref dE, .int 0, .int m2_95])), (a3_64, .inr (1, [.ref dE, .int 0, .int m3_96])), (dv_62, .inr (2, [.ref dal_97, .ref dvd_98, .int 0])), (dvd_98, .inr (0, [.ref dva_99, .int 0])), (q101, .inr (4, [.ref k1_103, .ref k2_104, .ref k3_105, .int 0, .int ((-1)), .null, .null, .int 0])), (k1_103, .inl (c1_106, 64, .inl (fun _ => 0))), (k2_104, .inl (c2_107, 64, .inl (fun _ => 0))), (k3_105, .inl (c3_108, 64, .inr (.inl (fun _ => 0)))), (q109, .inr (5, [.ref q101, .ref d1_111, .null, .null, .null, .int 0, .int 0])), (q112, .inr (2, [.ref al_114, .ref vd_115, .int 0])), (al_114, .inr (1, [.ref dE, .int 0, .int 0])), (vd_115, .inr (0, [.ref va_116, .int 0])), (va_116, .inl (vc_117, 64, .inl (fun _ => 0)))]) (w1 := [(q118, .inr (6, [.ref d1_120, .ref d2_121, .ref d3_122]))]) hP hD [48] [0, 1, 2, 3, 4, 5, 6, 7, 8, 9, 10, 11, 12, 13, 14, 15, 16, 17, 18, 19, 20, 21, 22, 23, 24, 25, 26, 27, 28, 29, 30, 31, 32, 33, 34, 35, 36, 37, 38, 39, 40, 41, 42, 43, 44, 45, 46, 47] rfl rfl (by decide) (by decide) hk1 hFc hP1 hD1
  have hK := (hK.sub (tys' := [(ca_4, .byte), (ca_8, .byte), (ca_12, .byte), (ca_16, .byte), (cst_47, .int), (cle_48, .int), (cnx_49, .int), (cow_50, .int), (cbu_51, .int), (clt_46, .byte), (cwd_43, .byte), (cst_89, .int), (cle_90, .int), (cnx_91, .int), (cow_92, .int), (cbu_93, .int), (clt_88, .byte), (cwd_85, .byte), (c1_106, .int), (c2_107, .int), (c3_108, .long), (vc_117, .byte)]) [0, 1, 2, 3, 4, 5, 6, 7, 8, 9, 10, 11, 12, 13, 14, 15, 16, 17, 18, 19, 20, 21] rfl).app hK1
  generalize H1 = H at hP hS ⊢
  have hP : va_P (dC, dI) classes [(x0, .inr (10, [.ref q1, .ref q5, .ref q9, .ref q13, .int 0, .ref q17, .ref q59, .ref q101, .ref q109, .ref q112, .null, .null, .null, .null])), (q1, .inr (0, [.ref qa_3, .int 0])), (qa_3, .inl (ca_4, 256, .inl (fun _ => 0))), (q5, .inr (0, [.ref qa_7, .int 0])), (qa_7, .inl (ca_8, 256, .inl (fun _ => 0))), (q9, .inr (0, [.ref qa_11, .int 0])), (qa_11, .inl (ca_12, 256, .inl (fun _ => 0))), (q13, .inr (0, [.ref qa_15, .int 0])), (qa_15, .inl (ca_16, 256, .inl (fun _ => 0))), (q17, .inr (3, [.ref a1_19, .ref dv_20, .int 0, .int 0, .ref a2_21, .ref a3_22, .ref a4_23, .ref wd_24, .ref lt_25, .ref bu_26, .ref st_27, .ref le_28, .ref nx_29, .ref ow_30, .int (nI s2_34), .ref sp_31, .ref ky_32, .ref sm_33, .int 0])), (st_27, .inl (cst_47, 64, .inl g1_36)), (le_28, .inl (cle_48, 64, .inl g2_37)), (nx_29, .inl (cnx_49, 64, .inl g3_38)), (ow_30, .inl (cow_50, 64, .inl g4_39)), (bu_26, .inl (cbu_51, 256, .inl g5_40)), (lt_25, .inr (0, [.ref lta_45, .int (nI k2_35)])), (lta_45, .inl (clt_46, 512, .inl g6_41)), (wd_24, .inr (0, [.ref wda_42, .int (nI 280)])), (wda_42, .inl (cwd_43, 280, .inl wf_44)), (a1_19, .inr (1, [.ref dE, .int 0, .int m1_52])), (a2_21, .inr (1, [.ref dE, .int 0, .int m2_53])), (a3_22, .inr (1, [.ref dE, .int 0, .int m3_54])), (dv_20, .inr (2, [.ref dal_55, .ref dvd_56, .int 0])), (dvd_56, .inr (0, [.ref dva_57, .int 0])), (q59, .inr (3, [.ref a1_61, .ref dv_62, .int 0, .int 0, .ref a2_63, .ref a3_64, .ref a4_65, .ref wd_66, .ref lt_67, .ref bu_68, .ref st_69, .ref le_70, .ref nx_71, .ref ow_72, .int (nI s2_76), .ref sp_73, .ref ky_74, .ref sm_75, .int 0])), (st_69, .inl (cst_89, 64, .inl g1_78)), (le_70, .inl (cle_90, 64, .inl g2_79)), (nx_71, .inl (cnx_91, 64, .inl g3_80)), (ow_72, .inl (cow_92, 64, .inl g4_81)), (bu_68, .inl (cbu_93, 256, .inl g5_82)), (lt_67, .inr (0, [.ref lta_87, .int (nI k2_77)])), (lta_87, .inl (clt_88, 512, .inl g6_83)), (wd_66, .inr (0, [.ref wda_84, .int (nI 280)])), (wda_84, .inl (cwd_85, 280, .inl wf_86)), (a1_61, .inr (1, [.ref dE, .int 0, .int m1_94])), (a2_63, .inr (1, [.ref dE, .int 0, .int m2_95])), (a3_64, .inr (1, [.ref dE, .int 0, .int m3_96])), (dv_62, .inr (2, [.ref dal_97, .ref dvd_98, .int 0])), (dvd_98, .inr (0, [.ref dva_99, .int 0])), (q101, .inr (4, [.ref k1_103, .ref k2_104, .ref k3_105, .int 0, .int ((-1)), .null, .null, .int 0])), (k1_103, .inl (c1_106, 64, .inl (fun _ => 0))), (k2_104, .inl (c2_107, 64, .inl (fun _ => 0))), (k3_105, .inl (c3_108, 64, .inr (.inl (fun _ => 0)))), (q109, .inr (5, [.ref q101, .ref d1_111, .null, .null, .null, .int 0, .int 0])), (q112, .inr (2, [.ref al_114, .ref vd_115, .int 0])), (al_114, .inr (1, [.ref dE, .int 0, .int 0])), (vd_115, .inr (0, [.ref va_116, .int 0])), (va_116, .inl (vc_117, 64, .inl (fun _ => 0))), (q118, .inr (6, [.ref d1_120, .ref d2_121, .ref d3_122]))] H := hP
  have hD : va_D A [(x0, .inr (10, [.ref q1, .ref q5, .ref q9, .ref q13, .int 0, .ref q17, .ref q59, .ref q101, .ref q109, .ref q112, .null, .null, .null, .null])), (q1, .inr (0, [.ref qa_3, .int 0])), (qa_3, .inl (ca_4, 256, .inl (fun _ => 0))), (q5, .inr (0, [.ref qa_7, .int 0])), (qa_7, .inl (ca_8, 256, .inl (fun _ => 0))), (q9, .inr (0, [.ref qa_11, .int 0])), (qa_11, .inl (ca_12, 256, .inl (fun _ => 0))), (q13, .inr (0, [.ref qa_15, .int 0])), (qa_15, .inl (ca_16, 256, .inl (fun _ => 0))), (q17, .inr (3, [.ref a1_19, .ref dv_20, .int 0, .int 0, .ref a2_21, .ref a3_22, .ref a4_23, .ref wd_24, .ref lt_25, .ref bu_26, .ref st_27, .ref le_28, .ref nx_29, .ref ow_30, .int (nI s2_34), .ref sp_31, .ref ky_32, .ref sm_33, .int 0])), (st_27, .inl (cst_47, 64, .inl g1_36)), (le_28, .inl (cle_48, 64, .inl g2_37)), (nx_29, .inl (cnx_49, 64, .inl g3_38)), (ow_30, .inl (cow_50, 64, .inl g4_39)), (bu_26, .inl (cbu_51, 256, .inl g5_40)), (lt_25, .inr (0, [.ref lta_45, .int (nI k2_35)])), (lta_45, .inl (clt_46, 512, .inl g6_41)), (wd_24, .inr (0, [.ref wda_42, .int (nI 280)])), (wda_42, .inl (cwd_43, 280, .inl wf_44)), (a1_19, .inr (1, [.ref dE, .int 0, .int m1_52])), (a2_21, .inr (1, [.ref dE, .int 0, .int m2_53])), (a3_22, .inr (1, [.ref dE, .int 0, .int m3_54])), (dv_20, .inr (2, [.ref dal_55, .ref dvd_56, .int 0])), (dvd_56, .inr (0, [.ref dva_57, .int 0])), (q59, .inr (3, [.ref a1_61, .ref dv_62, .int 0, .int 0, .ref a2_63, .ref a3_64, .ref a4_65, .ref wd_66, .ref lt_67, .ref bu_68, .ref st_69, .ref le_70, .ref nx_71, .ref ow_72, .int (nI s2_76), .ref sp_73, .ref ky_74, .ref sm_75, .int 0])), (st_69, .inl (cst_89, 64, .inl g1_78)), (le_70, .inl (cle_90, 64, .inl g2_79)), (nx_71, .inl (cnx_91, 64, .inl g3_80)), (ow_72, .inl (cow_92, 64, .inl g4_81)), (bu_68, .inl (cbu_93, 256, .inl g5_82)), (lt_67, .inr (0, [.ref lta_87, .int (nI k2_77)])), (lta_87, .inl (clt_88, 512, .inl g6_83)), (wd_66, .inr (0, [.ref wda_84, .int (nI 280)])), (wda_84, .inl (cwd_85, 280, .inl wf_86)), (a1_61, .inr (1, [.ref dE, .int 0, .int m1_94])), (a2_63, .inr (1, [.ref dE, .int 0, .int m2_95])), (a3_64, .inr (1, [.ref dE, .int 0, .int m3_96])), (dv_62, .inr (2, [.ref dal_97, .ref dvd_98, .int 0])), (dvd_98, .inr (0, [.ref dva_99, .int 0])), (q101, .inr (4, [.ref k1_103, .ref k2_104, .ref k3_105, .int 0, .int ((-1)), .null, .null, .int 0])), (k1_103, .inl (c1_106, 64, .inl (fun _ => 0))), (k2_104, .inl (c2_107, 64, .inl (fun _ => 0))), (k3_105, .inl (c3_108, 64, .inr (.inl (fun _ => 0)))), (q109, .inr (5, [.ref q101, .ref d1_111, .null, .null, .null, .int 0, .int 0])), (q112, .inr (2, [.ref al_114, .ref vd_115, .int 0])), (al_114, .inr (1, [.ref dE, .int 0, .int 0])), (vd_115, .inr (0, [.ref va_116, .int 0])), (va_116, .inl (vc_117, 64, .inl (fun _ => 0))), (q118, .inr (6, [.ref d1_120, .ref d2_121, .ref d3_122]))] := hD
  have hK : va_K (dC, dI) classes [(ca_4, .byte), (ca_8, .byte), (ca_12, .byte), (ca_16, .byte), (cst_47, .int), (cle_48, .int), (cnx_49, .int), (cow_50, .int), (cbu_51, .int), (clt_46, .byte), (cwd_43, .byte), (cst_89, .int), (cle_90, .int), (cnx_91, .int), (cow_92, .int), (cbu_93, .int), (clt_88, .byte), (cwd_85, .byte), (c1_106, .int), (c2_107, .int), (c3_108, .long), (vc_117, .byte)] s := hK
  refine va_putF (D := (dC, dI)) (ci := 10) (v := .ref q118) (ty := .object "SyntaxForge$Der") (C := R_SF) (T := F_SF) (N := 14) hx hb htw i_SF t_SF t_SF_ok n_SF hown hK hP hD hS 0 rfl rfl 10 (by decide) (htw _ wd_3_16) (fun _ h9 => h9) rfl hin rfl (by decide +kernel) rfl rfl (Nat.le_of_ble_eq_true rfl) d_SF_init_132 (fun H locs hP hD hS => ?_)
  have hP : va_P (dC, dI) classes [(x0, .inr (10, [.ref q1, .ref q5, .ref q9, .ref q13, .int 0, .ref q17, .ref q59, .ref q101, .ref q109, .ref q112, .ref q118, .null, .null, .null])), (q1, .inr (0, [.ref qa_3, .int 0])), (qa_3, .inl (ca_4, 256, .inl (fun _ => 0))), (q5, .inr (0, [.ref qa_7, .int 0])), (qa_7, .inl (ca_8, 256, .inl (fun _ => 0))), (q9, .inr (0, [.ref qa_11, .int 0])), (qa_11, .inl (ca_12, 256, .inl (fun _ => 0))), (q13, .inr (0, [.ref qa_15, .int 0])), (qa_15, .inl (ca_16, 256, .inl (fun _ => 0))), (q17, .inr (3, [.ref a1_19, .ref dv_20, .int 0, .int 0, .ref a2_21, .ref a3_22, .ref a4_23, .ref wd_24, .ref lt_25, .ref bu_26, .ref st_27, .ref le_28, .ref nx_29, .ref ow_30, .int (nI s2_34), .ref sp_31, .ref ky_32, .ref sm_33, .int 0])), (st_27, .inl (cst_47, 64, .inl g1_36)), (le_28, .inl (cle_48, 64, .inl g2_37)), (nx_29, .inl (cnx_49, 64, .inl g3_38)), (ow_30, .inl (cow_50, 64, .inl g4_39)), (bu_26, .inl (cbu_51, 256, .inl g5_40)), (lt_25, .inr (0, [.ref lta_45, .int (nI k2_35)])), (lta_45, .inl (clt_46, 512, .inl g6_41)), (wd_24, .inr (0, [.ref wda_42, .int (nI 280)])), (wda_42, .inl (cwd_43, 280, .inl wf_44)), (a1_19, .inr (1, [.ref dE, .int 0, .int m1_52])), (a2_21, .inr (1, [.ref dE, .int 0, .int m2_53])), (a3_22, .inr (1, [.ref dE, .int 0, .int m3_54])), (dv_20, .inr (2, [.ref dal_55, .ref dvd_56, .int 0])), (dvd_56, .inr (0, [.ref dva_57, .int 0])), (q59, .inr (3, [.ref a1_61, .ref dv_62, .int 0, .int 0, .ref a2_63, .ref a3_64, .ref a4_65, .ref wd_66, .ref lt_67, .ref bu_68, .ref st_69, .ref le_70, .ref nx_71, .ref ow_72, .int (nI s2_76), .ref sp_73, .ref ky_74, .ref sm_75, .int 0])), (st_69, .inl (cst_89, 64, .inl g1_78)), (le_70, .inl (cle_90, 64, .inl g2_79)), (nx_71, .inl (cnx_91, 64, .inl g3_80)), (ow_72, .inl (cow_92, 64, .inl g4_81)), (bu_68, .inl (cbu_93, 256, .inl g5_82)), (lt_67, .inr (0, [.ref lta_87, .int (nI k2_77)])), (lta_87, .inl (clt_88, 512, .inl g6_83)), (wd_66, .inr (0, [.ref wda_84, .int (nI 280)])), (wda_84, .inl (cwd_85, 280, .inl wf_86)), (a1_61, .inr (1, [.ref dE, .int 0, .int m1_94])), (a2_63, .inr (1, [.ref dE, .int 0, .int m2_95])), (a3_64, .inr (1, [.ref dE, .int 0, .int m3_96])), (dv_62, .inr (2, [.ref dal_97, .ref dvd_98, .int 0])), (dvd_98, .inr (0, [.ref dva_99, .int 0])), (q101, .inr (4, [.ref k1_103, .ref k2_104, .ref k3_105, .int 0, .int ((-1)), .null, .null, .int 0])), (k1_103, .inl (c1_106, 64, .inl (fun _ => 0))), (k2_104, .inl (c2_107, 64, .inl (fun _ => 0))), (k3_105, .inl (c3_108, 64, .inr (.inl (fun _ => 0)))), (q109, .inr (5, [.ref q101, .ref d1_111, .null, .null, .null, .int 0, .int 0])), (q112, .inr (2, [.ref al_114, .ref vd_115, .int 0])), (al_114, .inr (1, [.ref dE, .int 0, .int 0])), (vd_115, .inr (0, [.ref va_116, .int 0])), (va_116, .inl (vc_117, 64, .inl (fun _ => 0))), (q118, .inr (6, [.ref d1_120, .ref d2_121, .ref d3_122]))] H := hP
  have hD : va_D A [(x0, .inr (10, [.ref q1, .ref q5, .ref q9, .ref q13, .int 0, .ref q17, .ref q59, .ref q101, .ref q109, .ref q112, .ref q118, .null, .null, .null])), (q1, .inr (0, [.ref qa_3, .int 0])), (qa_3, .inl (ca_4, 256, .inl (fun _ => 0))), (q5, .inr (0, [.ref qa_7, .int 0])), (qa_7, .inl (ca_8, 256, .inl (fun _ => 0))), (q9, .inr (0, [.ref qa_11, .int 0])), (qa_11, .inl (ca_12, 256, .inl (fun _ => 0))), (q13, .inr (0, [.ref qa_15, .int 0])), (qa_15, .inl (ca_16, 256, .inl (fun _ => 0))), (q17, .inr (3, [.ref a1_19, .ref dv_20, .int 0, .int 0, .ref a2_21, .ref a3_22, .ref a4_23, .ref wd_24, .ref lt_25, .ref bu_26, .ref st_27, .ref le_28, .ref nx_29, .ref ow_30, .int (nI s2_34), .ref sp_31, .ref ky_32, .ref sm_33, .int 0])), (st_27, .inl (cst_47, 64, .inl g1_36)), (le_28, .inl (cle_48, 64, .inl g2_37)), (nx_29, .inl (cnx_49, 64, .inl g3_38)), (ow_30, .inl (cow_50, 64, .inl g4_39)), (bu_26, .inl (cbu_51, 256, .inl g5_40)), (lt_25, .inr (0, [.ref lta_45, .int (nI k2_35)])), (lta_45, .inl (clt_46, 512, .inl g6_41)), (wd_24, .inr (0, [.ref wda_42, .int (nI 280)])), (wda_42, .inl (cwd_43, 280, .inl wf_44)), (a1_19, .inr (1, [.ref dE, .int 0, .int m1_52])), (a2_21, .inr (1, [.ref dE, .int 0, .int m2_53])), (a3_22, .inr (1, [.ref dE, .int 0, .int m3_54])), (dv_20, .inr (2, [.ref dal_55, .ref dvd_56, .int 0])), (dvd_56, .inr (0, [.ref dva_57, .int 0])), (q59, .inr (3, [.ref a1_61, .ref dv_62, .int 0, .int 0, .ref a2_63, .ref a3_64, .ref a4_65, .ref wd_66, .ref lt_67, .ref bu_68, .ref st_69, .ref le_70, .ref nx_71, .ref ow_72, .int (nI s2_76), .ref sp_73, .ref ky_74, .ref sm_75, .int 0])), (st_69, .inl (cst_89, 64, .inl g1_78)), (le_70, .inl (cle_90, 64, .inl g2_79)), (nx_71, .inl (cnx_91, 64, .inl g3_80)), (ow_72, .inl (cow_92, 64, .inl g4_81)), (bu_68, .inl (cbu_93, 256, .inl g5_82)), (lt_67, .inr (0, [.ref lta_87, .int (nI k2_77)])), (lta_87, .inl (clt_88, 512, .inl g6_83)), (wd_66, .inr (0, [.ref wda_84, .int (nI 280)])), (wda_84, .inl (cwd_85, 280, .inl wf_86)), (a1_61, .inr (1, [.ref dE, .int 0, .int m1_94])), (a2_63, .inr (1, [.ref dE, .int 0, .int m2_95])), (a3_64, .inr (1, [.ref dE, .int 0, .int m3_96])), (dv_62, .inr (2, [.ref dal_97, .ref dvd_98, .int 0])), (dvd_98, .inr (0, [.ref dva_99, .int 0])), (q101, .inr (4, [.ref k1_103, .ref k2_104, .ref k3_105, .int 0, .int ((-1)), .null, .null, .int 0])), (k1_103, .inl (c1_106, 64, .inl (fun _ => 0))), (k2_104, .inl (c2_107, 64, .inl (fun _ => 0))), (k3_105, .inl (c3_108, 64, .inr (.inl (fun _ => 0)))), (q109, .inr (5, [.ref q101, .ref d1_111, .null, .null, .null, .int 0, .int 0])), (q112, .inr (2, [.ref al_114, .ref vd_115, .int 0])), (al_114, .inr (1, [.ref dE, .int 0, .int 0])), (vd_115, .inr (0, [.ref va_116, .int 0])), (va_116, .inl (vc_117, 64, .inl (fun _ => 0))), (q118, .inr (6, [.ref d1_120, .ref d2_121, .ref d3_122]))] := hD
  refine lv_aload_n hx hb d_SF_init_135 rfl (lv_at hl 0 rfl) ?_
  have hc0 : 64 + 1 ≤ 69 := by omega
  have hs0 : 4532 + 11 ≤ 4673 := by omega
  refine va_new (ci := 7) (fs := [.null, .null, .null, .null, .null, .null, .int 0, .int 0, .long 0, .int 0, .int 0]) (C := R_Ber) (T := F_Ber) (N := 11) hx hb htw i_Ber t_Ber t_Ber_ok hown (htw _ wd_2_168) (htw _ wd_2_169) (htw _ wd_1_18) hK hP hD hS hA rfl (by decide) hc0 hs0 d_SF_init_136 (fun q123 H hP hD hS => ?_)
  have hP : va_P (dC, dI) classes [(x0, .inr (10, [.ref q1, .ref q5, .ref q9, .ref q13, .int 0, .ref q17, .ref q59, .ref q101, .ref q109, .ref q112, .ref q118, .null, .null, .null])), (q1, .inr (0, [.ref qa_3, .int 0])), (qa_3, .inl (ca_4, 256, .inl (fun _ => 0))), (q5, .inr (0, [.ref qa_7, .int 0])), (qa_7, .inl (ca_8, 256, .inl (fun _ => 0))), (q9, .inr (0, [.ref qa_11, .int 0])), (qa_11, .inl (ca_12, 256, .inl (fun _ => 0))), (q13, .inr (0, [.ref qa_15, .int 0])), (qa_15, .inl (ca_16, 256, .inl (fun _ => 0))), (q17, .inr (3, [.ref a1_19, .ref dv_20, .int 0, .int 0, .ref a2_21, .ref a3_22, .ref a4_23, .ref wd_24, .ref lt_25, .ref bu_26, .ref st_27, .ref le_28, .ref nx_29, .ref ow_30, .int (nI s2_34), .ref sp_31, .ref ky_32, .ref sm_33, .int 0])), (st_27, .inl (cst_47, 64, .inl g1_36)), (le_28, .inl (cle_48, 64, .inl g2_37)), (nx_29, .inl (cnx_49, 64, .inl g3_38)), (ow_30, .inl (cow_50, 64, .inl g4_39)), (bu_26, .inl (cbu_51, 256, .inl g5_40)), (lt_25, .inr (0, [.ref lta_45, .int (nI k2_35)])), (lta_45, .inl (clt_46, 512, .inl g6_41)), (wd_24, .inr (0, [.ref wda_42, .int (nI 280)])), (wda_42, .inl (cwd_43, 280, .inl wf_44)), (a1_19, .inr (1, [.ref dE, .int 0, .int m1_52])), (a2_21, .inr (1, [.ref dE, .int 0, .int m2_53])), (a3_22, .inr (1, [.ref dE, .int 0, .int m3_54])), (dv_20, .inr (2, [.ref dal_55, .ref dvd_56, .int 0])), (dvd_56, .inr (0, [.ref dva_57, .int 0])), (q59, .inr (3, [.ref a1_61, .ref dv_62, .int 0, .int 0, .ref a2_63, .ref a3_64, .ref a4_65, .ref wd_66, .ref lt_67, .ref bu_68, .ref st_69, .ref le_70, .ref nx_71, .ref ow_72, .int (nI s2_76), .ref sp_73, .ref ky_74, .ref sm_75, .int 0])), (st_69, .inl (cst_89, 64, .inl g1_78)), (le_70, .inl (cle_90, 64, .inl g2_79)), (nx_71, .inl (cnx_91, 64, .inl g3_80)), (ow_72, .inl (cow_92, 64, .inl g4_81)), (bu_68, .inl (cbu_93, 256, .inl g5_82)), (lt_67, .inr (0, [.ref lta_87, .int (nI k2_77)])), (lta_87, .inl (clt_88, 512, .inl g6_83)), (wd_66, .inr (0, [.ref wda_84, .int (nI 280)])), (wda_84, .inl (cwd_85, 280, .inl wf_86)), (a1_61, .inr (1, [.ref dE, .int 0, .int m1_94])), (a2_63, .inr (1, [.ref dE, .int 0, .int m2_95])), (a3_64, .inr (1, [.ref dE, .int 0, .int m3_96])), (dv_62, .inr (2, [.ref dal_97, .ref dvd_98, .int 0])), (dvd_98, .inr (0, [.ref dva_99, .int 0])), (q101, .inr (4, [.ref k1_103, .ref k2_104, .ref k3_105, .int 0, .int ((-1)), .null, .null, .int 0])), (k1_103, .inl (c1_106, 64, .inl (fun _ => 0))), (k2_104, .inl (c2_107, 64, .inl (fun _ => 0))), (k3_105, .inl (c3_108, 64, .inr (.inl (fun _ => 0)))), (q109, .inr (5, [.ref q101, .ref d1_111, .null, .null, .null, .int 0, .int 0])), (q112, .inr (2, [.ref al_114, .ref vd_115, .int 0])), (al_114, .inr (1, [.ref dE, .int 0, .int 0])), (vd_115, .inr (0, [.ref va_116, .int 0])), (va_116, .inl (vc_117, 64, .inl (fun _ => 0))), (q118, .inr (6, [.ref d1_120, .ref d2_121, .ref d3_122])), (q123, .inr (7, [.null, .null, .null, .null, .null, .null, .int 0, .int 0, .long 0, .int 0, .int 0]))] H := hP
  have hD : va_D A [(x0, .inr (10, [.ref q1, .ref q5, .ref q9, .ref q13, .int 0, .ref q17, .ref q59, .ref q101, .ref q109, .ref q112, .ref q118, .null, .null, .null])), (q1, .inr (0, [.ref qa_3, .int 0])), (qa_3, .inl (ca_4, 256, .inl (fun _ => 0))), (q5, .inr (0, [.ref qa_7, .int 0])), (qa_7, .inl (ca_8, 256, .inl (fun _ => 0))), (q9, .inr (0, [.ref qa_11, .int 0])), (qa_11, .inl (ca_12, 256, .inl (fun _ => 0))), (q13, .inr (0, [.ref qa_15, .int 0])), (qa_15, .inl (ca_16, 256, .inl (fun _ => 0))), (q17, .inr (3, [.ref a1_19, .ref dv_20, .int 0, .int 0, .ref a2_21, .ref a3_22, .ref a4_23, .ref wd_24, .ref lt_25, .ref bu_26, .ref st_27, .ref le_28, .ref nx_29, .ref ow_30, .int (nI s2_34), .ref sp_31, .ref ky_32, .ref sm_33, .int 0])), (st_27, .inl (cst_47, 64, .inl g1_36)), (le_28, .inl (cle_48, 64, .inl g2_37)), (nx_29, .inl (cnx_49, 64, .inl g3_38)), (ow_30, .inl (cow_50, 64, .inl g4_39)), (bu_26, .inl (cbu_51, 256, .inl g5_40)), (lt_25, .inr (0, [.ref lta_45, .int (nI k2_35)])), (lta_45, .inl (clt_46, 512, .inl g6_41)), (wd_24, .inr (0, [.ref wda_42, .int (nI 280)])), (wda_42, .inl (cwd_43, 280, .inl wf_44)), (a1_19, .inr (1, [.ref dE, .int 0, .int m1_52])), (a2_21, .inr (1, [.ref dE, .int 0, .int m2_53])), (a3_22, .inr (1, [.ref dE, .int 0, .int m3_54])), (dv_20, .inr (2, [.ref dal_55, .ref dvd_56, .int 0])), (dvd_56, .inr (0, [.ref dva_57, .int 0])), (q59, .inr (3, [.ref a1_61, .ref dv_62, .int 0, .int 0, .ref a2_63, .ref a3_64, .ref a4_65, .ref wd_66, .ref lt_67, .ref bu_68, .ref st_69, .ref le_70, .ref nx_71, .ref ow_72, .int (nI s2_76), .ref sp_73, .ref ky_74, .ref sm_75, .int 0])), (st_69, .inl (cst_89, 64, .inl g1_78)), (le_70, .inl (cle_90, 64, .inl g2_79)), (nx_71, .inl (cnx_91, 64, .inl g3_80)), (ow_72, .inl (cow_92, 64, .inl g4_81)), (bu_68, .inl (cbu_93, 256, .inl g5_82)), (lt_67, .inr (0, [.ref lta_87, .int (nI k2_77)])), (lta_87, .inl (clt_88, 512, .inl g6_83)), (wd_66, .inr (0, [.ref wda_84, .int (nI 280)])), (wda_84, .inl (cwd_85, 280, .inl wf_86)), (a1_61, .inr (1, [.ref dE, .int 0, .int m1_94])), (a2_63, .inr (1, [.ref dE, .int 0, .int m2_95])), (a3_64, .inr (1, [.ref dE, .int 0, .int m3_96])), (dv_62, .inr (2, [.ref dal_97, .ref dvd_98, .int 0])), (dvd_98, .inr (0, [.ref dva_99, .int 0])), (q101, .inr (4, [.ref k1_103, .ref k2_104, .ref k3_105, .int 0, .int ((-1)), .null, .null, .int 0])), (k1_103, .inl (c1_106, 64, .inl (fun _ => 0))), (k2_104, .inl (c2_107, 64, .inl (fun _ => 0))), (k3_105, .inl (c3_108, 64, .inr (.inl (fun _ => 0)))), (q109, .inr (5, [.ref q101, .ref d1_111, .null, .null, .null, .int 0, .int 0])), (q112, .inr (2, [.ref al_114, .ref vd_115, .int 0])), (al_114, .inr (1, [.ref dE, .int 0, .int 0])), (vd_115, .inr (0, [.ref va_116, .int 0])), (va_116, .inl (vc_117, 64, .inl (fun _ => 0))), (q118, .inr (6, [.ref d1_120, .ref d2_121, .ref d3_122])), (q123, .inr (7, [.null, .null, .null, .null, .null, .null, .int 0, .int 0, .long 0, .int 0, .int 0]))] := hD
  refine lv_dup hx hb d_SF_init_139 rfl ?_
  refine lv_aload_n hx hb d_SF_init_140 rfl (lv_at hl 0 rfl) ?_
  refine va_get (D := (dC, dI)) (ci := 10) (v := .ref q112) (C := R_SF) (T := F_SF) (N := 14) hx hb htw i_SF hown hK hP 0 rfl rfl 9 (by decide) (htw _ wd_3_15) (fun _ h9 => h9) rfl d_SF_init_141 ?_
  refine lv_aload_n hx hb d_SF_init_144 rfl (lv_at hl 0 rfl) ?_
  refine va_get (D := (dC, dI)) (ci := 10) (v := .ref q118) (C := R_SF) (T := F_SF) (N := 14) hx hb htw i_SF hown hK hP 0 rfl rfl 10 (by decide) (htw _ wd_3_16) (fun _ h9 => h9) rfl d_SF_init_145 ?_
  have hc0 : 65 + 2 ≤ 69 := by omega
  have hs0 : 4543 + 122 ≤ 4673 := by omega
  have hPc := hP.sub (ws' := [(q123, .inr (7, [.null, .null, .null, .null, .null, .null, .int 0, .int 0, .long 0, .int 0, .int 0]))]) [49] rfl
  have hDc := hD.sub (ws' := [(q123, .inr (7, [.null, .null, .null, .null, .null, .null, .int 0, .int 0, .long 0, .int 0, .int 0]))]) [49] (by decide) rfl
  have hKc := hK.sub (tys' := []) [] rfl
  have hFc := va_free (wc := [(q123, .inr (7, [.null, .null, .null, .null, .null, .null, .int 0, .int 0, .long 0, .int 0, .int 0]))]) hD hS hA [49] rfl
  refine va_callv (va_runI (As := [.ref q112, .ref q118]) (rest := [.ref q123, .ref x0]) ⟨hx, hb, hml, hown, htw⟩ (c_Ber_init l dC dI H.size q123 q112 q118) (cwI 2 htw (tw_inL k_Ber_init) rfl rfl rfl (htw _ wd_1_18) (htw _ wd_2_170) (htw _ wd_2_171) rfl (by decide +kernel) ⟨Nat.le_of_ble_eq_true rfl, Nat.le_of_ble_eq_true rfl⟩) ⟨fun a U g mk q => by obtain ⟨q0, q1, qP, qK, qD⟩ := q; exact ⟨q0, q1, qP, va_K.moved (u := U) (U := U.calling g mk a) (Vm.Alike.refl U.vm) qK, qD⟩, fun U hU hW => ⟨rfl, by rw [hU], by rw [hU]; exact hPc, va_K.moved hW.alike hKc, hDc.weaken (fun _ _ _ _ => trivial)⟩⟩ rfl rfl hl.1 rfl (lv_room (Nat.le_of_ble_eq_true rfl)) d_SF_init_148 ⟨hc0, hs0⟩) hS (fun q _ h => hFc q h) hFc (fun u t H1 locs ht hvm hw hB hz1 hk1 hS => ?_)
  obtain ⟨d1_125, d2_126, hP1, hK1, hD1⟩ := hB
  rw [ht] at hP1
  have hK1 := va_K.moved hvm.symm hK1
  obtain ⟨hP, hD⟩ := va_join (wr := [(x0, .inr (10, [.ref q1, .ref q5, .ref q9, .ref q13, .int 0, .ref q17, .ref q59, .ref q101, .ref q109, .ref q112, .ref q118, .null, .null, .null])), (q1, .inr (0, [.ref qa_3, .int 0])), (qa_3, .inl (ca_4, 256, .inl (fun _ => 0))), (q5, .inr (0, [.ref qa_7, .int 0])), (qa_7, .inl (ca_8, 256, .inl (fun _ => 0))), (q9, .inr (0, [.ref qa_11, .int 0])), (qa_11, .inl (ca_12, 256, .inl (fun _ => 0))), (q13, .inr (0, [.ref qa_15, .int 0])), (qa_15, .inl (ca_16, 256, .inl (fun _ => 0))), (q17, .inr (3, [.ref a1_19, .ref dv_20, .int 0, .int 0, .ref a2_21, .ref a3_22, .ref a4_23, .ref wd_24, .ref lt_25, .ref bu_26, .ref st_27, .ref le_28, .ref nx_29, .ref ow_30, .int (nI s2_34), .ref sp_31, .ref ky_32, .ref sm_33, .int 0])), (st_27, .inl (cst_47, 64, .inl g1_36)), (le_28, .inl (cle_48, 64, .inl g2_37)), (nx_29, .inl (cnx_49, 64, .inl g3_38)), (ow_30, .inl (cow_50, 64, .inl g4_39)), (bu_26, .inl (cbu_51, 256, .inl g5_40)), (lt_25, .inr (0, [.ref lta_45, .int (nI k2_35)])), (lta_45, .inl (clt_46, 512, .inl g6_41)), (wd_24, .inr (0, [.ref wda_42, .int (nI 280)])), (wda_42, .inl (cwd_43, 280, .inl wf_44)), (a1_19, .inr (1, [.ref dE, .int 0, .int m1_52])), (a2_21, .inr (1, [.ref dE, .int 0, .int m2_53])), (a3_22, .inr (1, [.ref dE, .int 0, .int m3_54])), (dv_20, .inr (2, [.ref dal_55, .ref dvd_56, .int 0])), (dvd_56, .inr (0, [.ref dva_57, .int 0])), (q59, .inr (3, [.ref a1_61, .ref dv_62, .int 0, .int 0, .ref a2_63, .ref a3_64, .ref a4_65, .ref wd_66, .ref lt_67, .ref bu_68, .ref st_69, .ref le_70, .ref nx_71, .ref ow_72, .int (nI s2_76), .ref sp_73, .ref ky_74, .ref sm_75, .int 0])), (st_69, .inl (cst_89, 64, .inl g1_78)), (le_70, .inl (cle_90, 64, .inl g2_79)), (nx_71, .inl (cnx_91, 64, .inl g3_80)), (ow_72, .inl (cow_92, 64, .inl g4_81)), (bu_68, .inl (cbu_93, 256, .inl g5_82)), (lt_67, .inr (0, [.ref lta_87, .int (nI k2_77)])), (lta_87, .inl (clt_88, 512, .inl g6_83)), (wd_66, .inr (0, [.ref wda_84, .int (nI 280)])), (wda_84, .inl (cwd_85, 280, .inl wf_86)), (a1_61, .inr (1, [.ref dE, .int 0, .int m1_94])), (a2_63, .inr (1, [.ref dE, .int 0, .int m2_95])), (a3_64, .inr (1, [.ref dE, .int 0, .int m3_96])), (dv_62, .inr (2, [.ref dal_97, .ref dvd_98, .int 0])), (dvd_98, .inr (0, [.ref dva_99, .int 0])), (q101, .inr (4, [.ref k1_103, .ref k2_104, .ref k3_105, .int 0, .int ((-1)), .null, .null, .int 0])), (k1_103, .inl (c1_106, 64, .inl (fun _ => 0))), (k2_104, .inl (c2_107, 64, .inl (fun _ => 0))), (k3_105, .inl (c3_108, 64, .inr (.inl (fun _ => 0)))), (q109, .inr (5, [.ref q101, .ref d1_111, .null, .null, .null, .int 0, .int 0])), (q112, .inr (2, [.ref al_114, .ref vd_115, .int 0])), (al_114, .inr (1, [.ref dE, .int 0, .int 0])), (vd_115, .inr (0, [.ref va_116, .int 0])), (va_116, .inl (vc_117, 64, .inl (fun _ => 0))), (q118, .inr (6, [.ref d1_120, .ref d2_121, .ref d3_122]))]) (w1 := [(q123, .inr (7, [.ref q112, .ref q118, .ref d1_125, .ref d2_126, .null, .null, .int 0, .int 0, .long 0, .int 0, .int 0]))]) hP hD [49] [0, 1, 2, 3, 4, 5, 6, 7, 8, 9, 10, 11, 12, 13, 14, 15, 16, 17, 18, 19, 20, 21, 22, 23, 24, 25, 26, 27, 28, 29, 30, 31, 32, 33, 34, 35, 36, 37, 38, 39, 40, 41, 42, 43, 44, 45, 46, 47, 48] rfl rfl (by decide) (by decide) hk1 hFc hP1 hD1
  have hK := (hK.sub (tys' := [(ca_4, .byte), (ca_8, .byte), (ca_12, .byte), (ca_16, .byte), (cst_47, .int), (cle_48, .int), (cnx_49, .int), (cow_50, .int), (cbu_51, .int), (clt_46, .byte), (cwd_43, .byte), (cst_89, .int), (cle_90, .int), (cnx_91, .int), (cow_92, .int), (cbu_93, .int), (clt_88, .byte), (cwd_85, .byte), (c1_106, .int), (c2_107, .int), (c3_108, .long), (vc_117, .byte)]) [0, 1, 2, 3, 4, 5, 6, 7, 8, 9, 10, 11, 12, 13, 14, 15, 16, 17, 18, 19, 20, 21] rfl).app hK1
  generalize H1 = H at hP hS ⊢
  have hP : va_P (dC, dI) classes [(x0, .inr (10, [.ref q1, .ref q5, .ref q9, .ref q13, .int 0, .ref q17, .ref q59, .ref q101, .ref q109, .ref q112, .ref q118, .null, .null, .null])), (q1, .inr (0, [.ref qa_3, .int 0])), (qa_3, .inl (ca_4, 256, .inl (fun _ => 0))), (q5, .inr (0, [.ref qa_7, .int 0])), (qa_7, .inl (ca_8, 256, .inl (fun _ => 0))), (q9, .inr (0, [.ref qa_11, .int 0])), (qa_11, .inl (ca_12, 256, .inl (fun _ => 0))), (q13, .inr (0, [.ref qa_15, .int 0])), (qa_15, .inl (ca_16, 256, .inl (fun _ => 0))), (q17, .inr (3, [.ref a1_19, .ref dv_20, .int 0, .int 0, .ref a2_21, .ref a3_22, .ref a4_23, .ref wd_24, .ref lt_25, .ref bu_26, .ref st_27, .ref le_28, .ref nx_29, .ref ow_30, .int (nI s2_34), .ref sp_31, .ref ky_32, .ref sm_33, .int 0])), (st_27, .inl (cst_47, 64, .inl g1_36)), (le_28, .inl (cle_48, 64, .inl g2_37)), (nx_29, .inl (cnx_49, 64, .inl g3_38)), (ow_30, .inl (cow_50, 64, .inl g4_39)), (bu_26, .inl (cbu_51, 256, .inl g5_40)), (lt_25, .inr (0, [.ref lta_45, .int (nI k2_35)])), (lta_45, .inl (clt_46, 512, .inl g6_41)), (wd_24, .inr (0, [.ref wda_42, .int (nI 280)])), (wda_42, .inl (cwd_43, 280, .inl wf_44)), (a1_19, .inr (1, [.ref dE, .int 0, .int m1_52])), (a2_21, .inr (1, [.ref dE, .int 0, .int m2_53])), (a3_22, .inr (1, [.ref dE, .int 0, .int m3_54])), (dv_20, .inr (2, [.ref dal_55, .ref dvd_56, .int 0])), (dvd_56, .inr (0, [.ref dva_57, .int 0])), (q59, .inr (3, [.ref a1_61, .ref dv_62, .int 0, .int 0, .ref a2_63, .ref a3_64, .ref a4_65, .ref wd_66, .ref lt_67, .ref bu_68, .ref st_69, .ref le_70, .ref nx_71, .ref ow_72, .int (nI s2_76), .ref sp_73, .ref ky_74, .ref sm_75, .int 0])), (st_69, .inl (cst_89, 64, .inl g1_78)), (le_70, .inl (cle_90, 64, .inl g2_79)), (nx_71, .inl (cnx_91, 64, .inl g3_80)), (ow_72, .inl (cow_92, 64, .inl g4_81)), (bu_68, .inl (cbu_93, 256, .inl g5_82)), (lt_67, .inr (0, [.ref lta_87, .int (nI k2_77)])), (lta_87, .inl (clt_88, 512, .inl g6_83)), (wd_66, .inr (0, [.ref wda_84, .int (nI 280)])), (wda_84, .inl (cwd_85, 280, .inl wf_86)), (a1_61, .inr (1, [.ref dE, .int 0, .int m1_94])), (a2_63, .inr (1, [.ref dE, .int 0, .int m2_95])), (a3_64, .inr (1, [.ref dE, .int 0, .int m3_96])), (dv_62, .inr (2, [.ref dal_97, .ref dvd_98, .int 0])), (dvd_98, .inr (0, [.ref dva_99, .int 0])), (q101, .inr (4, [.ref k1_103, .ref k2_104, .ref k3_105, .int 0, .int ((-1)), .null, .null, .int 0])), (k1_103, .inl (c1_106, 64, .inl (fun _ => 0))), (k2_104, .inl (c2_107, 64, .inl (fun _ => 0))), (k3_105, .inl (c3_108, 64, .inr (.inl (fun _ => 0)))), (q109, .inr (5, [.ref q101, .ref d1_111, .null, .null, .null, .int 0, .int 0])), (q112, .inr (2, [.ref al_114, .ref vd_115, .int 0])), (al_114, .inr (1, [.ref dE, .int 0, .int 0])), (vd_115, .inr (0, [.ref va_116, .int 0])), (va_116, .inl (vc_117, 64, .inl (fun _ => 0))), (q118, .inr (6, [.ref d1_120, .ref d2_121, .ref d3_122])), (q123, .inr (7, [.ref q112, .ref q118, .ref d1_125, .ref d2_126, .null, .null, .int 0, .int 0, .long 0, .int 0, .int 0]))] H := hP
  have hD : va_D A [(x0, .inr (10, [.ref q1, .ref q5, .ref q9, .ref q13, .int 0, .ref q17, .ref q59, .ref q101, .ref q109, .ref q112, .ref q118, .null, .null, .null])), (q1, .inr (0, [.ref qa_3, .int 0])), (qa_3, .inl (ca_4, 256, .inl (fun _ => 0))), (q5, .inr (0, [.ref qa_7, .int 0])), (qa_7, .inl (ca_8, 256, .inl (fun _ => 0))), (q9, .inr (0, [.ref qa_11, .int 0])), (qa_11, .inl (ca_12, 256, .inl (fun _ => 0))), (q13, .inr (0, [.ref qa_15, .int 0])), (qa_15, .inl (ca_16, 256, .inl (fun _ => 0))), (q17, .inr (3, [.ref a1_19, .ref dv_20, .int 0, .int 0, .ref a2_21, .ref a3_22, .ref a4_23, .ref wd_24, .ref lt_25, .ref bu_26, .ref st_27, .ref le_28, .ref nx_29, .ref ow_30, .int (nI s2_34), .ref sp_31, .ref ky_32, .ref sm_33, .int 0])), (st_27, .inl (cst_47, 64, .inl g1_36)), (le_28, .inl (cle_48, 64, .inl g2_37)), (nx_29, .inl (cnx_49, 64, .inl g3_38)), (ow_30, .inl (cow_50, 64, .inl g4_39)), (bu_26, .inl (cbu_51, 256, .inl g5_40)), (lt_25, .inr (0, [.ref lta_45, .int (nI k2_35)])), (lta_45, .inl (clt_46, 512, .inl g6_41)), (wd_24, .inr (0, [.ref wda_42, .int (nI 280)])), (wda_42, .inl (cwd_43, 280, .inl wf_44)), (a1_19, .inr (1, [.ref dE, .int 0, .int m1_52])), (a2_21, .inr (1, [.ref dE, .int 0, .int m2_53])), (a3_22, .inr (1, [.ref dE, .int 0, .int m3_54])), (dv_20, .inr (2, [.ref dal_55, .ref dvd_56, .int 0])), (dvd_56, .inr (0, [.ref dva_57, .int 0])), (q59, .inr (3, [.ref a1_61, .ref dv_62, .int 0, .int 0, .ref a2_63, .ref a3_64, .ref a4_65, .ref wd_66, .ref lt_67, .ref bu_68, .ref st_69, .ref le_70, .ref nx_71, .ref ow_72, .int (nI s2_76), .ref sp_73, .ref ky_74, .ref sm_75, .int 0])), (st_69, .inl (cst_89, 64, .inl g1_78)), (le_70, .inl (cle_90, 64, .inl g2_79)), (nx_71, .inl (cnx_91, 64, .inl g3_80)), (ow_72, .inl (cow_92, 64, .inl g4_81)), (bu_68, .inl (cbu_93, 256, .inl g5_82)), (lt_67, .inr (0, [.ref lta_87, .int (nI k2_77)])), (lta_87, .inl (clt_88, 512, .inl g6_83)), (wd_66, .inr (0, [.ref wda_84, .int (nI 280)])), (wda_84, .inl (cwd_85, 280, .inl wf_86)), (a1_61, .inr (1, [.ref dE, .int 0, .int m1_94])), (a2_63, .inr (1, [.ref dE, .int 0, .int m2_95])), (a3_64, .inr (1, [.ref dE, .int 0, .int m3_96])), (dv_62, .inr (2, [.ref dal_97, .ref dvd_98, .int 0])), (dvd_98, .inr (0, [.ref dva_99, .int 0])), (q101, .inr (4, [.ref k1_103, .ref k2_104, .ref k3_105, .int 0, .int ((-1)), .null, .null, .int 0])), (k1_103, .inl (c1_106, 64, .inl (fun _ => 0))), (k2_104, .inl (c2_107, 64, .inl (fun _ => 0))), (k3_105, .inl (c3_108, 64, .inr (.inl (fun _ => 0)))), (q109, .inr (5, [.ref q101, .ref d1_111, .null, .null, .null, .int 0, .int 0])), (q112, .inr (2, [.ref al_114, .ref vd_115, .int 0])), (al_114, .inr (1, [.ref dE, .int 0, .int 0])), (vd_115, .inr (0, [.ref va_116, .int 0])), (va_116, .inl (vc_117, 64, .inl (fun _ => 0))), (q118, .inr (6, [.ref d1_120, .ref d2_121, .ref d3_122])), (q123, .inr (7, [.ref q112, .ref q118, .ref d1_125, .ref d2_126, .null, .null, .int 0, .int 0, .long 0, .int 0, .int 0]))] := hD
  have hK : va_K (dC, dI) classes [(ca_4, .byte), (ca_8, .byte), (ca_12, .byte), (ca_16, .byte), (cst_47, .int), (cle_48, .int), (cnx_49, .int), (cow_50, .int), (cbu_51, .int), (clt_46, .byte), (cwd_43, .byte), (cst_89, .int), (cle_90, .int), (cnx_91, .int), (cow_92, .int), (cbu_93, .int), (clt_88, .byte), (cwd_85, .byte), (c1_106, .int), (c2_107, .int), (c3_108, .long), (vc_117, .byte)] s := hK
  refine va_putF (D := (dC, dI)) (ci := 10) (v := .ref q123) (ty := .object "SyntaxForge$BerReader") (C := R_SF) (T := F_SF) (N := 14) hx hb htw i_SF t_SF t_SF_ok n_SF hown hK hP hD hS 0 rfl rfl 11 (by decide) (htw _ wd_3_17) (fun _ h9 => h9) rfl hin rfl (by decide +kernel) rfl rfl (Nat.le_of_ble_eq_true rfl) d_SF_init_151 (fun H locs hP hD hS => ?_)
  have hP : va_P (dC, dI) classes [(x0, .inr (10, [.ref q1, .ref q5, .ref q9, .ref q13, .int 0, .ref q17, .ref q59, .ref q101, .ref q109, .ref q112, .ref q118, .ref q123, .null, .null])), (q1, .inr (0, [.ref qa_3, .int 0])), (qa_3, .inl (ca_4, 256, .inl (fun _ => 0))), (q5, .inr (0, [.ref qa_7, .int 0])), (qa_7, .inl (ca_8, 256, .inl (fun _ => 0))), (q9, .inr (0, [.ref qa_11, .int 0])), (qa_11, .inl (ca_12, 256, .inl (fun _ => 0))), (q13, .inr (0, [.ref qa_15, .int 0])), (qa_15, .inl (ca_16, 256, .inl (fun _ => 0))), (q17, .inr (3, [.ref a1_19, .ref dv_20, .int 0, .int 0, .ref a2_21, .ref a3_22, .ref a4_23, .ref wd_24, .ref lt_25, .ref bu_26, .ref st_27, .ref le_28, .ref nx_29, .ref ow_30, .int (nI s2_34), .ref sp_31, .ref ky_32, .ref sm_33, .int 0])), (st_27, .inl (cst_47, 64, .inl g1_36)), (le_28, .inl (cle_48, 64, .inl g2_37)), (nx_29, .inl (cnx_49, 64, .inl g3_38)), (ow_30, .inl (cow_50, 64, .inl g4_39)), (bu_26, .inl (cbu_51, 256, .inl g5_40)), (lt_25, .inr (0, [.ref lta_45, .int (nI k2_35)])), (lta_45, .inl (clt_46, 512, .inl g6_41)), (wd_24, .inr (0, [.ref wda_42, .int (nI 280)])), (wda_42, .inl (cwd_43, 280, .inl wf_44)), (a1_19, .inr (1, [.ref dE, .int 0, .int m1_52])), (a2_21, .inr (1, [.ref dE, .int 0, .int m2_53])), (a3_22, .inr (1, [.ref dE, .int 0, .int m3_54])), (dv_20, .inr (2, [.ref dal_55, .ref dvd_56, .int 0])), (dvd_56, .inr (0, [.ref dva_57, .int 0])), (q59, .inr (3, [.ref a1_61, .ref dv_62, .int 0, .int 0, .ref a2_63, .ref a3_64, .ref a4_65, .ref wd_66, .ref lt_67, .ref bu_68, .ref st_69, .ref le_70, .ref nx_71, .ref ow_72, .int (nI s2_76), .ref sp_73, .ref ky_74, .ref sm_75, .int 0])), (st_69, .inl (cst_89, 64, .inl g1_78)), (le_70, .inl (cle_90, 64, .inl g2_79)), (nx_71, .inl (cnx_91, 64, .inl g3_80)), (ow_72, .inl (cow_92, 64, .inl g4_81)), (bu_68, .inl (cbu_93, 256, .inl g5_82)), (lt_67, .inr (0, [.ref lta_87, .int (nI k2_77)])), (lta_87, .inl (clt_88, 512, .inl g6_83)), (wd_66, .inr (0, [.ref wda_84, .int (nI 280)])), (wda_84, .inl (cwd_85, 280, .inl wf_86)), (a1_61, .inr (1, [.ref dE, .int 0, .int m1_94])), (a2_63, .inr (1, [.ref dE, .int 0, .int m2_95])), (a3_64, .inr (1, [.ref dE, .int 0, .int m3_96])), (dv_62, .inr (2, [.ref dal_97, .ref dvd_98, .int 0])), (dvd_98, .inr (0, [.ref dva_99, .int 0])), (q101, .inr (4, [.ref k1_103, .ref k2_104, .ref k3_105, .int 0, .int ((-1)), .null, .null, .int 0])), (k1_103, .inl (c1_106, 64, .inl (fun _ => 0))), (k2_104, .inl (c2_107, 64, .inl (fun _ => 0))), (k3_105, .inl (c3_108, 64, .inr (.inl (fun _ => 0)))), (q109, .inr (5, [.ref q101, .ref d1_111, .null, .null, .null, .int 0, .int 0])), (q112, .inr (2, [.ref al_114, .ref vd_115, .int 0])), (al_114, .inr (1, [.ref dE, .int 0, .int 0])), (vd_115, .inr (0, [.ref va_116, .int 0])), (va_116, .inl (vc_117, 64, .inl (fun _ => 0))), (q118, .inr (6, [.ref d1_120, .ref d2_121, .ref d3_122])), (q123, .inr (7, [.ref q112, .ref q118, .ref d1_125, .ref d2_126, .null, .null, .int 0, .int 0, .long 0, .int 0, .int 0]))] H := hP
  have hD : va_D A [(x0, .inr (10, [.ref q1, .ref q5, .ref q9, .ref q13, .int 0, .ref q17, .ref q59, .ref q101, .ref q109, .ref q112, .ref q118, .ref q123, .null, .null])), (q1, .inr (0, [.ref qa_3, .int 0])), (qa_3, .inl (ca_4, 256, .inl (fun _ => 0))), (q5, .inr (0, [.ref qa_7, .int 0])), (qa_7, .inl (ca_8, 256, .inl (fun _ => 0))), (q9, .inr (0, [.ref qa_11, .int 0])), (qa_11, .inl (ca_12, 256, .inl (fun _ => 0))), (q13, .inr (0, [.ref qa_15, .int 0])), (qa_15, .inl (ca_16, 256, .inl (fun _ => 0))), (q17, .inr (3, [.ref a1_19, .ref dv_20, .int 0, .int 0, .ref a2_21, .ref a3_22, .ref a4_23, .ref wd_24, .ref lt_25, .ref bu_26, .ref st_27, .ref le_28, .ref nx_29, .ref ow_30, .int (nI s2_34), .ref sp_31, .ref ky_32, .ref sm_33, .int 0])), (st_27, .inl (cst_47, 64, .inl g1_36)), (le_28, .inl (cle_48, 64, .inl g2_37)), (nx_29, .inl (cnx_49, 64, .inl g3_38)), (ow_30, .inl (cow_50, 64, .inl g4_39)), (bu_26, .inl (cbu_51, 256, .inl g5_40)), (lt_25, .inr (0, [.ref lta_45, .int (nI k2_35)])), (lta_45, .inl (clt_46, 512, .inl g6_41)), (wd_24, .inr (0, [.ref wda_42, .int (nI 280)])), (wda_42, .inl (cwd_43, 280, .inl wf_44)), (a1_19, .inr (1, [.ref dE, .int 0, .int m1_52])), (a2_21, .inr (1, [.ref dE, .int 0, .int m2_53])), (a3_22, .inr (1, [.ref dE, .int 0, .int m3_54])), (dv_20, .inr (2, [.ref dal_55, .ref dvd_56, .int 0])), (dvd_56, .inr (0, [.ref dva_57, .int 0])), (q59, .inr (3, [.ref a1_61, .ref dv_62, .int 0, .int 0, .ref a2_63, .ref a3_64, .ref a4_65, .ref wd_66, .ref lt_67, .ref bu_68, .ref st_69, .ref le_70, .ref nx_71, .ref ow_72, .int (nI s2_76), .ref sp_73, .ref ky_74, .ref sm_75, .int 0])), (st_69, .inl (cst_89, 64, .inl g1_78)), (le_70, .inl (cle_90, 64, .inl g2_79)), (nx_71, .inl (cnx_91, 64, .inl g3_80)), (ow_72, .inl (cow_92, 64, .inl g4_81)), (bu_68, .inl (cbu_93, 256, .inl g5_82)), (lt_67, .inr (0, [.ref lta_87, .int (nI k2_77)])), (lta_87, .inl (clt_88, 512, .inl g6_83)), (wd_66, .inr (0, [.ref wda_84, .int (nI 280)])), (wda_84, .inl (cwd_85, 280, .inl wf_86)), (a1_61, .inr (1, [.ref dE, .int 0, .int m1_94])), (a2_63, .inr (1, [.ref dE, .int 0, .int m2_95])), (a3_64, .inr (1, [.ref dE, .int 0, .int m3_96])), (dv_62, .inr (2, [.ref dal_97, .ref dvd_98, .int 0])), (dvd_98, .inr (0, [.ref dva_99, .int 0])), (q101, .inr (4, [.ref k1_103, .ref k2_104, .ref k3_105, .int 0, .int ((-1)), .null, .null, .int 0])), (k1_103, .inl (c1_106, 64, .inl (fun _ => 0))), (k2_104, .inl (c2_107, 64, .inl (fun _ => 0))), (k3_105, .inl (c3_108, 64, .inr (.inl (fun _ => 0)))), (q109, .inr (5, [.ref q101, .ref d1_111, .null, .null, .null, .int 0, .int 0])), (q112, .inr (2, [.ref al_114, .ref vd_115, .int 0])), (al_114, .inr (1, [.ref dE, .int 0, .int 0])), (vd_115, .inr (0, [.ref va_116, .int 0])), (va_116, .inl (vc_117, 64, .inl (fun _ => 0))), (q118, .inr (6, [.ref d1_120, .ref d2_121, .ref d3_122])), (q123, .inr (7, [.ref q112, .ref q118, .ref d1_125, .ref d2_126, .null, .null, .int 0, .int 0, .long 0, .int 0, .int 0]))] := hD
  refine lv_aload_n hx hb d_SF_init_154 rfl (lv_at hl 0 rfl) ?_
  have hc0 : 67 + 1 ≤ 69 := by omega
  have hs0 : 4665 + 2 ≤ 4673 := by omega
  refine va_new (ci := 8) (fs := [.null, .int 0]) (C := R_PerW) (T := F_PerW) (N := 2) hx hb htw i_PerW t_PerW t_PerW_ok hown (htw _ wd_2_208) (htw _ wd_2_209) (htw _ wd_1_19) hK hP hD hS hA rfl (by decide) hc0 hs0 d_SF_init_155 (fun q127 H hP hD hS => ?_)
  have hP : va_P (dC, dI) classes [(x0, .inr (10, [.ref q1, .ref q5, .ref q9, .ref q13, .int 0, .ref q17, .ref q59, .ref q101, .ref q109, .ref q112, .ref q118, .ref q123, .null, .null])), (q1, .inr (0, [.ref qa_3, .int 0])), (qa_3, .inl (ca_4, 256, .inl (fun _ => 0))), (q5, .inr (0, [.ref qa_7, .int 0])), (qa_7, .inl (ca_8, 256, .inl (fun _ => 0))), (q9, .inr (0, [.ref qa_11, .int 0])), (qa_11, .inl (ca_12, 256, .inl (fun _ => 0))), (q13, .inr (0, [.ref qa_15, .int 0])), (qa_15, .inl (ca_16, 256, .inl (fun _ => 0))), (q17, .inr (3, [.ref a1_19, .ref dv_20, .int 0, .int 0, .ref a2_21, .ref a3_22, .ref a4_23, .ref wd_24, .ref lt_25, .ref bu_26, .ref st_27, .ref le_28, .ref nx_29, .ref ow_30, .int (nI s2_34), .ref sp_31, .ref ky_32, .ref sm_33, .int 0])), (st_27, .inl (cst_47, 64, .inl g1_36)), (le_28, .inl (cle_48, 64, .inl g2_37)), (nx_29, .inl (cnx_49, 64, .inl g3_38)), (ow_30, .inl (cow_50, 64, .inl g4_39)), (bu_26, .inl (cbu_51, 256, .inl g5_40)), (lt_25, .inr (0, [.ref lta_45, .int (nI k2_35)])), (lta_45, .inl (clt_46, 512, .inl g6_41)), (wd_24, .inr (0, [.ref wda_42, .int (nI 280)])), (wda_42, .inl (cwd_43, 280, .inl wf_44)), (a1_19, .inr (1, [.ref dE, .int 0, .int m1_52])), (a2_21, .inr (1, [.ref dE, .int 0, .int m2_53])), (a3_22, .inr (1, [.ref dE, .int 0, .int m3_54])), (dv_20, .inr (2, [.ref dal_55, .ref dvd_56, .int 0])), (dvd_56, .inr (0, [.ref dva_57, .int 0])), (q59, .inr (3, [.ref a1_61, .ref dv_62, .int 0, .int 0, .ref a2_63, .ref a3_64, .ref a4_65, .ref wd_66, .ref lt_67, .ref bu_68, .ref st_69, .ref le_70, .ref nx_71, .ref ow_72, .int (nI s2_76), .ref sp_73, .ref ky_74, .ref sm_75, .int 0])), (st_69, .inl (cst_89, 64, .inl g1_78)), (le_70, .inl (cle_90, 64, .inl g2_79)), (nx_71, .inl (cnx_91, 64, .inl g3_80)), (ow_72, .inl (cow_92, 64, .inl g4_81)), (bu_68, .inl (cbu_93, 256, .inl g5_82)), (lt_67, .inr (0, [.ref lta_87, .int (nI k2_77)])), (lta_87, .inl (clt_88, 512, .inl g6_83)), (wd_66, .inr (0, [.ref wda_84, .int (nI 280)])), (wda_84, .inl (cwd_85, 280, .inl wf_86)), (a1_61, .inr (1, [.ref dE, .int 0, .int m1_94])), (a2_63, .inr (1, [.ref dE, .int 0, .int m2_95])), (a3_64, .inr (1, [.ref dE, .int 0, .int m3_96])), (dv_62, .inr (2, [.ref dal_97, .ref dvd_98, .int 0])), (dvd_98, .inr (0, [.ref dva_99, .int 0])), (q101, .inr (4, [.ref k1_103, .ref k2_104, .ref k3_105, .int 0, .int ((-1)), .null, .null, .int 0])), (k1_103, .inl (c1_106, 64, .inl (fun _ => 0))), (k2_104, .inl (c2_107, 64, .inl (fun _ => 0))), (k3_105, .inl (c3_108, 64, .inr (.inl (fun _ => 0)))), (q109, .inr (5, [.ref q101, .ref d1_111, .null, .null, .null, .int 0, .int 0])), (q112, .inr (2, [.ref al_114, .ref vd_115, .int 0])), (al_114, .inr (1, [.ref dE, .int 0, .int 0])), (vd_115, .inr (0, [.ref va_116, .int 0])), (va_116, .inl (vc_117, 64, .inl (fun _ => 0))), (q118, .inr (6, [.ref d1_120, .ref d2_121, .ref d3_122])), (q123, .inr (7, [.ref q112, .ref q118, .ref d1_125, .ref d2_126, .null, .null, .int 0, .int 0, .long 0, .int 0, .int 0])), (q127, .inr (8, [.null, .int 0]))] H := hP
  have hD : va_D A [(x0, .inr (10, [.ref q1, .ref q5, .ref q9, .ref q13, .int 0, .ref q17, .ref q59, .ref q101, .ref q109, .ref q112, .ref q118, .ref q123, .null, .null])), (q1, .inr (0, [.ref qa_3, .int 0])), (qa_3, .inl (ca_4, 256, .inl (fun _ => 0))), (q5, .inr (0, [.ref qa_7, .int 0])), (qa_7, .inl (ca_8, 256, .inl (fun _ => 0))), (q9, .inr (0, [.ref qa_11, .int 0])), (qa_11, .inl (ca_12, 256, .inl (fun _ => 0))), (q13, .inr (0, [.ref qa_15, .int 0])), (qa_15, .inl (ca_16, 256, .inl (fun _ => 0))), (q17, .inr (3, [.ref a1_19, .ref dv_20, .int 0, .int 0, .ref a2_21, .ref a3_22, .ref a4_23, .ref wd_24, .ref lt_25, .ref bu_26, .ref st_27, .ref le_28, .ref nx_29, .ref ow_30, .int (nI s2_34), .ref sp_31, .ref ky_32, .ref sm_33, .int 0])), (st_27, .inl (cst_47, 64, .inl g1_36)), (le_28, .inl (cle_48, 64, .inl g2_37)), (nx_29, .inl (cnx_49, 64, .inl g3_38)), (ow_30, .inl (cow_50, 64, .inl g4_39)), (bu_26, .inl (cbu_51, 256, .inl g5_40)), (lt_25, .inr (0, [.ref lta_45, .int (nI k2_35)])), (lta_45, .inl (clt_46, 512, .inl g6_41)), (wd_24, .inr (0, [.ref wda_42, .int (nI 280)])), (wda_42, .inl (cwd_43, 280, .inl wf_44)), (a1_19, .inr (1, [.ref dE, .int 0, .int m1_52])), (a2_21, .inr (1, [.ref dE, .int 0, .int m2_53])), (a3_22, .inr (1, [.ref dE, .int 0, .int m3_54])), (dv_20, .inr (2, [.ref dal_55, .ref dvd_56, .int 0])), (dvd_56, .inr (0, [.ref dva_57, .int 0])), (q59, .inr (3, [.ref a1_61, .ref dv_62, .int 0, .int 0, .ref a2_63, .ref a3_64, .ref a4_65, .ref wd_66, .ref lt_67, .ref bu_68, .ref st_69, .ref le_70, .ref nx_71, .ref ow_72, .int (nI s2_76), .ref sp_73, .ref ky_74, .ref sm_75, .int 0])), (st_69, .inl (cst_89, 64, .inl g1_78)), (le_70, .inl (cle_90, 64, .inl g2_79)), (nx_71, .inl (cnx_91, 64, .inl g3_80)), (ow_72, .inl (cow_92, 64, .inl g4_81)), (bu_68, .inl (cbu_93, 256, .inl g5_82)), (lt_67, .inr (0, [.ref lta_87, .int (nI k2_77)])), (lta_87, .inl (clt_88, 512, .inl g6_83)), (wd_66, .inr (0, [.ref wda_84, .int (nI 280)])), (wda_84, .inl (cwd_85, 280, .inl wf_86)), (a1_61, .inr (1, [.ref dE, .int 0, .int m1_94])), (a2_63, .inr (1, [.ref dE, .int 0, .int m2_95])), (a3_64, .inr (1, [.ref dE, .int 0, .int m3_96])), (dv_62, .inr (2, [.ref dal_97, .ref dvd_98, .int 0])), (dvd_98, .inr (0, [.ref dva_99, .int 0])), (q101, .inr (4, [.ref k1_103, .ref k2_104, .ref k3_105, .int 0, .int ((-1)), .null, .null, .int 0])), (k1_103, .inl (c1_106, 64, .inl (fun _ => 0))), (k2_104, .inl (c2_107, 64, .inl (fun _ => 0))), (k3_105, .inl (c3_108, 64, .inr (.inl (fun _ => 0)))), (q109, .inr (5, [.ref q101, .ref d1_111, .null, .null, .null, .int 0, .int 0])), (q112, .inr (2, [.ref al_114, .ref vd_115, .int 0])), (al_114, .inr (1, [.ref dE, .int 0, .int 0])), (vd_115, .inr (0, [.ref va_116, .int 0])), (va_116, .inl (vc_117, 64, .inl (fun _ => 0))), (q118, .inr (6, [.ref d1_120, .ref d2_121, .ref d3_122])), (q123, .inr (7, [.ref q112, .ref q118, .ref d1_125, .ref d2_126, .null, .null, .int 0, .int 0, .long 0, .int 0, .int 0])), (q127, .inr (8, [.null, .int 0]))] := hD
  refine lv_dup hx hb d_SF_init_158 rfl ?_
  have hc0 : 68 + 0 ≤ 69 := by omega
  have hs0 : 4667 + 0 ≤ 4673 := by omega
  have hPc := hP.sub (ws' := [(q127, .inr (8, [.null, .int 0]))]) [50] rfl
  have hDc := hD.sub (ws' := [(q127, .inr (8, [.null, .int 0]))]) [50] (by decide) rfl
  have hKc := hK.sub (tys' := []) [] rfl
  have hFc := va_free (wc := [(q127, .inr (8, [.null, .int 0]))]) hD hS hA [50] rfl
  refine va_callv (va_runI (As := []) (rest := [.ref q127, .ref x0]) ⟨hx, hb, hml, hown, htw⟩ (c_PerW_init l dC dI H.size q127) (cwI 0 htw (tw_inL k_PerW_init) rfl rfl rfl (htw _ wd_1_19) (htw _ wd_2_210) (htw _ wd_2_211) rfl (by decide +kernel) ⟨Nat.le_of_ble_eq_true rfl, Nat.le_of_ble_eq_true rfl⟩) ⟨fun a U g mk q => by obtain ⟨q0, q1, qP, qK, qD⟩ := q; exact ⟨q0, q1, qP, va_K.moved (u := U) (U := U.calling g mk a) (Vm.Alike.refl U.vm) qK, qD⟩, fun U hU hW => ⟨rfl, by rw [hU], by rw [hU]; exact hPc, va_K.moved hW.alike hKc, hDc.weaken (fun _ _ _ _ => trivial)⟩⟩ rfl rfl hl.1 rfl (lv_room (Nat.le_of_ble_eq_true rfl)) d_SF_init_159 ⟨hc0, hs0⟩) hS (fun q _ h => hFc q h) hFc (fun u t H1 locs ht hvm hw hB hz1 hk1 hS => ?_)
  obtain ⟨hP1, hK1, hD1⟩ := hB
  rw [ht] at hP1
  have hK1 := va_K.moved hvm.symm hK1
  obtain ⟨hP, hD⟩ := va_join (wr := [(x0, .inr (10, [.ref q1, .ref q5, .ref q9, .ref q13, .int 0, .ref q17, .ref q59, .ref q101, .ref q109, .ref q112, .ref q118, .ref q123, .null, .null])), (q1, .inr (0, [.ref qa_3, .int 0])), (qa_3, .inl (ca_4, 256, .inl (fun _ => 0))), (q5, .inr (0, [.ref qa_7, .int 0])), (qa_7, .inl (ca_8, 256, .inl (fun _ => 0))), (q9, .inr (0, [.ref qa_11, .int 0])), (qa_11, .inl (ca_12, 256, .inl (fun _ => 0))), (q13, .inr (0, [.ref qa_15, .int 0])), (qa_15, .inl (ca_16, 256, .inl (fun _ => 0))), (q17, .inr (3, [.ref a1_19, .ref dv_20, .int 0, .int 0, .ref a2_21, .ref a3_22, .ref a4_23, .ref wd_24, .ref lt_25, .ref bu_26, .ref st_27, .ref le_28, .ref nx_29, .ref ow_30, .int (nI s2_34), .ref sp_31, .ref ky_32, .ref sm_33, .int 0])), (st_27, .inl (cst_47, 64, .inl g1_36)), (le_28, .inl (cle_48, 64, .inl g2_37)), (nx_29, .inl (cnx_49, 64, .inl g3_38)), (ow_30, .inl (cow_50, 64, .inl g4_39)), (bu_26, .inl (cbu_51, 256, .inl g5_40)), (lt_25, .inr (0, [.ref lta_45, .int (nI k2_35)])), (lta_45, .inl (clt_46, 512, .inl g6_41)), (wd_24, .inr (0, [.ref wda_42, .int (nI 280)])), (wda_42, .inl (cwd_43, 280, .inl wf_44)), (a1_19, .inr (1, [.ref dE, .int 0, .int m1_52])), (a2_21, .inr (1, [.ref dE, .int 0, .int m2_53])), (a3_22, .inr (1, [.ref dE, .int 0, .int m3_54])), (dv_20, .inr (2, [.ref dal_55, .ref dvd_56, .int 0])), (dvd_56, .inr (0, [.ref dva_57, .int 0])), (q59, .inr (3, [.ref a1_61, .ref dv_62, .int 0, .int 0, .ref a2_63, .ref a3_64, .ref a4_65, .ref wd_66, .ref lt_67, .ref bu_68, .ref st_69, .ref le_70, .ref nx_71, .ref ow_72, .int (nI s2_76), .ref sp_73, .ref ky_74, .ref sm_75, .int 0])), (st_69, .inl (cst_89, 64, .inl g1_78)), (le_70, .inl (cle_90, 64, .inl g2_79)), (nx_71, .inl (cnx_91, 64, .inl g3_80)), (ow_72, .inl (cow_92, 64, .inl g4_81)), (bu_68, .inl (cbu_93, 256, .inl g5_82)), (lt_67, .inr (0, [.ref lta_87, .int (nI k2_77)])), (lta_87, .inl (clt_88, 512, .inl g6_83)), (wd_66, .inr (0, [.ref wda_84, .int (nI 280)])), (wda_84, .inl (cwd_85, 280, .inl wf_86)), (a1_61, .inr (1, [.ref dE, .int 0, .int m1_94])), (a2_63, .inr (1, [.ref dE, .int 0, .int m2_95])), (a3_64, .inr (1, [.ref dE, .int 0, .int m3_96])), (dv_62, .inr (2, [.ref dal_97, .ref dvd_98, .int 0])), (dvd_98, .inr (0, [.ref dva_99, .int 0])), (q101, .inr (4, [.ref k1_103, .ref k2_104, .ref k3_105, .int 0, .int ((-1)), .null, .null, .int 0])), (k1_103, .inl (c1_106, 64, .inl (fun _ => 0))), (k2_104, .inl (c2_107, 64, .inl (fun _ => 0))), (k3_105, .inl (c3_108, 64, .inr (.inl (fun _ => 0)))), (q109, .inr (5, [.ref q101, .ref d1_111, .null, .null, .null, .int 0, .int 0])), (q112, .inr (2, [.ref al_114, .ref vd_115, .int 0])), (al_114, .inr (1, [.ref dE, .int 0, .int 0])), (vd_115, .inr (0, [.ref va_116, .int 0])), (va_116, .inl (vc_117, 64, .inl (fun _ => 0))), (q118, .inr (6, [.ref d1_120, .ref d2_121, .ref d3_122])), (q123, .inr (7, [.ref q112, .ref q118, .ref d1_125, .ref d2_126, .null, .null, .int 0, .int 0, .long 0, .int 0, .int 0]))]) (w1 := [(q127, .inr (8, [.null, .int 0]))]) hP hD [50] [0, 1, 2, 3, 4, 5, 6, 7, 8, 9, 10, 11, 12, 13, 14, 15, 16, 17, 18, 19, 20, 21, 22, 23, 24, 25, 26, 27, 28, 29, 30, 31, 32, 33, 34, 35, 36, 37, 38, 39, 40, 41, 42, 43, 44, 45, 46, 47, 48, 49] rfl rfl (by decide) (by decide) hk1 hFc hP1 hD1
  have hK := (hK.sub (tys' := [(ca_4, .byte), (ca_8, .byte), (ca_12, .byte), (ca_16, .byte), (cst_47, .int), (cle_48, .int), (cnx_49, .int), (cow_50, .int), (cbu_51, .int), (clt_46, .byte), (cwd_43, .byte), (cst_89, .int), (cle_90, .int), (cnx_91, .int), (cow_92, .int), (cbu_93, .int), (clt_88, .byte), (cwd_85, .byte), (c1_106, .int), (c2_107, .int), (c3_108, .long), (vc_117, .byte)]) [0, 1, 2, 3, 4, 5, 6, 7, 8, 9, 10, 11, 12, 13, 14, 15, 16, 17, 18, 19, 20, 21] rfl).app hK1
  generalize H1 = H at hP hS ⊢
  have hP : va_P (dC, dI) classes [(x0, .inr (10, [.ref q1, .ref q5, .ref q9, .ref q13, .int 0, .ref q17, .ref q59, .ref q101, .ref q109, .ref q112, .ref q118, .ref q123, .null, .null])), (q1, .inr (0, [.ref qa_3, .int 0])), (qa_3, .inl (ca_4, 256, .inl (fun _ => 0))), (q5, .inr (0, [.ref qa_7, .int 0])), (qa_7, .inl (ca_8, 256, .inl (fun _ => 0))), (q9, .inr (0, [.ref qa_11, .int 0])), (qa_11, .inl (ca_12, 256, .inl (fun _ => 0))), (q13, .inr (0, [.ref qa_15, .int 0])), (qa_15, .inl (ca_16, 256, .inl (fun _ => 0))), (q17, .inr (3, [.ref a1_19, .ref dv_20, .int 0, .int 0, .ref a2_21, .ref a3_22, .ref a4_23, .ref wd_24, .ref lt_25, .ref bu_26, .ref st_27, .ref le_28, .ref nx_29, .ref ow_30, .int (nI s2_34), .ref sp_31, .ref ky_32, .ref sm_33, .int 0])), (st_27, .inl (cst_47, 64, .inl g1_36)), (le_28, .inl (cle_48, 64, .inl g2_37)), (nx_29, .inl (cnx_49, 64, .inl g3_38)), (ow_30, .inl (cow_50, 64, .inl g4_39)), (bu_26, .inl (cbu_51, 256, .inl g5_40)), (lt_25, .inr (0, [.ref lta_45, .int (nI k2_35)])), (lta_45, .inl (clt_46, 512, .inl g6_41)), (wd_24, .inr (0, [.ref wda_42, .int (nI 280)])), (wda_42, .inl (cwd_43, 280, .inl wf_44)), (a1_19, .inr (1, [.ref dE, .int 0, .int m1_52])), (a2_21, .inr (1, [.ref dE, .int 0, .int m2_53])), (a3_22, .inr (1, [.ref dE, .int 0, .int m3_54])), (dv_20, .inr (2, [.ref dal_55, .ref dvd_56, .int 0])), (dvd_56, .inr (0, [.ref dva_57, .int 0])), (q59, .inr (3, [.ref a1_61, .ref dv_62, .int 0, .int 0, .ref a2_63, .ref a3_64, .ref a4_65, .ref wd_66, .ref lt_67, .ref bu_68, .ref st_69, .ref le_70, .ref nx_71, .ref ow_72, .int (nI s2_76), .ref sp_73, .ref ky_74, .ref sm_75, .int 0])), (st_69, .inl (cst_89, 64, .inl g1_78)), (le_70, .inl (cle_90, 64, .inl g2_79)), (nx_71, .inl (cnx_91, 64, .inl g3_80)), (ow_72, .inl (cow_92, 64, .inl g4_81)), (bu_68, .inl (cbu_93, 256, .inl g5_82)), (lt_67, .inr (0, [.ref lta_87, .int (nI k2_77)])), (lta_87, .inl (clt_88, 512, .inl g6_83)), (wd_66, .inr (0, [.ref wda_84, .int (nI 280)])), (wda_84, .inl (cwd_85, 280, .inl wf_86)), (a1_61, .inr (1, [.ref dE, .int 0, .int m1_94])), (a2_63, .inr (1, [.ref dE, .int 0, .int m2_95])), (a3_64, .inr (1, [.ref dE, .int 0, .int m3_96])), (dv_62, .inr (2, [.ref dal_97, .ref dvd_98, .int 0])), (dvd_98, .inr (0, [.ref dva_99, .int 0])), (q101, .inr (4, [.ref k1_103, .ref k2_104, .ref k3_105, .int 0, .int ((-1)), .null, .null, .int 0])), (k1_103, .inl (c1_106, 64, .inl (fun _ => 0))), (k2_104, .inl (c2_107, 64, .inl (fun _ => 0))), (k3_105, .inl (c3_108, 64, .inr (.inl (fun _ => 0)))), (q109, .inr (5, [.ref q101, .ref d1_111, .null, .null, .null, .int 0, .int 0])), (q112, .inr (2, [.ref al_114, .ref vd_115, .int 0])), (al_114, .inr (1, [.ref dE, .int 0, .int 0])), (vd_115, .inr (0, [.ref va_116, .int 0])), (va_116, .inl (vc_117, 64, .inl (fun _ => 0))), (q118, .inr (6, [.ref d1_120, .ref d2_121, .ref d3_122])), (q123, .inr (7, [.ref q112, .ref q118, .ref d1_125, .ref d2_126, .null, .null, .int 0, .int 0, .long 0, .int 0, .int 0])), (q127, .inr (8, [.null, .int 0]))] H := hP
  have hD : va_D A [(x0, .inr (10, [.ref q1, .ref q5, .ref q9, .ref q13, .int 0, .ref q17, .ref q59, .ref q101, .ref q109, .ref q112, .ref q118, .ref q123, .null, .null])), (q1, .inr (0, [.ref qa_3, .int 0])), (qa_3, .inl (ca_4, 256, .inl (fun _ => 0))), (q5, .inr (0, [.ref qa_7, .int 0])), (qa_7, .inl (ca_8, 256, .inl (fun _ => 0))), (q9, .inr (0, [.ref qa_11, .int 0])), (qa_11, .inl (ca_12, 256, .inl (fun _ => 0))), (q13, .inr (0, [.ref qa_15, .int 0])), (qa_15, .inl (ca_16, 256, .inl (fun _ => 0))), (q17, .inr (3, [.ref a1_19, .ref dv_20, .int 0, .int 0, .ref a2_21, .ref a3_22, .ref a4_23, .ref wd_24, .ref lt_25, .ref bu_26, .ref st_27, .ref le_28, .ref nx_29, .ref ow_30, .int (nI s2_34), .ref sp_31, .ref ky_32, .ref sm_33, .int 0])), (st_27, .inl (cst_47, 64, .inl g1_36)), (le_28, .inl (cle_48, 64, .inl g2_37)), (nx_29, .inl (cnx_49, 64, .inl g3_38)), (ow_30, .inl (cow_50, 64, .inl g4_39)), (bu_26, .inl (cbu_51, 256, .inl g5_40)), (lt_25, .inr (0, [.ref lta_45, .int (nI k2_35)])), (lta_45, .inl (clt_46, 512, .inl g6_41)), (wd_24, .inr (0, [.ref wda_42, .int (nI 280)])), (wda_42, .inl (cwd_43, 280, .inl wf_44)), (a1_19, .inr (1, [.ref dE, .int 0, .int m1_52])), (a2_21, .inr (1, [.ref dE, .int 0, .int m2_53])), (a3_22, .inr (1, [.ref dE, .int 0, .int m3_54])), (dv_20, .inr (2, [.ref dal_55, .ref dvd_56, .int 0])), (dvd_56, .inr (0, [.ref dva_57, .int 0])), (q59, .inr (3, [.ref a1_61, .ref dv_62, .int 0, .int 0, .ref a2_63, .ref a3_64, .ref a4_65, .ref wd_66, .ref lt_67, .ref bu_68, .ref st_69, .ref le_70, .ref nx_71, .ref ow_72, .int (nI s2_76), .ref sp_73, .ref ky_74, .ref sm_75, .int 0])), (st_69, .inl (cst_89, 64, .inl g1_78)), (le_70, .inl (cle_90, 64, .inl g2_79)), (nx_71, .inl (cnx_91, 64, .inl g3_80)), (ow_72, .inl (cow_92, 64, .inl g4_81)), (bu_68, .inl (cbu_93, 256, .inl g5_82)), (lt_67, .inr (0, [.ref lta_87, .int (nI k2_77)])), (lta_87, .inl (clt_88, 512, .inl g6_83)), (wd_66, .inr (0, [.ref wda_84, .int (nI 280)])), (wda_84, .inl (cwd_85, 280, .inl wf_86)), (a1_61, .inr (1, [.ref dE, .int 0, .int m1_94])), (a2_63, .inr (1, [.ref dE, .int 0, .int m2_95])), (a3_64, .inr (1, [.ref dE, .int 0, .int m3_96])), (dv_62, .inr (2, [.ref dal_97, .ref dvd_98, .int 0])), (dvd_98, .inr (0, [.ref dva_99, .int 0])), (q101, .inr (4, [.ref k1_103, .ref k2_104, .ref k3_105, .int 0, .int ((-1)), .null, .null, .int 0])), (k1_103, .inl (c1_106, 64, .inl (fun _ => 0))), (k2_104, .inl (c2_107, 64, .inl (fun _ => 0))), (k3_105, .inl (c3_108, 64, .inr (.inl (fun _ => 0)))), (q109, .inr (5, [.ref q101, .ref d1_111, .null, .null, .null, .int 0, .int 0])), (q112, .inr (2, [.ref al_114, .ref vd_115, .int 0])), (al_114, .inr (1, [.ref dE, .int 0, .int 0])), (vd_115, .inr (0, [.ref va_116, .int 0])), (va_116, .inl (vc_117, 64, .inl (fun _ => 0))), (q118, .inr (6, [.ref d1_120, .ref d2_121, .ref d3_122])), (q123, .inr (7, [.ref q112, .ref q118, .ref d1_125, .ref d2_126, .null, .null, .int 0, .int 0, .long 0, .int 0, .int 0])), (q127, .inr (8, [.null, .int 0]))] := hD
  have hK : va_K (dC, dI) classes [(ca_4, .byte), (ca_8, .byte), (ca_12, .byte), (ca_16, .byte), (cst_47, .int), (cle_48, .int), (cnx_49, .int), (cow_50, .int), (cbu_51, .int), (clt_46, .byte), (cwd_43, .byte), (cst_89, .int), (cle_90, .int), (cnx_91, .int), (cow_92, .int), (cbu_93, .int), (clt_88, .byte), (cwd_85, .byte), (c1_106, .int), (c2_107, .int), (c3_108, .long), (vc_117, .byte)] s := hK
  refine va_putF (D := (dC, dI)) (ci := 10) (v := .ref q127) (ty := .object "SyntaxForge$PerWriter") (C := R_SF) (T := F_SF) (N := 14) hx hb htw i_SF t_SF t_SF_ok n_SF hown hK hP hD hS 0 rfl rfl 12 (by decide) (htw _ wd_3_18) (fun _ h9 => h9) rfl hin rfl (by decide +kernel) rfl rfl (Nat.le_of_ble_eq_true rfl) d_SF_init_162 (fun H locs hP hD hS => ?_)
  have hP : va_P (dC, dI) classes [(x0, .inr (10, [.ref q1, .ref q5, .ref q9, .ref q13, .int 0, .ref q17, .ref q59, .ref q101, .ref q109, .ref q112, .ref q118, .ref q123, .ref q127, .null])), (q1, .inr (0, [.ref qa_3, .int 0])), (qa_3, .inl (ca_4, 256, .inl (fun _ => 0))), (q5, .inr (0, [.ref qa_7, .int 0])), (qa_7, .inl (ca_8, 256, .inl (fun _ => 0))), (q9, .inr (0, [.ref qa_11, .int 0])), (qa_11, .inl (ca_12, 256, .inl (fun _ => 0))), (q13, .inr (0, [.ref qa_15, .int 0])), (qa_15, .inl (ca_16, 256, .inl (fun _ => 0))), (q17, .inr (3, [.ref a1_19, .ref dv_20, .int 0, .int 0, .ref a2_21, .ref a3_22, .ref a4_23, .ref wd_24, .ref lt_25, .ref bu_26, .ref st_27, .ref le_28, .ref nx_29, .ref ow_30, .int (nI s2_34), .ref sp_31, .ref ky_32, .ref sm_33, .int 0])), (st_27, .inl (cst_47, 64, .inl g1_36)), (le_28, .inl (cle_48, 64, .inl g2_37)), (nx_29, .inl (cnx_49, 64, .inl g3_38)), (ow_30, .inl (cow_50, 64, .inl g4_39)), (bu_26, .inl (cbu_51, 256, .inl g5_40)), (lt_25, .inr (0, [.ref lta_45, .int (nI k2_35)])), (lta_45, .inl (clt_46, 512, .inl g6_41)), (wd_24, .inr (0, [.ref wda_42, .int (nI 280)])), (wda_42, .inl (cwd_43, 280, .inl wf_44)), (a1_19, .inr (1, [.ref dE, .int 0, .int m1_52])), (a2_21, .inr (1, [.ref dE, .int 0, .int m2_53])), (a3_22, .inr (1, [.ref dE, .int 0, .int m3_54])), (dv_20, .inr (2, [.ref dal_55, .ref dvd_56, .int 0])), (dvd_56, .inr (0, [.ref dva_57, .int 0])), (q59, .inr (3, [.ref a1_61, .ref dv_62, .int 0, .int 0, .ref a2_63, .ref a3_64, .ref a4_65, .ref wd_66, .ref lt_67, .ref bu_68, .ref st_69, .ref le_70, .ref nx_71, .ref ow_72, .int (nI s2_76), .ref sp_73, .ref ky_74, .ref sm_75, .int 0])), (st_69, .inl (cst_89, 64, .inl g1_78)), (le_70, .inl (cle_90, 64, .inl g2_79)), (nx_71, .inl (cnx_91, 64, .inl g3_80)), (ow_72, .inl (cow_92, 64, .inl g4_81)), (bu_68, .inl (cbu_93, 256, .inl g5_82)), (lt_67, .inr (0, [.ref lta_87, .int (nI k2_77)])), (lta_87, .inl (clt_88, 512, .inl g6_83)), (wd_66, .inr (0, [.ref wda_84, .int (nI 280)])), (wda_84, .inl (cwd_85, 280, .inl wf_86)), (a1_61, .inr (1, [.ref dE, .int 0, .int m1_94])), (a2_63, .inr (1, [.ref dE, .int 0, .int m2_95])), (a3_64, .inr (1, [.ref dE, .int 0, .int m3_96])), (dv_62, .inr (2, [.ref dal_97, .ref dvd_98, .int 0])), (dvd_98, .inr (0, [.ref dva_99, .int 0])), (q101, .inr (4, [.ref k1_103, .ref k2_104, .ref k3_105, .int 0, .int ((-1)), .null, .null, .int 0])), (k1_103, .inl (c1_106, 64, .inl (fun _ => 0))), (k2_104, .inl (c2_107, 64, .inl (fun _ => 0))), (k3_105, .inl (c3_108, 64, .inr (.inl (fun _ => 0)))), (q109, .inr (5, [.ref q101, .ref d1_111, .null, .null, .null, .int 0, .int 0])), (q112, .inr (2, [.ref al_114, .ref vd_115, .int 0])), (al_114, .inr (1, [.ref dE, .int 0, .int 0])), (vd_115, .inr (0, [.ref va_116, .int 0])), (va_116, .inl (vc_117, 64, .inl (fun _ => 0))), (q118, .inr (6, [.ref d1_120, .ref d2_121, .ref d3_122])), (q123, .inr (7, [.ref q112, .ref q118, .ref d1_125, .ref d2_126, .null, .null, .int 0, .int 0, .long 0, .int 0, .int 0])), (q127, .inr (8, [.null, .int 0]))] H := hP
  have hD : va_D A [(x0, .inr (10, [.ref q1, .ref q5, .ref q9, .ref q13, .int 0, .ref q17, .ref q59, .ref q101, .ref q109, .ref q112, .ref q118, .ref q123, .ref q127, .null])), (q1, .inr (0, [.ref qa_3, .int 0])), (qa_3, .inl (ca_4, 256, .inl (fun _ => 0))), (q5, .inr (0, [.ref qa_7, .int 0])), (qa_7, .inl (ca_8, 256, .inl (fun _ => 0))), (q9, .inr (0, [.ref qa_11, .int 0])), (qa_11, .inl (ca_12, 256, .inl (fun _ => 0))), (q13, .inr (0, [.ref qa_15, .int 0])), (qa_15, .inl (ca_16, 256, .inl (fun _ => 0))), (q17, .inr (3, [.ref a1_19, .ref dv_20, .int 0, .int 0, .ref a2_21, .ref a3_22, .ref a4_23, .ref wd_24, .ref lt_25, .ref bu_26, .ref st_27, .ref le_28, .ref nx_29, .ref ow_30, .int (nI s2_34), .ref sp_31, .ref ky_32, .ref sm_33, .int 0])), (st_27, .inl (cst_47, 64, .inl g1_36)), (le_28, .inl (cle_48, 64, .inl g2_37)), (nx_29, .inl (cnx_49, 64, .inl g3_38)), (ow_30, .inl (cow_50, 64, .inl g4_39)), (bu_26, .inl (cbu_51, 256, .inl g5_40)), (lt_25, .inr (0, [.ref lta_45, .int (nI k2_35)])), (lta_45, .inl (clt_46, 512, .inl g6_41)), (wd_24, .inr (0, [.ref wda_42, .int (nI 280)])), (wda_42, .inl (cwd_43, 280, .inl wf_44)), (a1_19, .inr (1, [.ref dE, .int 0, .int m1_52])), (a2_21, .inr (1, [.ref dE, .int 0, .int m2_53])), (a3_22, .inr (1, [.ref dE, .int 0, .int m3_54])), (dv_20, .inr (2, [.ref dal_55, .ref dvd_56, .int 0])), (dvd_56, .inr (0, [.ref dva_57, .int 0])), (q59, .inr (3, [.ref a1_61, .ref dv_62, .int 0, .int 0, .ref a2_63, .ref a3_64, .ref a4_65, .ref wd_66, .ref lt_67, .ref bu_68, .ref st_69, .ref le_70, .ref nx_71, .ref ow_72, .int (nI s2_76), .ref sp_73, .ref ky_74, .ref sm_75, .int 0])), (st_69, .inl (cst_89, 64, .inl g1_78)), (le_70, .inl (cle_90, 64, .inl g2_79)), (nx_71, .inl (cnx_91, 64, .inl g3_80)), (ow_72, .inl (cow_92, 64, .inl g4_81)), (bu_68, .inl (cbu_93, 256, .inl g5_82)), (lt_67, .inr (0, [.ref lta_87, .int (nI k2_77)])), (lta_87, .inl (clt_88, 512, .inl g6_83)), (wd_66, .inr (0, [.ref wda_84, .int (nI 280)])), (wda_84, .inl (cwd_85, 280, .inl wf_86)), (a1_61, .inr (1, [.ref dE, .int 0, .int m1_94])), (a2_63, .inr (1, [.ref dE, .int 0, .int m2_95])), (a3_64, .inr (1, [.ref dE, .int 0, .int m3_96])), (dv_62, .inr (2, [.ref dal_97, .ref dvd_98, .int 0])), (dvd_98, .inr (0, [.ref dva_99, .int 0])), (q101, .inr (4, [.ref k1_103, .ref k2_104, .ref k3_105, .int 0, .int ((-1)), .null, .null, .int 0])), (k1_103, .inl (c1_106, 64, .inl (fun _ => 0))), (k2_104, .inl (c2_107, 64, .inl (fun _ => 0))), (k3_105, .inl (c3_108, 64, .inr (.inl (fun _ => 0)))), (q109, .inr (5, [.ref q101, .ref d1_111, .null, .null, .null, .int 0, .int 0])), (q112, .inr (2, [.ref al_114, .ref vd_115, .int 0])), (al_114, .inr (1, [.ref dE, .int 0, .int 0])), (vd_115, .inr (0, [.ref va_116, .int 0])), (va_116, .inl (vc_117, 64, .inl (fun _ => 0))), (q118, .inr (6, [.ref d1_120, .ref d2_121, .ref d3_122])), (q123, .inr (7, [.ref q112, .ref q118, .ref d1_125, .ref d2_126, .null, .null, .int 0, .int 0, .long 0, .int 0, .int 0])), (q127, .inr (8, [.null, .int 0]))] := hD
  refine lv_aload_n hx hb d_SF_init_165 rfl (lv_at hl 0 rfl) ?_
  have hc0 : 68 + 1 ≤ 69 := by omega
  have hs0 : 4667 + 6 ≤ 4673 := by omega
  refine va_new (ci := 9) (fs := [.null, .null, .int 0, .int 0, .int 0, .int 0]) (C := R_PerR) (T := F_PerR) (N := 6) hx hb htw i_PerR t_PerR t_PerR_ok hown (htw _ wd_2_221) (htw _ wd_2_222) (htw _ wd_1_20) hK hP hD hS hA rfl (by decide) hc0 hs0 d_SF_init_166 (fun q129 H hP hD hS => ?_)
  have hP : va_P (dC, dI) classes [(x0, .inr (10, [.ref q1, .ref q5, .ref q9, .ref q13, .int 0, .ref q17, .ref q59, .ref q101, .ref q109, .ref q112, .ref q118, .ref q123, .ref q127, .null])), (q1, .inr (0, [.ref qa_3, .int 0])), (qa_3, .inl (ca_4, 256, .inl (fun _ => 0))), (q5, .inr (0, [.ref qa_7, .int 0])), (qa_7, .inl (ca_8, 256, .inl (fun _ => 0))), (q9, .inr (0, [.ref qa_11, .int 0])), (qa_11, .inl (ca_12, 256, .inl (fun _ => 0))), (q13, .inr (0, [.ref qa_15, .int 0])), (qa_15, .inl (ca_16, 256, .inl (fun _ => 0))), (q17, .inr (3, [.ref a1_19, .ref dv_20, .int 0, .int 0, .ref a2_21, .ref a3_22, .ref a4_23, .ref wd_24, .ref lt_25, .ref bu_26, .ref st_27, .ref le_28, .ref nx_29, .ref ow_30, .int (nI s2_34), .ref sp_31, .ref ky_32, .ref sm_33, .int 0])), (st_27, .inl (cst_47, 64, .inl g1_36)), (le_28, .inl (cle_48, 64, .inl g2_37)), (nx_29, .inl (cnx_49, 64, .inl g3_38)), (ow_30, .inl (cow_50, 64, .inl g4_39)), (bu_26, .inl (cbu_51, 256, .inl g5_40)), (lt_25, .inr (0, [.ref lta_45, .int (nI k2_35)])), (lta_45, .inl (clt_46, 512, .inl g6_41)), (wd_24, .inr (0, [.ref wda_42, .int (nI 280)])), (wda_42, .inl (cwd_43, 280, .inl wf_44)), (a1_19, .inr (1, [.ref dE, .int 0, .int m1_52])), (a2_21, .inr (1, [.ref dE, .int 0, .int m2_53])), (a3_22, .inr (1, [.ref dE, .int 0, .int m3_54])), (dv_20, .inr (2, [.ref dal_55, .ref dvd_56, .int 0])), (dvd_56, .inr (0, [.ref dva_57, .int 0])), (q59, .inr (3, [.ref a1_61, .ref dv_62, .int 0, .int 0, .ref a2_63, .ref a3_64, .ref a4_65, .ref wd_66, .ref lt_67, .ref bu_68, .ref st_69, .ref le_70, .ref nx_71, .ref ow_72, .int (nI s2_76), .ref sp_73, .ref ky_74, .ref sm_75, .int 0])), (st_69, .inl (cst_89, 64, .inl g1_78)), (le_70, .inl (cle_90, 64, .inl g2_79)), (nx_71, .inl (cnx_91, 64, .inl g3_80)), (ow_72, .inl (cow_92, 64, .inl g4_81)), (bu_68, .inl (cbu_93, 256, .inl g5_82)), (lt_67, .inr (0, [.ref lta_87, .int (nI k2_77)])), (lta_87, .inl (clt_88, 512, .inl g6_83)), (wd_66, .inr (0, [.ref wda_84, .int (nI 280)])), (wda_84, .inl (cwd_85, 280, .inl wf_86)), (a1_61, .inr (1, [.ref dE, .int 0, .int m1_94])), (a2_63, .inr (1, [.ref dE, .int 0, .int m2_95])), (a3_64, .inr (1, [.ref dE, .int 0, .int m3_96])), (dv_62, .inr (2, [.ref dal_97, .ref dvd_98, .int 0])), (dvd_98, .inr (0, [.ref dva_99, .int 0])), (q101, .inr (4, [.ref k1_103, .ref k2_104, .ref k3_105, .int 0, .int ((-1)), .null, .null, .int 0])), (k1_103, .inl (c1_106, 64, .inl (fun _ => 0))), (k2_104, .inl (c2_107, 64, .inl (fun _ => 0))), (k3_105, .inl (c3_108, 64, .inr (.inl (fun _ => 0)))), (q109, .inr (5, [.ref q101, .ref d1_111, .null, .null, .null, .int 0, .int 0])), (q112, .inr (2, [.ref al_114, .ref vd_115, .int 0])), (al_114, .inr (1, [.ref dE, .int 0, .int 0])), (vd_115, .inr (0, [.ref va_116, .int 0])), (va_116, .inl (vc_117, 64, .inl (fun _ => 0))), (q118, .inr (6, [.ref d1_120, .ref d2_121, .ref d3_122])), (q123, .inr (7, [.ref q112, .ref q118, .ref d1_125, .ref d2_126, .null, .null, .int 0, .int 0, .long 0, .int 0, .int 0])), (q127, .inr (8, [.null, .int 0])), (q129, .inr (9, [.null, .null, .int 0, .int 0, .int 0, .int 0]))] H := hP
  have hD : va_D A [(x0, .inr (10, [.ref q1, .ref q5, .ref q9, .ref q13, .int 0, .ref q17, .ref q59, .ref q101, .ref q109, .ref q112, .ref q118, .ref q123, .ref q127, .null])), (q1, .inr (0, [.ref qa_3, .int 0])), (qa_3, .inl (ca_4, 256, .inl (fun _ => 0))), (q5, .inr (0, [.ref qa_7, .int 0])), (qa_7, .inl (ca_8, 256, .inl (fun _ => 0))), (q9, .inr (0, [.ref qa_11, .int 0])), (qa_11, .inl (ca_12, 256, .inl (fun _ => 0))), (q13, .inr (0, [.ref qa_15, .int 0])), (qa_15, .inl (ca_16, 256, .inl (fun _ => 0))), (q17, .inr (3, [.ref a1_19, .ref dv_20, .int 0, .int 0, .ref a2_21, .ref a3_22, .ref a4_23, .ref wd_24, .ref lt_25, .ref bu_26, .ref st_27, .ref le_28, .ref nx_29, .ref ow_30, .int (nI s2_34), .ref sp_31, .ref ky_32, .ref sm_33, .int 0])), (st_27, .inl (cst_47, 64, .inl g1_36)), (le_28, .inl (cle_48, 64, .inl g2_37)), (nx_29, .inl (cnx_49, 64, .inl g3_38)), (ow_30, .inl (cow_50, 64, .inl g4_39)), (bu_26, .inl (cbu_51, 256, .inl g5_40)), (lt_25, .inr (0, [.ref lta_45, .int (nI k2_35)])), (lta_45, .inl (clt_46, 512, .inl g6_41)), (wd_24, .inr (0, [.ref wda_42, .int (nI 280)])), (wda_42, .inl (cwd_43, 280, .inl wf_44)), (a1_19, .inr (1, [.ref dE, .int 0, .int m1_52])), (a2_21, .inr (1, [.ref dE, .int 0, .int m2_53])), (a3_22, .inr (1, [.ref dE, .int 0, .int m3_54])), (dv_20, .inr (2, [.ref dal_55, .ref dvd_56, .int 0])), (dvd_56, .inr (0, [.ref dva_57, .int 0])), (q59, .inr (3, [.ref a1_61, .ref dv_62, .int 0, .int 0, .ref a2_63, .ref a3_64, .ref a4_65, .ref wd_66, .ref lt_67, .ref bu_68, .ref st_69, .ref le_70, .ref nx_71, .ref ow_72, .int (nI s2_76), .ref sp_73, .ref ky_74, .ref sm_75, .int 0])), (st_69, .inl (cst_89, 64, .inl g1_78)), (le_70, .inl (cle_90, 64, .inl g2_79)), (nx_71, .inl (cnx_91, 64, .inl g3_80)), (ow_72, .inl (cow_92, 64, .inl g4_81)), (bu_68, .inl (cbu_93, 256, .inl g5_82)), (lt_67, .inr (0, [.ref lta_87, .int (nI k2_77)])), (lta_87, .inl (clt_88, 512, .inl g6_83)), (wd_66, .inr (0, [.ref wda_84, .int (nI 280)])), (wda_84, .inl (cwd_85, 280, .inl wf_86)), (a1_61, .inr (1, [.ref dE, .int 0, .int m1_94])), (a2_63, .inr (1, [.ref dE, .int 0, .int m2_95])), (a3_64, .inr (1, [.ref dE, .int 0, .int m3_96])), (dv_62, .inr (2, [.ref dal_97, .ref dvd_98, .int 0])), (dvd_98, .inr (0, [.ref dva_99, .int 0])), (q101, .inr (4, [.ref k1_103, .ref k2_104, .ref k3_105, .int 0, .int ((-1)), .null, .null, .int 0])), (k1_103, .inl (c1_106, 64, .inl (fun _ => 0))), (k2_104, .inl (c2_107, 64, .inl (fun _ => 0))), (k3_105, .inl (c3_108, 64, .inr (.inl (fun _ => 0)))), (q109, .inr (5, [.ref q101, .ref d1_111, .null, .null, .null, .int 0, .int 0])), (q112, .inr (2, [.ref al_114, .ref vd_115, .int 0])), (al_114, .inr (1, [.ref dE, .int 0, .int 0])), (vd_115, .inr (0, [.ref va_116, .int 0])), (va_116, .inl (vc_117, 64, .inl (fun _ => 0))), (q118, .inr (6, [.ref d1_120, .ref d2_121, .ref d3_122])), (q123, .inr (7, [.ref q112, .ref q118, .ref d1_125, .ref d2_126, .null, .null, .int 0, .int 0, .long 0, .int 0, .int 0])), (q127, .inr (8, [.null, .int 0])), (q129, .inr (9, [.null, .null, .int 0, .int 0, .int 0, .int 0]))] := hD
  refine lv_dup hx hb d_SF_init_169 rfl ?_
  refine lv_aload_n hx hb d_SF_init_170 rfl (lv_at hl 0 rfl) ?_
  refine va_get (D := (dC, dI)) (ci := 10) (v := .ref q112) (C := R_SF) (T := F_SF) (N := 14) hx hb htw i_SF hown hK hP 0 rfl rfl 9 (by decide) (htw _ wd_3_15) (fun _ h9 => h9) rfl d_SF_init_171 ?_
  have hc0 : 69 + 0 ≤ 69 := by omega
  have hs0 : 4673 + 0 ≤ 4673 := by omega
  have hPc := hP.sub (ws' := [(q129, .inr (9, [.null, .null, .int 0, .int 0, .int 0, .int 0]))]) [51] rfl
  have hDc := hD.sub (ws' := [(q129, .inr (9, [.null, .null, .int 0, .int 0, .int 0, .int 0]))]) [51] (by decide) rfl
  have hKc := hK.sub (tys' := []) [] rfl
  have hFc := va_free (wc := [(q129, .inr (9, [.null, .null, .int 0, .int 0, .int 0, .int 0]))]) hD hS hA [51] rfl
  refine va_callv (va_runI (As := [.ref q112]) (rest := [.ref q129, .ref x0]) ⟨hx, hb, hml, hown, htw⟩ (c_PerR_init l dC dI H.size q129 q112) (cwI 1 htw (tw_inL k_PerR_init) rfl rfl rfl (htw _ wd_1_20) (htw _ wd_2_223) (htw _ wd_2_224) rfl (by decide +kernel) ⟨Nat.le_of_ble_eq_true rfl, Nat.le_of_ble_eq_true rfl⟩) ⟨fun a U g mk q => by obtain ⟨q0, q1, qP, qK, qD⟩ := q; exact ⟨q0, q1, qP, va_K.moved (u := U) (U := U.calling g mk a) (Vm.Alike.refl U.vm) qK, qD⟩, fun U hU hW => ⟨rfl, by rw [hU], by rw [hU]; exact hPc, va_K.moved hW.alike hKc, hDc.weaken (fun _ _ _ _ => trivial)⟩⟩ rfl rfl hl.1 rfl (lv_room (Nat.le_of_ble_eq_true rfl)) d_SF_init_174 ⟨hc0, hs0⟩) hS (fun q _ h => hFc q h) hFc (fun u t H1 locs ht hvm hw hB hz1 hk1 hS => ?_)
  obtain ⟨hP1, hK1, hD1⟩ := hB
  rw [ht] at hP1
  have hK1 := va_K.moved hvm.symm hK1
  obtain ⟨hP, hD⟩ := va_join (wr := [(x0, .inr (10, [.ref q1, .ref q5, .ref q9, .ref q13, .int 0, .ref q17, .ref q59, .ref q101, .ref q109, .ref q112, .ref q118, .ref q123, .ref q127, .null])), (q1, .inr (0, [.ref qa_3, .int 0])), (qa_3, .inl (ca_4, 256, .inl (fun _ => 0))), (q5, .inr (0, [.ref qa_7, .int 0])), (qa_7, .inl (ca_8, 256, .inl (fun _ => 0))), (q9, .inr (0, [.ref qa_11, .int 0])), (qa_11, .inl (ca_12, 256, .inl (fun _ => 0))), (q13, .inr (0, [.ref qa_15, .int 0])), (qa_15, .inl (ca_16, 256, .inl (fun _ => 0))), (q17, .inr (3, [.ref a1_19, .ref dv_20, .int 0, .int 0, .ref a2_21, .ref a3_22, .ref a4_23, .ref wd_24, .ref lt_25, .ref bu_26, .ref st_27, .ref le_28, .ref nx_29, .ref ow_30, .int (nI s2_34), .ref sp_31, .ref ky_32, .ref sm_33, .int 0])), (st_27, .inl (cst_47, 64, .inl g1_36)), (le_28, .inl (cle_48, 64, .inl g2_37)), (nx_29, .inl (cnx_49, 64, .inl g3_38)), (ow_30, .inl (cow_50, 64, .inl g4_39)), (bu_26, .inl (cbu_51, 256, .inl g5_40)), (lt_25, .inr (0, [.ref lta_45, .int (nI k2_35)])), (lta_45, .inl (clt_46, 512, .inl g6_41)), (wd_24, .inr (0, [.ref wda_42, .int (nI 280)])), (wda_42, .inl (cwd_43, 280, .inl wf_44)), (a1_19, .inr (1, [.ref dE, .int 0, .int m1_52])), (a2_21, .inr (1, [.ref dE, .int 0, .int m2_53])), (a3_22, .inr (1, [.ref dE, .int 0, .int m3_54])), (dv_20, .inr (2, [.ref dal_55, .ref dvd_56, .int 0])), (dvd_56, .inr (0, [.ref dva_57, .int 0])), (q59, .inr (3, [.ref a1_61, .ref dv_62, .int 0, .int 0, .ref a2_63, .ref a3_64, .ref a4_65, .ref wd_66, .ref lt_67, .ref bu_68, .ref st_69, .ref le_70, .ref nx_71, .ref ow_72, .int (nI s2_76), .ref sp_73, .ref ky_74, .ref sm_75, .int 0])), (st_69, .inl (cst_89, 64, .inl g1_78)), (le_70, .inl (cle_90, 64, .inl g2_79)), (nx_71, .inl (cnx_91, 64, .inl g3_80)), (ow_72, .inl (cow_92, 64, .inl g4_81)), (bu_68, .inl (cbu_93, 256, .inl g5_82)), (lt_67, .inr (0, [.ref lta_87, .int (nI k2_77)])), (lta_87, .inl (clt_88, 512, .inl g6_83)), (wd_66, .inr (0, [.ref wda_84, .int (nI 280)])), (wda_84, .inl (cwd_85, 280, .inl wf_86)), (a1_61, .inr (1, [.ref dE, .int 0, .int m1_94])), (a2_63, .inr (1, [.ref dE, .int 0, .int m2_95])), (a3_64, .inr (1, [.ref dE, .int 0, .int m3_96])), (dv_62, .inr (2, [.ref dal_97, .ref dvd_98, .int 0])), (dvd_98, .inr (0, [.ref dva_99, .int 0])), (q101, .inr (4, [.ref k1_103, .ref k2_104, .ref k3_105, .int 0, .int ((-1)), .null, .null, .int 0])), (k1_103, .inl (c1_106, 64, .inl (fun _ => 0))), (k2_104, .inl (c2_107, 64, .inl (fun _ => 0))), (k3_105, .inl (c3_108, 64, .inr (.inl (fun _ => 0)))), (q109, .inr (5, [.ref q101, .ref d1_111, .null, .null, .null, .int 0, .int 0])), (q112, .inr (2, [.ref al_114, .ref vd_115, .int 0])), (al_114, .inr (1, [.ref dE, .int 0, .int 0])), (vd_115, .inr (0, [.ref va_116, .int 0])), (va_116, .inl (vc_117, 64, .inl (fun _ => 0))), (q118, .inr (6, [.ref d1_120, .ref d2_121, .ref d3_122])), (q123, .inr (7, [.ref q112, .ref q118, .ref d1_125, .ref d2_126, .null, .null, .int 0, .int 0, .long 0, .int 0, .int 0])), (q127, .inr (8, [.null, .int 0]))]) (w1 := [(q129, .inr (9, [.ref q112, .null, .int 0, .int 0, .int 0, .int 0]))]) hP hD [51] [0, 1, 2, 3, 4, 5, 6, 7, 8, 9, 10, 11, 12, 13, 14, 15, 16, 17, 18, 19, 20, 21, 22, 23, 24, 25, 26, 27, 28, 29, 30, 31, 32, 33, 34, 35, 36, 37, 38, 39, 40, 41, 42, 43, 44, 45, 46, 47, 48, 49, 50] rfl rfl (by decide) (by decide) hk1 hFc hP1 hD1
  have hK := (hK.sub (tys' := [(ca_4, .byte), (ca_8, .byte), (ca_12, .byte), (ca_16, .byte), (cst_47, .int), (cle_48, .int), (cnx_49, .int), (cow_50, .int), (cbu_51, .int), (clt_46, .byte), (cwd_43, .byte), (cst_89, .int), (cle_90, .int), (cnx_91, .int), (cow_92, .int), (cbu_93, .int), (clt_88, .byte), (cwd_85, .byte), (c1_106, .int), (c2_107, .int), (c3_108, .long), (vc_117, .byte)]) [0, 1, 2, 3, 4, 5, 6, 7, 8, 9, 10, 11, 12, 13, 14, 15, 16, 17, 18, 19, 20, 21] rfl).app hK1
  generalize H1 = H at hP hS ⊢
  have hP : va_P (dC, dI) classes [(x0, .inr (10, [.ref q1, .ref q5, .ref q9, .ref q13, .int 0, .ref q17, .ref q59, .ref q101, .ref q109, .ref q112, .ref q118, .ref q123, .ref q127, .null])), (q1, .inr (0, [.ref qa_3, .int 0])), (qa_3, .inl (ca_4, 256, .inl (fun _ => 0))), (q5, .inr (0, [.ref qa_7, .int 0])), (qa_7, .inl (ca_8, 256, .inl (fun _ => 0))), (q9, .inr (0, [.ref qa_11, .int 0])), (qa_11, .inl (ca_12, 256, .inl (fun _ => 0))), (q13, .inr (0, [.ref qa_15, .int 0])), (qa_15, .inl (ca_16, 256, .inl (fun _ => 0))), (q17, .inr (3, [.ref a1_19, .ref dv_20, .int 0, .int 0, .ref a2_21, .ref a3_22, .ref a4_23, .ref wd_24, .ref lt_25, .ref bu_26, .ref st_27, .ref le_28, .ref nx_29, .ref ow_30, .int (nI s2_34), .ref sp_31, .ref ky_32, .ref sm_33, .int 0])), (st_27, .inl (cst_47, 64, .inl g1_36)), (le_28, .inl (cle_48, 64, .inl g2_37)), (nx_29, .inl (cnx_49, 64, .inl g3_38)), (ow_30, .inl (cow_50, 64, .inl g4_39)), (bu_26, .inl (cbu_51, 256, .inl g5_40)), (lt_25, .inr (0, [.ref lta_45, .int (nI k2_35)])), (lta_45, .inl (clt_46, 512, .inl g6_41)), (wd_24, .inr (0, [.ref wda_42, .int (nI 280)])), (wda_42, .inl (cwd_43, 280, .inl wf_44)), (a1_19, .inr (1, [.ref dE, .int 0, .int m1_52])), (a2_21, .inr (1, [.ref dE, .int 0, .int m2_53])), (a3_22, .inr (1, [.ref dE, .int 0, .int m3_54])), (dv_20, .inr (2, [.ref dal_55, .ref dvd_56, .int 0])), (dvd_56, .inr (0, [.ref dva_57, .int 0])), (q59, .inr (3, [.ref a1_61, .ref dv_62, .int 0, .int 0, .ref a2_63, .ref a3_64, .ref a4_65, .ref wd_66, .ref lt_67, .ref bu_68, .ref st_69, .ref le_70, .ref nx_71, .ref ow_72, .int (nI s2_76), .ref sp_73, .ref ky_74, .ref sm_75, .int 0])), (st_69, .inl (cst_89, 64, .inl g1_78)), (le_70, .inl (cle_90, 64, .inl g2_79)), (nx_71, .inl (cnx_91, 64, .inl g3_80)), (ow_72, .inl (cow_92, 64, .inl g4_81)), (bu_68, .inl (cbu_93, 256, .inl g5_82)), (lt_67, .inr (0, [.ref lta_87, .int (nI k2_77)])), (lta_87, .inl (clt_88, 512, .inl g6_83)), (wd_66, .inr (0, [.ref wda_84, .int (nI 280)])), (wda_84, .inl (cwd_85, 280, .inl wf_86)), (a1_61, .inr (1, [.ref dE, .int 0, .int m1_94])), (a2_63, .inr (1, [.ref dE, .int 0, .int m2_95])), (a3_64, .inr (1, [.ref dE, .int 0, .int m3_96])), (dv_62, .inr (2, [.ref dal_97, .ref dvd_98, .int 0])), (dvd_98, .inr (0, [.ref dva_99, .int 0])), (q101, .inr (4, [.ref k1_103, .ref k2_104, .ref k3_105, .int 0, .int ((-1)), .null, .null, .int 0])), (k1_103, .inl (c1_106, 64, .inl (fun _ => 0))), (k2_104, .inl (c2_107, 64, .inl (fun _ => 0))), (k3_105, .inl (c3_108, 64, .inr (.inl (fun _ => 0)))), (q109, .inr (5, [.ref q101, .ref d1_111, .null, .null, .null, .int 0, .int 0])), (q112, .inr (2, [.ref al_114, .ref vd_115, .int 0])), (al_114, .inr (1, [.ref dE, .int 0, .int 0])), (vd_115, .inr (0, [.ref va_116, .int 0])), (va_116, .inl (vc_117, 64, .inl (fun _ => 0))), (q118, .inr (6, [.ref d1_120, .ref d2_121, .ref d3_122])), (q123, .inr (7, [.ref q112, .ref q118, .ref d1_125, .ref d2_126, .null, .null, .int 0, .int 0, .long 0, .int 0, .int 0])), (q127, .inr (8, [.null, .int 0])), (q129, .inr (9, [.ref q112, .null, .int 0, .int 0, .int 0, .int 0]))] H := hP
  have hD : va_D A [(x0, .inr (10, [.ref q1, .ref q5, .ref q9, .ref q13, .int 0, .ref q17, .ref q59, .ref q101, .ref q109, .ref q112, .ref q118, .ref q123, .ref q127, .null])), (q1, .inr (0, [.ref qa_3, .int 0])), (qa_3, .inl (ca_4, 256, .inl (fun _ => 0))), (q5, .inr (0, [.ref qa_7, .int 0])), (qa_7, .inl (ca_8, 256, .inl (fun _ => 0))), (q9, .inr (0, [.ref qa_11, .int 0])), (qa_11, .inl (ca_12, 256, .inl (fun _ => 0))), (q13, .inr (0, [.ref qa_15, .int 0])), (qa_15, .inl (ca_16, 256, .inl (fun _ => 0))), (q17, .inr (3, [.ref a1_19, .ref dv_20, .int 0, .int 0, .ref a2_21, .ref a3_22, .ref a4_23, .ref wd_24, .ref lt_25, .ref bu_26, .ref st_27, .ref le_28, .ref nx_29, .ref ow_30, .int (nI s2_34), .ref sp_31, .ref ky_32, .ref sm_33, .int 0])), (st_27, .inl (cst_47, 64, .inl g1_36)), (le_28, .inl (cle_48, 64, .inl g2_37)), (nx_29, .inl (cnx_49, 64, .inl g3_38)), (ow_30, .inl (cow_50, 64, .inl g4_39)), (bu_26, .inl (cbu_51, 256, .inl g5_40)), (lt_25, .inr (0, [.ref lta_45, .int (nI k2_35)])), (lta_45, .inl (clt_46, 512, .inl g6_41)), (wd_24, .inr (0, [.ref wda_42, .int (nI 280)])), (wda_42, .inl (cwd_43, 280, .inl wf_44)), (a1_19, .inr (1, [.ref dE, .int 0, .int m1_52])), (a2_21, .inr (1, [.ref dE, .int 0, .int m2_53])), (a3_22, .inr (1, [.ref dE, .int 0, .int m3_54])), (dv_20, .inr (2, [.ref dal_55, .ref dvd_56, .int 0])), (dvd_56, .inr (0, [.ref dva_57, .int 0])), (q59, .inr (3, [.ref a1_61, .ref dv_62, .int 0, .int 0, .ref a2_63, .ref a3_64, .ref a4_65, .ref wd_66, .ref lt_67, .ref bu_68, .ref st_69, .ref le_70, .ref nx_71, .ref ow_72, .int (nI s2_76), .ref sp_73, .ref ky_74, .ref sm_75, .int 0])), (st_69, .inl (cst_89, 64, .inl g1_78)), (le_70, .inl (cle_90, 64, .inl g2_79)), (nx_71, .inl (cnx_91, 64, .inl g3_80)), (ow_72, .inl (cow_92, 64, .inl g4_81)), (bu_68, .inl (cbu_93, 256, .inl g5_82)), (lt_67, .inr (0, [.ref lta_87, .int (nI k2_77)])), (lta_87, .inl (clt_88, 512, .inl g6_83)), (wd_66, .inr (0, [.ref wda_84, .int (nI 280)])), (wda_84, .inl (cwd_85, 280, .inl wf_86)), (a1_61, .inr (1, [.ref dE, .int 0, .int m1_94])), (a2_63, .inr (1, [.ref dE, .int 0, .int m2_95])), (a3_64, .inr (1, [.ref dE, .int 0, .int m3_96])), (dv_62, .inr (2, [.ref dal_97, .ref dvd_98, .int 0])), (dvd_98, .inr (0, [.ref dva_99, .int 0])), (q101, .inr (4, [.ref k1_103, .ref k2_104, .ref k3_105, .int 0, .int ((-1)), .null, .null, .int 0])), (k1_103, .inl (c1_106, 64, .inl (fun _ => 0))), (k2_104, .inl (c2_107, 64, .inl (fun _ => 0))), (k3_105, .inl (c3_108, 64, .inr (.inl (fun _ => 0)))), (q109, .inr (5, [.ref q101, .ref d1_111, .null, .null, .null, .int 0, .int 0])), (q112, .inr (2, [.ref al_114, .ref vd_115, .int 0])), (al_114, .inr (1, [.ref dE, .int 0, .int 0])), (vd_115, .inr (0, [.ref va_116, .int 0])), (va_116, .inl (vc_117, 64, .inl (fun _ => 0))), (q118, .inr (6, [.ref d1_120, .ref d2_121, .ref d3_122])), (q123, .inr (7, [.ref q112, .ref q118, .ref d1_125, .ref d2_126, .null, .null, .int 0, .int 0, .long 0, .int 0, .int 0])), (q127, .inr (8, [.null, .int 0])), (q129, .inr (9, [.ref q112, .null, .int 0, .int 0, .int 0, .int 0]))] := hD
  have hK : va_K (dC, dI) classes [(ca_4, .byte), (ca_8, .byte), (ca_12, .byte), (ca_16, .byte), (cst_47, .int), (cle_48, .int), (cnx_49, .int), (cow_50, .int), (cbu_51, .int), (clt_46, .byte), (cwd_43, .byte), (cst_89, .int), (cle_90, .int), (cnx_91, .int), (cow_92, .int), (cbu_93, .int), (clt_88, .byte), (cwd_85, .byte), (c1_106, .int), (c2_107, .int), (c3_108, .long), (vc_117, .byte)] s := hK
  refine va_putF (D := (dC, dI)) (ci := 10) (v := .ref q129) (ty := .object "SyntaxForge$PerReader") (C := R_SF) (T := F_SF) (N := 14) hx hb htw i_SF t_SF t_SF_ok n_SF hown hK hP hD hS 0 rfl rfl 13 (by decide) (htw _ wd_3_19) (fun _ h9 => h9) rfl hin rfl (by decide +kernel) rfl rfl (Nat.le_of_ble_eq_true rfl) d_SF_init_177 (fun H locs hP hD hS => ?_)
  have hP : va_P (dC, dI) classes [(x0, .inr (10, [.ref q1, .ref q5, .ref q9, .ref q13, .int 0, .ref q17, .ref q59, .ref q101, .ref q109, .ref q112, .ref q118, .ref q123, .ref q127, .ref q129])), (q1, .inr (0, [.ref qa_3, .int 0])), (qa_3, .inl (ca_4, 256, .inl (fun _ => 0))), (q5, .inr (0, [.ref qa_7, .int 0])), (qa_7, .inl (ca_8, 256, .inl (fun _ => 0))), (q9, .inr (0, [.ref qa_11, .int 0])), (qa_11, .inl (ca_12, 256, .inl (fun _ => 0))), (q13, .inr (0, [.ref qa_15, .int 0])), (qa_15, .inl (ca_16, 256, .inl (fun _ => 0))), (q17, .inr (3, [.ref a1_19, .ref dv_20, .int 0, .int 0, .ref a2_21, .ref a3_22, .ref a4_23, .ref wd_24, .ref lt_25, .ref bu_26, .ref st_27, .ref le_28, .ref nx_29, .ref ow_30, .int (nI s2_34), .ref sp_31, .ref ky_32, .ref sm_33, .int 0])), (st_27, .inl (cst_47, 64, .inl g1_36)), (le_28, .inl (cle_48, 64, .inl g2_37)), (nx_29, .inl (cnx_49, 64, .inl g3_38)), (ow_30, .inl (cow_50, 64, .inl g4_39)), (bu_26, .inl (cbu_51, 256, .inl g5_40)), (lt_25, .inr (0, [.ref lta_45, .int (nI k2_35)])), (lta_45, .inl (clt_46, 512, .inl g6_41)), (wd_24, .inr (0, [.ref wda_42, .int (nI 280)])), (wda_42, .inl (cwd_43, 280, .inl wf_44)), (a1_19, .inr (1, [.ref dE, .int 0, .int m1_52])), (a2_21, .inr (1, [.ref dE, .int 0, .int m2_53])), (a3_22, .inr (1, [.ref dE, .int 0, .int m3_54])), (dv_20, .inr (2, [.ref dal_55, .ref dvd_56, .int 0])), (dvd_56, .inr (0, [.ref dva_57, .int 0])), (q59, .inr (3, [.ref a1_61, .ref dv_62, .int 0, .int 0, .ref a2_63, .ref a3_64, .ref a4_65, .ref wd_66, .ref lt_67, .ref bu_68, .ref st_69, .ref le_70, .ref nx_71, .ref ow_72, .int (nI s2_76), .ref sp_73, .ref ky_74, .ref sm_75, .int 0])), (st_69, .inl (cst_89, 64, .inl g1_78)), (le_70, .inl (cle_90, 64, .inl g2_79)), (nx_71, .inl (cnx_91, 64, .inl g3_80)), (ow_72, .inl (cow_92, 64, .inl g4_81)), (bu_68, .inl (cbu_93, 256, .inl g5_82)), (lt_67, .inr (0, [.ref lta_87, .int (nI k2_77)])), (lta_87, .inl (clt_88, 512, .inl g6_83)), (wd_66, .inr (0, [.ref wda_84, .int (nI 280)])), (wda_84, .inl (cwd_85, 280, .inl wf_86)), (a1_61, .inr (1, [.ref dE, .int 0, .int m1_94])), (a2_63, .inr (1, [.ref dE, .int 0, .int m2_95])), (a3_64, .inr (1, [.ref dE, .int 0, .int m3_96])), (dv_62, .inr (2, [.ref dal_97, .ref dvd_98, .int 0])), (dvd_98, .inr (0, [.ref dva_99, .int 0])), (q101, .inr (4, [.ref k1_103, .ref k2_104, .ref k3_105, .int 0, .int ((-1)), .null, .null, .int 0])), (k1_103, .inl (c1_106, 64, .inl (fun _ => 0))), (k2_104, .inl (c2_107, 64, .inl (fun _ => 0))), (k3_105, .inl (c3_108, 64, .inr (.inl (fun _ => 0)))), (q109, .inr (5, [.ref q101, .ref d1_111, .null, .null, .null, .int 0, .int 0])), (q112, .inr (2, [.ref al_114, .ref vd_115, .int 0])), (al_114, .inr (1, [.ref dE, .int 0, .int 0])), (vd_115, .inr (0, [.ref va_116, .int 0])), (va_116, .inl (vc_117, 64, .inl (fun _ => 0))), (q118, .inr (6, [.ref d1_120, .ref d2_121, .ref d3_122])), (q123, .inr (7, [.ref q112, .ref q118, .ref d1_125, .ref d2_126, .null, .null, .int 0, .int 0, .long 0, .int 0, .int 0])), (q127, .inr (8, [.null, .int 0])), (q129, .inr (9, [.ref q112, .null, .int 0, .int 0, .int 0, .int 0]))] H := hP
  have hD : va_D A [(x0, .inr (10, [.ref q1, .ref q5, .ref q9, .ref q13, .int 0, .ref q17, .ref q59, .ref q101, .ref q109, .ref q112, .ref q118, .ref q123, .ref q127, .ref q129])), (q1, .inr (0, [.ref qa_3, .int 0])), (qa_3, .inl (ca_4, 256, .inl (fun _ => 0))), (q5, .inr (0, [.ref qa_7, .int 0])), (qa_7, .inl (ca_8, 256, .inl (fun _ => 0))), (q9, .inr (0, [.ref qa_11, .int 0])), (qa_11, .inl (ca_12, 256, .inl (fun _ => 0))), (q13, .inr (0, [.ref qa_15, .int 0])), (qa_15, .inl (ca_16, 256, .inl (fun _ => 0))), (q17, .inr (3, [.ref a1_19, .ref dv_20, .int 0, .int 0, .ref a2_21, .ref a3_22, .ref a4_23, .ref wd_24, .ref lt_25, .ref bu_26, .ref st_27, .ref le_28, .ref nx_29, .ref ow_30, .int (nI s2_34), .ref sp_31, .ref ky_32, .ref sm_33, .int 0])), (st_27, .inl (cst_47, 64, .inl g1_36)), (le_28, .inl (cle_48, 64, .inl g2_37)), (nx_29, .inl (cnx_49, 64, .inl g3_38)), (ow_30, .inl (cow_50, 64, .inl g4_39)), (bu_26, .inl (cbu_51, 256, .inl g5_40)), (lt_25, .inr (0, [.ref lta_45, .int (nI k2_35)])), (lta_45, .inl (clt_46, 512, .inl g6_41)), (wd_24, .inr (0, [.ref wda_42, .int (nI 280)])), (wda_42, .inl (cwd_43, 280, .inl wf_44)), (a1_19, .inr (1, [.ref dE, .int 0, .int m1_52])), (a2_21, .inr (1, [.ref dE, .int 0, .int m2_53])), (a3_22, .inr (1, [.ref dE, .int 0, .int m3_54])), (dv_20, .inr (2, [.ref dal_55, .ref dvd_56, .int 0])), (dvd_56, .inr (0, [.ref dva_57, .int 0])), (q59, .inr (3, [.ref a1_61, .ref dv_62, .int 0, .int 0, .ref a2_63, .ref a3_64, .ref a4_65, .ref wd_66, .ref lt_67, .ref bu_68, .ref st_69, .ref le_70, .ref nx_71, .ref ow_72, .int (nI s2_76), .ref sp_73, .ref ky_74, .ref sm_75, .int 0])), (st_69, .inl (cst_89, 64, .inl g1_78)), (le_70, .inl (cle_90, 64, .inl g2_79)), (nx_71, .inl (cnx_91, 64, .inl g3_80)), (ow_72, .inl (cow_92, 64, .inl g4_81)), (bu_68, .inl (cbu_93, 256, .inl g5_82)), (lt_67, .inr (0, [.ref lta_87, .int (nI k2_77)])), (lta_87, .inl (clt_88, 512, .inl g6_83)), (wd_66, .inr (0, [.ref wda_84, .int (nI 280)])), (wda_84, .inl (cwd_85, 280, .inl wf_86)), (a1_61, .inr (1, [.ref dE, .int 0, .int m1_94])), (a2_63, .inr (1, [.ref dE, .int 0, .int m2_95])), (a3_64, .inr (1, [.ref dE, .int 0, .int m3_96])), (dv_62, .inr (2, [.ref dal_97, .ref dvd_98, .int 0])), (dvd_98, .inr (0, [.ref dva_99, .int 0])), (q101, .inr (4, [.ref k1_103, .ref k2_104, .ref k3_105, .int 0, .int ((-1)), .null, .null, .int 0])), (k1_103, .inl (c1_106, 64, .inl (fun _ => 0))), (k2_104, .inl (c2_107, 64, .inl (fun _ => 0))), (k3_105, .inl (c3_108, 64, .inr (.inl (fun _ => 0)))), (q109, .inr (5, [.ref q101, .ref d1_111, .null, .null, .null, .int 0, .int 0])), (q112, .inr (2, [.ref al_114, .ref vd_115, .int 0])), (al_114, .inr (1, [.ref dE, .int 0, .int 0])), (vd_115, .inr (0, [.ref va_116, .int 0])), (va_116, .inl (vc_117, 64, .inl (fun _ => 0))), (q118, .inr (6, [.ref d1_120, .ref d2_121, .ref d3_122])), (q123, .inr (7, [.ref q112, .ref q118, .ref d1_125, .ref d2_126, .null, .null, .int 0, .int 0, .long 0, .int 0, .int 0])), (q127, .inr (8, [.null, .int 0])), (q129, .inr (9, [.ref q112, .null, .int 0, .int 0, .int 0, .int 0]))] := hD
  have hP9 := hP.sub (ws' := [(x0, .inr (10, [.ref q1, .ref q5, .ref q9, .ref q13, .int 0, .ref q17, .ref q59, .ref q101, .ref q109, .ref q112, .ref q118, .ref q123, .ref q127, .ref q129])), (q1, .inr (0, [.ref qa_3, .int 0])), (qa_3, .inl (ca_4, 256, .inl (fun _ => 0))), (q5, .inr (0, [.ref qa_7, .int 0])), (qa_7, .inl (ca_8, 256, .inl (fun _ => 0))), (q9, .inr (0, [.ref qa_11, .int 0])), (q101, .inr (4, [.ref k1_103, .ref k2_104, .ref k3_105, .int 0, .int ((-1)), .null, .null, .int 0])), (k1_103, .inl (c1_106, 64, .inl (fun _ => 0))), (k2_104, .inl (c2_107, 64, .inl (fun _ => 0))), (k3_105, .inl (c3_108, 64, .inr (.inl (fun _ => 0)))), (q109, .inr (5, [.ref q101, .ref d1_111, .null, .null, .null, .int 0, .int 0])), (q59, .inr (3, [.ref a1_61, .ref dv_62, .int 0, .int 0, .ref a2_63, .ref a3_64, .ref a4_65, .ref wd_66, .ref lt_67, .ref bu_68, .ref st_69, .ref le_70, .ref nx_71, .ref ow_72, .int (nI s2_76), .ref sp_73, .ref ky_74, .ref sm_75, .int 0])), (st_69, .inl (cst_89, 64, .inl g1_78)), (le_70, .inl (cle_90, 64, .inl g2_79)), (nx_71, .inl (cnx_91, 64, .inl g3_80)), (ow_72, .inl (cow_92, 64, .inl g4_81)), (bu_68, .inl (cbu_93, 256, .inl g5_82)), (lt_67, .inr (0, [.ref lta_87, .int (nI k2_77)])), (lta_87, .inl (clt_88, 512, .inl g6_83)), (wd_66, .inr (0, [.ref wda_84, .int (nI 280)])), (wda_84, .inl (cwd_85, 280, .inl wf_86)), (a1_61, .inr (1, [.ref dE, .int 0, .int m1_94])), (a2_63, .inr (1, [.ref dE, .int 0, .int m2_95])), (a3_64, .inr (1, [.ref dE, .int 0, .int m3_96])), (dv_62, .inr (2, [.ref dal_97, .ref dvd_98, .int 0])), (dvd_98, .inr (0, [.ref dva_99, .int 0]))]) [0, 1, 2, 3, 4, 5, 39, 40, 41, 42, 43, 24, 25, 26, 27, 28, 29, 30, 31, 32, 33, 34, 35, 36, 37, 38] rfl
  have hD9 := hD.sub (ws' := [(x0, .inr (10, [.ref q1, .ref q5, .ref q9, .ref q13, .int 0, .ref q17, .ref q59, .ref q101, .ref q109, .ref q112, .ref q118, .ref q123, .ref q127, .ref q129])), (q1, .inr (0, [.ref qa_3, .int 0])), (qa_3, .inl (ca_4, 256, .inl (fun _ => 0))), (q5, .inr (0, [.ref qa_7, .int 0])), (qa_7, .inl (ca_8, 256, .inl (fun _ => 0))), (q9, .inr (0, [.ref qa_11, .int 0])), (q101, .inr (4, [.ref k1_103, .ref k2_104, .ref k3_105, .int 0, .int ((-1)), .null, .null, .int 0])), (k1_103, .inl (c1_106, 64, .inl (fun _ => 0))), (k2_104, .inl (c2_107, 64, .inl (fun _ => 0))), (k3_105, .inl (c3_108, 64, .inr (.inl (fun _ => 0)))), (q109, .inr (5, [.ref q101, .ref d1_111, .null, .null, .null, .int 0, .int 0])), (q59, .inr (3, [.ref a1_61, .ref dv_62, .int 0, .int 0, .ref a2_63, .ref a3_64, .ref a4_65, .ref wd_66, .ref lt_67, .ref bu_68, .ref st_69, .ref le_70, .ref nx_71, .ref ow_72, .int (nI s2_76), .ref sp_73, .ref ky_74, .ref sm_75, .int 0])), (st_69, .inl (cst_89, 64, .inl g1_78)), (le_70, .inl (cle_90, 64, .inl g2_79)), (nx_71, .inl (cnx_91, 64, .inl g3_80)), (ow_72, .inl (cow_92, 64, .inl g4_81)), (bu_68, .inl (cbu_93, 256, .inl g5_82)), (lt_67, .inr (0, [.ref lta_87, .int (nI k2_77)])), (lta_87, .inl (clt_88, 512, .inl g6_83)), (wd_66, .inr (0, [.ref wda_84, .int (nI 280)])), (wda_84, .inl (cwd_85, 280, .inl wf_86)), (a1_61, .inr (1, [.ref dE, .int 0, .int m1_94])), (a2_63, .inr (1, [.ref dE, .int 0, .int m2_95])), (a3_64, .inr (1, [.ref dE, .int 0, .int m3_96])), (dv_62, .inr (2, [.ref dal_97, .ref dvd_98, .int 0])), (dvd_98, .inr (0, [.ref dva_99, .int 0]))]) [0, 1, 2, 3, 4, 5, 39, 40, 41, 42, 43, 24, 25, 26, 27, 28, 29, 30, 31, 32, 33, 34, 35, 36, 37, 38] (by decide) rfl
  have hK9 := hK.sub (tys' := [(ca_4, .byte), (ca_8, .byte), (c1_106, .int), (c2_107, .int), (c3_108, .long), (cst_89, .int), (cle_90, .int), (cnx_91, .int), (cow_92, .int), (cbu_93, .int), (clt_88, .byte), (cwd_85, .byte)]) [0, 1, 18, 19, 20, 11, 12, 13, 14, 15, 16, 17] rfl
  refine W.widen (k := 69) (n := 4673) (by omega) (by omega) ?_
  exact W.vret hx hb hr (fun t ht hW => ⟨⟨(), rfl, trivial, q1, qa_3, q5, qa_7, q9, qa_11, q13, q17, q59, q101, q109, q112, q118, q123, q127, q129, k1_103, k2_104, k3_105, d1_111, ca_4, ca_8, c1_106, c2_107, c3_108, a1_61, dv_62, a2_63, a3_64, a4_65, wd_66, lt_67, bu_68, st_69, le_70, nx_71, ow_72, sp_73, ky_74, sm_75, s2_76, k2_77, g1_78, g2_79, g3_80, g4_81, g5_82, g6_83, wda_84, cwd_85, wf_86, lta_87, clt_88, cst_89, cle_90, cnx_91, cow_92, cbu_93, m1_94, m2_95, m3_96, dal_97, dvd_98, dva_99, by first | rfl | assumption | omega, by rw [ht]; exact hP9, va_K.moved hW.alike hK9, hD9⟩, hS.F ht⟩) hS.2.2 d_SF_init_180
end
