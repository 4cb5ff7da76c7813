/-! WHAT IS THROWN IS CAUGHT; an exception is made and thrown (own rows; tk_) -/
section TKD
variable {p : Program} {l : Launch} {e : Env} {R : Room} {s : State} {m : MethodId} {args : Array Value} {below : List Frame} {meth : Method} {c : Code} {H : Heap} {locs : List Loc} {cells slots : Nat} {Q : State → Prop}
/-- the step from the note to the handler, the tables grown warmer by the search -/
theorem tk_stepTo {u : State} {a : Addr} {f : JFrame} {r : List Frame} {pc : Nat} {vm' : Vm} {mf : Method} {cf : Code} (hm : u.vm.method? f.method = some mf) (hc : mf.code = some cf) (hfind : tk_FT e u f a cf.exceptionTable.toList (.found pc) vm') :
    (stepThrowing e u a (.java f :: r)).Is ((u.setVm vm').setFrames (.java { f with pc := pc, stack := [.ref a] } :: r)) [] := by
  simp only [stepThrowing, searchFrame, vmDo]
  generalize hr : Sem.go _ e false [] u = res
  obtain ⟨as, rfl, ha⟩ := Sem.eq_ok_of hr (a := Handler.found pc) (s' := u.setVm vm') (acts' := []) (by simp [Jvm.W.findHandler_eq hm hc, hfind _ _ _ _])
  exact ⟨rfl, ha⟩
theorem tk_caught {T : State} (X : Stand p l e R s m args below meth c T locs cells slots) {a : Addr} {g : JFrame} (hg : g.method = m) {pc : Nat} {vm' : Vm}
    (hfind : tk_FT e ((T.setTop g).pushFrame (.throwing a)) g a c.exceptionTable.toList (.found pc) vm') {target : State} (hrest : Steps p.tables e below ((T.setVm vm').setTop { g with pc := pc, stack := [.ref a] }) target) :
    Steps p.tables e below ((T.setTop g).pushFrame (.throwing a)) target := by
  have h : At T g.method c below := by rw [hg]; exact X.here
  obtain ⟨hgo, hw⟩ := h.throwing a
  refine Steps.head hgo hw ?_
  have hm : ((T.setTop g).pushFrame (.throwing a)).vm.method? g.method = some meth := by rw [Stand.throwing_vm, hg]; exact X.method'
  rw [stepThread_throwing (frames_entered h.top _), (tk_stepTo hm X.code hfind).1]
  obtain ⟨g₀, hr⟩ := X.frames_eq
  have hr' : (T.setVm vm').frames = .java g₀ :: below := hr
  rw [State.setTop_of_frames _ hr'] at hrest
  have key : ((((T.setTop g).pushFrame (.throwing a)).setVm vm').setFrames (.java { g with pc := pc, stack := [.ref a] } :: T.frames.tail)) = (T.setVm vm').setFrames (.java { g with pc := pc, stack := [.ref a] } :: below) := by
    rw [hr, List.tail_cons, State.pushFrame, State.setTop_of_frames _ hr]
    simp only [State.setFrames_setFrames]
    show (((T.setVm vm').setFrames _).setFrames _) = _
    rw [State.setFrames_setFrames]
  rw [key]
  exact hrest
/-- the callee throws an object of class E, and this method's table catches it at pcH -/
theorem tk_catch {mc ms : Nat} {free : Addr → Prop} {Qa : State → Addr → State → Prop} {pc pcH : Nat} {ls : Array Slot} {st0 rest : List Value} (hr : tk_Run p l e R s m args below meth c H locs cells slots mc ms (F0 m pc ls st0) rest Qa free)
    {cE : ClassId} (hQa : ∀ (st₀ : State) (x : Addr) (t : State), st₀.heap = H → s.WarmedH st₀.vm → Qa st₀ x t → ∃ ce, t.heap[x]? = some ce ∧ ce.vm.isStatics = false ∧ ce.cls = cE)
    (hfind : ∀ (U : State) (x : Addr) (ce : Cell), U.heap[x]? = some ce → ce.vm.isStatics = false → ce.cls = cE → s.WarmedH U.vm → ∃ vm', s.WarmedH vm' ∧ tk_FT e U (F0 m pc ls rest) x c.exceptionTable.toList (.found pcH) vm')
    (kk : ∀ (x : Addr) (H1 : Heap) (L : List Loc), (∀ z ∈ L, free z.base) → s.heap.size ≤ H1.size → (∀ q : Nat, q < s.heap.size → (∀ z ∈ locs ++ L, z.base ≠ q) → H1[q]? = s.heap[q]?) → H.size ≤ H1.size → (∀ q : Nat, q < H.size → ¬ free q → H1[q]? = H[q]?) →
      W p l e R s m args below meth c H1 (locs ++ L) (cells + mc) (slots + ms) Q (F0 m pcH ls [.ref x])) : W p l e R s m args below meth c H locs cells slots Q (F0 m pc ls st0) := by
  intro T hT X
  obtain ⟨x, st₀, t, T', L, h0, X', hL, e1, e2, ⟨hq, hz8, hk8⟩, st⟩ := hr T hT X
  obtain ⟨ce, c1, c2, c3⟩ := hQa st₀ x t h0.1 h0.2 hq
  obtain ⟨vm', hW', hf⟩ := hfind ((T'.setTop (F0 m pc ls rest)).pushFrame (.throwing x)) x ce (by rw [Stand.throwing_heap, e1]; exact c1) c2 c3 (by rw [Stand.throwing_vm]; exact X'.warmed)
  have hsm := X'.same
  obtain ⟨t2, a2, b2⟩ := kk x T'.heap L hL hsm.2.1 (fun q hq' hne => tk_kept hsm hq' hne) hz8 hk8 (T'.setVm vm') rfl (X'.noted hW')
  exact ⟨t2, st t2 (tk_caught X' rfl hf a2), b2⟩
end TKD
