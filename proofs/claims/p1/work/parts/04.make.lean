/-! AN EXCEPTION IS MADE AND THROWN (new, dup, invokespecial, athrow), under a launch without stack traces (own rows; tk_) -/
section TKE
variable {p : Program} {l : Launch} {e : Env} {R : Room} {s : State} {m : MethodId} {args : Array Value} {below : List Frame} {meth : Method} {c : Code} {H : Heap} {locs : List Loc} {cells slots : Nat} {Q : State → Prop}
def tk_NT (l : Launch) : Prop := ∀ e, l.admits e → e.platform.stackTraces = false
/-- what was thrown is an object of class X -/
def tk_Qx (X : String) : Array Value → State → Addr → State → Prop := fun _ st x t => ∃ ce, t.heap[x]? = some ce ∧ ce.vm.isStatics = false ∧ st.vm.findClass X = some ce.cls
theorem tk_qx {X : String} {a : Array Value} {st₀ t t' : State} {x : Addr} (hw : s.WarmedH st₀.vm) (h : tk_Qx X a st₀ x t) (e1 : t'.heap = t.heap) : tk_Qx X args s x t' := by
  obtain ⟨ce, h1, h2, h3⟩ := h
  exact ⟨ce, by rw [e1]; exact h1, h2, by rw [← hw.alike.findClass]; exact h3⟩
theorem tk_cw {Ts ws : List Cond} {bytes : ByteArray} {maxL index n mc ms : Nat} {own C : String} {y : MethodName} {ret : Option FieldType} {rm : Room} (h : CallW R s args own C index y bytes maxL ret ws rm mc ms n) : tk_CB R s args own index y maxL ws rm mc ms n ∧ (Cond.instanceMethod y).before args s = true ∧ (Cond.selects C y y).before args s = true := ⟨tk_cb h.1, h.2⟩
theorem tk_throw0 {cc : ByteArray} {free : Addr → Prop} {pc i0 ic : Nat} {ls : Array Slot} {rest : List Value} {own cls : String} {names : List String} (hexec : p.tables.exec = Jvm.exec) (hb : c.code = cc) (hnoh : c.exceptionTable.isEmpty = true) (hlocks : meth.locks = false) (hNT : tk_NT l)
    (hown : s.vm.findClass own = some m.cls) (hcls : Bundle.fit cls = true) (hnames : ∀ n ∈ names, Bundle.fit n = true) (hclink : (Cond.classLink own i0 cls).before args s = true) (hini : (Cond.initialized cls).before args s = true) (h : ∀ w ∈ Bundle.ownAtoms0 own ic cls names, w.before args s = true)
    (hlocs : ∀ z ∈ locs, ∀ cell, s.heap[z.base]? = some cell → cell.vm.isStatics = false) (hf : ∀ z ∈ locs, free z.base) (hsz : s.heap.size ≤ H.size) (hls : ls.size = c.maxLocals)
    (d0 : decode cc pc = .ok (.new i0, 3)) (d3 : decode cc (pc + 3) = .ok (.dup, 1)) (d4 : decode cc (pc + 4) = .ok (.invokespecial ic, 3)) (d7 : decode cc (pc + 7) = .ok (.athrow, 1))
    (hc : cells + 1 ≤ R.cells) (hs6 : slots + 6 ≤ R.slots) (hRf : names.length + 3 < R.frames) (hRl : (rest.map fun v => v.category).sum + 1 + (13 * (names.length + 1) + 41) ≤ R.locals) :
    W p l e R s m args below meth c H locs cells slots (tk_MQ below (tk_Qx cls) args s (cells + 1) (slots + 6) free) (F0 m pc ls rest) := by
  refine W.newc hexec hb hown hclink (h (.instantiable cls 6) (by simp [Bundle.ownAtoms0])) hini rfl d0 hc hs6 (fun cC kC h1 h2 h3 h4 => ?_)
  show W p l e R s m args below meth c _ locs (cells + 1) (slots + 6) _ (F0 m (pc + 3) ls (.ref H.size :: rest))
  refine lv_dup hexec hb d3 rfl ?_
  show W p l e R s m args below meth c _ locs (cells + 1) (slots + 6) _ (F0 m (pc + 4) ls (.ref H.size :: .ref H.size :: rest))
  intro T hT X
  have hcell : T.heap[H.size]? = some (freshCell cC kC) := by rw [hT]; simp [freshCell]
  obtain ⟨U, st, q1, q2, q3, q4, ce, q5, q6⟩ := X.ctorThrow0 hexec (hNT e X.admits) hown hcls hnames h hlocs h1 h2 hcell hsz (g := F0 m (pc + 4) ls (.ref H.size :: .ref H.size :: rest)) rfl hls rfl rfl (rest := rest) rfl (by rw [hb]; exact d4) (by rw [hb]; exact d7) (tk_empty hnoh _) hRf (by simp only [List.map_cons, List.sum_cons]; show 2 * 0 + (1 + _) + _ ≤ _; omega) hlocks
  exact ⟨U, st, H.size, q1, q2, ⟨ce, q5, by rw [q6.vm]; rfl, q6.cls⟩, locs, ⟨⟨_, rfl⟩, q3, q4⟩, hf⟩
end TKE
