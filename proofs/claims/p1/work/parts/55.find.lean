/-! which handler takes it; what is left of the world there; Strings by their places; pairs that cannot be cast (own rows; tk_, tz_) -/
theorem tk_tab1 {tbl : List ExceptionTableEntry} {a b h ct : Nat} {hs : List (Nat × Nat × Nat × Nat)} (ht : tbl.map (fun h => (h.startPc, h.endPc, h.handlerPc, h.catchType)) = (a, b, h, ct) :: hs) :
    ∃ z tbl', tbl = z :: tbl' ∧ z.startPc = a ∧ z.endPc = b ∧ z.handlerPc = h ∧ z.catchType = ct ∧ tbl'.map (fun h => (h.startPc, h.endPc, h.handlerPc, h.catchType)) = hs := by
  cases tbl with
  | nil => cases ht
  | cons z tbl' =>
    simp only [List.map_cons, List.cons.injEq, Prod.mk.injEq] at ht
    exact ⟨z, tbl', rfl, ht.1.1, ht.1.2.1, ht.1.2.2.1, ht.1.2.2.2, ht.2⟩
/-- no X is a Y -/
def tz_NC (X Y : String) (U : State) : Prop := ∀ cx cy : ClassId, U.vm.findClass X = some cx → U.vm.findClass Y = some cy → U.vm.assignable cx cy = false
theorem tz_NC.moved {X Y : String} {u U : State} (hvm : u.vm.Alike U.vm) (h : tz_NC X Y u) : tz_NC X Y U := fun cx cy h1 h2 => by
  rw [hvm.findClass] at h1 h2
  rw [hvm.assignable]
  exact h cx cy h1 h2
theorem tz_NC.of {X Y : String} {args : Array Value} {s : State} (h : (Cond.not (.castable X Y)).before args s = true) : tz_NC X Y s := fun cx cy h1 h2 => by
  simp [Cond.before, Cond.holds, Cond.value, h1, h2] at h
  exact h
section TKF
variable {p : Program} {l : Launch} {e : Env} {R : Room} {s : State} {m : MethodId} {args : Array Value} {below : List Frame} {meth : Method} {c : Code} {H : Heap} {locs : List Loc} {cells slots : Nat} {Q : State → Prop}
theorem tk_find1 (X0 : l.admits e) {own X : String} (hown : s.vm.findClass own = some m.cls) {cE : ClassId} (hcE : s.vm.findClass X = some cE) {pc : Nat} {ls : Array Slot} {rest : List Value} {tbl : List ExceptionTableEntry} {a b h ct : Nat} {hs : List (Nat × Nat × Nat × Nat)}
    (ht : tbl.map (fun h => (h.startPc, h.endPc, h.handlerPc, h.catchType)) = (a, b, h, ct) :: hs) (ha : a ≤ pc) (hb : pc < b) (h0 : ct ≠ 0) (hlink : (Cond.classLink own ct X).before args s = true) :
    ∀ (U : State) (x : Addr) (ce : Cell), U.heap[x]? = some ce → ce.vm.isStatics = false → ce.cls = cE → s.WarmedH U.vm → ∃ vm', s.WarmedH vm' ∧ tk_FT e U (F0 m pc ls rest) x tbl (.found h) vm' := by
  obtain ⟨z, tbl', rfl, rfl, rfl, rfl, rfl, -⟩ := tk_tab1 ht
  intro U x ce h1 h2 h3 hW
  obtain ⟨vm', w1, w2⟩ := tk_go (args := args) X0 hW (f := F0 m pc ls rest) (a := x) hown hcE h3 h1 h2 z tbl' (by simp only [covers]; simp [F0, ha, hb]) h0 hlink
  refine ⟨vm', w1, fun Q E d acts => ?_⟩
  rw [w2 cE hcE, if_pos (va_asg _ _)]
theorem tk_find2 (X0 : l.admits e) {own X Y : String} (hown : s.vm.findClass own = some m.cls) {cE : ClassId} (hcE : s.vm.findClass X = some cE) (hnc : tz_NC X Y s) {pc : Nat} {ls : Array Slot} {rest : List Value} {tbl : List ExceptionTableEntry} {a b h ct a' b' h' ct' : Nat} {hs : List (Nat × Nat × Nat × Nat)}
    (ht : tbl.map (fun h => (h.startPc, h.endPc, h.handlerPc, h.catchType)) = (a, b, h, ct) :: (a', b', h', ct') :: hs) (ha : a ≤ pc) (hb : pc < b) (h0 : ct ≠ 0) (hlink : (Cond.classLink own ct Y).before args s = true) (ha' : a' ≤ pc) (hb' : pc < b') (h0' : ct' ≠ 0) (hlink' : (Cond.classLink own ct' X).before args s = true) :
    ∀ (U : State) (x : Addr) (ce : Cell), U.heap[x]? = some ce → ce.vm.isStatics = false → ce.cls = cE → s.WarmedH U.vm → ∃ vm', s.WarmedH vm' ∧ tk_FT e U (F0 m pc ls rest) x tbl (.found h') vm' := by
  obtain ⟨z, tbl', rfl, rfl, rfl, rfl, rfl, ht'⟩ := tk_tab1 ht
  intro U x ce h1 h2 h3 hW
  obtain ⟨vm1, w1, w2⟩ := tk_go (args := args) X0 hW (f := F0 m pc ls rest) (a := x) hown hcE h3 h1 h2 z tbl' (by simp only [covers]; simp [F0, ha, hb]) h0 hlink
  obtain ⟨vm2, v1, v2⟩ := tk_find1 (ls := ls) (rest := rest) X0 hown hcE ht' ha' hb' h0' hlink' (U.setVm vm1) x ce h1 h2 h3 w1
  have hpl : e.platform.magicAccessors = ({} : Platform).magicAccessors := by rw [X0.platform]
  obtain ⟨cY, hcY, -⟩ := Cond.classLink_spec hown hlink e.platform hpl
  refine ⟨vm2, v1, fun Q E d acts => ?_⟩
  rw [w2 cY hcY, if_neg (by rw [hnc cE cY hcE hcY]; exact Bool.false_ne_true), v2]
  rfl
theorem tk_qe {X : String} {a : Array Value} {cE : ClassId} (hcE : s.vm.findClass X = some cE) {st₀ t : State} {x : Addr} (hw : s.WarmedH st₀.vm) (h : tk_Qx X a st₀ x t) : ∃ ce, t.heap[x]? = some ce ∧ ce.vm.isStatics = false ∧ ce.cls = cE := by
  obtain ⟨ce, h1, h2, h3⟩ := h
  rw [hw.alike.findClass, hcE] at h3
  exact ⟨ce, h1, h2, (Option.some.inj h3).symm⟩
theorem tk_S {A free : Nat → Prop} {H0 H1 : Heap} {L : List Loc} (hS : va_S A H0 H locs) (hf : ∀ q, free q → A q) (hL : ∀ z ∈ L, free z.base) (hz : H0.size ≤ H1.size) (hk : ∀ q : Nat, q < H0.size → (∀ z ∈ locs ++ L, z.base ≠ q) → H1[q]? = H0[q]?) : va_S A H0 H1 (locs ++ L) := by
  have hin : ∀ z ∈ locs ++ L, A z.base := fun z h => by
    rcases List.mem_append.mp h with h | h
    · exact hS.2.2 z h
    · exact hf _ (hL z h)
  exact ⟨hz, fun q h1 h2 => hk q h1 (fun z hz9 e9 => h2 (by rw [← e9]; exact hin z hz9)), hin⟩
theorem tk_found {X : String} {n : Nat} (h : (Cond.instantiable X n).before args s = true) : ∃ c, s.vm.findClass X = some c := by
  obtain ⟨c, k, hc, -⟩ := Cond.instantiable_spec h
  exact ⟨c, hc⟩
theorem tk_P0 {D : va_G} {cl : List vw_C} {H1 : Heap} : va_P D cl [] H1 := fun k q h => by simp at h
theorem tk_D0 {A : Nat → Prop} : va_D A [] := ⟨fun i j p q h => by simp at h, fun k q h => by simp at h⟩
end TKF
/-- Strings of own's file, each by its place: they are there, and outside of A -/
def tz_St (own : String) (ks : List (Nat × String)) (A : Nat → Prop) (U : State) (H : Heap) : Prop := ∀ q ∈ ks, ∃ a : Nat, vk_R own q.1 q.2 a U ∧ va_O "java/lang/String" a A U H
theorem tz_St.warm {own : String} {ks : List (Nat × String)} {A : Nat → Prop} {s U : State} {H : Heap} (hW : s.WarmedH U.vm) (h : tz_St own ks A s H) : tz_St own ks A U H := fun q hq => by
  obtain ⟨a, h1, h2⟩ := h q hq
  exact ⟨a, h1.warm hW, h2.moved hW.alike⟩
theorem tz_St.same {own : String} {ks : List (Nat × String)} {A : Nat → Prop} {u U : State} {H : Heap} (hv : U.vm = u.vm) (h : tz_St own ks A u H) : tz_St own ks A U H := fun q hq => by
  obtain ⟨a, h1, h2⟩ := h q hq
  exact ⟨a, h1.same hv, h2.moved (by rw [hv]; exact Vm.Alike.refl _)⟩
theorem tz_St.kept {own : String} {ks : List (Nat × String)} {A : Nat → Prop} {U : State} {H H1 : Heap} (h : tz_St own ks A U H) (hq : ∀ a : Nat, a < H.size → ¬ A a → H1[a]? = H[a]?) : tz_St own ks A U H1 := fun q hq9 => by
  obtain ⟨a, h1, h2⟩ := h q hq9
  exact ⟨a, h1, h2.kept hq⟩
theorem tz_St.narrow {own : String} {ks : List (Nat × String)} {A B : Nat → Prop} {U : State} {H : Heap} (h : tz_St own ks A U H) (hAB : ∀ q, B q → A q) : tz_St own ks B U H := fun q hq9 => by
  obtain ⟨a, h1, h2⟩ := h q hq9
  exact ⟨a, h1, h2.narrow hAB⟩
theorem tz_St.of {own : String} {ks : List (Nat × String)} {A : Nat → Prop} {args : Array Value} {s : State} (h : ∀ q ∈ ks, (Cond.stringRef own q.1 q.2).before args s = true ∧ (Cond.exactly (.string own q.1) "java/lang/String").before args s = true) (hA : ∀ a : Nat, a < s.heap.size → ¬ A a) : tz_St own ks A s s.heap := fun q hq => by
  obtain ⟨h1, h2⟩ := h q hq
  obtain ⟨a, c, cA, kA, q1, q2, q3, q4, q5, q6, -⟩ := Cond.exactly_spec (args := args) (first := s) (o := none) (s := s) (idx := []) (t := .string own q.1) (cls := "java/lang/String") h2
  exact ⟨a, vk_R.of h1 q1, cA, q3, q5, by rw [q6]; exact q2, hA a (Array.getElem?_eq_some_iff.mp q3).1⟩
theorem tk_table {p : Program} {l : Launch} {y : MethodName} {ws : List Cond} {rm : Room} {cc : ByteArray} {maxL : Nat} {ret : Option FieldType} {e : Env} {s : State} {m : MethodId} {args : Array Value} {below : List Frame} {meth : Method} {c : Code} {s₁ : State} {hh : List (Nat × Nat × Nat × Nat)}
    (B : BodyLoose p l y (headSpec ws rm) cc maxL ret e s m args below meth c s₁) (hw : Cond.codeWith y cc maxL ret hh ∈ ws) : c.exceptionTable.toList.map (fun h => (h.startPc, h.endPc, h.handlerPc, h.catchType)) = hh := by
  obtain ⟨m9, meth9, c9, hn9, h1, h2, -, -, h5, -⟩ := Cond.codeWith_spec (atoms_spec (ws := ws) B.pre _ hw)
  cases B.named.symm.trans hn9
  cases B.method.symm.trans h1
  cases (Stand.of_body B).code.symm.trans h2
  exact h5
theorem tz_cmp (x : Int64) : lg_cmp x x = 0 := by
  first | (simp [lg_cmp]; done) | (simp [lg_cmp, Int64.lt_irrefl]; done) | (unfold lg_cmp; rw [if_neg (Int64.lt_irrefl), if_pos rfl])
