/-! a cell of the world, given on to a method that only reads it (tz_) -/
theorem tz_asO {D : va_G} {cl : List vw_C} {ws : va_W} {tys : List (ClassId × FieldType)} {H : Heap} {s : State} {A : Nat → Prop} {C : String} {T : u_T} {N ci a : Nat} {fs : List Value} (hK : va_K D cl tys s) (hP : va_P D cl ws H) (q0 : Nat) (he : ws[q0]? = some (a, .inr (ci, fs))) (hc : cl[ci]? = some (C, T, N)) (hA : ¬ A a) : va_O C a A s H := by
  obtain ⟨cell, g1, g2, g3⟩ := va_recv (q := (C, T, N)) hK hP hc he
  exact ⟨cell, g1, g2, g3, hA⟩
theorem tz_asOF {D : va_G} {cl : List vw_C} {ws : va_W} {tys : List (ClassId × FieldType)} {H : Heap} {s : State} {args : Array Value} {A : Nat → Prop} {C : String} {T : u_T} {N ci a : Nat} {fs : List Value} {Ts : List Cond} (hts : ∀ w ∈ Ts, w.before args s = true) (hin : ∀ w ∈ u_ws C T N, w ∈ Ts) (hK : va_K D cl tys s) (hP : va_P D cl ws H) (q0 : Nat) (he : ws[q0]? = some (a, .inr (ci, fs))) (hc : cl[ci]? = some (C, T, N)) (k : Nat) (hk : k < N) {v : Value} (hv : fs[k]? = some v) (hA : ¬ A a) : va_OF (T k).1 (T k).2.1 (T k).2.2.1 v a A s H := by
  obtain ⟨r, h1, cell, q1, q2, q3, q4⟩ := hP q0 _ he
  have hr : r = (C, T, N) := Option.some.inj (h1.symm.trans hc)
  subst hr
  obtain ⟨hS, hfc, kC, hkC, hkind⟩ := hK.1 ci _ hc
  obtain ⟨cf, kf, fi, f, hi, hsl⟩ := hS k hk
  refine ⟨cf, kf, fi, f, cell, hi, (u_facts hfc hkC (u_lays hts hin hk) hi).1, q1, (by rw [q3]; exact fun h => (by cases h)), ?_, hA⟩
  rw [hsl, q4 k hk]
  show some (fs.getD k .null) = some v
  rw [List.getD_eq_getElem?_getD, hv]
  rfl
theorem tz_out0 {D : va_G} {cl : List vw_C} {ws : va_W} {H : Heap} (hP : va_P D cl ws H) (q0 : Nat) {a : Nat} {e : va_E} (he : ws[q0]? = some (a, e)) : ¬ va_A [] H.size a := by
  rintro (⟨k, e9, hk⟩ | h)
  · simp at hk
  · exact absurd ((hP q0 _ he).lt) (Nat.not_lt.mpr h)
