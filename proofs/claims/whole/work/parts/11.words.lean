/-! ONE WORD LIST FOR ALL METHODS (own rows; tw_): a method's words are its code, then all good words of lw_tbl -/
def tw_tbl : List Cond := lw_tbl.filter goodWord
theorem tw_mem {w : Cond} (h : w ∈ lw_tbl) (hg : goodWord w = true) : w ∈ tw_tbl := List.mem_filter.mpr ⟨h, hg⟩
theorem tw_sub {w : Cond} (h : w ∈ tw_tbl) : w ∈ lw_tbl := (List.mem_filter.mp h).1
theorem tw_in {big : List Cond} (h : ∀ w ∈ tw_tbl, w ∈ big) {cd : Cond} (hcd : cd ∈ tw_tbl) : GoodIn big (cd :: tw_tbl) := by
  intro w hw
  have hw2 : w ∈ tw_tbl := by
    rcases List.mem_cons.mp hw with rfl | h2
    · exact hcd
    · exact h2
  exact ⟨h w hw2, good_of_word (List.mem_filter.mp hw2).2⟩
theorem tw_inM {cd0 cd : Cond} (hcd : cd ∈ tw_tbl) : GoodIn (cd0 :: tw_tbl) (cd :: tw_tbl) := tw_in (fun _ h => List.mem_cons_of_mem _ h) hcd
theorem tw_inL {cd : Cond} (hcd : cd ∈ tw_tbl) : GoodIn tw_tbl (cd :: tw_tbl) := tw_in (fun _ h => h) hcd
/-- the rows of the Statement's tables, list by list -/
theorem tw_t1 {w : Cond} (h : w ∈ tables_1_1) (hg : goodWord w = true) : w ∈ tw_tbl := tw_mem (List.mem_append_right _ (List.mem_append_left _ h)) hg
theorem tw_t2 {w : Cond} (h : w ∈ tables_1_2) (hg : goodWord w = true) : w ∈ tw_tbl := tw_mem (List.mem_append_right _ (List.mem_append_right _ (List.mem_append_left _ h))) hg
theorem tw_x1 : Cond.initialized "SyntaxForge$Bytes" ∈ tw_tbl := tw_t1 (List.mem_of_getElem? (i := 2) rfl) rfl
theorem tw_x2 : Cond.initialized "SyntaxForgeModel$Module" ∈ tw_tbl := tw_t1 (List.mem_of_getElem? (i := 40) rfl) rfl
theorem tw_x3 : Cond.arrayClass .byte ∈ tw_tbl := tw_t1 (List.mem_of_getElem? (i := 80) rfl) rfl
theorem tw_x4 : Cond.methodLink "SyntaxForge$Bytes" 19 ({ cls := "java/util/Arrays", name := "copyOf", desc := "([BI)[B" } : MethodName) ∈ tw_tbl := tw_t1 (List.mem_of_getElem? (i := 200) rfl) rfl
