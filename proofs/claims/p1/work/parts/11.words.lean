/-! ONE WORD LIST FOR ALL METHODS (own rows; tw_): a method's words are its code, then all good words of lw_tbl -/
def tw_tbl : List Cond := lw_tbl.filter goodWord
theorem tw_mem {w : Cond} (h : w ∈ lw_tbl) (hg : goodWord w = true) : w ∈ tw_tbl := List.mem_filter.mpr ⟨h, hg⟩
theorem tw_sub {w : Cond} (h : w ∈ tw_tbl) : w ∈ lw_tbl := (List.mem_filter.mp h).1
theorem tw_in {big : List Cond} (h : ∀ w ∈ tw_tbl, w ∈ big) {cd : Cond} (hcd : cd ∈ tw_tbl) : GoodIn big (cd :: tw_tbl) := by
  intro w hw
  have hw2 : w ∈ tw_tbl := by
    rcases List.mem_cons.mp hw with rfl | h2
    · exact hcd
    · exact h2
  exact ⟨h w hw2, good_of_word (List.mem_filter.mp hw2).2⟩
theorem tw_inM {cd0 cd : Cond} (hcd : cd ∈ tw_tbl) : GoodIn (cd0 :: tw_tbl) (cd :: tw_tbl) := tw_in (fun _ h => List.mem_cons_of_mem _ h) hcd
theorem tw_inL {cd : Cond} (hcd : cd ∈ tw_tbl) : GoodIn tw_tbl (cd :: tw_tbl) := tw_in (fun _ h => h) hcd
