def tb : List Cond := lw_tbl.filter goodWord
theorem zz_1 : .initialized "PollMeshes$State" ∈ tb := List.mem_filter.mpr ⟨List.mem_of_getElem? (i := 58) (by decide +kernel), by decide +kernel⟩
