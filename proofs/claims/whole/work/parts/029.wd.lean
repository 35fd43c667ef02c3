/-- the words of the table that go along with any call -/
def gWd : List Cond := lw_tbl.filter goodWord
theorem gWd_mem {w : Cond} (i : Nat) (h : lw_tbl[i]? = some w) (h2 : goodWord w = true) : w ∈ gWd := List.mem_filter.mpr ⟨List.mem_of_getElem? h, h2⟩
