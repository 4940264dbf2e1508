/-- the words of the tables that a callee's list may bear -/
def WS : List Cond := lw_tbl.filter goodWord
theorem ws_of (i : Nat) {w : Cond} (h : lw_tbl[i]? = some w) (hg : goodWord w = true) : w ∈ WS := List.mem_filter.mpr ⟨List.mem_of_getElem? h, hg⟩
