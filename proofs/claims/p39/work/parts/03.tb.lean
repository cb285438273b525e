/-! the words of the tables that keep, and where they stand -/
def TB : List Cond := lw_tbl.filter goodWord
theorem TBm {w : Cond} (i : Nat) (h : lw_tbl[i]? = some w) (g : goodWord w = true) : w ∈ TB := List.mem_filter.mpr ⟨List.mem_of_getElem? h, g⟩
theorem TBg : ∀ w ∈ TB, goodWord w = true := fun _ h => (List.mem_filter.mp h).2
