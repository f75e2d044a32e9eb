/-! MID LAYER: one word list for all methods; contracts as data; lift to a larger world; calls; ends -/
def WALL : List Cond := lw_tbl.filter goodWord
theorem wall_mem {w : Cond} (h : w ∈ lw_tbl) (hg : goodWord w = true) : w ∈ WALL := List.mem_filter.mpr ⟨h, hg⟩
theorem wall_good {w : Cond} (h : w ∈ WALL) : goodWord w = true := (List.mem_filter.mp h).2
theorem wall_in {w : Cond} (h : w ∈ WALL) : w ∈ lw_tbl := (List.mem_filter.mp h).1
