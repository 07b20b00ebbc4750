theorem hi_all : HIall Inv := ⟨sorry, sorry, hi_knot, hi_table, hi_force, hi_stands, hi_steady, hi_pull, sorry, hi_wind, sorry, hi_tie, hi_untie, hi_weaken, sorry, sorry, sorry, sorry, sorry, hi_blow, hi_tree, hi_agree, sorry, sorry, sorry, sorry, hi_tangled, hi_undo, hi_unwind, sorry, hi_count⟩
theorem hi_0 : Inv z0 M00 := hi_0'
