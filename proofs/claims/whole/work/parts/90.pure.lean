theorem hi_all : HIall Inv := ⟨hi_kite, hi_panel, hi_knot, hi_table, hi_force, hi_stands, hi_steady, hi_pull, hi_trim, hi_wind, hi_line, hi_tie, hi_untie, hi_weaken, hi_ofLine, hi_step, hi_part, hi_least, hi_flyer, hi_blow, hi_tree, hi_agree, hi_fly, hi_why, hi_cone, hi_turn, hi_tangled, hi_undo, hi_unwind, hi_cut, hi_count⟩
theorem hi_0 : Inv z0 M00 := hi_0'
