/-! the fields' words, and that the classes can be made -/
theorem z_LAYb : (List.range 12).all (fun c => (u_ws (z_cl (c + 1)).1 (z_cl (c + 1)).2.1 (z_cl (c + 1)).2.2).all (fun w => decide (w ∈ lw_tbl) && goodWord w)) = true := by decide +kernel
theorem z_INSb : (List.range 12).all (fun c => decide (Jvm.Cond.instantiable (z_cl (c + 1)).1 (z_cl (c + 1)).2.2 ∈ lw_tbl)) = true := by decide +kernel
