/-! the rows are as the machine has them: part 0 -/
set_option maxRecDepth 100000 in
theorem kB0 : (qt 0).all (rB qm 0) = true := by decide +kernel
theorem kM0 : mB (qm 0) = true := by decide +kernel
set_option maxRecDepth 100000 in
theorem kC0 : lw_tbl[(qm 0).2.2.2.2.2.1.1]? = some (.code (qm 0).1 (qm 0).2.1 (qm 0).2.2.1 (qm 0).2.2.2.1) := by rfl
set_option maxRecDepth 100000 in
theorem kB18 : (qt 18).all (rB qm 18) = true := by decide +kernel
theorem kM18 : mB (qm 18) = true := by decide +kernel
set_option maxRecDepth 100000 in
theorem kC18 : lw_tbl[(qm 18).2.2.2.2.2.1.1]? = some (.code (qm 18).1 (qm 18).2.1 (qm 18).2.2.1 (qm 18).2.2.2.1) := by rfl
set_option maxRecDepth 100000 in
theorem kB29_0 : (((qt 29).drop 0).take 60).all (rB qm 29) = true := by decide +kernel
set_option maxRecDepth 100000 in
theorem kB29_1 : (((qt 29).drop 60).take 60).all (rB qm 29) = true := by decide +kernel
set_option maxRecDepth 100000 in
theorem kB29_2 : ((qt 29).drop 120).all (rB qm 29) = true := by decide +kernel
theorem kB29 : (qt 29).all (rB qm 29) = true := (all_td 60 kB29_0 (by (try rw [List.drop_drop]); exact (all_td 60 kB29_1 (by (try rw [List.drop_drop]); exact kB29_2))))
theorem kM29 : mB (qm 29) = true := by decide +kernel
set_option maxRecDepth 100000 in
theorem kC29 : lw_tbl[(qm 29).2.2.2.2.2.1.1]? = some (.code (qm 29).1 (qm 29).2.1 (qm 29).2.2.1 (qm 29).2.2.2.1) := by rfl
set_option maxRecDepth 100000 in
theorem kB104 : (qt 104).all (rB qm 104) = true := by decide +kernel
theorem kM104 : mB (qm 104) = true := by decide +kernel
set_option maxRecDepth 100000 in
theorem kC104 : lw_tbl[(qm 104).2.2.2.2.2.1.1]? = some (.code (qm 104).1 (qm 104).2.1 (qm 104).2.2.1 (qm 104).2.2.2.1) := by rfl
set_option maxRecDepth 100000 in
theorem kB110 : (qt 110).all (rB qm 110) = true := by decide +kernel
theorem kM110 : mB (qm 110) = true := by decide +kernel
set_option maxRecDepth 100000 in
theorem kC110 : lw_tbl[(qm 110).2.2.2.2.2.1.1]? = some (.code (qm 110).1 (qm 110).2.1 (qm 110).2.2.1 (qm 110).2.2.2.1) := by rfl
set_option maxRecDepth 100000 in
theorem kB119_0 : (((qt 119).drop 0).take 60).all (rB qm 119) = true := by decide +kernel
set_option maxRecDepth 100000 in
theorem kB119_1 : (((qt 119).drop 60).take 60).all (rB qm 119) = true := by decide +kernel
set_option maxRecDepth 100000 in
theorem kB119_2 : ((qt 119).drop 120).all (rB qm 119) = true := by decide +kernel
theorem kB119 : (qt 119).all (rB qm 119) = true := (all_td 60 kB119_0 (by (try rw [List.drop_drop]); exact (all_td 60 kB119_1 (by (try rw [List.drop_drop]); exact kB119_2))))
theorem kM119 : mB (qm 119) = true := by decide +kernel
set_option maxRecDepth 100000 in
theorem kC119 : lw_tbl[(qm 119).2.2.2.2.2.1.1]? = some (.code (qm 119).1 (qm 119).2.1 (qm 119).2.2.1 (qm 119).2.2.2.1) := by rfl
set_option maxRecDepth 100000 in
theorem kB186 : (qt 186).all (rB qm 186) = true := by decide +kernel
theorem kM186 : mB (qm 186) = true := by decide +kernel
set_option maxRecDepth 100000 in
theorem kC186 : lw_tbl[(qm 186).2.2.2.2.2.1.1]? = some (.code (qm 186).1 (qm 186).2.1 (qm 186).2.2.1 (qm 186).2.2.2.1) := by rfl
