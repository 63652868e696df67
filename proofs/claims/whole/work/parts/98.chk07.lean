/-! the rows are as the machine has them: part 7 -/
set_option maxRecDepth 100000 in
theorem kB7 : (qt 7).all (rB qm 7) = true := by decide +kernel
theorem kM7 : mB (qm 7) = true := by decide +kernel
set_option maxRecDepth 100000 in
theorem kC7 : lw_tbl[(qm 7).2.2.2.2.2.1.1]? = some (.code (qm 7).1 (qm 7).2.1 (qm 7).2.2.1 (qm 7).2.2.2.1) := by rfl
set_option maxRecDepth 100000 in
theorem kB23 : (qt 23).all (rB qm 23) = true := by decide +kernel
theorem kM23 : mB (qm 23) = true := by decide +kernel
set_option maxRecDepth 100000 in
theorem kC23 : lw_tbl[(qm 23).2.2.2.2.2.1.1]? = some (.code (qm 23).1 (qm 23).2.1 (qm 23).2.2.1 (qm 23).2.2.2.1) := by rfl
set_option maxRecDepth 100000 in
theorem kB34 : (qt 34).all (rB qm 34) = true := by decide +kernel
theorem kM34 : mB (qm 34) = true := by decide +kernel
set_option maxRecDepth 100000 in
theorem kC34 : lw_tbl[(qm 34).2.2.2.2.2.1.1]? = some (.code (qm 34).1 (qm 34).2.1 (qm 34).2.2.1 (qm 34).2.2.2.1) := by rfl
set_option maxRecDepth 100000 in
theorem kB39 : (qt 39).all (rB qm 39) = true := by decide +kernel
theorem kM39 : mB (qm 39) = true := by decide +kernel
set_option maxRecDepth 100000 in
theorem kC39 : lw_tbl[(qm 39).2.2.2.2.2.1.1]? = some (.code (qm 39).1 (qm 39).2.1 (qm 39).2.2.1 (qm 39).2.2.2.1) := by rfl
set_option maxRecDepth 100000 in
theorem kB50 : (qt 50).all (rB qm 50) = true := by decide +kernel
theorem kM50 : mB (qm 50) = true := by decide +kernel
set_option maxRecDepth 100000 in
theorem kC50 : lw_tbl[(qm 50).2.2.2.2.2.1.1]? = some (.code (qm 50).1 (qm 50).2.1 (qm 50).2.2.1 (qm 50).2.2.2.1) := by rfl
set_option maxRecDepth 100000 in
theorem kB52 : (qt 52).all (rB qm 52) = true := by decide +kernel
theorem kM52 : mB (qm 52) = true := by decide +kernel
set_option maxRecDepth 100000 in
theorem kC52 : lw_tbl[(qm 52).2.2.2.2.2.1.1]? = some (.code (qm 52).1 (qm 52).2.1 (qm 52).2.2.1 (qm 52).2.2.2.1) := by rfl
set_option maxRecDepth 100000 in
theorem kB58_0 : (((qt 58).drop 0).take 60).all (rB qm 58) = true := by decide +kernel
set_option maxRecDepth 100000 in
theorem kB58_1 : ((qt 58).drop 60).all (rB qm 58) = true := by decide +kernel
theorem kB58 : (qt 58).all (rB qm 58) = true := (all_td 60 kB58_0 (by (try rw [List.drop_drop]); exact kB58_1))
theorem kM58 : mB (qm 58) = true := by decide +kernel
set_option maxRecDepth 100000 in
theorem kC58 : lw_tbl[(qm 58).2.2.2.2.2.1.1]? = some (.code (qm 58).1 (qm 58).2.1 (qm 58).2.2.1 (qm 58).2.2.2.1) := by rfl
set_option maxRecDepth 100000 in
theorem kB91 : (qt 91).all (rB qm 91) = true := by decide +kernel
theorem kM91 : mB (qm 91) = true := by decide +kernel
set_option maxRecDepth 100000 in
theorem kC91 : lw_tbl[(qm 91).2.2.2.2.2.1.1]? = some (.code (qm 91).1 (qm 91).2.1 (qm 91).2.2.1 (qm 91).2.2.2.1) := by rfl
set_option maxRecDepth 100000 in
theorem kB95 : (qt 95).all (rB qm 95) = true := by decide +kernel
theorem kM95 : mB (qm 95) = true := by decide +kernel
set_option maxRecDepth 100000 in
theorem kC95 : lw_tbl[(qm 95).2.2.2.2.2.1.1]? = some (.code (qm 95).1 (qm 95).2.1 (qm 95).2.2.1 (qm 95).2.2.2.1) := by rfl
set_option maxRecDepth 100000 in
theorem kB105 : (qt 105).all (rB qm 105) = true := by decide +kernel
theorem kM105 : mB (qm 105) = true := by decide +kernel
set_option maxRecDepth 100000 in
theorem kC105 : lw_tbl[(qm 105).2.2.2.2.2.1.1]? = some (.code (qm 105).1 (qm 105).2.1 (qm 105).2.2.1 (qm 105).2.2.2.1) := by rfl
set_option maxRecDepth 100000 in
theorem kB120_0 : (((qt 120).drop 0).take 60).all (rB qm 120) = true := by decide +kernel
set_option maxRecDepth 100000 in
theorem kB120_1 : (((qt 120).drop 60).take 60).all (rB qm 120) = true := by decide +kernel
set_option maxRecDepth 100000 in
theorem kB120_2 : ((qt 120).drop 120).all (rB qm 120) = true := by decide +kernel
theorem kB120 : (qt 120).all (rB qm 120) = true := (all_td 60 kB120_0 (by (try rw [List.drop_drop]); exact (all_td 60 kB120_1 (by (try rw [List.drop_drop]); exact kB120_2))))
theorem kM120 : mB (qm 120) = true := by decide +kernel
set_option maxRecDepth 100000 in
theorem kC120 : lw_tbl[(qm 120).2.2.2.2.2.1.1]? = some (.code (qm 120).1 (qm 120).2.1 (qm 120).2.2.1 (qm 120).2.2.2.1) := by rfl
set_option maxRecDepth 100000 in
theorem kB174 : (qt 174).all (rB qm 174) = true := by decide +kernel
theorem kM174 : mB (qm 174) = true := by decide +kernel
set_option maxRecDepth 100000 in
theorem kC174 : lw_tbl[(qm 174).2.2.2.2.2.1.1]? = some (.code (qm 174).1 (qm 174).2.1 (qm 174).2.2.1 (qm 174).2.2.2.1) := by rfl
set_option maxRecDepth 100000 in
theorem kB176_0 : (((qt 176).drop 0).take 60).all (rB qm 176) = true := by decide +kernel
set_option maxRecDepth 100000 in
theorem kB176_1 : ((qt 176).drop 60).all (rB qm 176) = true := by decide +kernel
theorem kB176 : (qt 176).all (rB qm 176) = true := (all_td 60 kB176_0 (by (try rw [List.drop_drop]); exact kB176_1))
theorem kM176 : mB (qm 176) = true := by decide +kernel
set_option maxRecDepth 100000 in
theorem kC176 : lw_tbl[(qm 176).2.2.2.2.2.1.1]? = some (.code (qm 176).1 (qm 176).2.1 (qm 176).2.2.1 (qm 176).2.2.2.1) := by rfl
