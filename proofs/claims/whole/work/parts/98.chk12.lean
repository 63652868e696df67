/-! the rows are as the machine has them: part 12 -/
set_option maxRecDepth 100000 in
theorem kB12 : (qt 12).all (rB qm 12) = true := by decide +kernel
theorem kM12 : mB (qm 12) = true := by decide +kernel
set_option maxRecDepth 100000 in
theorem kC12 : lw_tbl[(qm 12).2.2.2.2.2.1.1]? = some (.code (qm 12).1 (qm 12).2.1 (qm 12).2.2.1 (qm 12).2.2.2.1) := by rfl
set_option maxRecDepth 100000 in
theorem kB27_0 : (((qt 27).drop 0).take 60).all (rB qm 27) = true := by decide +kernel
set_option maxRecDepth 100000 in
theorem kB27_1 : (((qt 27).drop 60).take 60).all (rB qm 27) = true := by decide +kernel
set_option maxRecDepth 100000 in
theorem kB27_2 : ((qt 27).drop 120).all (rB qm 27) = true := by decide +kernel
theorem kB27 : (qt 27).all (rB qm 27) = true := (all_td 60 kB27_0 (by (try rw [List.drop_drop]); exact (all_td 60 kB27_1 (by (try rw [List.drop_drop]); exact kB27_2))))
theorem kM27 : mB (qm 27) = true := by decide +kernel
set_option maxRecDepth 100000 in
theorem kC27 : lw_tbl[(qm 27).2.2.2.2.2.1.1]? = some (.code (qm 27).1 (qm 27).2.1 (qm 27).2.2.1 (qm 27).2.2.2.1) := by rfl
set_option maxRecDepth 100000 in
theorem kB81 : (qt 81).all (rB qm 81) = true := by decide +kernel
theorem kM81 : mB (qm 81) = true := by decide +kernel
set_option maxRecDepth 100000 in
theorem kC81 : lw_tbl[(qm 81).2.2.2.2.2.1.1]? = some (.code (qm 81).1 (qm 81).2.1 (qm 81).2.2.1 (qm 81).2.2.2.1) := by rfl
set_option maxRecDepth 100000 in
theorem kB85 : (qt 85).all (rB qm 85) = true := by decide +kernel
theorem kM85 : mB (qm 85) = true := by decide +kernel
set_option maxRecDepth 100000 in
theorem kC85 : lw_tbl[(qm 85).2.2.2.2.2.1.1]? = some (.code (qm 85).1 (qm 85).2.1 (qm 85).2.2.1 (qm 85).2.2.2.1) := by rfl
set_option maxRecDepth 100000 in
theorem kB89_0 : (((qt 89).drop 0).take 60).all (rB qm 89) = true := by decide +kernel
set_option maxRecDepth 100000 in
theorem kB89_1 : ((qt 89).drop 60).all (rB qm 89) = true := by decide +kernel
theorem kB89 : (qt 89).all (rB qm 89) = true := (all_td 60 kB89_0 (by (try rw [List.drop_drop]); exact kB89_1))
theorem kM89 : mB (qm 89) = true := by decide +kernel
set_option maxRecDepth 100000 in
theorem kC89 : lw_tbl[(qm 89).2.2.2.2.2.1.1]? = some (.code (qm 89).1 (qm 89).2.1 (qm 89).2.2.1 (qm 89).2.2.2.1) := by rfl
set_option maxRecDepth 100000 in
theorem kB111_0 : (((qt 111).drop 0).take 60).all (rB qm 111) = true := by decide +kernel
set_option maxRecDepth 100000 in
theorem kB111_1 : ((qt 111).drop 60).all (rB qm 111) = true := by decide +kernel
theorem kB111 : (qt 111).all (rB qm 111) = true := (all_td 60 kB111_0 (by (try rw [List.drop_drop]); exact kB111_1))
theorem kM111 : mB (qm 111) = true := by decide +kernel
set_option maxRecDepth 100000 in
theorem kC111 : lw_tbl[(qm 111).2.2.2.2.2.1.1]? = some (.code (qm 111).1 (qm 111).2.1 (qm 111).2.2.1 (qm 111).2.2.2.1) := by rfl
set_option maxRecDepth 100000 in
theorem kB135 : (qt 135).all (rB qm 135) = true := by decide +kernel
theorem kM135 : mB (qm 135) = true := by decide +kernel
set_option maxRecDepth 100000 in
theorem kC135 : lw_tbl[(qm 135).2.2.2.2.2.1.1]? = some (.code (qm 135).1 (qm 135).2.1 (qm 135).2.2.1 (qm 135).2.2.2.1) := by rfl
set_option maxRecDepth 100000 in
theorem kB139 : (qt 139).all (rB qm 139) = true := by decide +kernel
theorem kM139 : mB (qm 139) = true := by decide +kernel
set_option maxRecDepth 100000 in
theorem kC139 : lw_tbl[(qm 139).2.2.2.2.2.1.1]? = some (.code (qm 139).1 (qm 139).2.1 (qm 139).2.2.1 (qm 139).2.2.2.1) := by rfl
set_option maxRecDepth 100000 in
theorem kB142 : (qt 142).all (rB qm 142) = true := by decide +kernel
theorem kM142 : mB (qm 142) = true := by decide +kernel
set_option maxRecDepth 100000 in
theorem kC142 : lw_tbl[(qm 142).2.2.2.2.2.1.1]? = some (.code (qm 142).1 (qm 142).2.1 (qm 142).2.2.1 (qm 142).2.2.2.1) := by rfl
set_option maxRecDepth 100000 in
theorem kB148_0 : (((qt 148).drop 0).take 60).all (rB qm 148) = true := by decide +kernel
set_option maxRecDepth 100000 in
theorem kB148_1 : ((qt 148).drop 60).all (rB qm 148) = true := by decide +kernel
theorem kB148 : (qt 148).all (rB qm 148) = true := (all_td 60 kB148_0 (by (try rw [List.drop_drop]); exact kB148_1))
theorem kM148 : mB (qm 148) = true := by decide +kernel
set_option maxRecDepth 100000 in
theorem kC148 : lw_tbl[(qm 148).2.2.2.2.2.1.1]? = some (.code (qm 148).1 (qm 148).2.1 (qm 148).2.2.1 (qm 148).2.2.2.1) := by rfl
set_option maxRecDepth 100000 in
theorem kB179 : (qt 179).all (rB qm 179) = true := by decide +kernel
theorem kM179 : mB (qm 179) = true := by decide +kernel
set_option maxRecDepth 100000 in
theorem kC179 : lw_tbl[(qm 179).2.2.2.2.2.1.1]? = some (.code (qm 179).1 (qm 179).2.1 (qm 179).2.2.1 (qm 179).2.2.2.1) := by rfl
