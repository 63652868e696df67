/-! the rows are as the machine has them: part 9 -/
set_option maxRecDepth 100000 in
theorem kB9 : (qt 9).all (rB qm 9) = true := by decide +kernel
theorem kM9 : mB (qm 9) = true := by decide +kernel
set_option maxRecDepth 100000 in
theorem kC9 : lw_tbl[(qm 9).2.2.2.2.2.1.1]? = some (.code (qm 9).1 (qm 9).2.1 (qm 9).2.2.1 (qm 9).2.2.2.1) := by rfl
set_option maxRecDepth 100000 in
theorem kB16 : (qt 16).all (rB qm 16) = true := by decide +kernel
theorem kM16 : mB (qm 16) = true := by decide +kernel
set_option maxRecDepth 100000 in
theorem kC16 : lw_tbl[(qm 16).2.2.2.2.2.1.1]? = some (.code (qm 16).1 (qm 16).2.1 (qm 16).2.2.1 (qm 16).2.2.2.1) := by rfl
set_option maxRecDepth 100000 in
theorem kB44 : (qt 44).all (rB qm 44) = true := by decide +kernel
theorem kM44 : mB (qm 44) = true := by decide +kernel
set_option maxRecDepth 100000 in
theorem kC44 : lw_tbl[(qm 44).2.2.2.2.2.1.1]? = some (.code (qm 44).1 (qm 44).2.1 (qm 44).2.2.1 (qm 44).2.2.2.1) := by rfl
set_option maxRecDepth 100000 in
theorem kB56_0 : (((qt 56).drop 0).take 60).all (rB qm 56) = true := by decide +kernel
set_option maxRecDepth 100000 in
theorem kB56_1 : (((qt 56).drop 60).take 60).all (rB qm 56) = true := by decide +kernel
set_option maxRecDepth 100000 in
theorem kB56_2 : (((qt 56).drop 120).take 60).all (rB qm 56) = true := by decide +kernel
set_option maxRecDepth 100000 in
theorem kB56_3 : ((qt 56).drop 180).all (rB qm 56) = true := by decide +kernel
theorem kB56 : (qt 56).all (rB qm 56) = true := (all_td 60 kB56_0 (by (try rw [List.drop_drop]); exact (all_td 60 kB56_1 (by (try rw [List.drop_drop]); exact (all_td 60 kB56_2 (by (try rw [List.drop_drop]); exact kB56_3))))))
theorem kM56 : mB (qm 56) = true := by decide +kernel
set_option maxRecDepth 100000 in
theorem kC56 : lw_tbl[(qm 56).2.2.2.2.2.1.1]? = some (.code (qm 56).1 (qm 56).2.1 (qm 56).2.2.1 (qm 56).2.2.2.1) := by rfl
set_option maxRecDepth 100000 in
theorem kB145 : (qt 145).all (rB qm 145) = true := by decide +kernel
theorem kM145 : mB (qm 145) = true := by decide +kernel
set_option maxRecDepth 100000 in
theorem kC145 : lw_tbl[(qm 145).2.2.2.2.2.1.1]? = some (.code (qm 145).1 (qm 145).2.1 (qm 145).2.2.1 (qm 145).2.2.2.1) := by rfl
set_option maxRecDepth 100000 in
theorem kB155_0 : (((qt 155).drop 0).take 60).all (rB qm 155) = true := by decide +kernel
set_option maxRecDepth 100000 in
theorem kB155_1 : ((qt 155).drop 60).all (rB qm 155) = true := by decide +kernel
theorem kB155 : (qt 155).all (rB qm 155) = true := (all_td 60 kB155_0 (by (try rw [List.drop_drop]); exact kB155_1))
theorem kM155 : mB (qm 155) = true := by decide +kernel
set_option maxRecDepth 100000 in
theorem kC155 : lw_tbl[(qm 155).2.2.2.2.2.1.1]? = some (.code (qm 155).1 (qm 155).2.1 (qm 155).2.2.1 (qm 155).2.2.2.1) := by rfl
