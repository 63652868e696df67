/-! the rows are as the machine has them: part 1 -/
set_option maxRecDepth 100000 in
theorem kB1 : (qt 1).all (rB qm 1) = true := by decide +kernel
theorem kM1 : mB (qm 1) = true := by decide +kernel
set_option maxRecDepth 100000 in
theorem kC1 : lw_tbl[(qm 1).2.2.2.2.2.1.1]? = some (.code (qm 1).1 (qm 1).2.1 (qm 1).2.2.1 (qm 1).2.2.2.1) := by rfl
set_option maxRecDepth 100000 in
theorem kB20 : (qt 20).all (rB qm 20) = true := by decide +kernel
theorem kM20 : mB (qm 20) = true := by decide +kernel
set_option maxRecDepth 100000 in
theorem kC20 : lw_tbl[(qm 20).2.2.2.2.2.1.1]? = some (.code (qm 20).1 (qm 20).2.1 (qm 20).2.2.1 (qm 20).2.2.2.1) := by rfl
set_option maxRecDepth 100000 in
theorem kB30 : (qt 30).all (rB qm 30) = true := by decide +kernel
theorem kM30 : mB (qm 30) = true := by decide +kernel
set_option maxRecDepth 100000 in
theorem kC30 : lw_tbl[(qm 30).2.2.2.2.2.1.1]? = some (.code (qm 30).1 (qm 30).2.1 (qm 30).2.2.1 (qm 30).2.2.2.1) := by rfl
set_option maxRecDepth 100000 in
theorem kB54 : (qt 54).all (rB qm 54) = true := by decide +kernel
theorem kM54 : mB (qm 54) = true := by decide +kernel
set_option maxRecDepth 100000 in
theorem kC54 : lw_tbl[(qm 54).2.2.2.2.2.1.1]? = some (.code (qm 54).1 (qm 54).2.1 (qm 54).2.2.1 (qm 54).2.2.2.1) := by rfl
set_option maxRecDepth 100000 in
theorem kB66_0 : (((qt 66).drop 0).take 60).all (rB qm 66) = true := by decide +kernel
set_option maxRecDepth 100000 in
theorem kB66_1 : (((qt 66).drop 60).take 60).all (rB qm 66) = true := by decide +kernel
set_option maxRecDepth 100000 in
theorem kB66_2 : (((qt 66).drop 120).take 60).all (rB qm 66) = true := by decide +kernel
set_option maxRecDepth 100000 in
theorem kB66_3 : (((qt 66).drop 180).take 60).all (rB qm 66) = true := by decide +kernel
set_option maxRecDepth 100000 in
theorem kB66_4 : (((qt 66).drop 240).take 60).all (rB qm 66) = true := by decide +kernel
set_option maxRecDepth 100000 in
theorem kB66_5 : ((qt 66).drop 300).all (rB qm 66) = true := by decide +kernel
theorem kB66 : (qt 66).all (rB qm 66) = true := (all_td 60 kB66_0 (by (try rw [List.drop_drop]); exact (all_td 60 kB66_1 (by (try rw [List.drop_drop]); exact (all_td 60 kB66_2 (by (try rw [List.drop_drop]); exact (all_td 60 kB66_3 (by (try rw [List.drop_drop]); exact (all_td 60 kB66_4 (by (try rw [List.drop_drop]); exact kB66_5))))))))))
theorem kM66 : mB (qm 66) = true := by decide +kernel
set_option maxRecDepth 100000 in
theorem kC66 : lw_tbl[(qm 66).2.2.2.2.2.1.1]? = some (.code (qm 66).1 (qm 66).2.1 (qm 66).2.2.1 (qm 66).2.2.2.1) := by rfl
