/-! the rows are as the machine has them: part 14 -/
set_option maxRecDepth 100000 in
theorem kB192_0 : (((qt 192).drop 0).take 60).all (rB qm 192) = true := by decide +kernel
set_option maxRecDepth 100000 in
theorem kB192_1 : (((qt 192).drop 60).take 60).all (rB qm 192) = true := by decide +kernel
set_option maxRecDepth 100000 in
theorem kB192_2 : (((qt 192).drop 120).take 60).all (rB qm 192) = true := by decide +kernel
set_option maxRecDepth 100000 in
theorem kB192_3 : (((qt 192).drop 180).take 60).all (rB qm 192) = true := by decide +kernel
set_option maxRecDepth 100000 in
theorem kB192_4 : (((qt 192).drop 240).take 60).all (rB qm 192) = true := by decide +kernel
set_option maxRecDepth 100000 in
theorem kB192_5 : (((qt 192).drop 300).take 60).all (rB qm 192) = true := by decide +kernel
set_option maxRecDepth 100000 in
theorem kB192_6 : (((qt 192).drop 360).take 60).all (rB qm 192) = true := by decide +kernel
set_option maxRecDepth 100000 in
theorem kB192_7 : (((qt 192).drop 420).take 60).all (rB qm 192) = true := by decide +kernel
set_option maxRecDepth 100000 in
theorem kB192_8 : ((qt 192).drop 480).all (rB qm 192) = true := by decide +kernel
theorem kB192 : (qt 192).all (rB qm 192) = true := (all_td 60 kB192_0 (by (try rw [List.drop_drop]); exact (all_td 60 kB192_1 (by (try rw [List.drop_drop]); exact (all_td 60 kB192_2 (by (try rw [List.drop_drop]); exact (all_td 60 kB192_3 (by (try rw [List.drop_drop]); exact (all_td 60 kB192_4 (by (try rw [List.drop_drop]); exact (all_td 60 kB192_5 (by (try rw [List.drop_drop]); exact (all_td 60 kB192_6 (by (try rw [List.drop_drop]); exact (all_td 60 kB192_7 (by (try rw [List.drop_drop]); exact kB192_8))))))))))))))))
