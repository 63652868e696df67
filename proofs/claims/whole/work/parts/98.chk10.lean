/-! the rows are as the machine has them: part 10 -/
set_option maxRecDepth 100000 in
theorem kB10 : (qt 10).all (rB qm 10) = true := by decide +kernel
theorem kM10 : mB (qm 10) = true := by decide +kernel
set_option maxRecDepth 100000 in
theorem kC10 : lw_tbl[(qm 10).2.2.2.2.2.1.1]? = some (.code (qm 10).1 (qm 10).2.1 (qm 10).2.2.1 (qm 10).2.2.2.1) := by rfl
set_option maxRecDepth 100000 in
theorem kB17 : (qt 17).all (rB qm 17) = true := by decide +kernel
theorem kM17 : mB (qm 17) = true := by decide +kernel
set_option maxRecDepth 100000 in
theorem kC17 : lw_tbl[(qm 17).2.2.2.2.2.1.1]? = some (.code (qm 17).1 (qm 17).2.1 (qm 17).2.2.1 (qm 17).2.2.2.1) := by rfl
set_option maxRecDepth 100000 in
theorem kB26 : (qt 26).all (rB qm 26) = true := by decide +kernel
theorem kM26 : mB (qm 26) = true := by decide +kernel
set_option maxRecDepth 100000 in
theorem kC26 : lw_tbl[(qm 26).2.2.2.2.2.1.1]? = some (.code (qm 26).1 (qm 26).2.1 (qm 26).2.2.1 (qm 26).2.2.2.1) := by rfl
set_option maxRecDepth 100000 in
theorem kB31_0 : (((qt 31).drop 0).take 60).all (rB qm 31) = true := by decide +kernel
set_option maxRecDepth 100000 in
theorem kB31_1 : ((qt 31).drop 60).all (rB qm 31) = true := by decide +kernel
theorem kB31 : (qt 31).all (rB qm 31) = true := (all_td 60 kB31_0 (by (try rw [List.drop_drop]); exact kB31_1))
theorem kM31 : mB (qm 31) = true := by decide +kernel
set_option maxRecDepth 100000 in
theorem kC31 : lw_tbl[(qm 31).2.2.2.2.2.1.1]? = some (.code (qm 31).1 (qm 31).2.1 (qm 31).2.2.1 (qm 31).2.2.2.1) := by rfl
set_option maxRecDepth 100000 in
theorem kB79 : (qt 79).all (rB qm 79) = true := by decide +kernel
theorem kM79 : mB (qm 79) = true := by decide +kernel
set_option maxRecDepth 100000 in
theorem kC79 : lw_tbl[(qm 79).2.2.2.2.2.1.1]? = some (.code (qm 79).1 (qm 79).2.1 (qm 79).2.2.1 (qm 79).2.2.2.1) := by rfl
set_option maxRecDepth 100000 in
theorem kB83 : (qt 83).all (rB qm 83) = true := by decide +kernel
theorem kM83 : mB (qm 83) = true := by decide +kernel
set_option maxRecDepth 100000 in
theorem kC83 : lw_tbl[(qm 83).2.2.2.2.2.1.1]? = some (.code (qm 83).1 (qm 83).2.1 (qm 83).2.2.1 (qm 83).2.2.2.1) := by rfl
set_option maxRecDepth 100000 in
theorem kB86 : (qt 86).all (rB qm 86) = true := by decide +kernel
theorem kM86 : mB (qm 86) = true := by decide +kernel
set_option maxRecDepth 100000 in
theorem kC86 : lw_tbl[(qm 86).2.2.2.2.2.1.1]? = some (.code (qm 86).1 (qm 86).2.1 (qm 86).2.2.1 (qm 86).2.2.2.1) := by rfl
set_option maxRecDepth 100000 in
theorem kB100 : (qt 100).all (rB qm 100) = true := by decide +kernel
theorem kM100 : mB (qm 100) = true := by decide +kernel
set_option maxRecDepth 100000 in
theorem kC100 : lw_tbl[(qm 100).2.2.2.2.2.1.1]? = some (.code (qm 100).1 (qm 100).2.1 (qm 100).2.2.1 (qm 100).2.2.2.1) := by rfl
set_option maxRecDepth 100000 in
theorem kB102_0 : (((qt 102).drop 0).take 60).all (rB qm 102) = true := by decide +kernel
set_option maxRecDepth 100000 in
theorem kB102_1 : ((qt 102).drop 60).all (rB qm 102) = true := by decide +kernel
theorem kB102 : (qt 102).all (rB qm 102) = true := (all_td 60 kB102_0 (by (try rw [List.drop_drop]); exact kB102_1))
theorem kM102 : mB (qm 102) = true := by decide +kernel
set_option maxRecDepth 100000 in
theorem kC102 : lw_tbl[(qm 102).2.2.2.2.2.1.1]? = some (.code (qm 102).1 (qm 102).2.1 (qm 102).2.2.1 (qm 102).2.2.2.1) := by rfl
set_option maxRecDepth 100000 in
theorem kB121_0 : (((qt 121).drop 0).take 60).all (rB qm 121) = true := by decide +kernel
set_option maxRecDepth 100000 in
theorem kB121_1 : ((qt 121).drop 60).all (rB qm 121) = true := by decide +kernel
theorem kB121 : (qt 121).all (rB qm 121) = true := (all_td 60 kB121_0 (by (try rw [List.drop_drop]); exact kB121_1))
theorem kM121 : mB (qm 121) = true := by decide +kernel
set_option maxRecDepth 100000 in
theorem kC121 : lw_tbl[(qm 121).2.2.2.2.2.1.1]? = some (.code (qm 121).1 (qm 121).2.1 (qm 121).2.2.1 (qm 121).2.2.2.1) := by rfl
set_option maxRecDepth 100000 in
theorem kB161 : (qt 161).all (rB qm 161) = true := by decide +kernel
theorem kM161 : mB (qm 161) = true := by decide +kernel
set_option maxRecDepth 100000 in
theorem kC161 : lw_tbl[(qm 161).2.2.2.2.2.1.1]? = some (.code (qm 161).1 (qm 161).2.1 (qm 161).2.2.1 (qm 161).2.2.2.1) := by rfl
set_option maxRecDepth 100000 in
theorem kB168 : (qt 168).all (rB qm 168) = true := by decide +kernel
theorem kM168 : mB (qm 168) = true := by decide +kernel
set_option maxRecDepth 100000 in
theorem kC168 : lw_tbl[(qm 168).2.2.2.2.2.1.1]? = some (.code (qm 168).1 (qm 168).2.1 (qm 168).2.2.1 (qm 168).2.2.2.1) := by rfl
set_option maxRecDepth 100000 in
theorem kB182 : (qt 182).all (rB qm 182) = true := by decide +kernel
theorem kM182 : mB (qm 182) = true := by decide +kernel
set_option maxRecDepth 100000 in
theorem kC182 : lw_tbl[(qm 182).2.2.2.2.2.1.1]? = some (.code (qm 182).1 (qm 182).2.1 (qm 182).2.2.1 (qm 182).2.2.2.1) := by rfl
set_option maxRecDepth 100000 in
theorem kB188 : (qt 188).all (rB qm 188) = true := by decide +kernel
theorem kM188 : mB (qm 188) = true := by decide +kernel
set_option maxRecDepth 100000 in
theorem kC188 : lw_tbl[(qm 188).2.2.2.2.2.1.1]? = some (.code (qm 188).1 (qm 188).2.1 (qm 188).2.2.1 (qm 188).2.2.2.1) := by rfl
set_option maxRecDepth 100000 in
theorem kB190 : (qt 190).all (rB qm 190) = true := by decide +kernel
theorem kM190 : mB (qm 190) = true := by decide +kernel
set_option maxRecDepth 100000 in
theorem kC190 : lw_tbl[(qm 190).2.2.2.2.2.1.1]? = some (.code (qm 190).1 (qm 190).2.1 (qm 190).2.2.1 (qm 190).2.2.2.1) := by rfl
