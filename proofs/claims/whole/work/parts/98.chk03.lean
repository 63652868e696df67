/-! the rows are as the machine has them: part 3 -/
set_option maxRecDepth 100000 in
theorem kB3 : (qt 3).all (rB qm 3) = true := by decide +kernel
theorem kM3 : mB (qm 3) = true := by decide +kernel
set_option maxRecDepth 100000 in
theorem kC3 : lw_tbl[(qm 3).2.2.2.2.2.1.1]? = some (.code (qm 3).1 (qm 3).2.1 (qm 3).2.2.1 (qm 3).2.2.2.1) := by rfl
set_option maxRecDepth 100000 in
theorem kB32_0 : (((qt 32).drop 0).take 60).all (rB qm 32) = true := by decide +kernel
set_option maxRecDepth 100000 in
theorem kB32_1 : ((qt 32).drop 60).all (rB qm 32) = true := by decide +kernel
theorem kB32 : (qt 32).all (rB qm 32) = true := (all_td 60 kB32_0 (by (try rw [List.drop_drop]); exact kB32_1))
theorem kM32 : mB (qm 32) = true := by decide +kernel
set_option maxRecDepth 100000 in
theorem kC32 : lw_tbl[(qm 32).2.2.2.2.2.1.1]? = some (.code (qm 32).1 (qm 32).2.1 (qm 32).2.2.1 (qm 32).2.2.2.1) := by rfl
set_option maxRecDepth 100000 in
theorem kB69 : (qt 69).all (rB qm 69) = true := by decide +kernel
theorem kM69 : mB (qm 69) = true := by decide +kernel
set_option maxRecDepth 100000 in
theorem kC69 : lw_tbl[(qm 69).2.2.2.2.2.1.1]? = some (.code (qm 69).1 (qm 69).2.1 (qm 69).2.2.1 (qm 69).2.2.2.1) := by rfl
set_option maxRecDepth 100000 in
theorem kB78 : (qt 78).all (rB qm 78) = true := by decide +kernel
theorem kM78 : mB (qm 78) = true := by decide +kernel
set_option maxRecDepth 100000 in
theorem kC78 : lw_tbl[(qm 78).2.2.2.2.2.1.1]? = some (.code (qm 78).1 (qm 78).2.1 (qm 78).2.2.1 (qm 78).2.2.2.1) := by rfl
set_option maxRecDepth 100000 in
theorem kB93 : (qt 93).all (rB qm 93) = true := by decide +kernel
theorem kM93 : mB (qm 93) = true := by decide +kernel
set_option maxRecDepth 100000 in
theorem kC93 : lw_tbl[(qm 93).2.2.2.2.2.1.1]? = some (.code (qm 93).1 (qm 93).2.1 (qm 93).2.2.1 (qm 93).2.2.2.1) := by rfl
set_option maxRecDepth 100000 in
theorem kB99_0 : (((qt 99).drop 0).take 60).all (rB qm 99) = true := by decide +kernel
set_option maxRecDepth 100000 in
theorem kB99_1 : ((qt 99).drop 60).all (rB qm 99) = true := by decide +kernel
theorem kB99 : (qt 99).all (rB qm 99) = true := (all_td 60 kB99_0 (by (try rw [List.drop_drop]); exact kB99_1))
theorem kM99 : mB (qm 99) = true := by decide +kernel
set_option maxRecDepth 100000 in
theorem kC99 : lw_tbl[(qm 99).2.2.2.2.2.1.1]? = some (.code (qm 99).1 (qm 99).2.1 (qm 99).2.2.1 (qm 99).2.2.2.1) := by rfl
set_option maxRecDepth 100000 in
theorem kB126 : (qt 126).all (rB qm 126) = true := by decide +kernel
theorem kM126 : mB (qm 126) = true := by decide +kernel
set_option maxRecDepth 100000 in
theorem kC126 : lw_tbl[(qm 126).2.2.2.2.2.1.1]? = some (.code (qm 126).1 (qm 126).2.1 (qm 126).2.2.1 (qm 126).2.2.2.1) := by rfl
set_option maxRecDepth 100000 in
theorem kB130 : (qt 130).all (rB qm 130) = true := by decide +kernel
theorem kM130 : mB (qm 130) = true := by decide +kernel
set_option maxRecDepth 100000 in
theorem kC130 : lw_tbl[(qm 130).2.2.2.2.2.1.1]? = some (.code (qm 130).1 (qm 130).2.1 (qm 130).2.2.1 (qm 130).2.2.2.1) := by rfl
set_option maxRecDepth 100000 in
theorem kB144 : (qt 144).all (rB qm 144) = true := by decide +kernel
theorem kM144 : mB (qm 144) = true := by decide +kernel
set_option maxRecDepth 100000 in
theorem kC144 : lw_tbl[(qm 144).2.2.2.2.2.1.1]? = some (.code (qm 144).1 (qm 144).2.1 (qm 144).2.2.1 (qm 144).2.2.2.1) := by rfl
set_option maxRecDepth 100000 in
theorem kB160 : (qt 160).all (rB qm 160) = true := by decide +kernel
theorem kM160 : mB (qm 160) = true := by decide +kernel
set_option maxRecDepth 100000 in
theorem kC160 : lw_tbl[(qm 160).2.2.2.2.2.1.1]? = some (.code (qm 160).1 (qm 160).2.1 (qm 160).2.2.1 (qm 160).2.2.2.1) := by rfl
set_option maxRecDepth 100000 in
theorem kB171 : (qt 171).all (rB qm 171) = true := by decide +kernel
theorem kM171 : mB (qm 171) = true := by decide +kernel
set_option maxRecDepth 100000 in
theorem kC171 : lw_tbl[(qm 171).2.2.2.2.2.1.1]? = some (.code (qm 171).1 (qm 171).2.1 (qm 171).2.2.1 (qm 171).2.2.2.1) := by rfl
set_option maxRecDepth 100000 in
theorem kB175 : (qt 175).all (rB qm 175) = true := by decide +kernel
theorem kM175 : mB (qm 175) = true := by decide +kernel
set_option maxRecDepth 100000 in
theorem kC175 : lw_tbl[(qm 175).2.2.2.2.2.1.1]? = some (.code (qm 175).1 (qm 175).2.1 (qm 175).2.2.1 (qm 175).2.2.2.1) := by rfl
set_option maxRecDepth 100000 in
theorem kB184 : (qt 184).all (rB qm 184) = true := by decide +kernel
theorem kM184 : mB (qm 184) = true := by decide +kernel
set_option maxRecDepth 100000 in
theorem kC184 : lw_tbl[(qm 184).2.2.2.2.2.1.1]? = some (.code (qm 184).1 (qm 184).2.1 (qm 184).2.2.1 (qm 184).2.2.2.1) := by rfl
