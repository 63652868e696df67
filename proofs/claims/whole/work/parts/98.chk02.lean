/-! the rows are as the machine has them: part 2 -/
set_option maxRecDepth 100000 in
theorem kB2 : (qt 2).all (rB qm 2) = true := by decide +kernel
theorem kM2 : mB (qm 2) = true := by decide +kernel
set_option maxRecDepth 100000 in
theorem kC2 : lw_tbl[(qm 2).2.2.2.2.2.1.1]? = some (.code (qm 2).1 (qm 2).2.1 (qm 2).2.2.1 (qm 2).2.2.2.1) := by rfl
set_option maxRecDepth 100000 in
theorem kB21 : (qt 21).all (rB qm 21) = true := by decide +kernel
theorem kM21 : mB (qm 21) = true := by decide +kernel
set_option maxRecDepth 100000 in
theorem kC21 : lw_tbl[(qm 21).2.2.2.2.2.1.1]? = some (.code (qm 21).1 (qm 21).2.1 (qm 21).2.2.1 (qm 21).2.2.2.1) := by rfl
set_option maxRecDepth 100000 in
theorem kB24 : (qt 24).all (rB qm 24) = true := by decide +kernel
theorem kM24 : mB (qm 24) = true := by decide +kernel
set_option maxRecDepth 100000 in
theorem kC24 : lw_tbl[(qm 24).2.2.2.2.2.1.1]? = some (.code (qm 24).1 (qm 24).2.1 (qm 24).2.2.1 (qm 24).2.2.2.1) := by rfl
set_option maxRecDepth 100000 in
theorem kB45 : (qt 45).all (rB qm 45) = true := by decide +kernel
theorem kM45 : mB (qm 45) = true := by decide +kernel
set_option maxRecDepth 100000 in
theorem kC45 : lw_tbl[(qm 45).2.2.2.2.2.1.1]? = some (.code (qm 45).1 (qm 45).2.1 (qm 45).2.2.1 (qm 45).2.2.2.1) := by rfl
set_option maxRecDepth 100000 in
theorem kB51 : (qt 51).all (rB qm 51) = true := by decide +kernel
theorem kM51 : mB (qm 51) = true := by decide +kernel
set_option maxRecDepth 100000 in
theorem kC51 : lw_tbl[(qm 51).2.2.2.2.2.1.1]? = some (.code (qm 51).1 (qm 51).2.1 (qm 51).2.2.1 (qm 51).2.2.2.1) := by rfl
set_option maxRecDepth 100000 in
theorem kB53_0 : (((qt 53).drop 0).take 60).all (rB qm 53) = true := by decide +kernel
set_option maxRecDepth 100000 in
theorem kB53_1 : ((qt 53).drop 60).all (rB qm 53) = true := by decide +kernel
theorem kB53 : (qt 53).all (rB qm 53) = true := (all_td 60 kB53_0 (by (try rw [List.drop_drop]); exact kB53_1))
theorem kM53 : mB (qm 53) = true := by decide +kernel
set_option maxRecDepth 100000 in
theorem kC53 : lw_tbl[(qm 53).2.2.2.2.2.1.1]? = some (.code (qm 53).1 (qm 53).2.1 (qm 53).2.2.1 (qm 53).2.2.2.1) := by rfl
set_option maxRecDepth 100000 in
theorem kB80 : (qt 80).all (rB qm 80) = true := by decide +kernel
theorem kM80 : mB (qm 80) = true := by decide +kernel
set_option maxRecDepth 100000 in
theorem kC80 : lw_tbl[(qm 80).2.2.2.2.2.1.1]? = some (.code (qm 80).1 (qm 80).2.1 (qm 80).2.2.1 (qm 80).2.2.2.1) := by rfl
set_option maxRecDepth 100000 in
theorem kB97 : (qt 97).all (rB qm 97) = true := by decide +kernel
theorem kM97 : mB (qm 97) = true := by decide +kernel
set_option maxRecDepth 100000 in
theorem kC97 : lw_tbl[(qm 97).2.2.2.2.2.1.1]? = some (.code (qm 97).1 (qm 97).2.1 (qm 97).2.2.1 (qm 97).2.2.2.1) := by rfl
set_option maxRecDepth 100000 in
theorem kB108 : (qt 108).all (rB qm 108) = true := by decide +kernel
theorem kM108 : mB (qm 108) = true := by decide +kernel
set_option maxRecDepth 100000 in
theorem kC108 : lw_tbl[(qm 108).2.2.2.2.2.1.1]? = some (.code (qm 108).1 (qm 108).2.1 (qm 108).2.2.1 (qm 108).2.2.2.1) := by rfl
set_option maxRecDepth 100000 in
theorem kB112 : (qt 112).all (rB qm 112) = true := by decide +kernel
theorem kM112 : mB (qm 112) = true := by decide +kernel
set_option maxRecDepth 100000 in
theorem kC112 : lw_tbl[(qm 112).2.2.2.2.2.1.1]? = some (.code (qm 112).1 (qm 112).2.1 (qm 112).2.2.1 (qm 112).2.2.2.1) := by rfl
set_option maxRecDepth 100000 in
theorem kB116 : (qt 116).all (rB qm 116) = true := by decide +kernel
theorem kM116 : mB (qm 116) = true := by decide +kernel
set_option maxRecDepth 100000 in
theorem kC116 : lw_tbl[(qm 116).2.2.2.2.2.1.1]? = some (.code (qm 116).1 (qm 116).2.1 (qm 116).2.2.1 (qm 116).2.2.2.1) := by rfl
set_option maxRecDepth 100000 in
theorem kB124 : (qt 124).all (rB qm 124) = true := by decide +kernel
theorem kM124 : mB (qm 124) = true := by decide +kernel
set_option maxRecDepth 100000 in
theorem kC124 : lw_tbl[(qm 124).2.2.2.2.2.1.1]? = some (.code (qm 124).1 (qm 124).2.1 (qm 124).2.2.1 (qm 124).2.2.2.1) := by rfl
set_option maxRecDepth 100000 in
theorem kB128 : (qt 128).all (rB qm 128) = true := by decide +kernel
theorem kM128 : mB (qm 128) = true := by decide +kernel
set_option maxRecDepth 100000 in
theorem kC128 : lw_tbl[(qm 128).2.2.2.2.2.1.1]? = some (.code (qm 128).1 (qm 128).2.1 (qm 128).2.2.1 (qm 128).2.2.2.1) := by rfl
set_option maxRecDepth 100000 in
theorem kB132 : (qt 132).all (rB qm 132) = true := by decide +kernel
theorem kM132 : mB (qm 132) = true := by decide +kernel
set_option maxRecDepth 100000 in
theorem kC132 : lw_tbl[(qm 132).2.2.2.2.2.1.1]? = some (.code (qm 132).1 (qm 132).2.1 (qm 132).2.2.1 (qm 132).2.2.2.1) := by rfl
set_option maxRecDepth 100000 in
theorem kB134 : (qt 134).all (rB qm 134) = true := by decide +kernel
theorem kM134 : mB (qm 134) = true := by decide +kernel
set_option maxRecDepth 100000 in
theorem kC134 : lw_tbl[(qm 134).2.2.2.2.2.1.1]? = some (.code (qm 134).1 (qm 134).2.1 (qm 134).2.2.1 (qm 134).2.2.2.1) := by rfl
set_option maxRecDepth 100000 in
theorem kB137 : (qt 137).all (rB qm 137) = true := by decide +kernel
theorem kM137 : mB (qm 137) = true := by decide +kernel
set_option maxRecDepth 100000 in
theorem kC137 : lw_tbl[(qm 137).2.2.2.2.2.1.1]? = some (.code (qm 137).1 (qm 137).2.1 (qm 137).2.2.1 (qm 137).2.2.2.1) := by rfl
set_option maxRecDepth 100000 in
theorem kB151 : (qt 151).all (rB qm 151) = true := by decide +kernel
theorem kM151 : mB (qm 151) = true := by decide +kernel
set_option maxRecDepth 100000 in
theorem kC151 : lw_tbl[(qm 151).2.2.2.2.2.1.1]? = some (.code (qm 151).1 (qm 151).2.1 (qm 151).2.2.1 (qm 151).2.2.2.1) := by rfl
set_option maxRecDepth 100000 in
theorem kB154 : (qt 154).all (rB qm 154) = true := by decide +kernel
theorem kM154 : mB (qm 154) = true := by decide +kernel
set_option maxRecDepth 100000 in
theorem kC154 : lw_tbl[(qm 154).2.2.2.2.2.1.1]? = some (.code (qm 154).1 (qm 154).2.1 (qm 154).2.2.1 (qm 154).2.2.2.1) := by rfl
set_option maxRecDepth 100000 in
theorem kB177 : (qt 177).all (rB qm 177) = true := by decide +kernel
theorem kM177 : mB (qm 177) = true := by decide +kernel
set_option maxRecDepth 100000 in
theorem kC177 : lw_tbl[(qm 177).2.2.2.2.2.1.1]? = some (.code (qm 177).1 (qm 177).2.1 (qm 177).2.2.1 (qm 177).2.2.2.1) := by rfl
