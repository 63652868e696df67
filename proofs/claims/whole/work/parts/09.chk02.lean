/-! the rows are as the machine has them: part 2 -/
set_option maxRecDepth 100000 in
theorem kB2 : (qt 2).all (rB qm 2) = true := by decide +kernel
theorem kM2 : mB (qm 2) = true := by decide +kernel
set_option maxRecDepth 100000 in
theorem kB21 : (qt 21).all (rB qm 21) = true := by decide +kernel
theorem kM21 : mB (qm 21) = true := by decide +kernel
set_option maxRecDepth 100000 in
theorem kB24 : (qt 24).all (rB qm 24) = true := by decide +kernel
theorem kM24 : mB (qm 24) = true := by decide +kernel
set_option maxRecDepth 100000 in
theorem kB45 : (qt 45).all (rB qm 45) = true := by decide +kernel
theorem kM45 : mB (qm 45) = true := by decide +kernel
set_option maxRecDepth 100000 in
theorem kB51 : (qt 51).all (rB qm 51) = true := by decide +kernel
theorem kM51 : mB (qm 51) = true := by decide +kernel
set_option maxRecDepth 100000 in
theorem kB53 : (qt 53).all (rB qm 53) = true := by decide +kernel
theorem kM53 : mB (qm 53) = true := by decide +kernel
set_option maxRecDepth 100000 in
theorem kB80 : (qt 80).all (rB qm 80) = true := by decide +kernel
theorem kM80 : mB (qm 80) = true := by decide +kernel
set_option maxRecDepth 100000 in
theorem kB97 : (qt 97).all (rB qm 97) = true := by decide +kernel
theorem kM97 : mB (qm 97) = true := by decide +kernel
set_option maxRecDepth 100000 in
theorem kB108 : (qt 108).all (rB qm 108) = true := by decide +kernel
theorem kM108 : mB (qm 108) = true := by decide +kernel
set_option maxRecDepth 100000 in
theorem kB112 : (qt 112).all (rB qm 112) = true := by decide +kernel
theorem kM112 : mB (qm 112) = true := by decide +kernel
set_option maxRecDepth 100000 in
theorem kB116 : (qt 116).all (rB qm 116) = true := by decide +kernel
theorem kM116 : mB (qm 116) = true := by decide +kernel
set_option maxRecDepth 100000 in
theorem kB124 : (qt 124).all (rB qm 124) = true := by decide +kernel
theorem kM124 : mB (qm 124) = true := by decide +kernel
set_option maxRecDepth 100000 in
theorem kB128 : (qt 128).all (rB qm 128) = true := by decide +kernel
theorem kM128 : mB (qm 128) = true := by decide +kernel
set_option maxRecDepth 100000 in
theorem kB132 : (qt 132).all (rB qm 132) = true := by decide +kernel
theorem kM132 : mB (qm 132) = true := by decide +kernel
set_option maxRecDepth 100000 in
theorem kB134 : (qt 134).all (rB qm 134) = true := by decide +kernel
theorem kM134 : mB (qm 134) = true := by decide +kernel
set_option maxRecDepth 100000 in
theorem kB137 : (qt 137).all (rB qm 137) = true := by decide +kernel
theorem kM137 : mB (qm 137) = true := by decide +kernel
set_option maxRecDepth 100000 in
theorem kB151 : (qt 151).all (rB qm 151) = true := by decide +kernel
theorem kM151 : mB (qm 151) = true := by decide +kernel
set_option maxRecDepth 100000 in
theorem kB154 : (qt 154).all (rB qm 154) = true := by decide +kernel
theorem kM154 : mB (qm 154) = true := by decide +kernel
set_option maxRecDepth 100000 in
theorem kB177 : (qt 177).all (rB qm 177) = true := by decide +kernel
theorem kM177 : mB (qm 177) = true := by decide +kernel
