/-! the rows are as the machine has them: part 3 -/
set_option maxRecDepth 100000 in
theorem kB3 : (qt 3).all (rB qm 3) = true := by decide +kernel
theorem kM3 : mB (qm 3) = true := by decide +kernel
set_option maxRecDepth 100000 in
theorem kB32 : (qt 32).all (rB qm 32) = true := by decide +kernel
theorem kM32 : mB (qm 32) = true := by decide +kernel
set_option maxRecDepth 100000 in
theorem kB69 : (qt 69).all (rB qm 69) = true := by decide +kernel
theorem kM69 : mB (qm 69) = true := by decide +kernel
set_option maxRecDepth 100000 in
theorem kB78 : (qt 78).all (rB qm 78) = true := by decide +kernel
theorem kM78 : mB (qm 78) = true := by decide +kernel
set_option maxRecDepth 100000 in
theorem kB93 : (qt 93).all (rB qm 93) = true := by decide +kernel
theorem kM93 : mB (qm 93) = true := by decide +kernel
set_option maxRecDepth 100000 in
theorem kB99 : (qt 99).all (rB qm 99) = true := by decide +kernel
theorem kM99 : mB (qm 99) = true := by decide +kernel
set_option maxRecDepth 100000 in
theorem kB126 : (qt 126).all (rB qm 126) = true := by decide +kernel
theorem kM126 : mB (qm 126) = true := by decide +kernel
set_option maxRecDepth 100000 in
theorem kB130 : (qt 130).all (rB qm 130) = true := by decide +kernel
theorem kM130 : mB (qm 130) = true := by decide +kernel
set_option maxRecDepth 100000 in
theorem kB144 : (qt 144).all (rB qm 144) = true := by decide +kernel
theorem kM144 : mB (qm 144) = true := by decide +kernel
set_option maxRecDepth 100000 in
theorem kB160 : (qt 160).all (rB qm 160) = true := by decide +kernel
theorem kM160 : mB (qm 160) = true := by decide +kernel
set_option maxRecDepth 100000 in
theorem kB171 : (qt 171).all (rB qm 171) = true := by decide +kernel
theorem kM171 : mB (qm 171) = true := by decide +kernel
set_option maxRecDepth 100000 in
theorem kB175 : (qt 175).all (rB qm 175) = true := by decide +kernel
theorem kM175 : mB (qm 175) = true := by decide +kernel
set_option maxRecDepth 100000 in
theorem kB184 : (qt 184).all (rB qm 184) = true := by decide +kernel
theorem kM184 : mB (qm 184) = true := by decide +kernel
