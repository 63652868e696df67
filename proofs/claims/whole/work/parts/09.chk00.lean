/-! the rows are as the machine has them: part 0 -/
set_option maxRecDepth 100000 in
theorem kB0 : (qt 0).all (rB qm 0) = true := by decide +kernel
theorem kM0 : mB (qm 0) = true := by decide +kernel
set_option maxRecDepth 100000 in
theorem kB18 : (qt 18).all (rB qm 18) = true := by decide +kernel
theorem kM18 : mB (qm 18) = true := by decide +kernel
set_option maxRecDepth 100000 in
theorem kB29 : (qt 29).all (rB qm 29) = true := by decide +kernel
theorem kM29 : mB (qm 29) = true := by decide +kernel
set_option maxRecDepth 100000 in
theorem kB104 : (qt 104).all (rB qm 104) = true := by decide +kernel
theorem kM104 : mB (qm 104) = true := by decide +kernel
set_option maxRecDepth 100000 in
theorem kB110 : (qt 110).all (rB qm 110) = true := by decide +kernel
theorem kM110 : mB (qm 110) = true := by decide +kernel
set_option maxRecDepth 100000 in
theorem kB119 : (qt 119).all (rB qm 119) = true := by decide +kernel
theorem kM119 : mB (qm 119) = true := by decide +kernel
set_option maxRecDepth 100000 in
theorem kB186 : (qt 186).all (rB qm 186) = true := by decide +kernel
theorem kM186 : mB (qm 186) = true := by decide +kernel
