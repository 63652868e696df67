/-! the rows are as the machine has them: part 1 -/
set_option maxRecDepth 100000 in
theorem kB1 : (qt 1).all (rB qm 1) = true := by decide +kernel
theorem kM1 : mB (qm 1) = true := by decide +kernel
set_option maxRecDepth 100000 in
theorem kB20 : (qt 20).all (rB qm 20) = true := by decide +kernel
theorem kM20 : mB (qm 20) = true := by decide +kernel
set_option maxRecDepth 100000 in
theorem kB30 : (qt 30).all (rB qm 30) = true := by decide +kernel
theorem kM30 : mB (qm 30) = true := by decide +kernel
set_option maxRecDepth 100000 in
theorem kB54 : (qt 54).all (rB qm 54) = true := by decide +kernel
theorem kM54 : mB (qm 54) = true := by decide +kernel
set_option maxRecDepth 100000 in
theorem kB66 : (qt 66).all (rB qm 66) = true := by decide +kernel
theorem kM66 : mB (qm 66) = true := by decide +kernel
