/-! the rows are as the machine has them: part 9 -/
set_option maxRecDepth 100000 in
theorem kB9 : (qt 9).all (rB qm 9) = true := by decide +kernel
theorem kM9 : mB (qm 9) = true := by decide +kernel
set_option maxRecDepth 100000 in
theorem kB16 : (qt 16).all (rB qm 16) = true := by decide +kernel
theorem kM16 : mB (qm 16) = true := by decide +kernel
set_option maxRecDepth 100000 in
theorem kB44 : (qt 44).all (rB qm 44) = true := by decide +kernel
theorem kM44 : mB (qm 44) = true := by decide +kernel
set_option maxRecDepth 100000 in
theorem kB56 : (qt 56).all (rB qm 56) = true := by decide +kernel
theorem kM56 : mB (qm 56) = true := by decide +kernel
set_option maxRecDepth 100000 in
theorem kB145 : (qt 145).all (rB qm 145) = true := by decide +kernel
theorem kM145 : mB (qm 145) = true := by decide +kernel
set_option maxRecDepth 100000 in
theorem kB155 : (qt 155).all (rB qm 155) = true := by decide +kernel
theorem kM155 : mB (qm 155) = true := by decide +kernel
