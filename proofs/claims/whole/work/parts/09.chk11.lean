/-! the rows are as the machine has them: part 11 -/
set_option maxRecDepth 100000 in
theorem kB11 : (qt 11).all (rB qm 11) = true := by decide +kernel
theorem kM11 : mB (qm 11) = true := by decide +kernel
set_option maxRecDepth 100000 in
theorem kB37 : (qt 37).all (rB qm 37) = true := by decide +kernel
theorem kM37 : mB (qm 37) = true := by decide +kernel
set_option maxRecDepth 100000 in
theorem kB49 : (qt 49).all (rB qm 49) = true := by decide +kernel
theorem kM49 : mB (qm 49) = true := by decide +kernel
set_option maxRecDepth 100000 in
theorem kB61 : (qt 61).all (rB qm 61) = true := by decide +kernel
theorem kM61 : mB (qm 61) = true := by decide +kernel
set_option maxRecDepth 100000 in
theorem kB68 : (qt 68).all (rB qm 68) = true := by decide +kernel
theorem kM68 : mB (qm 68) = true := by decide +kernel
set_option maxRecDepth 100000 in
theorem kB71 : (qt 71).all (rB qm 71) = true := by decide +kernel
theorem kM71 : mB (qm 71) = true := by decide +kernel
set_option maxRecDepth 100000 in
theorem kB73 : (qt 73).all (rB qm 73) = true := by decide +kernel
theorem kM73 : mB (qm 73) = true := by decide +kernel
set_option maxRecDepth 100000 in
theorem kB77 : (qt 77).all (rB qm 77) = true := by decide +kernel
theorem kM77 : mB (qm 77) = true := by decide +kernel
set_option maxRecDepth 100000 in
theorem kB114 : (qt 114).all (rB qm 114) = true := by decide +kernel
theorem kM114 : mB (qm 114) = true := by decide +kernel
set_option maxRecDepth 100000 in
theorem kB122 : (qt 122).all (rB qm 122) = true := by decide +kernel
theorem kM122 : mB (qm 122) = true := by decide +kernel
set_option maxRecDepth 100000 in
theorem kB156 : (qt 156).all (rB qm 156) = true := by decide +kernel
theorem kM156 : mB (qm 156) = true := by decide +kernel
set_option maxRecDepth 100000 in
theorem kB164 : (qt 164).all (rB qm 164) = true := by decide +kernel
theorem kM164 : mB (qm 164) = true := by decide +kernel
set_option maxRecDepth 100000 in
theorem kB191 : (qt 191).all (rB qm 191) = true := by decide +kernel
theorem kM191 : mB (qm 191) = true := by decide +kernel
