/-! the rows are as the machine has them: part 10 -/
set_option maxRecDepth 100000 in
theorem kB10 : (qt 10).all (rB qm 10) = true := by decide +kernel
theorem kM10 : mB (qm 10) = true := by decide +kernel
set_option maxRecDepth 100000 in
theorem kB17 : (qt 17).all (rB qm 17) = true := by decide +kernel
theorem kM17 : mB (qm 17) = true := by decide +kernel
set_option maxRecDepth 100000 in
theorem kB26 : (qt 26).all (rB qm 26) = true := by decide +kernel
theorem kM26 : mB (qm 26) = true := by decide +kernel
set_option maxRecDepth 100000 in
theorem kB31 : (qt 31).all (rB qm 31) = true := by decide +kernel
theorem kM31 : mB (qm 31) = true := by decide +kernel
set_option maxRecDepth 100000 in
theorem kB79 : (qt 79).all (rB qm 79) = true := by decide +kernel
theorem kM79 : mB (qm 79) = true := by decide +kernel
set_option maxRecDepth 100000 in
theorem kB83 : (qt 83).all (rB qm 83) = true := by decide +kernel
theorem kM83 : mB (qm 83) = true := by decide +kernel
set_option maxRecDepth 100000 in
theorem kB86 : (qt 86).all (rB qm 86) = true := by decide +kernel
theorem kM86 : mB (qm 86) = true := by decide +kernel
set_option maxRecDepth 100000 in
theorem kB100 : (qt 100).all (rB qm 100) = true := by decide +kernel
theorem kM100 : mB (qm 100) = true := by decide +kernel
set_option maxRecDepth 100000 in
theorem kB102 : (qt 102).all (rB qm 102) = true := by decide +kernel
theorem kM102 : mB (qm 102) = true := by decide +kernel
set_option maxRecDepth 100000 in
theorem kB121 : (qt 121).all (rB qm 121) = true := by decide +kernel
theorem kM121 : mB (qm 121) = true := by decide +kernel
set_option maxRecDepth 100000 in
theorem kB161 : (qt 161).all (rB qm 161) = true := by decide +kernel
theorem kM161 : mB (qm 161) = true := by decide +kernel
set_option maxRecDepth 100000 in
theorem kB168 : (qt 168).all (rB qm 168) = true := by decide +kernel
theorem kM168 : mB (qm 168) = true := by decide +kernel
set_option maxRecDepth 100000 in
theorem kB182 : (qt 182).all (rB qm 182) = true := by decide +kernel
theorem kM182 : mB (qm 182) = true := by decide +kernel
set_option maxRecDepth 100000 in
theorem kB188 : (qt 188).all (rB qm 188) = true := by decide +kernel
theorem kM188 : mB (qm 188) = true := by decide +kernel
set_option maxRecDepth 100000 in
theorem kB190 : (qt 190).all (rB qm 190) = true := by decide +kernel
theorem kM190 : mB (qm 190) = true := by decide +kernel
