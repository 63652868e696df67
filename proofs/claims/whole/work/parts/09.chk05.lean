/-! the rows are as the machine has them: part 5 -/
set_option maxRecDepth 100000 in
theorem kB5 : (qt 5).all (rB qm 5) = true := by decide +kernel
theorem kM5 : mB (qm 5) = true := by decide +kernel
set_option maxRecDepth 100000 in
theorem kB14 : (qt 14).all (rB qm 14) = true := by decide +kernel
theorem kM14 : mB (qm 14) = true := by decide +kernel
set_option maxRecDepth 100000 in
theorem kB19 : (qt 19).all (rB qm 19) = true := by decide +kernel
theorem kM19 : mB (qm 19) = true := by decide +kernel
set_option maxRecDepth 100000 in
theorem kB36 : (qt 36).all (rB qm 36) = true := by decide +kernel
theorem kM36 : mB (qm 36) = true := by decide +kernel
set_option maxRecDepth 100000 in
theorem kB48 : (qt 48).all (rB qm 48) = true := by decide +kernel
theorem kM48 : mB (qm 48) = true := by decide +kernel
set_option maxRecDepth 100000 in
theorem kB63 : (qt 63).all (rB qm 63) = true := by decide +kernel
theorem kM63 : mB (qm 63) = true := by decide +kernel
set_option maxRecDepth 100000 in
theorem kB70 : (qt 70).all (rB qm 70) = true := by decide +kernel
theorem kM70 : mB (qm 70) = true := by decide +kernel
set_option maxRecDepth 100000 in
theorem kB88 : (qt 88).all (rB qm 88) = true := by decide +kernel
theorem kM88 : mB (qm 88) = true := by decide +kernel
set_option maxRecDepth 100000 in
theorem kB98 : (qt 98).all (rB qm 98) = true := by decide +kernel
theorem kM98 : mB (qm 98) = true := by decide +kernel
set_option maxRecDepth 100000 in
theorem kB101 : (qt 101).all (rB qm 101) = true := by decide +kernel
theorem kM101 : mB (qm 101) = true := by decide +kernel
set_option maxRecDepth 100000 in
theorem kB107 : (qt 107).all (rB qm 107) = true := by decide +kernel
theorem kM107 : mB (qm 107) = true := by decide +kernel
set_option maxRecDepth 100000 in
theorem kB109 : (qt 109).all (rB qm 109) = true := by decide +kernel
theorem kM109 : mB (qm 109) = true := by decide +kernel
set_option maxRecDepth 100000 in
theorem kB115 : (qt 115).all (rB qm 115) = true := by decide +kernel
theorem kM115 : mB (qm 115) = true := by decide +kernel
set_option maxRecDepth 100000 in
theorem kB123 : (qt 123).all (rB qm 123) = true := by decide +kernel
theorem kM123 : mB (qm 123) = true := by decide +kernel
set_option maxRecDepth 100000 in
theorem kB129 : (qt 129).all (rB qm 129) = true := by decide +kernel
theorem kM129 : mB (qm 129) = true := by decide +kernel
set_option maxRecDepth 100000 in
theorem kB133 : (qt 133).all (rB qm 133) = true := by decide +kernel
theorem kM133 : mB (qm 133) = true := by decide +kernel
set_option maxRecDepth 100000 in
theorem kB138 : (qt 138).all (rB qm 138) = true := by decide +kernel
theorem kM138 : mB (qm 138) = true := by decide +kernel
set_option maxRecDepth 100000 in
theorem kB149 : (qt 149).all (rB qm 149) = true := by decide +kernel
theorem kM149 : mB (qm 149) = true := by decide +kernel
set_option maxRecDepth 100000 in
theorem kB152 : (qt 152).all (rB qm 152) = true := by decide +kernel
theorem kM152 : mB (qm 152) = true := by decide +kernel
set_option maxRecDepth 100000 in
theorem kB173 : (qt 173).all (rB qm 173) = true := by decide +kernel
theorem kM173 : mB (qm 173) = true := by decide +kernel
