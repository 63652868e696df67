/-! the rows are as the machine has them: part 8 -/
set_option maxRecDepth 100000 in
theorem kB8 : (qt 8).all (rB qm 8) = true := by decide +kernel
theorem kM8 : mB (qm 8) = true := by decide +kernel
set_option maxRecDepth 100000 in
theorem kB15 : (qt 15).all (rB qm 15) = true := by decide +kernel
theorem kM15 : mB (qm 15) = true := by decide +kernel
set_option maxRecDepth 100000 in
theorem kB33 : (qt 33).all (rB qm 33) = true := by decide +kernel
theorem kM33 : mB (qm 33) = true := by decide +kernel
set_option maxRecDepth 100000 in
theorem kB41 : (qt 41).all (rB qm 41) = true := by decide +kernel
theorem kM41 : mB (qm 41) = true := by decide +kernel
set_option maxRecDepth 100000 in
theorem kB42 : (qt 42).all (rB qm 42) = true := by decide +kernel
theorem kM42 : mB (qm 42) = true := by decide +kernel
set_option maxRecDepth 100000 in
theorem kB47 : (qt 47).all (rB qm 47) = true := by decide +kernel
theorem kM47 : mB (qm 47) = true := by decide +kernel
set_option maxRecDepth 100000 in
theorem kB65 : (qt 65).all (rB qm 65) = true := by decide +kernel
theorem kM65 : mB (qm 65) = true := by decide +kernel
set_option maxRecDepth 100000 in
theorem kB82 : (qt 82).all (rB qm 82) = true := by decide +kernel
theorem kM82 : mB (qm 82) = true := by decide +kernel
set_option maxRecDepth 100000 in
theorem kB84 : (qt 84).all (rB qm 84) = true := by decide +kernel
theorem kM84 : mB (qm 84) = true := by decide +kernel
set_option maxRecDepth 100000 in
theorem kB87 : (qt 87).all (rB qm 87) = true := by decide +kernel
theorem kM87 : mB (qm 87) = true := by decide +kernel
set_option maxRecDepth 100000 in
theorem kB90 : (qt 90).all (rB qm 90) = true := by decide +kernel
theorem kM90 : mB (qm 90) = true := by decide +kernel
set_option maxRecDepth 100000 in
theorem kB92 : (qt 92).all (rB qm 92) = true := by decide +kernel
theorem kM92 : mB (qm 92) = true := by decide +kernel
set_option maxRecDepth 100000 in
theorem kB106 : (qt 106).all (rB qm 106) = true := by decide +kernel
theorem kM106 : mB (qm 106) = true := by decide +kernel
set_option maxRecDepth 100000 in
theorem kB113 : (qt 113).all (rB qm 113) = true := by decide +kernel
theorem kM113 : mB (qm 113) = true := by decide +kernel
set_option maxRecDepth 100000 in
theorem kB117 : (qt 117).all (rB qm 117) = true := by decide +kernel
theorem kM117 : mB (qm 117) = true := by decide +kernel
set_option maxRecDepth 100000 in
theorem kB125 : (qt 125).all (rB qm 125) = true := by decide +kernel
theorem kM125 : mB (qm 125) = true := by decide +kernel
set_option maxRecDepth 100000 in
theorem kB136 : (qt 136).all (rB qm 136) = true := by decide +kernel
theorem kM136 : mB (qm 136) = true := by decide +kernel
set_option maxRecDepth 100000 in
theorem kB140 : (qt 140).all (rB qm 140) = true := by decide +kernel
theorem kM140 : mB (qm 140) = true := by decide +kernel
set_option maxRecDepth 100000 in
theorem kB146 : (qt 146).all (rB qm 146) = true := by decide +kernel
theorem kM146 : mB (qm 146) = true := by decide +kernel
set_option maxRecDepth 100000 in
theorem kB157 : (qt 157).all (rB qm 157) = true := by decide +kernel
theorem kM157 : mB (qm 157) = true := by decide +kernel
set_option maxRecDepth 100000 in
theorem kB163 : (qt 163).all (rB qm 163) = true := by decide +kernel
theorem kM163 : mB (qm 163) = true := by decide +kernel
set_option maxRecDepth 100000 in
theorem kB180 : (qt 180).all (rB qm 180) = true := by decide +kernel
theorem kM180 : mB (qm 180) = true := by decide +kernel
set_option maxRecDepth 100000 in
theorem kB183 : (qt 183).all (rB qm 183) = true := by decide +kernel
theorem kM183 : mB (qm 183) = true := by decide +kernel
