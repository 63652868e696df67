/-! the rows are as the machine has them: part 2 -/
set_option maxRecDepth 100000 in
theorem kB2 : (qt 2).all (rB qm 2) = true := by decide +kernel
theorem kM2 : mB (qm 2) = true := by decide +kernel
set_option maxRecDepth 100000 in
theorem kB6 : (qt 6).all (rB qm 6) = true := by decide +kernel
theorem kM6 : mB (qm 6) = true := by decide +kernel
set_option maxRecDepth 100000 in
theorem kB10 : (qt 10).all (rB qm 10) = true := by decide +kernel
theorem kM10 : mB (qm 10) = true := by decide +kernel
set_option maxRecDepth 100000 in
theorem kB14 : (qt 14).all (rB qm 14) = true := by decide +kernel
theorem kM14 : mB (qm 14) = true := by decide +kernel
set_option maxRecDepth 100000 in
theorem kB15 : (qt 15).all (rB qm 15) = true := by decide +kernel
theorem kM15 : mB (qm 15) = true := by decide +kernel
set_option maxRecDepth 100000 in
theorem kB19 : (qt 19).all (rB qm 19) = true := by decide +kernel
theorem kM19 : mB (qm 19) = true := by decide +kernel
set_option maxRecDepth 100000 in
theorem kB24 : (qt 24).all (rB qm 24) = true := by decide +kernel
theorem kM24 : mB (qm 24) = true := by decide +kernel
set_option maxRecDepth 100000 in
theorem kB30 : (qt 30).all (rB qm 30) = true := by decide +kernel
theorem kM30 : mB (qm 30) = true := by decide +kernel
set_option maxRecDepth 100000 in
theorem kB32 : (qt 32).all (rB qm 32) = true := by decide +kernel
theorem kM32 : mB (qm 32) = true := by decide +kernel
set_option maxRecDepth 100000 in
theorem kB36 : (qt 36).all (rB qm 36) = true := by decide +kernel
theorem kM36 : mB (qm 36) = true := by decide +kernel
set_option maxRecDepth 100000 in
theorem kB40 : (qt 40).all (rB qm 40) = true := by decide +kernel
theorem kM40 : mB (qm 40) = true := by decide +kernel
set_option maxRecDepth 100000 in
theorem kB43 : (qt 43).all (rB qm 43) = true := by decide +kernel
theorem kM43 : mB (qm 43) = true := by decide +kernel
set_option maxRecDepth 100000 in
theorem kB46 : (qt 46).all (rB qm 46) = true := by decide +kernel
theorem kM46 : mB (qm 46) = true := by decide +kernel
set_option maxRecDepth 100000 in
theorem kB49 : (qt 49).all (rB qm 49) = true := by decide +kernel
theorem kM49 : mB (qm 49) = true := by decide +kernel
set_option maxRecDepth 100000 in
theorem kB55 : (qt 55).all (rB qm 55) = true := by decide +kernel
theorem kM55 : mB (qm 55) = true := by decide +kernel
set_option maxRecDepth 100000 in
theorem kB57 : (qt 57).all (rB qm 57) = true := by decide +kernel
theorem kM57 : mB (qm 57) = true := by decide +kernel
set_option maxRecDepth 100000 in
theorem kB58 : (qt 58).all (rB qm 58) = true := by decide +kernel
theorem kM58 : mB (qm 58) = true := by decide +kernel
set_option maxRecDepth 100000 in
theorem kB66 : (qt 66).all (rB qm 66) = true := by decide +kernel
theorem kM66 : mB (qm 66) = true := by decide +kernel
set_option maxRecDepth 100000 in
theorem kB90 : (qt 90).all (rB qm 90) = true := by decide +kernel
theorem kM90 : mB (qm 90) = true := by decide +kernel
set_option maxRecDepth 100000 in
theorem kB91 : (qt 91).all (rB qm 91) = true := by decide +kernel
theorem kM91 : mB (qm 91) = true := by decide +kernel
set_option maxRecDepth 100000 in
theorem kB94 : (qt 94).all (rB qm 94) = true := by decide +kernel
theorem kM94 : mB (qm 94) = true := by decide +kernel
set_option maxRecDepth 100000 in
theorem kB96 : (qt 96).all (rB qm 96) = true := by decide +kernel
theorem kM96 : mB (qm 96) = true := by decide +kernel
set_option maxRecDepth 100000 in
theorem kB104 : (qt 104).all (rB qm 104) = true := by decide +kernel
theorem kM104 : mB (qm 104) = true := by decide +kernel
set_option maxRecDepth 100000 in
theorem kB105 : (qt 105).all (rB qm 105) = true := by decide +kernel
theorem kM105 : mB (qm 105) = true := by decide +kernel
set_option maxRecDepth 100000 in
theorem kB114 : (qt 114).all (rB qm 114) = true := by decide +kernel
theorem kM114 : mB (qm 114) = true := by decide +kernel
set_option maxRecDepth 100000 in
theorem kB117 : (qt 117).all (rB qm 117) = true := by decide +kernel
theorem kM117 : mB (qm 117) = true := by decide +kernel
set_option maxRecDepth 100000 in
theorem kB121 : (qt 121).all (rB qm 121) = true := by decide +kernel
theorem kM121 : mB (qm 121) = true := by decide +kernel
set_option maxRecDepth 100000 in
theorem kB124 : (qt 124).all (rB qm 124) = true := by decide +kernel
theorem kM124 : mB (qm 124) = true := by decide +kernel
set_option maxRecDepth 100000 in
theorem kB127 : (qt 127).all (rB qm 127) = true := by decide +kernel
theorem kM127 : mB (qm 127) = true := by decide +kernel
set_option maxRecDepth 100000 in
theorem kB134 : (qt 134).all (rB qm 134) = true := by decide +kernel
theorem kM134 : mB (qm 134) = true := by decide +kernel
set_option maxRecDepth 100000 in
theorem kB135 : (qt 135).all (rB qm 135) = true := by decide +kernel
theorem kM135 : mB (qm 135) = true := by decide +kernel
set_option maxRecDepth 100000 in
theorem kB139 : (qt 139).all (rB qm 139) = true := by decide +kernel
theorem kM139 : mB (qm 139) = true := by decide +kernel
set_option maxRecDepth 100000 in
theorem kB140 : (qt 140).all (rB qm 140) = true := by decide +kernel
theorem kM140 : mB (qm 140) = true := by decide +kernel
set_option maxRecDepth 100000 in
theorem kB142 : (qt 142).all (rB qm 142) = true := by decide +kernel
theorem kM142 : mB (qm 142) = true := by decide +kernel
set_option maxRecDepth 100000 in
theorem kB146 : (qt 146).all (rB qm 146) = true := by decide +kernel
theorem kM146 : mB (qm 146) = true := by decide +kernel
set_option maxRecDepth 100000 in
theorem kB150 : (qt 150).all (rB qm 150) = true := by decide +kernel
theorem kM150 : mB (qm 150) = true := by decide +kernel
set_option maxRecDepth 100000 in
theorem kB153 : (qt 153).all (rB qm 153) = true := by decide +kernel
theorem kM153 : mB (qm 153) = true := by decide +kernel
set_option maxRecDepth 100000 in
theorem kB155 : (qt 155).all (rB qm 155) = true := by decide +kernel
theorem kM155 : mB (qm 155) = true := by decide +kernel
set_option maxRecDepth 100000 in
theorem kB164 : (qt 164).all (rB qm 164) = true := by decide +kernel
theorem kM164 : mB (qm 164) = true := by decide +kernel
set_option maxRecDepth 100000 in
theorem kB172 : (qt 172).all (rB qm 172) = true := by decide +kernel
theorem kM172 : mB (qm 172) = true := by decide +kernel
set_option maxRecDepth 100000 in
theorem kB177 : (qt 177).all (rB qm 177) = true := by decide +kernel
theorem kM177 : mB (qm 177) = true := by decide +kernel
set_option maxRecDepth 100000 in
theorem kB181 : (qt 181).all (rB qm 181) = true := by decide +kernel
theorem kM181 : mB (qm 181) = true := by decide +kernel
set_option maxRecDepth 100000 in
theorem kB183 : (qt 183).all (rB qm 183) = true := by decide +kernel
theorem kM183 : mB (qm 183) = true := by decide +kernel
set_option maxRecDepth 100000 in
theorem kB187 : (qt 187).all (rB qm 187) = true := by decide +kernel
theorem kM187 : mB (qm 187) = true := by decide +kernel
