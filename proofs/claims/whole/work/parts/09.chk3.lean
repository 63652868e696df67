/-! the rows are as the machine has them: part 3 -/
set_option maxRecDepth 100000 in
theorem kB3 : (qt 3).all (rB qm 3) = true := by decide +kernel
theorem kM3 : mB (qm 3) = true := by decide +kernel
set_option maxRecDepth 100000 in
theorem kB11 : (qt 11).all (rB qm 11) = true := by decide +kernel
theorem kM11 : mB (qm 11) = true := by decide +kernel
set_option maxRecDepth 100000 in
theorem kB18 : (qt 18).all (rB qm 18) = true := by decide +kernel
theorem kM18 : mB (qm 18) = true := by decide +kernel
set_option maxRecDepth 100000 in
theorem kB21 : (qt 21).all (rB qm 21) = true := by decide +kernel
theorem kM21 : mB (qm 21) = true := by decide +kernel
set_option maxRecDepth 100000 in
theorem kB23 : (qt 23).all (rB qm 23) = true := by decide +kernel
theorem kM23 : mB (qm 23) = true := by decide +kernel
set_option maxRecDepth 100000 in
theorem kB26 : (qt 26).all (rB qm 26) = true := by decide +kernel
theorem kM26 : mB (qm 26) = true := by decide +kernel
set_option maxRecDepth 100000 in
theorem kB29 : (qt 29).all (rB qm 29) = true := by decide +kernel
theorem kM29 : mB (qm 29) = true := by decide +kernel
set_option maxRecDepth 100000 in
theorem kB39 : (qt 39).all (rB qm 39) = true := by decide +kernel
theorem kM39 : mB (qm 39) = true := by decide +kernel
set_option maxRecDepth 100000 in
theorem kB44 : (qt 44).all (rB qm 44) = true := by decide +kernel
theorem kM44 : mB (qm 44) = true := by decide +kernel
set_option maxRecDepth 100000 in
theorem kB47 : (qt 47).all (rB qm 47) = true := by decide +kernel
theorem kM47 : mB (qm 47) = true := by decide +kernel
set_option maxRecDepth 100000 in
theorem kB52 : (qt 52).all (rB qm 52) = true := by decide +kernel
theorem kM52 : mB (qm 52) = true := by decide +kernel
set_option maxRecDepth 100000 in
theorem kB56 : (qt 56).all (rB qm 56) = true := by decide +kernel
theorem kM56 : mB (qm 56) = true := by decide +kernel
set_option maxRecDepth 100000 in
theorem kB71 : (qt 71).all (rB qm 71) = true := by decide +kernel
theorem kM71 : mB (qm 71) = true := by decide +kernel
set_option maxRecDepth 100000 in
theorem kB72 : (qt 72).all (rB qm 72) = true := by decide +kernel
theorem kM72 : mB (qm 72) = true := by decide +kernel
set_option maxRecDepth 100000 in
theorem kB82 : (qt 82).all (rB qm 82) = true := by decide +kernel
theorem kM82 : mB (qm 82) = true := by decide +kernel
set_option maxRecDepth 100000 in
theorem kB83 : (qt 83).all (rB qm 83) = true := by decide +kernel
theorem kM83 : mB (qm 83) = true := by decide +kernel
set_option maxRecDepth 100000 in
theorem kB85 : (qt 85).all (rB qm 85) = true := by decide +kernel
theorem kM85 : mB (qm 85) = true := by decide +kernel
set_option maxRecDepth 100000 in
theorem kB88 : (qt 88).all (rB qm 88) = true := by decide +kernel
theorem kM88 : mB (qm 88) = true := by decide +kernel
set_option maxRecDepth 100000 in
theorem kB92 : (qt 92).all (rB qm 92) = true := by decide +kernel
theorem kM92 : mB (qm 92) = true := by decide +kernel
set_option maxRecDepth 100000 in
theorem kB98 : (qt 98).all (rB qm 98) = true := by decide +kernel
theorem kM98 : mB (qm 98) = true := by decide +kernel
set_option maxRecDepth 100000 in
theorem kB100 : (qt 100).all (rB qm 100) = true := by decide +kernel
theorem kM100 : mB (qm 100) = true := by decide +kernel
set_option maxRecDepth 100000 in
theorem kB101 : (qt 101).all (rB qm 101) = true := by decide +kernel
theorem kM101 : mB (qm 101) = true := by decide +kernel
set_option maxRecDepth 100000 in
theorem kB103 : (qt 103).all (rB qm 103) = true := by decide +kernel
theorem kM103 : mB (qm 103) = true := by decide +kernel
set_option maxRecDepth 100000 in
theorem kB108 : (qt 108).all (rB qm 108) = true := by decide +kernel
theorem kM108 : mB (qm 108) = true := by decide +kernel
set_option maxRecDepth 100000 in
theorem kB110 : (qt 110).all (rB qm 110) = true := by decide +kernel
theorem kM110 : mB (qm 110) = true := by decide +kernel
set_option maxRecDepth 100000 in
theorem kB115 : (qt 115).all (rB qm 115) = true := by decide +kernel
theorem kM115 : mB (qm 115) = true := by decide +kernel
set_option maxRecDepth 100000 in
theorem kB119 : (qt 119).all (rB qm 119) = true := by decide +kernel
theorem kM119 : mB (qm 119) = true := by decide +kernel
set_option maxRecDepth 100000 in
theorem kB123 : (qt 123).all (rB qm 123) = true := by decide +kernel
theorem kM123 : mB (qm 123) = true := by decide +kernel
set_option maxRecDepth 100000 in
theorem kB128 : (qt 128).all (rB qm 128) = true := by decide +kernel
theorem kM128 : mB (qm 128) = true := by decide +kernel
set_option maxRecDepth 100000 in
theorem kB131 : (qt 131).all (rB qm 131) = true := by decide +kernel
theorem kM131 : mB (qm 131) = true := by decide +kernel
set_option maxRecDepth 100000 in
theorem kB138 : (qt 138).all (rB qm 138) = true := by decide +kernel
theorem kM138 : mB (qm 138) = true := by decide +kernel
set_option maxRecDepth 100000 in
theorem kB144 : (qt 144).all (rB qm 144) = true := by decide +kernel
theorem kM144 : mB (qm 144) = true := by decide +kernel
set_option maxRecDepth 100000 in
theorem kB148 : (qt 148).all (rB qm 148) = true := by decide +kernel
theorem kM148 : mB (qm 148) = true := by decide +kernel
set_option maxRecDepth 100000 in
theorem kB157 : (qt 157).all (rB qm 157) = true := by decide +kernel
theorem kM157 : mB (qm 157) = true := by decide +kernel
set_option maxRecDepth 100000 in
theorem kB160 : (qt 160).all (rB qm 160) = true := by decide +kernel
theorem kM160 : mB (qm 160) = true := by decide +kernel
set_option maxRecDepth 100000 in
theorem kB166 : (qt 166).all (rB qm 166) = true := by decide +kernel
theorem kM166 : mB (qm 166) = true := by decide +kernel
set_option maxRecDepth 100000 in
theorem kB171 : (qt 171).all (rB qm 171) = true := by decide +kernel
theorem kM171 : mB (qm 171) = true := by decide +kernel
set_option maxRecDepth 100000 in
theorem kB174 : (qt 174).all (rB qm 174) = true := by decide +kernel
theorem kM174 : mB (qm 174) = true := by decide +kernel
set_option maxRecDepth 100000 in
theorem kB176 : (qt 176).all (rB qm 176) = true := by decide +kernel
theorem kM176 : mB (qm 176) = true := by decide +kernel
set_option maxRecDepth 100000 in
theorem kB186 : (qt 186).all (rB qm 186) = true := by decide +kernel
theorem kM186 : mB (qm 186) = true := by decide +kernel
set_option maxRecDepth 100000 in
theorem kB191 : (qt 191).all (rB qm 191) = true := by decide +kernel
theorem kM191 : mB (qm 191) = true := by decide +kernel
