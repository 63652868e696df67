/-! the rows are as the machine has them: part 0 -/
set_option maxRecDepth 100000 in
theorem kB0 : (qt 0).all (rB qm 0) = true := by decide +kernel
theorem kM0 : mB (qm 0) = true := by decide +kernel
set_option maxRecDepth 100000 in
theorem kB4 : (qt 4).all (rB qm 4) = true := by decide +kernel
theorem kM4 : mB (qm 4) = true := by decide +kernel
set_option maxRecDepth 100000 in
theorem kB8 : (qt 8).all (rB qm 8) = true := by decide +kernel
theorem kM8 : mB (qm 8) = true := by decide +kernel
set_option maxRecDepth 100000 in
theorem kB9 : (qt 9).all (rB qm 9) = true := by decide +kernel
theorem kM9 : mB (qm 9) = true := by decide +kernel
set_option maxRecDepth 100000 in
theorem kB12 : (qt 12).all (rB qm 12) = true := by decide +kernel
theorem kM12 : mB (qm 12) = true := by decide +kernel
set_option maxRecDepth 100000 in
theorem kB16 : (qt 16).all (rB qm 16) = true := by decide +kernel
theorem kM16 : mB (qm 16) = true := by decide +kernel
set_option maxRecDepth 100000 in
theorem kB25 : (qt 25).all (rB qm 25) = true := by decide +kernel
theorem kM25 : mB (qm 25) = true := by decide +kernel
set_option maxRecDepth 100000 in
theorem kB27 : (qt 27).all (rB qm 27) = true := by decide +kernel
theorem kM27 : mB (qm 27) = true := by decide +kernel
set_option maxRecDepth 100000 in
theorem kB33 : (qt 33).all (rB qm 33) = true := by decide +kernel
theorem kM33 : mB (qm 33) = true := by decide +kernel
set_option maxRecDepth 100000 in
theorem kB34 : (qt 34).all (rB qm 34) = true := by decide +kernel
theorem kM34 : mB (qm 34) = true := by decide +kernel
set_option maxRecDepth 100000 in
theorem kB35 : (qt 35).all (rB qm 35) = true := by decide +kernel
theorem kM35 : mB (qm 35) = true := by decide +kernel
set_option maxRecDepth 100000 in
theorem kB38 : (qt 38).all (rB qm 38) = true := by decide +kernel
theorem kM38 : mB (qm 38) = true := by decide +kernel
set_option maxRecDepth 100000 in
theorem kB54 : (qt 54).all (rB qm 54) = true := by decide +kernel
theorem kM54 : mB (qm 54) = true := by decide +kernel
set_option maxRecDepth 100000 in
theorem kB59 : (qt 59).all (rB qm 59) = true := by decide +kernel
theorem kM59 : mB (qm 59) = true := by decide +kernel
set_option maxRecDepth 100000 in
theorem kB60 : (qt 60).all (rB qm 60) = true := by decide +kernel
theorem kM60 : mB (qm 60) = true := by decide +kernel
set_option maxRecDepth 100000 in
theorem kB61 : (qt 61).all (rB qm 61) = true := by decide +kernel
theorem kM61 : mB (qm 61) = true := by decide +kernel
set_option maxRecDepth 100000 in
theorem kB64 : (qt 64).all (rB qm 64) = true := by decide +kernel
theorem kM64 : mB (qm 64) = true := by decide +kernel
set_option maxRecDepth 100000 in
theorem kB67 : (qt 67).all (rB qm 67) = true := by decide +kernel
theorem kM67 : mB (qm 67) = true := by decide +kernel
set_option maxRecDepth 100000 in
theorem kB68 : (qt 68).all (rB qm 68) = true := by decide +kernel
theorem kM68 : mB (qm 68) = true := by decide +kernel
set_option maxRecDepth 100000 in
theorem kB69 : (qt 69).all (rB qm 69) = true := by decide +kernel
theorem kM69 : mB (qm 69) = true := by decide +kernel
set_option maxRecDepth 100000 in
theorem kB73 : (qt 73).all (rB qm 73) = true := by decide +kernel
theorem kM73 : mB (qm 73) = true := by decide +kernel
set_option maxRecDepth 100000 in
theorem kB76 : (qt 76).all (rB qm 76) = true := by decide +kernel
theorem kM76 : mB (qm 76) = true := by decide +kernel
set_option maxRecDepth 100000 in
theorem kB78 : (qt 78).all (rB qm 78) = true := by decide +kernel
theorem kM78 : mB (qm 78) = true := by decide +kernel
set_option maxRecDepth 100000 in
theorem kB81 : (qt 81).all (rB qm 81) = true := by decide +kernel
theorem kM81 : mB (qm 81) = true := by decide +kernel
set_option maxRecDepth 100000 in
theorem kB84 : (qt 84).all (rB qm 84) = true := by decide +kernel
theorem kM84 : mB (qm 84) = true := by decide +kernel
set_option maxRecDepth 100000 in
theorem kB86 : (qt 86).all (rB qm 86) = true := by decide +kernel
theorem kM86 : mB (qm 86) = true := by decide +kernel
set_option maxRecDepth 100000 in
theorem kB93 : (qt 93).all (rB qm 93) = true := by decide +kernel
theorem kM93 : mB (qm 93) = true := by decide +kernel
set_option maxRecDepth 100000 in
theorem kB95 : (qt 95).all (rB qm 95) = true := by decide +kernel
theorem kM95 : mB (qm 95) = true := by decide +kernel
set_option maxRecDepth 100000 in
theorem kB99 : (qt 99).all (rB qm 99) = true := by decide +kernel
theorem kM99 : mB (qm 99) = true := by decide +kernel
set_option maxRecDepth 100000 in
theorem kB107 : (qt 107).all (rB qm 107) = true := by decide +kernel
theorem kM107 : mB (qm 107) = true := by decide +kernel
set_option maxRecDepth 100000 in
theorem kB109 : (qt 109).all (rB qm 109) = true := by decide +kernel
theorem kM109 : mB (qm 109) = true := by decide +kernel
set_option maxRecDepth 100000 in
theorem kB112 : (qt 112).all (rB qm 112) = true := by decide +kernel
theorem kM112 : mB (qm 112) = true := by decide +kernel
set_option maxRecDepth 100000 in
theorem kB113 : (qt 113).all (rB qm 113) = true := by decide +kernel
theorem kM113 : mB (qm 113) = true := by decide +kernel
set_option maxRecDepth 100000 in
theorem kB116 : (qt 116).all (rB qm 116) = true := by decide +kernel
theorem kM116 : mB (qm 116) = true := by decide +kernel
set_option maxRecDepth 100000 in
theorem kB120 : (qt 120).all (rB qm 120) = true := by decide +kernel
theorem kM120 : mB (qm 120) = true := by decide +kernel
set_option maxRecDepth 100000 in
theorem kB125 : (qt 125).all (rB qm 125) = true := by decide +kernel
theorem kM125 : mB (qm 125) = true := by decide +kernel
set_option maxRecDepth 100000 in
theorem kB130 : (qt 130).all (rB qm 130) = true := by decide +kernel
theorem kM130 : mB (qm 130) = true := by decide +kernel
set_option maxRecDepth 100000 in
theorem kB137 : (qt 137).all (rB qm 137) = true := by decide +kernel
theorem kM137 : mB (qm 137) = true := by decide +kernel
set_option maxRecDepth 100000 in
theorem kB145 : (qt 145).all (rB qm 145) = true := by decide +kernel
theorem kM145 : mB (qm 145) = true := by decide +kernel
set_option maxRecDepth 100000 in
theorem kB149 : (qt 149).all (rB qm 149) = true := by decide +kernel
theorem kM149 : mB (qm 149) = true := by decide +kernel
set_option maxRecDepth 100000 in
theorem kB151 : (qt 151).all (rB qm 151) = true := by decide +kernel
theorem kM151 : mB (qm 151) = true := by decide +kernel
set_option maxRecDepth 100000 in
theorem kB154 : (qt 154).all (rB qm 154) = true := by decide +kernel
theorem kM154 : mB (qm 154) = true := by decide +kernel
set_option maxRecDepth 100000 in
theorem kB159 : (qt 159).all (rB qm 159) = true := by decide +kernel
theorem kM159 : mB (qm 159) = true := by decide +kernel
set_option maxRecDepth 100000 in
theorem kB162 : (qt 162).all (rB qm 162) = true := by decide +kernel
theorem kM162 : mB (qm 162) = true := by decide +kernel
set_option maxRecDepth 100000 in
theorem kB165 : (qt 165).all (rB qm 165) = true := by decide +kernel
theorem kM165 : mB (qm 165) = true := by decide +kernel
set_option maxRecDepth 100000 in
theorem kB167 : (qt 167).all (rB qm 167) = true := by decide +kernel
theorem kM167 : mB (qm 167) = true := by decide +kernel
set_option maxRecDepth 100000 in
theorem kB168 : (qt 168).all (rB qm 168) = true := by decide +kernel
theorem kM168 : mB (qm 168) = true := by decide +kernel
set_option maxRecDepth 100000 in
theorem kB173 : (qt 173).all (rB qm 173) = true := by decide +kernel
theorem kM173 : mB (qm 173) = true := by decide +kernel
set_option maxRecDepth 100000 in
theorem kB180 : (qt 180).all (rB qm 180) = true := by decide +kernel
theorem kM180 : mB (qm 180) = true := by decide +kernel
set_option maxRecDepth 100000 in
theorem kB182 : (qt 182).all (rB qm 182) = true := by decide +kernel
theorem kM182 : mB (qm 182) = true := by decide +kernel
set_option maxRecDepth 100000 in
theorem kB184 : (qt 184).all (rB qm 184) = true := by decide +kernel
theorem kM184 : mB (qm 184) = true := by decide +kernel
set_option maxRecDepth 100000 in
theorem kB190 : (qt 190).all (rB qm 190) = true := by decide +kernel
theorem kM190 : mB (qm 190) = true := by decide +kernel
