/-! the rows are as the machine has them: part 1 -/
set_option maxRecDepth 100000 in
theorem kB1 : (qt 1).all (rB qm 1) = true := by decide +kernel
theorem kM1 : mB (qm 1) = true := by decide +kernel
set_option maxRecDepth 100000 in
theorem kB5 : (qt 5).all (rB qm 5) = true := by decide +kernel
theorem kM5 : mB (qm 5) = true := by decide +kernel
set_option maxRecDepth 100000 in
theorem kB7 : (qt 7).all (rB qm 7) = true := by decide +kernel
theorem kM7 : mB (qm 7) = true := by decide +kernel
set_option maxRecDepth 100000 in
theorem kB13 : (qt 13).all (rB qm 13) = true := by decide +kernel
theorem kM13 : mB (qm 13) = true := by decide +kernel
set_option maxRecDepth 100000 in
theorem kB17 : (qt 17).all (rB qm 17) = true := by decide +kernel
theorem kM17 : mB (qm 17) = true := by decide +kernel
set_option maxRecDepth 100000 in
theorem kB20 : (qt 20).all (rB qm 20) = true := by decide +kernel
theorem kM20 : mB (qm 20) = true := by decide +kernel
set_option maxRecDepth 100000 in
theorem kB22 : (qt 22).all (rB qm 22) = true := by decide +kernel
theorem kM22 : mB (qm 22) = true := by decide +kernel
set_option maxRecDepth 100000 in
theorem kB28 : (qt 28).all (rB qm 28) = true := by decide +kernel
theorem kM28 : mB (qm 28) = true := by decide +kernel
set_option maxRecDepth 100000 in
theorem kB31 : (qt 31).all (rB qm 31) = true := by decide +kernel
theorem kM31 : mB (qm 31) = true := by decide +kernel
set_option maxRecDepth 100000 in
theorem kB37 : (qt 37).all (rB qm 37) = true := by decide +kernel
theorem kM37 : mB (qm 37) = true := by decide +kernel
set_option maxRecDepth 100000 in
theorem kB41 : (qt 41).all (rB qm 41) = true := by decide +kernel
theorem kM41 : mB (qm 41) = true := by decide +kernel
set_option maxRecDepth 100000 in
theorem kB42 : (qt 42).all (rB qm 42) = true := by decide +kernel
theorem kM42 : mB (qm 42) = true := by decide +kernel
set_option maxRecDepth 100000 in
theorem kB45 : (qt 45).all (rB qm 45) = true := by decide +kernel
theorem kM45 : mB (qm 45) = true := by decide +kernel
set_option maxRecDepth 100000 in
theorem kB48 : (qt 48).all (rB qm 48) = true := by decide +kernel
theorem kM48 : mB (qm 48) = true := by decide +kernel
set_option maxRecDepth 100000 in
theorem kB50 : (qt 50).all (rB qm 50) = true := by decide +kernel
theorem kM50 : mB (qm 50) = true := by decide +kernel
set_option maxRecDepth 100000 in
theorem kB51 : (qt 51).all (rB qm 51) = true := by decide +kernel
theorem kM51 : mB (qm 51) = true := by decide +kernel
set_option maxRecDepth 100000 in
theorem kB53 : (qt 53).all (rB qm 53) = true := by decide +kernel
theorem kM53 : mB (qm 53) = true := by decide +kernel
set_option maxRecDepth 100000 in
theorem kB62 : (qt 62).all (rB qm 62) = true := by decide +kernel
theorem kM62 : mB (qm 62) = true := by decide +kernel
set_option maxRecDepth 100000 in
theorem kB63 : (qt 63).all (rB qm 63) = true := by decide +kernel
theorem kM63 : mB (qm 63) = true := by decide +kernel
set_option maxRecDepth 100000 in
theorem kB65 : (qt 65).all (rB qm 65) = true := by decide +kernel
theorem kM65 : mB (qm 65) = true := by decide +kernel
set_option maxRecDepth 100000 in
theorem kB70 : (qt 70).all (rB qm 70) = true := by decide +kernel
theorem kM70 : mB (qm 70) = true := by decide +kernel
set_option maxRecDepth 100000 in
theorem kB74 : (qt 74).all (rB qm 74) = true := by decide +kernel
theorem kM74 : mB (qm 74) = true := by decide +kernel
set_option maxRecDepth 100000 in
theorem kB75 : (qt 75).all (rB qm 75) = true := by decide +kernel
theorem kM75 : mB (qm 75) = true := by decide +kernel
set_option maxRecDepth 100000 in
theorem kB77 : (qt 77).all (rB qm 77) = true := by decide +kernel
theorem kM77 : mB (qm 77) = true := by decide +kernel
set_option maxRecDepth 100000 in
theorem kB79 : (qt 79).all (rB qm 79) = true := by decide +kernel
theorem kM79 : mB (qm 79) = true := by decide +kernel
set_option maxRecDepth 100000 in
theorem kB80 : (qt 80).all (rB qm 80) = true := by decide +kernel
theorem kM80 : mB (qm 80) = true := by decide +kernel
set_option maxRecDepth 100000 in
theorem kB87 : (qt 87).all (rB qm 87) = true := by decide +kernel
theorem kM87 : mB (qm 87) = true := by decide +kernel
set_option maxRecDepth 100000 in
theorem kB89 : (qt 89).all (rB qm 89) = true := by decide +kernel
theorem kM89 : mB (qm 89) = true := by decide +kernel
set_option maxRecDepth 100000 in
theorem kB97 : (qt 97).all (rB qm 97) = true := by decide +kernel
theorem kM97 : mB (qm 97) = true := by decide +kernel
set_option maxRecDepth 100000 in
theorem kB102 : (qt 102).all (rB qm 102) = true := by decide +kernel
theorem kM102 : mB (qm 102) = true := by decide +kernel
set_option maxRecDepth 100000 in
theorem kB106 : (qt 106).all (rB qm 106) = true := by decide +kernel
theorem kM106 : mB (qm 106) = true := by decide +kernel
set_option maxRecDepth 100000 in
theorem kB111 : (qt 111).all (rB qm 111) = true := by decide +kernel
theorem kM111 : mB (qm 111) = true := by decide +kernel
set_option maxRecDepth 100000 in
theorem kB118 : (qt 118).all (rB qm 118) = true := by decide +kernel
theorem kM118 : mB (qm 118) = true := by decide +kernel
set_option maxRecDepth 100000 in
theorem kB122 : (qt 122).all (rB qm 122) = true := by decide +kernel
theorem kM122 : mB (qm 122) = true := by decide +kernel
set_option maxRecDepth 100000 in
theorem kB126 : (qt 126).all (rB qm 126) = true := by decide +kernel
theorem kM126 : mB (qm 126) = true := by decide +kernel
set_option maxRecDepth 100000 in
theorem kB129 : (qt 129).all (rB qm 129) = true := by decide +kernel
theorem kM129 : mB (qm 129) = true := by decide +kernel
set_option maxRecDepth 100000 in
theorem kB132 : (qt 132).all (rB qm 132) = true := by decide +kernel
theorem kM132 : mB (qm 132) = true := by decide +kernel
set_option maxRecDepth 100000 in
theorem kB133 : (qt 133).all (rB qm 133) = true := by decide +kernel
theorem kM133 : mB (qm 133) = true := by decide +kernel
set_option maxRecDepth 100000 in
theorem kB136 : (qt 136).all (rB qm 136) = true := by decide +kernel
theorem kM136 : mB (qm 136) = true := by decide +kernel
set_option maxRecDepth 100000 in
theorem kB141 : (qt 141).all (rB qm 141) = true := by decide +kernel
theorem kM141 : mB (qm 141) = true := by decide +kernel
set_option maxRecDepth 100000 in
theorem kB143 : (qt 143).all (rB qm 143) = true := by decide +kernel
theorem kM143 : mB (qm 143) = true := by decide +kernel
set_option maxRecDepth 100000 in
theorem kB147 : (qt 147).all (rB qm 147) = true := by decide +kernel
theorem kM147 : mB (qm 147) = true := by decide +kernel
set_option maxRecDepth 100000 in
theorem kB152 : (qt 152).all (rB qm 152) = true := by decide +kernel
theorem kM152 : mB (qm 152) = true := by decide +kernel
set_option maxRecDepth 100000 in
theorem kB156 : (qt 156).all (rB qm 156) = true := by decide +kernel
theorem kM156 : mB (qm 156) = true := by decide +kernel
set_option maxRecDepth 100000 in
theorem kB158 : (qt 158).all (rB qm 158) = true := by decide +kernel
theorem kM158 : mB (qm 158) = true := by decide +kernel
set_option maxRecDepth 100000 in
theorem kB161 : (qt 161).all (rB qm 161) = true := by decide +kernel
theorem kM161 : mB (qm 161) = true := by decide +kernel
set_option maxRecDepth 100000 in
theorem kB163 : (qt 163).all (rB qm 163) = true := by decide +kernel
theorem kM163 : mB (qm 163) = true := by decide +kernel
set_option maxRecDepth 100000 in
theorem kB169 : (qt 169).all (rB qm 169) = true := by decide +kernel
theorem kM169 : mB (qm 169) = true := by decide +kernel
set_option maxRecDepth 100000 in
theorem kB170 : (qt 170).all (rB qm 170) = true := by decide +kernel
theorem kM170 : mB (qm 170) = true := by decide +kernel
set_option maxRecDepth 100000 in
theorem kB175 : (qt 175).all (rB qm 175) = true := by decide +kernel
theorem kM175 : mB (qm 175) = true := by decide +kernel
set_option maxRecDepth 100000 in
theorem kB178 : (qt 178).all (rB qm 178) = true := by decide +kernel
theorem kM178 : mB (qm 178) = true := by decide +kernel
set_option maxRecDepth 100000 in
theorem kB179 : (qt 179).all (rB qm 179) = true := by decide +kernel
theorem kM179 : mB (qm 179) = true := by decide +kernel
set_option maxRecDepth 100000 in
theorem kB185 : (qt 185).all (rB qm 185) = true := by decide +kernel
theorem kM185 : mB (qm 185) = true := by decide +kernel
set_option maxRecDepth 100000 in
theorem kB188 : (qt 188).all (rB qm 188) = true := by decide +kernel
theorem kM188 : mB (qm 188) = true := by decide +kernel
set_option maxRecDepth 100000 in
theorem kB189 : (qt 189).all (rB qm 189) = true := by decide +kernel
theorem kM189 : mB (qm 189) = true := by decide +kernel
set_option maxRecDepth 100000 in
theorem kB192 : (qt 192).all (rB qm 192) = true := by decide +kernel
