/-! the rows are as the machine has them: part 8 -/
set_option maxRecDepth 100000 in
theorem kB8 : (qt 8).all (rB qm 8) = true := by decide +kernel
theorem kM8 : mB (qm 8) = true := by decide +kernel
set_option maxRecDepth 100000 in
theorem kC8 : lw_tbl[(qm 8).2.2.2.2.2.1.1]? = some (.code (qm 8).1 (qm 8).2.1 (qm 8).2.2.1 (qm 8).2.2.2.1) := by rfl
set_option maxRecDepth 100000 in
theorem kB15 : (qt 15).all (rB qm 15) = true := by decide +kernel
theorem kM15 : mB (qm 15) = true := by decide +kernel
set_option maxRecDepth 100000 in
theorem kC15 : lw_tbl[(qm 15).2.2.2.2.2.1.1]? = some (.code (qm 15).1 (qm 15).2.1 (qm 15).2.2.1 (qm 15).2.2.2.1) := by rfl
set_option maxRecDepth 100000 in
theorem kB33 : (qt 33).all (rB qm 33) = true := by decide +kernel
theorem kM33 : mB (qm 33) = true := by decide +kernel
set_option maxRecDepth 100000 in
theorem kC33 : lw_tbl[(qm 33).2.2.2.2.2.1.1]? = some (.code (qm 33).1 (qm 33).2.1 (qm 33).2.2.1 (qm 33).2.2.2.1) := by rfl
set_option maxRecDepth 100000 in
theorem kB41 : (qt 41).all (rB qm 41) = true := by decide +kernel
theorem kM41 : mB (qm 41) = true := by decide +kernel
set_option maxRecDepth 100000 in
theorem kC41 : lw_tbl[(qm 41).2.2.2.2.2.1.1]? = some (.code (qm 41).1 (qm 41).2.1 (qm 41).2.2.1 (qm 41).2.2.2.1) := by rfl
set_option maxRecDepth 100000 in
theorem kB42 : (qt 42).all (rB qm 42) = true := by decide +kernel
theorem kM42 : mB (qm 42) = true := by decide +kernel
set_option maxRecDepth 100000 in
theorem kC42 : lw_tbl[(qm 42).2.2.2.2.2.1.1]? = some (.code (qm 42).1 (qm 42).2.1 (qm 42).2.2.1 (qm 42).2.2.2.1) := by rfl
set_option maxRecDepth 100000 in
theorem kB47 : (qt 47).all (rB qm 47) = true := by decide +kernel
theorem kM47 : mB (qm 47) = true := by decide +kernel
set_option maxRecDepth 100000 in
theorem kC47 : lw_tbl[(qm 47).2.2.2.2.2.1.1]? = some (.code (qm 47).1 (qm 47).2.1 (qm 47).2.2.1 (qm 47).2.2.2.1) := by rfl
set_option maxRecDepth 100000 in
theorem kB65 : (qt 65).all (rB qm 65) = true := by decide +kernel
theorem kM65 : mB (qm 65) = true := by decide +kernel
set_option maxRecDepth 100000 in
theorem kC65 : lw_tbl[(qm 65).2.2.2.2.2.1.1]? = some (.code (qm 65).1 (qm 65).2.1 (qm 65).2.2.1 (qm 65).2.2.2.1) := by rfl
set_option maxRecDepth 100000 in
theorem kB82 : (qt 82).all (rB qm 82) = true := by decide +kernel
theorem kM82 : mB (qm 82) = true := by decide +kernel
set_option maxRecDepth 100000 in
theorem kC82 : lw_tbl[(qm 82).2.2.2.2.2.1.1]? = some (.code (qm 82).1 (qm 82).2.1 (qm 82).2.2.1 (qm 82).2.2.2.1) := by rfl
set_option maxRecDepth 100000 in
theorem kB84 : (qt 84).all (rB qm 84) = true := by decide +kernel
theorem kM84 : mB (qm 84) = true := by decide +kernel
set_option maxRecDepth 100000 in
theorem kC84 : lw_tbl[(qm 84).2.2.2.2.2.1.1]? = some (.code (qm 84).1 (qm 84).2.1 (qm 84).2.2.1 (qm 84).2.2.2.1) := by rfl
set_option maxRecDepth 100000 in
theorem kB87 : (qt 87).all (rB qm 87) = true := by decide +kernel
theorem kM87 : mB (qm 87) = true := by decide +kernel
set_option maxRecDepth 100000 in
theorem kC87 : lw_tbl[(qm 87).2.2.2.2.2.1.1]? = some (.code (qm 87).1 (qm 87).2.1 (qm 87).2.2.1 (qm 87).2.2.2.1) := by rfl
set_option maxRecDepth 100000 in
theorem kB90 : (qt 90).all (rB qm 90) = true := by decide +kernel
theorem kM90 : mB (qm 90) = true := by decide +kernel
set_option maxRecDepth 100000 in
theorem kC90 : lw_tbl[(qm 90).2.2.2.2.2.1.1]? = some (.code (qm 90).1 (qm 90).2.1 (qm 90).2.2.1 (qm 90).2.2.2.1) := by rfl
set_option maxRecDepth 100000 in
theorem kB92 : (qt 92).all (rB qm 92) = true := by decide +kernel
theorem kM92 : mB (qm 92) = true := by decide +kernel
set_option maxRecDepth 100000 in
theorem kC92 : lw_tbl[(qm 92).2.2.2.2.2.1.1]? = some (.code (qm 92).1 (qm 92).2.1 (qm 92).2.2.1 (qm 92).2.2.2.1) := by rfl
set_option maxRecDepth 100000 in
theorem kB106 : (qt 106).all (rB qm 106) = true := by decide +kernel
theorem kM106 : mB (qm 106) = true := by decide +kernel
set_option maxRecDepth 100000 in
theorem kC106 : lw_tbl[(qm 106).2.2.2.2.2.1.1]? = some (.code (qm 106).1 (qm 106).2.1 (qm 106).2.2.1 (qm 106).2.2.2.1) := by rfl
set_option maxRecDepth 100000 in
theorem kB113 : (qt 113).all (rB qm 113) = true := by decide +kernel
theorem kM113 : mB (qm 113) = true := by decide +kernel
set_option maxRecDepth 100000 in
theorem kC113 : lw_tbl[(qm 113).2.2.2.2.2.1.1]? = some (.code (qm 113).1 (qm 113).2.1 (qm 113).2.2.1 (qm 113).2.2.2.1) := by rfl
set_option maxRecDepth 100000 in
theorem kB117 : (qt 117).all (rB qm 117) = true := by decide +kernel
theorem kM117 : mB (qm 117) = true := by decide +kernel
set_option maxRecDepth 100000 in
theorem kC117 : lw_tbl[(qm 117).2.2.2.2.2.1.1]? = some (.code (qm 117).1 (qm 117).2.1 (qm 117).2.2.1 (qm 117).2.2.2.1) := by rfl
set_option maxRecDepth 100000 in
theorem kB125 : (qt 125).all (rB qm 125) = true := by decide +kernel
theorem kM125 : mB (qm 125) = true := by decide +kernel
set_option maxRecDepth 100000 in
theorem kC125 : lw_tbl[(qm 125).2.2.2.2.2.1.1]? = some (.code (qm 125).1 (qm 125).2.1 (qm 125).2.2.1 (qm 125).2.2.2.1) := by rfl
set_option maxRecDepth 100000 in
theorem kB136 : (qt 136).all (rB qm 136) = true := by decide +kernel
theorem kM136 : mB (qm 136) = true := by decide +kernel
set_option maxRecDepth 100000 in
theorem kC136 : lw_tbl[(qm 136).2.2.2.2.2.1.1]? = some (.code (qm 136).1 (qm 136).2.1 (qm 136).2.2.1 (qm 136).2.2.2.1) := by rfl
set_option maxRecDepth 100000 in
theorem kB140 : (qt 140).all (rB qm 140) = true := by decide +kernel
theorem kM140 : mB (qm 140) = true := by decide +kernel
set_option maxRecDepth 100000 in
theorem kC140 : lw_tbl[(qm 140).2.2.2.2.2.1.1]? = some (.code (qm 140).1 (qm 140).2.1 (qm 140).2.2.1 (qm 140).2.2.2.1) := by rfl
set_option maxRecDepth 100000 in
theorem kB146 : (qt 146).all (rB qm 146) = true := by decide +kernel
theorem kM146 : mB (qm 146) = true := by decide +kernel
set_option maxRecDepth 100000 in
theorem kC146 : lw_tbl[(qm 146).2.2.2.2.2.1.1]? = some (.code (qm 146).1 (qm 146).2.1 (qm 146).2.2.1 (qm 146).2.2.2.1) := by rfl
set_option maxRecDepth 100000 in
theorem kB157 : (qt 157).all (rB qm 157) = true := by decide +kernel
theorem kM157 : mB (qm 157) = true := by decide +kernel
set_option maxRecDepth 100000 in
theorem kC157 : lw_tbl[(qm 157).2.2.2.2.2.1.1]? = some (.code (qm 157).1 (qm 157).2.1 (qm 157).2.2.1 (qm 157).2.2.2.1) := by rfl
set_option maxRecDepth 100000 in
theorem kB163 : (qt 163).all (rB qm 163) = true := by decide +kernel
theorem kM163 : mB (qm 163) = true := by decide +kernel
set_option maxRecDepth 100000 in
theorem kC163 : lw_tbl[(qm 163).2.2.2.2.2.1.1]? = some (.code (qm 163).1 (qm 163).2.1 (qm 163).2.2.1 (qm 163).2.2.2.1) := by rfl
set_option maxRecDepth 100000 in
theorem kB180 : (qt 180).all (rB qm 180) = true := by decide +kernel
theorem kM180 : mB (qm 180) = true := by decide +kernel
set_option maxRecDepth 100000 in
theorem kC180 : lw_tbl[(qm 180).2.2.2.2.2.1.1]? = some (.code (qm 180).1 (qm 180).2.1 (qm 180).2.2.1 (qm 180).2.2.2.1) := by rfl
set_option maxRecDepth 100000 in
theorem kB183 : (qt 183).all (rB qm 183) = true := by decide +kernel
theorem kM183 : mB (qm 183) = true := by decide +kernel
set_option maxRecDepth 100000 in
theorem kC183 : lw_tbl[(qm 183).2.2.2.2.2.1.1]? = some (.code (qm 183).1 (qm 183).2.1 (qm 183).2.2.1 (qm 183).2.2.2.1) := by rfl
