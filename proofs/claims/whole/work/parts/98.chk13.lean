/-! the rows are as the machine has them: part 13 -/
set_option maxRecDepth 100000 in
theorem kB13 : (qt 13).all (rB qm 13) = true := by decide +kernel
theorem kM13 : mB (qm 13) = true := by decide +kernel
set_option maxRecDepth 100000 in
theorem kC13 : lw_tbl[(qm 13).2.2.2.2.2.1.1]? = some (.code (qm 13).1 (qm 13).2.1 (qm 13).2.2.1 (qm 13).2.2.2.1) := by rfl
set_option maxRecDepth 100000 in
theorem kB28 : (qt 28).all (rB qm 28) = true := by decide +kernel
theorem kM28 : mB (qm 28) = true := by decide +kernel
set_option maxRecDepth 100000 in
theorem kC28 : lw_tbl[(qm 28).2.2.2.2.2.1.1]? = some (.code (qm 28).1 (qm 28).2.1 (qm 28).2.2.1 (qm 28).2.2.2.1) := by rfl
set_option maxRecDepth 100000 in
theorem kB46 : (qt 46).all (rB qm 46) = true := by decide +kernel
theorem kM46 : mB (qm 46) = true := by decide +kernel
set_option maxRecDepth 100000 in
theorem kC46 : lw_tbl[(qm 46).2.2.2.2.2.1.1]? = some (.code (qm 46).1 (qm 46).2.1 (qm 46).2.2.1 (qm 46).2.2.2.1) := by rfl
set_option maxRecDepth 100000 in
theorem kB60 : (qt 60).all (rB qm 60) = true := by decide +kernel
theorem kM60 : mB (qm 60) = true := by decide +kernel
set_option maxRecDepth 100000 in
theorem kC60 : lw_tbl[(qm 60).2.2.2.2.2.1.1]? = some (.code (qm 60).1 (qm 60).2.1 (qm 60).2.2.1 (qm 60).2.2.2.1) := by rfl
set_option maxRecDepth 100000 in
theorem kB67 : (qt 67).all (rB qm 67) = true := by decide +kernel
theorem kM67 : mB (qm 67) = true := by decide +kernel
set_option maxRecDepth 100000 in
theorem kC67 : lw_tbl[(qm 67).2.2.2.2.2.1.1]? = some (.code (qm 67).1 (qm 67).2.1 (qm 67).2.2.1 (qm 67).2.2.2.1) := by rfl
set_option maxRecDepth 100000 in
theorem kB74 : (qt 74).all (rB qm 74) = true := by decide +kernel
theorem kM74 : mB (qm 74) = true := by decide +kernel
set_option maxRecDepth 100000 in
theorem kC74 : lw_tbl[(qm 74).2.2.2.2.2.1.1]? = some (.code (qm 74).1 (qm 74).2.1 (qm 74).2.2.1 (qm 74).2.2.2.1) := by rfl
set_option maxRecDepth 100000 in
theorem kB75 : (qt 75).all (rB qm 75) = true := by decide +kernel
theorem kM75 : mB (qm 75) = true := by decide +kernel
set_option maxRecDepth 100000 in
theorem kC75 : lw_tbl[(qm 75).2.2.2.2.2.1.1]? = some (.code (qm 75).1 (qm 75).2.1 (qm 75).2.2.1 (qm 75).2.2.2.1) := by rfl
set_option maxRecDepth 100000 in
theorem kB76_0 : (((qt 76).drop 0).take 60).all (rB qm 76) = true := by decide +kernel
set_option maxRecDepth 100000 in
theorem kB76_1 : ((qt 76).drop 60).all (rB qm 76) = true := by decide +kernel
theorem kB76 : (qt 76).all (rB qm 76) = true := (all_td 60 kB76_0 (by (try rw [List.drop_drop]); exact kB76_1))
theorem kM76 : mB (qm 76) = true := by decide +kernel
set_option maxRecDepth 100000 in
theorem kC76 : lw_tbl[(qm 76).2.2.2.2.2.1.1]? = some (.code (qm 76).1 (qm 76).2.1 (qm 76).2.2.1 (qm 76).2.2.2.1) := by rfl
set_option maxRecDepth 100000 in
theorem kB103 : (qt 103).all (rB qm 103) = true := by decide +kernel
theorem kM103 : mB (qm 103) = true := by decide +kernel
set_option maxRecDepth 100000 in
theorem kC103 : lw_tbl[(qm 103).2.2.2.2.2.1.1]? = some (.code (qm 103).1 (qm 103).2.1 (qm 103).2.2.1 (qm 103).2.2.2.1) := by rfl
set_option maxRecDepth 100000 in
theorem kB118 : (qt 118).all (rB qm 118) = true := by decide +kernel
theorem kM118 : mB (qm 118) = true := by decide +kernel
set_option maxRecDepth 100000 in
theorem kC118 : lw_tbl[(qm 118).2.2.2.2.2.1.1]? = some (.code (qm 118).1 (qm 118).2.1 (qm 118).2.2.1 (qm 118).2.2.2.1) := by rfl
set_option maxRecDepth 100000 in
theorem kB131 : (qt 131).all (rB qm 131) = true := by decide +kernel
theorem kM131 : mB (qm 131) = true := by decide +kernel
set_option maxRecDepth 100000 in
theorem kC131 : lw_tbl[(qm 131).2.2.2.2.2.1.1]? = some (.code (qm 131).1 (qm 131).2.1 (qm 131).2.2.1 (qm 131).2.2.2.1) := by rfl
set_option maxRecDepth 100000 in
theorem kB143 : (qt 143).all (rB qm 143) = true := by decide +kernel
theorem kM143 : mB (qm 143) = true := by decide +kernel
set_option maxRecDepth 100000 in
theorem kC143 : lw_tbl[(qm 143).2.2.2.2.2.1.1]? = some (.code (qm 143).1 (qm 143).2.1 (qm 143).2.2.1 (qm 143).2.2.2.1) := by rfl
set_option maxRecDepth 100000 in
theorem kB150 : (qt 150).all (rB qm 150) = true := by decide +kernel
theorem kM150 : mB (qm 150) = true := by decide +kernel
set_option maxRecDepth 100000 in
theorem kC150 : lw_tbl[(qm 150).2.2.2.2.2.1.1]? = some (.code (qm 150).1 (qm 150).2.1 (qm 150).2.2.1 (qm 150).2.2.2.1) := by rfl
set_option maxRecDepth 100000 in
theorem kB153 : (qt 153).all (rB qm 153) = true := by decide +kernel
theorem kM153 : mB (qm 153) = true := by decide +kernel
set_option maxRecDepth 100000 in
theorem kC153 : lw_tbl[(qm 153).2.2.2.2.2.1.1]? = some (.code (qm 153).1 (qm 153).2.1 (qm 153).2.2.1 (qm 153).2.2.2.1) := by rfl
set_option maxRecDepth 100000 in
theorem kB159 : (qt 159).all (rB qm 159) = true := by decide +kernel
theorem kM159 : mB (qm 159) = true := by decide +kernel
set_option maxRecDepth 100000 in
theorem kC159 : lw_tbl[(qm 159).2.2.2.2.2.1.1]? = some (.code (qm 159).1 (qm 159).2.1 (qm 159).2.2.1 (qm 159).2.2.2.1) := by rfl
set_option maxRecDepth 100000 in
theorem kB169 : (qt 169).all (rB qm 169) = true := by decide +kernel
theorem kM169 : mB (qm 169) = true := by decide +kernel
set_option maxRecDepth 100000 in
theorem kC169 : lw_tbl[(qm 169).2.2.2.2.2.1.1]? = some (.code (qm 169).1 (qm 169).2.1 (qm 169).2.2.1 (qm 169).2.2.2.1) := by rfl
set_option maxRecDepth 100000 in
theorem kB170 : (qt 170).all (rB qm 170) = true := by decide +kernel
theorem kM170 : mB (qm 170) = true := by decide +kernel
set_option maxRecDepth 100000 in
theorem kC170 : lw_tbl[(qm 170).2.2.2.2.2.1.1]? = some (.code (qm 170).1 (qm 170).2.1 (qm 170).2.2.1 (qm 170).2.2.2.1) := by rfl
set_option maxRecDepth 100000 in
theorem kB178 : (qt 178).all (rB qm 178) = true := by decide +kernel
theorem kM178 : mB (qm 178) = true := by decide +kernel
set_option maxRecDepth 100000 in
theorem kC178 : lw_tbl[(qm 178).2.2.2.2.2.1.1]? = some (.code (qm 178).1 (qm 178).2.1 (qm 178).2.2.1 (qm 178).2.2.2.1) := by rfl
set_option maxRecDepth 100000 in
theorem kB189 : (qt 189).all (rB qm 189) = true := by decide +kernel
theorem kM189 : mB (qm 189) = true := by decide +kernel
set_option maxRecDepth 100000 in
theorem kC189 : lw_tbl[(qm 189).2.2.2.2.2.1.1]? = some (.code (qm 189).1 (qm 189).2.1 (qm 189).2.2.1 (qm 189).2.2.2.1) := by rfl
