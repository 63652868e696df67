/-! the rows are as the machine has them: part 4 -/
set_option maxRecDepth 100000 in
theorem kB4 : (qt 4).all (rB qm 4) = true := by decide +kernel
theorem kM4 : mB (qm 4) = true := by decide +kernel
set_option maxRecDepth 100000 in
theorem kC4 : lw_tbl[(qm 4).2.2.2.2.2.1.1]? = some (.code (qm 4).1 (qm 4).2.1 (qm 4).2.2.1 (qm 4).2.2.2.1) := by rfl
set_option maxRecDepth 100000 in
theorem kB22 : (qt 22).all (rB qm 22) = true := by decide +kernel
theorem kM22 : mB (qm 22) = true := by decide +kernel
set_option maxRecDepth 100000 in
theorem kC22 : lw_tbl[(qm 22).2.2.2.2.2.1.1]? = some (.code (qm 22).1 (qm 22).2.1 (qm 22).2.2.1 (qm 22).2.2.2.1) := by rfl
set_option maxRecDepth 100000 in
theorem kB38_0 : (((qt 38).drop 0).take 60).all (rB qm 38) = true := by decide +kernel
set_option maxRecDepth 100000 in
theorem kB38_1 : (((qt 38).drop 60).take 60).all (rB qm 38) = true := by decide +kernel
set_option maxRecDepth 100000 in
theorem kB38_2 : ((qt 38).drop 120).all (rB qm 38) = true := by decide +kernel
theorem kB38 : (qt 38).all (rB qm 38) = true := (all_td 60 kB38_0 (by (try rw [List.drop_drop]); exact (all_td 60 kB38_1 (by (try rw [List.drop_drop]); exact kB38_2))))
theorem kM38 : mB (qm 38) = true := by decide +kernel
set_option maxRecDepth 100000 in
theorem kC38 : lw_tbl[(qm 38).2.2.2.2.2.1.1]? = some (.code (qm 38).1 (qm 38).2.1 (qm 38).2.2.1 (qm 38).2.2.2.1) := by rfl
set_option maxRecDepth 100000 in
theorem kB94 : (qt 94).all (rB qm 94) = true := by decide +kernel
theorem kM94 : mB (qm 94) = true := by decide +kernel
set_option maxRecDepth 100000 in
theorem kC94 : lw_tbl[(qm 94).2.2.2.2.2.1.1]? = some (.code (qm 94).1 (qm 94).2.1 (qm 94).2.2.1 (qm 94).2.2.2.1) := by rfl
set_option maxRecDepth 100000 in
theorem kB96_0 : (((qt 96).drop 0).take 60).all (rB qm 96) = true := by decide +kernel
set_option maxRecDepth 100000 in
theorem kB96_1 : ((qt 96).drop 60).all (rB qm 96) = true := by decide +kernel
theorem kB96 : (qt 96).all (rB qm 96) = true := (all_td 60 kB96_0 (by (try rw [List.drop_drop]); exact kB96_1))
theorem kM96 : mB (qm 96) = true := by decide +kernel
set_option maxRecDepth 100000 in
theorem kC96 : lw_tbl[(qm 96).2.2.2.2.2.1.1]? = some (.code (qm 96).1 (qm 96).2.1 (qm 96).2.2.1 (qm 96).2.2.2.1) := by rfl
set_option maxRecDepth 100000 in
theorem kB127 : (qt 127).all (rB qm 127) = true := by decide +kernel
theorem kM127 : mB (qm 127) = true := by decide +kernel
set_option maxRecDepth 100000 in
theorem kC127 : lw_tbl[(qm 127).2.2.2.2.2.1.1]? = some (.code (qm 127).1 (qm 127).2.1 (qm 127).2.2.1 (qm 127).2.2.2.1) := by rfl
set_option maxRecDepth 100000 in
theorem kB141 : (qt 141).all (rB qm 141) = true := by decide +kernel
theorem kM141 : mB (qm 141) = true := by decide +kernel
set_option maxRecDepth 100000 in
theorem kC141 : lw_tbl[(qm 141).2.2.2.2.2.1.1]? = some (.code (qm 141).1 (qm 141).2.1 (qm 141).2.2.1 (qm 141).2.2.2.1) := by rfl
set_option maxRecDepth 100000 in
theorem kB147 : (qt 147).all (rB qm 147) = true := by decide +kernel
theorem kM147 : mB (qm 147) = true := by decide +kernel
set_option maxRecDepth 100000 in
theorem kC147 : lw_tbl[(qm 147).2.2.2.2.2.1.1]? = some (.code (qm 147).1 (qm 147).2.1 (qm 147).2.2.1 (qm 147).2.2.2.1) := by rfl
set_option maxRecDepth 100000 in
theorem kB158 : (qt 158).all (rB qm 158) = true := by decide +kernel
theorem kM158 : mB (qm 158) = true := by decide +kernel
set_option maxRecDepth 100000 in
theorem kC158 : lw_tbl[(qm 158).2.2.2.2.2.1.1]? = some (.code (qm 158).1 (qm 158).2.1 (qm 158).2.2.1 (qm 158).2.2.2.1) := by rfl
set_option maxRecDepth 100000 in
theorem kB162 : (qt 162).all (rB qm 162) = true := by decide +kernel
theorem kM162 : mB (qm 162) = true := by decide +kernel
set_option maxRecDepth 100000 in
theorem kC162 : lw_tbl[(qm 162).2.2.2.2.2.1.1]? = some (.code (qm 162).1 (qm 162).2.1 (qm 162).2.2.1 (qm 162).2.2.2.1) := by rfl
set_option maxRecDepth 100000 in
theorem kB166 : (qt 166).all (rB qm 166) = true := by decide +kernel
theorem kM166 : mB (qm 166) = true := by decide +kernel
set_option maxRecDepth 100000 in
theorem kC166 : lw_tbl[(qm 166).2.2.2.2.2.1.1]? = some (.code (qm 166).1 (qm 166).2.1 (qm 166).2.2.1 (qm 166).2.2.2.1) := by rfl
set_option maxRecDepth 100000 in
theorem kB187 : (qt 187).all (rB qm 187) = true := by decide +kernel
theorem kM187 : mB (qm 187) = true := by decide +kernel
set_option maxRecDepth 100000 in
theorem kC187 : lw_tbl[(qm 187).2.2.2.2.2.1.1]? = some (.code (qm 187).1 (qm 187).2.1 (qm 187).2.2.1 (qm 187).2.2.2.1) := by rfl
