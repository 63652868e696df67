/-! the rows are as the machine has them: part 6 -/
set_option maxRecDepth 100000 in
theorem kB6 : (qt 6).all (rB qm 6) = true := by decide +kernel
theorem kM6 : mB (qm 6) = true := by decide +kernel
set_option maxRecDepth 100000 in
theorem kC6 : lw_tbl[(qm 6).2.2.2.2.2.1.1]? = some (.code (qm 6).1 (qm 6).2.1 (qm 6).2.2.1 (qm 6).2.2.2.1) := by rfl
set_option maxRecDepth 100000 in
theorem kB25 : (qt 25).all (rB qm 25) = true := by decide +kernel
theorem kM25 : mB (qm 25) = true := by decide +kernel
set_option maxRecDepth 100000 in
theorem kC25 : lw_tbl[(qm 25).2.2.2.2.2.1.1]? = some (.code (qm 25).1 (qm 25).2.1 (qm 25).2.2.1 (qm 25).2.2.2.1) := by rfl
set_option maxRecDepth 100000 in
theorem kB35 : (qt 35).all (rB qm 35) = true := by decide +kernel
theorem kM35 : mB (qm 35) = true := by decide +kernel
set_option maxRecDepth 100000 in
theorem kC35 : lw_tbl[(qm 35).2.2.2.2.2.1.1]? = some (.code (qm 35).1 (qm 35).2.1 (qm 35).2.2.1 (qm 35).2.2.2.1) := by rfl
set_option maxRecDepth 100000 in
theorem kB40 : (qt 40).all (rB qm 40) = true := by decide +kernel
theorem kM40 : mB (qm 40) = true := by decide +kernel
set_option maxRecDepth 100000 in
theorem kC40 : lw_tbl[(qm 40).2.2.2.2.2.1.1]? = some (.code (qm 40).1 (qm 40).2.1 (qm 40).2.2.1 (qm 40).2.2.2.1) := by rfl
set_option maxRecDepth 100000 in
theorem kB43 : (qt 43).all (rB qm 43) = true := by decide +kernel
theorem kM43 : mB (qm 43) = true := by decide +kernel
set_option maxRecDepth 100000 in
theorem kC43 : lw_tbl[(qm 43).2.2.2.2.2.1.1]? = some (.code (qm 43).1 (qm 43).2.1 (qm 43).2.2.1 (qm 43).2.2.2.1) := by rfl
set_option maxRecDepth 100000 in
theorem kB55 : (qt 55).all (rB qm 55) = true := by decide +kernel
theorem kM55 : mB (qm 55) = true := by decide +kernel
set_option maxRecDepth 100000 in
theorem kC55 : lw_tbl[(qm 55).2.2.2.2.2.1.1]? = some (.code (qm 55).1 (qm 55).2.1 (qm 55).2.2.1 (qm 55).2.2.2.1) := by rfl
set_option maxRecDepth 100000 in
theorem kB57 : (qt 57).all (rB qm 57) = true := by decide +kernel
theorem kM57 : mB (qm 57) = true := by decide +kernel
set_option maxRecDepth 100000 in
theorem kC57 : lw_tbl[(qm 57).2.2.2.2.2.1.1]? = some (.code (qm 57).1 (qm 57).2.1 (qm 57).2.2.1 (qm 57).2.2.2.1) := by rfl
set_option maxRecDepth 100000 in
theorem kB59 : (qt 59).all (rB qm 59) = true := by decide +kernel
theorem kM59 : mB (qm 59) = true := by decide +kernel
set_option maxRecDepth 100000 in
theorem kC59 : lw_tbl[(qm 59).2.2.2.2.2.1.1]? = some (.code (qm 59).1 (qm 59).2.1 (qm 59).2.2.1 (qm 59).2.2.2.1) := by rfl
set_option maxRecDepth 100000 in
theorem kB62 : (qt 62).all (rB qm 62) = true := by decide +kernel
theorem kM62 : mB (qm 62) = true := by decide +kernel
set_option maxRecDepth 100000 in
theorem kC62 : lw_tbl[(qm 62).2.2.2.2.2.1.1]? = some (.code (qm 62).1 (qm 62).2.1 (qm 62).2.2.1 (qm 62).2.2.2.1) := by rfl
set_option maxRecDepth 100000 in
theorem kB64 : (qt 64).all (rB qm 64) = true := by decide +kernel
theorem kM64 : mB (qm 64) = true := by decide +kernel
set_option maxRecDepth 100000 in
theorem kC64 : lw_tbl[(qm 64).2.2.2.2.2.1.1]? = some (.code (qm 64).1 (qm 64).2.1 (qm 64).2.2.1 (qm 64).2.2.2.1) := by rfl
set_option maxRecDepth 100000 in
theorem kB72_0 : (((qt 72).drop 0).take 60).all (rB qm 72) = true := by decide +kernel
set_option maxRecDepth 100000 in
theorem kB72_1 : (((qt 72).drop 60).take 60).all (rB qm 72) = true := by decide +kernel
set_option maxRecDepth 100000 in
theorem kB72_2 : (((qt 72).drop 120).take 60).all (rB qm 72) = true := by decide +kernel
set_option maxRecDepth 100000 in
theorem kB72_3 : ((qt 72).drop 180).all (rB qm 72) = true := by decide +kernel
theorem kB72 : (qt 72).all (rB qm 72) = true := (all_td 60 kB72_0 (by (try rw [List.drop_drop]); exact (all_td 60 kB72_1 (by (try rw [List.drop_drop]); exact (all_td 60 kB72_2 (by (try rw [List.drop_drop]); exact kB72_3))))))
theorem kM72 : mB (qm 72) = true := by decide +kernel
set_option maxRecDepth 100000 in
theorem kC72 : lw_tbl[(qm 72).2.2.2.2.2.1.1]? = some (.code (qm 72).1 (qm 72).2.1 (qm 72).2.2.1 (qm 72).2.2.2.1) := by rfl
set_option maxRecDepth 100000 in
theorem kB165 : (qt 165).all (rB qm 165) = true := by decide +kernel
theorem kM165 : mB (qm 165) = true := by decide +kernel
set_option maxRecDepth 100000 in
theorem kC165 : lw_tbl[(qm 165).2.2.2.2.2.1.1]? = some (.code (qm 165).1 (qm 165).2.1 (qm 165).2.2.1 (qm 165).2.2.2.1) := by rfl
set_option maxRecDepth 100000 in
theorem kB167 : (qt 167).all (rB qm 167) = true := by decide +kernel
theorem kM167 : mB (qm 167) = true := by decide +kernel
set_option maxRecDepth 100000 in
theorem kC167 : lw_tbl[(qm 167).2.2.2.2.2.1.1]? = some (.code (qm 167).1 (qm 167).2.1 (qm 167).2.2.1 (qm 167).2.2.2.1) := by rfl
set_option maxRecDepth 100000 in
theorem kB172 : (qt 172).all (rB qm 172) = true := by decide +kernel
theorem kM172 : mB (qm 172) = true := by decide +kernel
set_option maxRecDepth 100000 in
theorem kC172 : lw_tbl[(qm 172).2.2.2.2.2.1.1]? = some (.code (qm 172).1 (qm 172).2.1 (qm 172).2.2.1 (qm 172).2.2.2.1) := by rfl
set_option maxRecDepth 100000 in
theorem kB181 : (qt 181).all (rB qm 181) = true := by decide +kernel
theorem kM181 : mB (qm 181) = true := by decide +kernel
set_option maxRecDepth 100000 in
theorem kC181 : lw_tbl[(qm 181).2.2.2.2.2.1.1]? = some (.code (qm 181).1 (qm 181).2.1 (qm 181).2.2.1 (qm 181).2.2.2.1) := by rfl
set_option maxRecDepth 100000 in
theorem kB185 : (qt 185).all (rB qm 185) = true := by decide +kernel
theorem kM185 : mB (qm 185) = true := by decide +kernel
set_option maxRecDepth 100000 in
theorem kC185 : lw_tbl[(qm 185).2.2.2.2.2.1.1]? = some (.code (qm 185).1 (qm 185).2.1 (qm 185).2.2.1 (qm 185).2.2.2.1) := by rfl
