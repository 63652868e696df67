/-! the rows are as the machine has them: part 11 -/
set_option maxRecDepth 100000 in
theorem kB11 : (qt 11).all (rB qm 11) = true := by decide +kernel
theorem kM11 : mB (qm 11) = true := by decide +kernel
set_option maxRecDepth 100000 in
theorem kC11 : lw_tbl[(qm 11).2.2.2.2.2.1.1]? = some (.code (qm 11).1 (qm 11).2.1 (qm 11).2.2.1 (qm 11).2.2.2.1) := by rfl
set_option maxRecDepth 100000 in
theorem kB37 : (qt 37).all (rB qm 37) = true := by decide +kernel
theorem kM37 : mB (qm 37) = true := by decide +kernel
set_option maxRecDepth 100000 in
theorem kC37 : lw_tbl[(qm 37).2.2.2.2.2.1.1]? = some (.code (qm 37).1 (qm 37).2.1 (qm 37).2.2.1 (qm 37).2.2.2.1) := by rfl
set_option maxRecDepth 100000 in
theorem kB49 : (qt 49).all (rB qm 49) = true := by decide +kernel
theorem kM49 : mB (qm 49) = true := by decide +kernel
set_option maxRecDepth 100000 in
theorem kC49 : lw_tbl[(qm 49).2.2.2.2.2.1.1]? = some (.code (qm 49).1 (qm 49).2.1 (qm 49).2.2.1 (qm 49).2.2.2.1) := by rfl
set_option maxRecDepth 100000 in
theorem kB61 : (qt 61).all (rB qm 61) = true := by decide +kernel
theorem kM61 : mB (qm 61) = true := by decide +kernel
set_option maxRecDepth 100000 in
theorem kC61 : lw_tbl[(qm 61).2.2.2.2.2.1.1]? = some (.code (qm 61).1 (qm 61).2.1 (qm 61).2.2.1 (qm 61).2.2.2.1) := by rfl
set_option maxRecDepth 100000 in
theorem kB68 : (qt 68).all (rB qm 68) = true := by decide +kernel
theorem kM68 : mB (qm 68) = true := by decide +kernel
set_option maxRecDepth 100000 in
theorem kC68 : lw_tbl[(qm 68).2.2.2.2.2.1.1]? = some (.code (qm 68).1 (qm 68).2.1 (qm 68).2.2.1 (qm 68).2.2.2.1) := by rfl
set_option maxRecDepth 100000 in
theorem kB71 : (qt 71).all (rB qm 71) = true := by decide +kernel
theorem kM71 : mB (qm 71) = true := by decide +kernel
set_option maxRecDepth 100000 in
theorem kC71 : lw_tbl[(qm 71).2.2.2.2.2.1.1]? = some (.code (qm 71).1 (qm 71).2.1 (qm 71).2.2.1 (qm 71).2.2.2.1) := by rfl
set_option maxRecDepth 100000 in
theorem kB73 : (qt 73).all (rB qm 73) = true := by decide +kernel
theorem kM73 : mB (qm 73) = true := by decide +kernel
set_option maxRecDepth 100000 in
theorem kC73 : lw_tbl[(qm 73).2.2.2.2.2.1.1]? = some (.code (qm 73).1 (qm 73).2.1 (qm 73).2.2.1 (qm 73).2.2.2.1) := by rfl
set_option maxRecDepth 100000 in
theorem kB77_0 : (((qt 77).drop 0).take 60).all (rB qm 77) = true := by decide +kernel
set_option maxRecDepth 100000 in
theorem kB77_1 : ((qt 77).drop 60).all (rB qm 77) = true := by decide +kernel
theorem kB77 : (qt 77).all (rB qm 77) = true := (all_td 60 kB77_0 (by (try rw [List.drop_drop]); exact kB77_1))
theorem kM77 : mB (qm 77) = true := by decide +kernel
set_option maxRecDepth 100000 in
theorem kC77 : lw_tbl[(qm 77).2.2.2.2.2.1.1]? = some (.code (qm 77).1 (qm 77).2.1 (qm 77).2.2.1 (qm 77).2.2.2.1) := by rfl
set_option maxRecDepth 100000 in
theorem kB114 : (qt 114).all (rB qm 114) = true := by decide +kernel
theorem kM114 : mB (qm 114) = true := by decide +kernel
set_option maxRecDepth 100000 in
theorem kC114 : lw_tbl[(qm 114).2.2.2.2.2.1.1]? = some (.code (qm 114).1 (qm 114).2.1 (qm 114).2.2.1 (qm 114).2.2.2.1) := by rfl
set_option maxRecDepth 100000 in
theorem kB122_0 : (((qt 122).drop 0).take 60).all (rB qm 122) = true := by decide +kernel
set_option maxRecDepth 100000 in
theorem kB122_1 : ((qt 122).drop 60).all (rB qm 122) = true := by decide +kernel
theorem kB122 : (qt 122).all (rB qm 122) = true := (all_td 60 kB122_0 (by (try rw [List.drop_drop]); exact kB122_1))
theorem kM122 : mB (qm 122) = true := by decide +kernel
set_option maxRecDepth 100000 in
theorem kC122 : lw_tbl[(qm 122).2.2.2.2.2.1.1]? = some (.code (qm 122).1 (qm 122).2.1 (qm 122).2.2.1 (qm 122).2.2.2.1) := by rfl
set_option maxRecDepth 100000 in
theorem kB156 : (qt 156).all (rB qm 156) = true := by decide +kernel
theorem kM156 : mB (qm 156) = true := by decide +kernel
set_option maxRecDepth 100000 in
theorem kC156 : lw_tbl[(qm 156).2.2.2.2.2.1.1]? = some (.code (qm 156).1 (qm 156).2.1 (qm 156).2.2.1 (qm 156).2.2.2.1) := by rfl
set_option maxRecDepth 100000 in
theorem kB164 : (qt 164).all (rB qm 164) = true := by decide +kernel
theorem kM164 : mB (qm 164) = true := by decide +kernel
set_option maxRecDepth 100000 in
theorem kC164 : lw_tbl[(qm 164).2.2.2.2.2.1.1]? = some (.code (qm 164).1 (qm 164).2.1 (qm 164).2.2.1 (qm 164).2.2.2.1) := by rfl
set_option maxRecDepth 100000 in
theorem kB191 : (qt 191).all (rB qm 191) = true := by decide +kernel
theorem kM191 : mB (qm 191) = true := by decide +kernel
set_option maxRecDepth 100000 in
theorem kC191 : lw_tbl[(qm 191).2.2.2.2.2.1.1]? = some (.code (qm 191).1 (qm 191).2.1 (qm 191).2.2.1 (qm 191).2.2.2.1) := by rfl
