/-! the rows are as the machine has them: part 5 -/
set_option maxRecDepth 100000 in
theorem kB5 : (qt 5).all (rB qm 5) = true := by decide +kernel
theorem kM5 : mB (qm 5) = true := by decide +kernel
set_option maxRecDepth 100000 in
theorem kC5 : lw_tbl[(qm 5).2.2.2.2.2.1.1]? = some (.code (qm 5).1 (qm 5).2.1 (qm 5).2.2.1 (qm 5).2.2.2.1) := by rfl
set_option maxRecDepth 100000 in
theorem kB14 : (qt 14).all (rB qm 14) = true := by decide +kernel
theorem kM14 : mB (qm 14) = true := by decide +kernel
set_option maxRecDepth 100000 in
theorem kC14 : lw_tbl[(qm 14).2.2.2.2.2.1.1]? = some (.code (qm 14).1 (qm 14).2.1 (qm 14).2.2.1 (qm 14).2.2.2.1) := by rfl
set_option maxRecDepth 100000 in
theorem kB19 : (qt 19).all (rB qm 19) = true := by decide +kernel
theorem kM19 : mB (qm 19) = true := by decide +kernel
set_option maxRecDepth 100000 in
theorem kC19 : lw_tbl[(qm 19).2.2.2.2.2.1.1]? = some (.code (qm 19).1 (qm 19).2.1 (qm 19).2.2.1 (qm 19).2.2.2.1) := by rfl
set_option maxRecDepth 100000 in
theorem kB36 : (qt 36).all (rB qm 36) = true := by decide +kernel
theorem kM36 : mB (qm 36) = true := by decide +kernel
set_option maxRecDepth 100000 in
theorem kC36 : lw_tbl[(qm 36).2.2.2.2.2.1.1]? = some (.code (qm 36).1 (qm 36).2.1 (qm 36).2.2.1 (qm 36).2.2.2.1) := by rfl
set_option maxRecDepth 100000 in
theorem kB48 : (qt 48).all (rB qm 48) = true := by decide +kernel
theorem kM48 : mB (qm 48) = true := by decide +kernel
set_option maxRecDepth 100000 in
theorem kC48 : lw_tbl[(qm 48).2.2.2.2.2.1.1]? = some (.code (qm 48).1 (qm 48).2.1 (qm 48).2.2.1 (qm 48).2.2.2.1) := by rfl
set_option maxRecDepth 100000 in
theorem kB63 : (qt 63).all (rB qm 63) = true := by decide +kernel
theorem kM63 : mB (qm 63) = true := by decide +kernel
set_option maxRecDepth 100000 in
theorem kC63 : lw_tbl[(qm 63).2.2.2.2.2.1.1]? = some (.code (qm 63).1 (qm 63).2.1 (qm 63).2.2.1 (qm 63).2.2.2.1) := by rfl
set_option maxRecDepth 100000 in
theorem kB70 : (qt 70).all (rB qm 70) = true := by decide +kernel
theorem kM70 : mB (qm 70) = true := by decide +kernel
set_option maxRecDepth 100000 in
theorem kC70 : lw_tbl[(qm 70).2.2.2.2.2.1.1]? = some (.code (qm 70).1 (qm 70).2.1 (qm 70).2.2.1 (qm 70).2.2.2.1) := by rfl
set_option maxRecDepth 100000 in
theorem kB88 : (qt 88).all (rB qm 88) = true := by decide +kernel
theorem kM88 : mB (qm 88) = true := by decide +kernel
set_option maxRecDepth 100000 in
theorem kC88 : lw_tbl[(qm 88).2.2.2.2.2.1.1]? = some (.code (qm 88).1 (qm 88).2.1 (qm 88).2.2.1 (qm 88).2.2.2.1) := by rfl
set_option maxRecDepth 100000 in
theorem kB98 : (qt 98).all (rB qm 98) = true := by decide +kernel
theorem kM98 : mB (qm 98) = true := by decide +kernel
set_option maxRecDepth 100000 in
theorem kC98 : lw_tbl[(qm 98).2.2.2.2.2.1.1]? = some (.code (qm 98).1 (qm 98).2.1 (qm 98).2.2.1 (qm 98).2.2.2.1) := by rfl
set_option maxRecDepth 100000 in
theorem kB101 : (qt 101).all (rB qm 101) = true := by decide +kernel
theorem kM101 : mB (qm 101) = true := by decide +kernel
set_option maxRecDepth 100000 in
theorem kC101 : lw_tbl[(qm 101).2.2.2.2.2.1.1]? = some (.code (qm 101).1 (qm 101).2.1 (qm 101).2.2.1 (qm 101).2.2.2.1) := by rfl
set_option maxRecDepth 100000 in
theorem kB107 : (qt 107).all (rB qm 107) = true := by decide +kernel
theorem kM107 : mB (qm 107) = true := by decide +kernel
set_option maxRecDepth 100000 in
theorem kC107 : lw_tbl[(qm 107).2.2.2.2.2.1.1]? = some (.code (qm 107).1 (qm 107).2.1 (qm 107).2.2.1 (qm 107).2.2.2.1) := by rfl
set_option maxRecDepth 100000 in
theorem kB109 : (qt 109).all (rB qm 109) = true := by decide +kernel
theorem kM109 : mB (qm 109) = true := by decide +kernel
set_option maxRecDepth 100000 in
theorem kC109 : lw_tbl[(qm 109).2.2.2.2.2.1.1]? = some (.code (qm 109).1 (qm 109).2.1 (qm 109).2.2.1 (qm 109).2.2.2.1) := by rfl
set_option maxRecDepth 100000 in
theorem kB115 : (qt 115).all (rB qm 115) = true := by decide +kernel
theorem kM115 : mB (qm 115) = true := by decide +kernel
set_option maxRecDepth 100000 in
theorem kC115 : lw_tbl[(qm 115).2.2.2.2.2.1.1]? = some (.code (qm 115).1 (qm 115).2.1 (qm 115).2.2.1 (qm 115).2.2.2.1) := by rfl
set_option maxRecDepth 100000 in
theorem kB123 : (qt 123).all (rB qm 123) = true := by decide +kernel
theorem kM123 : mB (qm 123) = true := by decide +kernel
set_option maxRecDepth 100000 in
theorem kC123 : lw_tbl[(qm 123).2.2.2.2.2.1.1]? = some (.code (qm 123).1 (qm 123).2.1 (qm 123).2.2.1 (qm 123).2.2.2.1) := by rfl
set_option maxRecDepth 100000 in
theorem kB129 : (qt 129).all (rB qm 129) = true := by decide +kernel
theorem kM129 : mB (qm 129) = true := by decide +kernel
set_option maxRecDepth 100000 in
theorem kC129 : lw_tbl[(qm 129).2.2.2.2.2.1.1]? = some (.code (qm 129).1 (qm 129).2.1 (qm 129).2.2.1 (qm 129).2.2.2.1) := by rfl
set_option maxRecDepth 100000 in
theorem kB133 : (qt 133).all (rB qm 133) = true := by decide +kernel
theorem kM133 : mB (qm 133) = true := by decide +kernel
set_option maxRecDepth 100000 in
theorem kC133 : lw_tbl[(qm 133).2.2.2.2.2.1.1]? = some (.code (qm 133).1 (qm 133).2.1 (qm 133).2.2.1 (qm 133).2.2.2.1) := by rfl
set_option maxRecDepth 100000 in
theorem kB138 : (qt 138).all (rB qm 138) = true := by decide +kernel
theorem kM138 : mB (qm 138) = true := by decide +kernel
set_option maxRecDepth 100000 in
theorem kC138 : lw_tbl[(qm 138).2.2.2.2.2.1.1]? = some (.code (qm 138).1 (qm 138).2.1 (qm 138).2.2.1 (qm 138).2.2.2.1) := by rfl
set_option maxRecDepth 100000 in
theorem kB149 : (qt 149).all (rB qm 149) = true := by decide +kernel
theorem kM149 : mB (qm 149) = true := by decide +kernel
set_option maxRecDepth 100000 in
theorem kC149 : lw_tbl[(qm 149).2.2.2.2.2.1.1]? = some (.code (qm 149).1 (qm 149).2.1 (qm 149).2.2.1 (qm 149).2.2.2.1) := by rfl
set_option maxRecDepth 100000 in
theorem kB152 : (qt 152).all (rB qm 152) = true := by decide +kernel
theorem kM152 : mB (qm 152) = true := by decide +kernel
set_option maxRecDepth 100000 in
theorem kC152 : lw_tbl[(qm 152).2.2.2.2.2.1.1]? = some (.code (qm 152).1 (qm 152).2.1 (qm 152).2.2.1 (qm 152).2.2.2.1) := by rfl
set_option maxRecDepth 100000 in
theorem kB173 : (qt 173).all (rB qm 173) = true := by decide +kernel
theorem kM173 : mB (qm 173) = true := by decide +kernel
set_option maxRecDepth 100000 in
theorem kC173 : lw_tbl[(qm 173).2.2.2.2.2.1.1]? = some (.code (qm 173).1 (qm 173).2.1 (qm 173).2.2.1 (qm 173).2.2.2.1) := by rfl
