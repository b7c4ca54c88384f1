set_option maxRecDepth 100000 in
theorem xo_X7_runsNext : xmOK xM xm_X7_runsNext = true := by decide +kernel
set_option maxRecDepth 100000 in
theorem xo_X7_yearGoes : xmOK xM xm_X7_yearGoes = true := by decide +kernel
set_option maxRecDepth 100000 in
theorem xo_X7_goes : xmOK xM xm_X7_goes = true := by decide +kernel
set_option maxRecDepth 100000 in
theorem xo_X7_has : xmOK xM xm_X7_has = true := by decide +kernel
set_option maxRecDepth 100000 in
theorem xo_X7_began : xmOK xM xm_X7_began = true := by decide +kernel
set_option maxRecDepth 100000 in
theorem xo_X7_courses : xmOK xM xm_X7_courses = true := by decide +kernel
set_option maxRecDepth 100000 in
theorem xo_X7_sure : xmOK xM xm_X7_sure = true := by decide +kernel
set_option maxRecDepth 100000 in
theorem xo_X7_holders : xmOK xM xm_X7_holders = true := by decide +kernel
set_option maxRecDepth 100000 in
theorem xo_X7_share : xmOK xM xm_X7_share = true := by decide +kernel
set_option maxRecDepth 100000 in
theorem xo_X7_judged : xmOK xM xm_X7_judged = true := by decide +kernel
set_option maxRecDepth 100000 in
theorem xo_X7_row : xmOK xM xm_X7_row = true := by decide +kernel
set_option maxRecDepth 100000 in
theorem xo_X7_lastLife : xmOK xM xm_X7_lastLife = true := by decide +kernel
set_option maxRecDepth 100000 in
theorem xo_X7_isLate : xmOK xM xm_X7_isLate = true := by decide +kernel
set_option maxRecDepth 100000 in
theorem xo_X7_lateShown : xmOK xM xm_X7_lateShown = true := by decide +kernel
set_option maxRecDepth 100000 in
theorem xo_X7_late : xmOK xM xm_X7_late = true := by decide +kernel
set_option maxRecDepth 100000 in
theorem xo_X7_measure : xmOK xM xm_X7_measure = true := by decide +kernel
set_option maxRecDepth 100000 in
theorem xo_X7_see : xmOK xM xm_X7_see = true := by decide +kernel
set_option maxRecDepth 100000 in
theorem xo_X7_lates : xmOK xM xm_X7_lates = true := by decide +kernel
set_option maxRecDepth 100000 in
theorem xo_X7_strike : xmOK xM xm_X7_strike = true := by decide +kernel
set_option maxRecDepth 100000 in
theorem xo_X7_mend : xmOK xM xm_X7_mend = true := by decide +kernel
set_option maxRecDepth 100000 in
theorem xo_X7_goesBoth : xmOK xM xm_X7_goesBoth = true := by decide +kernel
set_option maxRecDepth 100000 in
theorem xo_X7_both : xmOK xM xm_X7_both = true := by decide +kernel
set_option maxRecDepth 100000 in
theorem xo_X7_clash : xmOK xM xm_X7_clash = true := by decide +kernel
set_option maxRecDepth 100000 in
theorem xo_X7_same : xmOK xM xm_X7_same = true := by decide +kernel
set_option maxRecDepth 100000 in
theorem xo_X7_runs : xmOK xM xm_X7_runs = true := by decide +kernel
set_option maxRecDepth 100000 in
theorem xo_X7_kindOf : xmOK xM xm_X7_kindOf = true := by decide +kernel
set_option maxRecDepth 100000 in
theorem xo_X7_isUnder : xmOK xM xm_X7_isUnder = true := by decide +kernel
set_option maxRecDepth 100000 in
theorem xo_X7_plainHas : xmOK xM xm_X7_plainHas = true := by decide +kernel
set_option maxRecDepth 100000 in
theorem xo_X7_hasActs : xmOK xM xm_X7_hasActs = true := by decide +kernel
set_option maxRecDepth 100000 in
theorem xo_X7_plainWaits : xmOK xM xm_X7_plainWaits = true := by decide +kernel
set_option maxRecDepth 100000 in
theorem xo_X7_waitsActs : xmOK xM xm_X7_waitsActs = true := by decide +kernel
set_option maxRecDepth 100000 in
theorem xo_X7_plainEnds : xmOK xM xm_X7_plainEnds = true := by decide +kernel
set_option maxRecDepth 100000 in
theorem xo_X7_endsActs : xmOK xM xm_X7_endsActs = true := by decide +kernel
set_option maxRecDepth 100000 in
theorem xo_X7_act : xmOK xM xm_X7_act = true := by decide +kernel
set_option maxRecDepth 100000 in
theorem xo_X7_trace : xmOK xM xm_X7_trace = true := by decide +kernel
set_option maxRecDepth 100000 in
theorem xo_X7_as : xmOK xM xm_X7_as = true := by decide +kernel
set_option maxRecDepth 100000 in
theorem xo_X7_image : xmOK xM xm_X7_image = true := by decide +kernel
set_option maxRecDepth 100000 in
theorem xo_X7_undo : xmOK xM xm_X7_undo = true := by decide +kernel
set_option maxRecDepth 100000 in
theorem xo_X7_count : xmOK xM xm_X7_count = true := by decide +kernel
set_option maxRecDepth 100000 in
theorem xo_J6_bitCount_0f7a4 : xmOK xM xm_J6_bitCount_0f7a4 = true := by decide +kernel
set_option maxRecDepth 100000 in
theorem xo_J13_bitCount_95d88 : xmOK xM xm_J13_bitCount_95d88 = true := by decide +kernel
set_option maxRecDepth 100000 in
theorem xo_J0_length_8abf5 : xmOK xM xm_J0_length_8abf5 = true := by decide +kernel
set_option maxRecDepth 100000 in
theorem xo_J0_charAt_5068e : xmOK xM xm_J0_charAt_5068e = true := by decide +kernel
set_option maxRecDepth 100000 in
theorem xo_J0_coder_7d493 : xmOK xM xm_J0_coder_7d493 = true := by decide +kernel
set_option maxRecDepth 100000 in
theorem xo_J0_isLatin1_aae02 : xmOK xM xm_J0_isLatin1_aae02 = true := by decide +kernel
set_option maxRecDepth 100000 in
theorem xo_J0_checkIndex_df160 : xmOK xM xm_J0_checkIndex_df160 = true := by decide +kernel
set_option maxRecDepth 100000 in
theorem xo_J1_charAt_3b067 : xmOK xM xm_J1_charAt_3b067 = true := by decide +kernel
set_option maxRecDepth 100000 in
theorem xo_J3_checkIndex_8e157 : xmOK xM xm_J3_checkIndex_8e157 = true := by decide +kernel
