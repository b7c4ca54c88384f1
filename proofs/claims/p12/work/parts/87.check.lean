set_option maxRecDepth 100000 in
theorem xo_X4_begin : xmOK xM xm_X4_begin = true := by decide +kernel
set_option maxRecDepth 100000 in
theorem xo_X4_hasEnded : xmOK xM xm_X4_hasEnded = true := by decide +kernel
set_option maxRecDepth 100000 in
theorem xo_X4_hasFailed : xmOK xM xm_X4_hasFailed = true := by decide +kernel
set_option maxRecDepth 100000 in
theorem xo_X4_named : xmOK xM xm_X4_named = true := by decide +kernel
set_option maxRecDepth 100000 in
theorem xo_X4_turnToNext : xmOK xM xm_X4_turnToNext = true := by decide +kernel
set_option maxRecDepth 100000 in
theorem xo_X5_init : xmOK xM xm_X5_init = true := by decide +kernel
set_option maxRecDepth 100000 in
theorem xo_X5_become : xmOK xM xm_X5_become = true := by decide +kernel
set_option maxRecDepth 100000 in
theorem xo_X5_isPerson : xmOK xM xm_X5_isPerson = true := by decide +kernel
set_option maxRecDepth 100000 in
theorem xo_X5_isChild : xmOK xM xm_X5_isChild = true := by decide +kernel
set_option maxRecDepth 100000 in
theorem xo_X5_maybesUpTo : xmOK xM xm_X5_maybesUpTo = true := by decide +kernel
set_option maxRecDepth 100000 in
theorem xo_X5_grantAt : xmOK xM xm_X5_grantAt = true := by decide +kernel
set_option maxRecDepth 100000 in
theorem xo_X5_keep : xmOK xM xm_X5_keep = true := by decide +kernel
set_option maxRecDepth 100000 in
theorem xo_X5_ranBody : xmOK xM xm_X5_ranBody = true := by decide +kernel
set_option maxRecDepth 100000 in
theorem xo_X6_init : xmOK xM xm_X6_init = true := by decide +kernel
set_option maxRecDepth 100000 in
theorem xo_X6_person : xmOK xM xm_X6_person = true := by decide +kernel
set_option maxRecDepth 100000 in
theorem xo_X6_maybe : xmOK xM xm_X6_maybe = true := by decide +kernel
set_option maxRecDepth 100000 in
theorem xo_X6_life : xmOK xM xm_X6_life = true := by decide +kernel
set_option maxRecDepth 100000 in
theorem xo_X6_feed : xmOK xM xm_X6_feed = true := by decide +kernel
set_option maxRecDepth 100000 in
theorem xo_X6_grant : xmOK xM xm_X6_grant = true := by decide +kernel
set_option maxRecDepth 100000 in
theorem xo_X6_told : xmOK xM xm_X6_told = true := by decide +kernel
set_option maxRecDepth 100000 in
theorem xo_X6_has : xmOK xM xm_X6_has = true := by decide +kernel
set_option maxRecDepth 100000 in
theorem xo_X6_began : xmOK xM xm_X6_began = true := by decide +kernel
set_option maxRecDepth 100000 in
theorem xo_X6_sure : xmOK xM xm_X6_sure = true := by decide +kernel
set_option maxRecDepth 100000 in
theorem xo_X6_holders : xmOK xM xm_X6_holders = true := by decide +kernel
set_option maxRecDepth 100000 in
theorem xo_X6_share : xmOK xM xm_X6_share = true := by decide +kernel
set_option maxRecDepth 100000 in
theorem xo_X6_judged : xmOK xM xm_X6_judged = true := by decide +kernel
set_option maxRecDepth 100000 in
theorem xo_X6_row : xmOK xM xm_X6_row = true := by decide +kernel
set_option maxRecDepth 100000 in
theorem xo_X6_late : xmOK xM xm_X6_late = true := by decide +kernel
set_option maxRecDepth 100000 in
theorem xo_X6_measure : xmOK xM xm_X6_measure = true := by decide +kernel
set_option maxRecDepth 100000 in
theorem xo_X6_see : xmOK xM xm_X6_see = true := by decide +kernel
set_option maxRecDepth 100000 in
theorem xo_X6_strike : xmOK xM xm_X6_strike = true := by decide +kernel
set_option maxRecDepth 100000 in
theorem xo_X6_mend : xmOK xM xm_X6_mend = true := by decide +kernel
set_option maxRecDepth 100000 in
theorem xo_X6_both : xmOK xM xm_X6_both = true := by decide +kernel
set_option maxRecDepth 100000 in
theorem xo_X6_clash : xmOK xM xm_X6_clash = true := by decide +kernel
set_option maxRecDepth 100000 in
theorem xo_X6_same : xmOK xM xm_X6_same = true := by decide +kernel
set_option maxRecDepth 100000 in
theorem xo_X6_act : xmOK xM xm_X6_act = true := by decide +kernel
set_option maxRecDepth 100000 in
theorem xo_X6_trace : xmOK xM xm_X6_trace = true := by decide +kernel
set_option maxRecDepth 100000 in
theorem xo_X6_as : xmOK xM xm_X6_as = true := by decide +kernel
set_option maxRecDepth 100000 in
theorem xo_X6_image : xmOK xM xm_X6_image = true := by decide +kernel
set_option maxRecDepth 100000 in
theorem xo_X6_undo : xmOK xM xm_X6_undo = true := by decide +kernel
set_option maxRecDepth 100000 in
theorem xo_X6_count : xmOK xM xm_X6_count = true := by decide +kernel
set_option maxRecDepth 100000 in
theorem xo_X6_isOneOfPeople : xmOK xM xm_X6_isOneOfPeople = true := by decide +kernel
set_option maxRecDepth 100000 in
theorem xo_X6_isYear : xmOK xM xm_X6_isYear = true := by decide +kernel
set_option maxRecDepth 100000 in
theorem xo_X6_isNumber : xmOK xM xm_X6_isNumber = true := by decide +kernel
set_option maxRecDepth 100000 in
theorem xo_X6_isCourse : xmOK xM xm_X6_isCourse = true := by decide +kernel
set_option maxRecDepth 100000 in
theorem xo_X6_coursesThereAre : xmOK xM xm_X6_coursesThereAre = true := by decide +kernel
set_option maxRecDepth 100000 in
theorem xo_X6_isUnder : xmOK xM xm_X6_isUnder = true := by decide +kernel
set_option maxRecDepth 100000 in
theorem xo_X6_fewest : xmOK xM xm_X6_fewest = true := by decide +kernel
