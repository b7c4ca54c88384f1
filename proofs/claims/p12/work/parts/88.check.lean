set_option maxRecDepth 100000 in
theorem xo_X6_forgetCourses : xmOK xM xm_X6_forgetCourses = true := by decide +kernel
set_option maxRecDepth 100000 in
theorem xo_X6_courseOf : xmOK xM xm_X6_courseOf = true := by decide +kernel
set_option maxRecDepth 100000 in
theorem xo_X6_goBoth : xmOK xM xm_X6_goBoth = true := by decide +kernel
set_option maxRecDepth 100000 in
theorem xo_X6_lateClauses : xmOK xM xm_X6_lateClauses = true := by decide +kernel
set_option maxRecDepth 100000 in
theorem xo_X6_coursesOfLate : xmOK xM xm_X6_coursesOfLate = true := by decide +kernel
set_option maxRecDepth 100000 in
theorem xo_X6_isSettled : xmOK xM xm_X6_isSettled = true := by decide +kernel
set_option maxRecDepth 100000 in
theorem xo_X6_at : xmOK xM xm_X6_at = true := by decide +kernel
set_option maxRecDepth 100000 in
theorem xo_X6_put : xmOK xM xm_X6_put = true := by decide +kernel
set_option maxRecDepth 100000 in
theorem xo_X6_copy : xmOK xM xm_X6_copy = true := by decide +kernel
set_option maxRecDepth 100000 in
theorem xo_X6_fill : xmOK xM xm_X6_fill = true := by decide +kernel
set_option maxRecDepth 100000 in
theorem xo_X7_init : xmOK xM xm_X7_init = true := by decide +kernel
set_option maxRecDepth 100000 in
theorem xo_X7_in : xmOK xM xm_X7_in = true := by decide +kernel
set_option maxRecDepth 100000 in
theorem xo_X7_isGrant : xmOK xM xm_X7_isGrant = true := by decide +kernel
set_option maxRecDepth 100000 in
theorem xo_X7_isClause : xmOK xM xm_X7_isClause = true := by decide +kernel
set_option maxRecDepth 100000 in
theorem xo_X7_isCourse : xmOK xM xm_X7_isCourse = true := by decide +kernel
set_option maxRecDepth 100000 in
theorem xo_X7_isThere : xmOK xM xm_X7_isThere = true := by decide +kernel
set_option maxRecDepth 100000 in
theorem xo_X7_count1 : xmOK xM xm_X7_count1 = true := by decide +kernel
set_option maxRecDepth 100000 in
theorem xo_X7_person : xmOK xM xm_X7_person = true := by decide +kernel
set_option maxRecDepth 100000 in
theorem xo_X7_maybe : xmOK xM xm_X7_maybe = true := by decide +kernel
set_option maxRecDepth 100000 in
theorem xo_X7_comes : xmOK xM xm_X7_comes = true := by decide +kernel
set_option maxRecDepth 100000 in
theorem xo_X7_lives : xmOK xM xm_X7_lives = true := by decide +kernel
set_option maxRecDepth 100000 in
theorem xo_X7_isAlive : xmOK xM xm_X7_isAlive = true := by decide +kernel
set_option maxRecDepth 100000 in
theorem xo_X7_ageOf : xmOK xM xm_X7_ageOf = true := by decide +kernel
set_option maxRecDepth 100000 in
theorem xo_X7_life : xmOK xM xm_X7_life = true := by decide +kernel
set_option maxRecDepth 100000 in
theorem xo_X7_feed : xmOK xM xm_X7_feed = true := by decide +kernel
set_option maxRecDepth 100000 in
theorem xo_X7_here : xmOK xM xm_X7_here = true := by decide +kernel
set_option maxRecDepth 100000 in
theorem xo_X7_must : xmOK xM xm_X7_must = true := by decide +kernel
set_option maxRecDepth 100000 in
theorem xo_X7_spells : xmOK xM xm_X7_spells = true := by decide +kernel
set_option maxRecDepth 100000 in
theorem xo_X7_figures : xmOK xM xm_X7_figures = true := by decide +kernel
set_option maxRecDepth 100000 in
theorem xo_X7_figure : xmOK xM xm_X7_figure = true := by decide +kernel
set_option maxRecDepth 100000 in
theorem xo_X7_cond : xmOK xM xm_X7_cond = true := by decide +kernel
set_option maxRecDepth 100000 in
theorem xo_X7_howLong : xmOK xM xm_X7_howLong = true := by decide +kernel
set_option maxRecDepth 100000 in
theorem xo_X7_clause : xmOK xM xm_X7_clause = true := by decide +kernel
set_option maxRecDepth 100000 in
theorem xo_X7_at : xmOK xM xm_X7_at = true := by decide +kernel
set_option maxRecDepth 100000 in
theorem xo_X7_grant : xmOK xM xm_X7_grant = true := by decide +kernel
set_option maxRecDepth 100000 in
theorem xo_X7_placeOf : xmOK xM xm_X7_placeOf = true := by decide +kernel
set_option maxRecDepth 100000 in
theorem xo_X7_told : xmOK xM xm_X7_told = true := by decide +kernel
set_option maxRecDepth 100000 in
theorem xo_X7_holdsFor : xmOK xM xm_X7_holdsFor = true := by decide +kernel
set_option maxRecDepth 100000 in
theorem xo_X7_isChild : xmOK xM xm_X7_isChild = true := by decide +kernel
set_option maxRecDepth 100000 in
theorem xo_X7_children : xmOK xM xm_X7_children = true := by decide +kernel
set_option maxRecDepth 100000 in
theorem xo_X7_isOlder : xmOK xM xm_X7_isOlder = true := by decide +kernel
set_option maxRecDepth 100000 in
theorem xo_X7_eldest : xmOK xM xm_X7_eldest = true := by decide +kernel
set_option maxRecDepth 100000 in
theorem xo_X7_takers : xmOK xM xm_X7_takers = true := by decide +kernel
set_option maxRecDepth 100000 in
theorem xo_X7_fails : xmOK xM xm_X7_fails = true := by decide +kernel
set_option maxRecDepth 100000 in
theorem xo_X7_aliveOf : xmOK xM xm_X7_aliveOf = true := by decide +kernel
set_option maxRecDepth 100000 in
theorem xo_X7_ends : xmOK xM xm_X7_ends = true := by decide +kernel
set_option maxRecDepth 100000 in
theorem xo_X7_shiftOf : xmOK xM xm_X7_shiftOf = true := by decide +kernel
set_option maxRecDepth 100000 in
theorem xo_X7_nextOf : xmOK xM xm_X7_nextOf = true := by decide +kernel
