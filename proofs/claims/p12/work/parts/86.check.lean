set_option maxRecDepth 100000 in
theorem xo_X0_init : xmOK xM xm_X0_init = true := by decide +kernel
set_option maxRecDepth 100000 in
theorem xo_X0_learn : xmOK xM xm_X0_learn = true := by decide +kernel
set_option maxRecDepth 100000 in
theorem xo_X0_start : xmOK xM xm_X0_start = true := by decide +kernel
set_option maxRecDepth 100000 in
theorem xo_X0_addChild : xmOK xM xm_X0_addChild = true := by decide +kernel
set_option maxRecDepth 100000 in
theorem xo_X0_come : xmOK xM xm_X0_come = true := by decide +kernel
set_option maxRecDepth 100000 in
theorem xo_X0_findLast : xmOK xM xm_X0_findLast = true := by decide +kernel
set_option maxRecDepth 100000 in
theorem xo_X0_meeting : xmOK xM xm_X0_meeting = true := by decide +kernel
set_option maxRecDepth 100000 in
theorem xo_X0_isDone : xmOK xM xm_X0_isDone = true := by decide +kernel
set_option maxRecDepth 100000 in
theorem xo_X0_thoseBornBy : xmOK xM xm_X0_thoseBornBy = true := by decide +kernel
set_option maxRecDepth 100000 in
theorem xo_X0_firstBorn : xmOK xM xm_X0_firstBorn = true := by decide +kernel
set_option maxRecDepth 100000 in
theorem xo_X1_init : xmOK xM xm_X1_init = true := by decide +kernel
set_option maxRecDepth 100000 in
theorem xo_X1_clear : xmOK xM xm_X1_clear = true := by decide +kernel
set_option maxRecDepth 100000 in
theorem xo_X1_repeat : xmOK xM xm_X1_repeat = true := by decide +kernel
set_option maxRecDepth 100000 in
theorem xo_X1_repeatWithout : xmOK xM xm_X1_repeatWithout = true := by decide +kernel
set_option maxRecDepth 100000 in
theorem xo_X1_say : xmOK xM xm_X1_say = true := by decide +kernel
set_option maxRecDepth 100000 in
theorem xo_X1_letter : xmOK xM xm_X1_letter = true := by decide +kernel
set_option maxRecDepth 100000 in
theorem xo_X1_number : xmOK xM xm_X1_number = true := by decide +kernel
set_option maxRecDepth 100000 in
theorem xo_X1_hasClause : xmOK xM xm_X1_hasClause = true := by decide +kernel
set_option maxRecDepth 100000 in
theorem xo_X1_isShift : xmOK xM xm_X1_isShift = true := by decide +kernel
set_option maxRecDepth 100000 in
theorem xo_X1_isNumberAt : xmOK xM xm_X1_isNumberAt = true := by decide +kernel
set_option maxRecDepth 100000 in
theorem xo_X1_numbersIn : xmOK xM xm_X1_numbersIn = true := by decide +kernel
set_option maxRecDepth 100000 in
theorem xo_X1_placeOfNumber : xmOK xM xm_X1_placeOfNumber = true := by decide +kernel
set_option maxRecDepth 100000 in
theorem xo_X1_kindOf : xmOK xM xm_X1_kindOf = true := by decide +kernel
set_option maxRecDepth 100000 in
theorem xo_X2_init : xmOK xM xm_X2_init = true := by decide +kernel
set_option maxRecDepth 100000 in
theorem xo_X2_be : xmOK xM xm_X2_be = true := by decide +kernel
set_option maxRecDepth 100000 in
theorem xo_X2_doHas : xmOK xM xm_X2_doHas = true := by decide +kernel
set_option maxRecDepth 100000 in
theorem xo_X2_doWaits : xmOK xM xm_X2_doWaits = true := by decide +kernel
set_option maxRecDepth 100000 in
theorem xo_X2_waitsOfInterest : xmOK xM xm_X2_waitsOfInterest = true := by decide +kernel
set_option maxRecDepth 100000 in
theorem xo_X2_doEnds : xmOK xM xm_X2_doEnds = true := by decide +kernel
set_option maxRecDepth 100000 in
theorem xo_X2_endsOfInterest : xmOK xM xm_X2_endsOfInterest = true := by decide +kernel
set_option maxRecDepth 100000 in
theorem xo_X3_init : xmOK xM xm_X3_init = true := by decide +kernel
set_option maxRecDepth 100000 in
theorem xo_X3_read : xmOK xM xm_X3_read = true := by decide +kernel
set_option maxRecDepth 100000 in
theorem xo_X3_readClause : xmOK xM xm_X3_readClause = true := by decide +kernel
set_option maxRecDepth 100000 in
theorem xo_X3_readWho : xmOK xM xm_X3_readWho = true := by decide +kernel
set_option maxRecDepth 100000 in
theorem xo_X3_readTerm : xmOK xM xm_X3_readTerm = true := by decide +kernel
set_option maxRecDepth 100000 in
theorem xo_X3_readCond : xmOK xM xm_X3_readCond = true := by decide +kernel
set_option maxRecDepth 100000 in
theorem xo_X3_readPart : xmOK xM xm_X3_readPart = true := by decide +kernel
set_option maxRecDepth 100000 in
theorem xo_X3_readWord : xmOK xM xm_X3_readWord = true := by decide +kernel
set_option maxRecDepth 100000 in
theorem xo_X3_readNumber : xmOK xM xm_X3_readNumber = true := by decide +kernel
set_option maxRecDepth 100000 in
theorem xo_X3_readDigit : xmOK xM xm_X3_readDigit = true := by decide +kernel
set_option maxRecDepth 100000 in
theorem xo_X3_take : xmOK xM xm_X3_take = true := by decide +kernel
set_option maxRecDepth 100000 in
theorem xo_X3_next : xmOK xM xm_X3_next = true := by decide +kernel
set_option maxRecDepth 100000 in
theorem xo_X4_init : xmOK xM xm_X4_init = true := by decide +kernel
set_option maxRecDepth 100000 in
theorem xo_X4_go : xmOK xM xm_X4_go = true := by decide +kernel
set_option maxRecDepth 100000 in
theorem xo_X4_begunBehind : xmOK xM xm_X4_begunBehind = true := by decide +kernel
set_option maxRecDepth 100000 in
theorem xo_X4_turnTo : xmOK xM xm_X4_turnTo = true := by decide +kernel
set_option maxRecDepth 100000 in
theorem xo_X4_shift : xmOK xM xm_X4_shift = true := by decide +kernel
set_option maxRecDepth 100000 in
theorem xo_X4_settle : xmOK xM xm_X4_settle = true := by decide +kernel
