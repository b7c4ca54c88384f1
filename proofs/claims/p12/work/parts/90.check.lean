set_option maxRecDepth 100000 in
theorem xo_L0 : xt_L0.all (xrow xM RL cL_law false) = true := by decide +kernel
set_option maxRecDepth 100000 in
theorem xo_L1 : xt_L1.all (xrow xM RL cL_law false) = true := by decide +kernel
set_option maxRecDepth 100000 in
theorem xo_L2 : xt_L2.all (xrow xM RL cL_law false) = true := by decide +kernel
set_option maxRecDepth 100000 in
theorem xo_L3 : xt_L3.all (xrow xM RL cL_law false) = true := by decide +kernel
set_option maxRecDepth 100000 in
theorem xo_L4 : xt_L4.all (xrow xM RL cL_law false) = true := by decide +kernel
