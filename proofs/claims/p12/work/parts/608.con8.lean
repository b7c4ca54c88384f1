/-! contracts, checked (written by wip/p14/find) -/
theorem tc_540_3 : kc_540_3.all (acut0 pc_540 3000) = true := by decide +kernel
theorem tc_540_4 : kc_540_4.all (acut0 pc_540 3000) = true := by decide +kernel
theorem tc_540_5 : kc_540_5.all (acut0 pc_540 3000) = true := by decide +kernel
theorem tc_540_6 : kc_540_6.all (acut0 pc_540 3000) = true := by decide +kernel
theorem tc_540_7 : kc_540_7.all (acut0 pc_540 3000) = true := by decide +kernel
theorem tc_540_8 : kc_540_8.all (acut0 pc_540 3000) = true := by decide +kernel
theorem tc_540_9 : kc_540_9.all (acut0 pc_540 3000) = true := by decide +kernel
theorem tc_540_10 : kc_540_10.all (acut0 pc_540 3000) = true := by decide +kernel
theorem tc_540_11 : kc_540_11.all (acut0 pc_540 3000) = true := by decide +kernel
theorem tc_540_12 : kc_540_12.all (acut0 pc_540 3000) = true := by decide +kernel
theorem tc_540_13 : kc_540_13.all (acut0 pc_540 3000) = true := by decide +kernel
