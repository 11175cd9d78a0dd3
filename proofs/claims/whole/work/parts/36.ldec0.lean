/-! decoding of the law -/
theorem dcl_0 : r_L_law_0.all (mdc code) = true := by decide +kernel
theorem dcl_1 : r_L_law_1.all (mdc code) = true := by decide +kernel
theorem dcl_2 : r_L_law_2.all (mdc code) = true := by decide +kernel
theorem dcl_3 : r_L_law_3.all (mdc code) = true := by decide +kernel
theorem dcl_4 : r_L_law_4.all (mdc code) = true := by decide +kernel
theorem dcl_5 : r_L_law_5.all (mdc code) = true := by decide +kernel
theorem dcl_6 : r_L_law_6.all (mdc code) = true := by decide +kernel
theorem dcl_7 : r_L_law_7.all (mdc code) = true := by decide +kernel
theorem dcl_8 : r_L_law_8.all (mdc code) = true := by decide +kernel
theorem dcl_9 : r_L_law_9.all (mdc code) = true := by decide +kernel
