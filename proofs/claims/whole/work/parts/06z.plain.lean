/-! no row of the natives stands in for these -/
theorem pn_J9_floorMod_7cf53 : plainFor yJ9_floorMod_7cf53 = true := by decide +kernel
theorem pn_J9_abs_0f7a4 : plainFor yJ9_abs_0f7a4 = true := by decide +kernel
