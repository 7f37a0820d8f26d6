/-! no row of the natives stands in for these -/
theorem pn_J9_floorMod_7cf53 : plainFor yJ9_floorMod_7cf53 = true := by decide +kernel
