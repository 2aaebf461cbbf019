/-! the law's own instructions -/
theorem zok_0_4 : ((zc_0.drop 320).take 80).all (zOkE 0) = true := by decide +kernel
theorem zok_0_5 : ((zc_0.drop 400).take 80).all (zOkE 0) = true := by decide +kernel
theorem zok_0_6 : ((zc_0.drop 480).take 80).all (zOkE 0) = true := by decide +kernel
