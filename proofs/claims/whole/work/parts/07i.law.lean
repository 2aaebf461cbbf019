/-! the law's own instructions -/
theorem zok_0_10 : ((zc_0.drop 800).take 80).all (zOkE 0) = true := by decide +kernel
theorem zok_0_11 : ((zc_0.drop 880).take 80).all (zOkE 0) = true := by decide +kernel
theorem zok_0_12 : ((zc_0.drop 960).take 80).all (zOkE 0) = true := by decide +kernel
