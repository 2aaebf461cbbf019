/-! the law's own instructions -/
theorem zok_0_0 : ((zc_0.drop 0).take 80).all (zOkE 0) = true := by decide +kernel
theorem zok_0_1 : ((zc_0.drop 80).take 80).all (zOkE 0) = true := by decide +kernel
theorem zok_0_2 : ((zc_0.drop 160).take 80).all (zOkE 0) = true := by decide +kernel
theorem zok_0_3 : ((zc_0.drop 240).take 80).all (zOkE 0) = true := by decide +kernel
