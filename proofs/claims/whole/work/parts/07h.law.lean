/-! the law's own instructions -/
theorem zok_0_7 : ((zc_0.drop 560).take 80).all (zOkE 0) = true := by decide +kernel
theorem zok_0_8 : ((zc_0.drop 640).take 80).all (zOkE 0) = true := by decide +kernel
theorem zok_0_9 : ((zc_0.drop 720).take 80).all (zOkE 0) = true := by decide +kernel
