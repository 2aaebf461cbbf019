/-! every instruction of every method is as the tables say -/
theorem zok_0 : zc_0.all (zOkE 0) = true := by decide +kernel
