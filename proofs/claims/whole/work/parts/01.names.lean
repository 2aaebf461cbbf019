/-! stand-in -/
theorem z_stand : True := trivial
