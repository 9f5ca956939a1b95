/-! try -/
theorem try_1 : True := trivial
