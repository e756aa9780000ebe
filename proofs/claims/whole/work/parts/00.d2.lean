/-! a place kept free -/
theorem zd_2 : True := trivial
