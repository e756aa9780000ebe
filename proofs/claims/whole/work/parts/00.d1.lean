/-! a place kept free -/
theorem zd_1 : True := trivial
