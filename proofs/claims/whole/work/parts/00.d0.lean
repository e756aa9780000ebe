/-! a place kept free -/
theorem zd_0 : True := trivial
