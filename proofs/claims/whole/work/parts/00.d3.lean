/-! a place kept free -/
theorem zd_3 : True := trivial
