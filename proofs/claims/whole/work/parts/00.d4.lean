/-! a place kept free -/
theorem zd_4 : True := trivial
