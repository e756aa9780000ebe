/-! a place kept free -/
theorem zd_5 : True := trivial
