/-! a place kept free -/
theorem zd_7 : True := trivial
