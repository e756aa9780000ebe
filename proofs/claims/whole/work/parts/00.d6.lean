/-! a place kept free -/
theorem zd_6 : True := trivial
