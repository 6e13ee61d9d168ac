/-! the last part: small, for it is compiled anew in every round -/
theorem last_part : True := trivial
