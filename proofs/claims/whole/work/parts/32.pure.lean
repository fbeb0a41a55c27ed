theorem pure_start : True := trivial
