theorem tt_a : True := trivial
