theorem am_08 : True := trivial
