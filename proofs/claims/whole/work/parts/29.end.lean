theorem end_29 : True := trivial
