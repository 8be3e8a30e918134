theorem zz_99 : True := trivial
