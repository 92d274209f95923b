theorem zz_9 : True := trivial
