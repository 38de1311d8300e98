theorem x_last0 : True := trivial
