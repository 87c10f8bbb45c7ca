theorem cy_zero : True := trivial
