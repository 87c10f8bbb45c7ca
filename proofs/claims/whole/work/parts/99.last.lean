theorem cy_nop : True := trivial
