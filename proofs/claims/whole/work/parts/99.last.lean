theorem mw_zz : True := trivial
