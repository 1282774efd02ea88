theorem dm_11X2 : True := trivial
