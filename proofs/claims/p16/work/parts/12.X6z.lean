theorem dm_12X6 : True := trivial
