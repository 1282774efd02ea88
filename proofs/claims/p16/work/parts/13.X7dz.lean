theorem dm_13X7d : True := trivial
