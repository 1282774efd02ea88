theorem dm_10X4 : True := trivial
