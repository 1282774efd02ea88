theorem dm_09X0 : True := trivial
