theorem xz_last : True := trivial
