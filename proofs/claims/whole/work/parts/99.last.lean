theorem mm_last : True := trivial
