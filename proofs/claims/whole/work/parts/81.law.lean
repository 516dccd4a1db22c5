theorem law_begin : True := trivial
