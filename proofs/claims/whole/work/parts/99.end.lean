theorem end_of_rows : True := trivial
