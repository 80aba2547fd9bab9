theorem pr_last : True := trivial
