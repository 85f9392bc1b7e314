theorem i3_end : True := trivial
