/-! more places: printed by a program of mine -/
def mp_nw : List Nat := [3019, 3001, 3003, 3005, 2239, 3083, 4196, 5019]
def mp_st : List Nat := [3024, 3026, 1014, 3208, 3210, 1001, 3163, 1019, 3179, 1021]
def mp_ar : List Nat := [1085, 1104, 2058, 1086, 1094, 2028]
def mlowL : List Int := [0, 0, 1, 1, 1]
def mhighL : List Int := [9, 3, 9, 20, 99]
