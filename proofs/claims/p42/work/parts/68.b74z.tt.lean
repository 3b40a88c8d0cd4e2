def TT.k (T : TT) : Int := T.1
def TT.v (T : TT) : Int := T.2.2.1
