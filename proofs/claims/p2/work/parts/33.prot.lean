/-! LM, part 33: protected cells -/
def prot (a : Int) : Bool := false
