/-- the answers of the search -/
def aSm (v : Nat) : Int64 := if srO v = true then lN (srM v) else (-6)
def aSd (v : Nat) : Int32 := if srO v = true then nI (srD v) else (-6)
def aSc (v : Nat) : Int32 := if srO v = true then nI (srC v) else (-6)
