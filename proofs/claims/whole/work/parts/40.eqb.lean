/-! names that the equations use -/
def mthr : String → mH → Option mO := fun E h => some (.inr E, h)
def malo (h : mH) (t n m : Nat) (f : Nat → mH → Option mO) : Option mO := f h.1.1 (hA h t n m)
