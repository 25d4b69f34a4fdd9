/-! a quotient of two numbers of sectors is a number, equal to itself -/
def wlF (x y : Nat) : UInt32 := FP.fdiv (FP.i2f (iI x)) (FP.i2f (iI y))
def wlD (r : UInt32) : Bool := decide (r &&& 0x7fffffff ≤ 0x7f800000) && decide (FP.fcmp r r = some .eq)
def wlY (y : Nat) : Bool := (List.range (y + 2)).all (fun x => wlD (wlF x (y + 1)))
theorem wl_1 : (List.range 100).all wlY = true := by decide +kernel
